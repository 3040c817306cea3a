theorem dX9_looked_0 : decode cX9_looked 0 = .ok (.aload_n 0, 1) := by decide +kernel
theorem dX9_looked_1 : decode cX9_looked 1 = .ok (.invokevirtual 192, 3) := by decide +kernel
theorem dX9_looked_4 : decode cX9_looked 4 = .ok (.iconst 0, 1) := by decide +kernel
theorem dX9_looked_5 : decode cX9_looked 5 = .ok (.istore_n 1, 1) := by decide +kernel
theorem dX9_looked_6 : decode cX9_looked 6 = .ok (.iload_n 1, 1) := by decide +kernel
theorem dX9_looked_7 : decode cX9_looked 7 = .ok (.aload_n 0, 1) := by decide +kernel
theorem dX9_looked_8 : decode cX9_looked 8 = .ok (.getfield 261, 3) := by decide +kernel
theorem dX9_looked_11 : decode cX9_looked 11 = .ok (.if_icmp .ge 46, 3) := by decide +kernel
theorem dX9_looked_14 : decode cX9_looked 14 = .ok (.aload_n 0, 1) := by decide +kernel
theorem dX9_looked_15 : decode cX9_looked 15 = .ok (.aload_n 0, 1) := by decide +kernel
theorem dX9_looked_16 : decode cX9_looked 16 = .ok (.getfield 30, 3) := by decide +kernel
theorem dX9_looked_19 : decode cX9_looked 19 = .ok (.iconst 3, 1) := by decide +kernel
theorem dX9_looked_20 : decode cX9_looked 20 = .ok (.iload_n 1, 1) := by decide +kernel
theorem dX9_looked_21 : decode cX9_looked 21 = .ok (.imul, 1) := by decide +kernel
theorem dX9_looked_22 : decode cX9_looked 22 = .ok (.iaload, 1) := by decide +kernel
theorem dX9_looked_23 : decode cX9_looked 23 = .ok (.aload_n 0, 1) := by decide +kernel
theorem dX9_looked_24 : decode cX9_looked 24 = .ok (.getfield 30, 3) := by decide +kernel
theorem dX9_looked_27 : decode cX9_looked 27 = .ok (.iconst 3, 1) := by decide +kernel
theorem dX9_looked_28 : decode cX9_looked 28 = .ok (.iload_n 1, 1) := by decide +kernel
theorem dX9_looked_29 : decode cX9_looked 29 = .ok (.imul, 1) := by decide +kernel
theorem dX9_looked_30 : decode cX9_looked 30 = .ok (.iconst 1, 1) := by decide +kernel
theorem dX9_looked_31 : decode cX9_looked 31 = .ok (.iadd, 1) := by decide +kernel
theorem dX9_looked_32 : decode cX9_looked 32 = .ok (.iaload, 1) := by decide +kernel
theorem dX9_looked_33 : decode cX9_looked 33 = .ok (.aload_n 0, 1) := by decide +kernel
theorem dX9_looked_34 : decode cX9_looked 34 = .ok (.getfield 30, 3) := by decide +kernel
theorem dX9_looked_37 : decode cX9_looked 37 = .ok (.iconst 3, 1) := by decide +kernel
theorem dX9_looked_38 : decode cX9_looked 38 = .ok (.iload_n 1, 1) := by decide +kernel
theorem dX9_looked_39 : decode cX9_looked 39 = .ok (.imul, 1) := by decide +kernel
theorem dX9_looked_40 : decode cX9_looked 40 = .ok (.iconst 2, 1) := by decide +kernel
theorem dX9_looked_41 : decode cX9_looked 41 = .ok (.iadd, 1) := by decide +kernel
theorem dX9_looked_42 : decode cX9_looked 42 = .ok (.iaload, 1) := by decide +kernel
theorem dX9_looked_43 : decode cX9_looked 43 = .ok (.invokevirtual 236, 3) := by decide +kernel
theorem dX9_looked_46 : decode cX9_looked 46 = .ok (.ifCond .ne 5, 3) := by decide +kernel
theorem dX9_looked_49 : decode cX9_looked 49 = .ok (.iload_n 1, 1) := by decide +kernel
theorem dX9_looked_50 : decode cX9_looked 50 = .ok (.ireturn, 1) := by decide +kernel
theorem dX9_looked_51 : decode cX9_looked 51 = .ok (.iinc 1 1, 3) := by decide +kernel
theorem dX9_looked_54 : decode cX9_looked 54 = .ok (.goto (-48), 3) := by decide +kernel
theorem dX9_looked_57 : decode cX9_looked 57 = .ok (.bipush (-5), 2) := by decide +kernel
theorem dX9_looked_59 : decode cX9_looked 59 = .ok (.ireturn, 1) := by decide +kernel
def fX9_looked_L6 (u_inBook : Int32) (u_groups : Int32) (u_paid : Int32) (u_book : (Nat → Int32)) (u_balance : (Nat → Int32)) (u_left : (Nat → Int32)) (u_sum : (Nat → Int32)) (u_parts : (Nat → Int32)) (u_group : (Nat → Int32)) (u_payment : (Nat → Int32)) : Nat → Int32 → Option (Int32 × Int32 × Int32 × (Nat → Int32) × (Nat → Int32) × (Nat → Int32) × (Nat → Int32) × (Nat → Int32) × (Nat → Int32))
  | 0, _ => none
  | n + 1, x1 => if u_inBook ≤ x1 then (some ((-5), u_groups, u_paid, u_balance, u_left, u_sum, u_parts, u_group, u_payment)) else (gA (3 * x1) 24 (gA ((3 * x1) + 1) 24 (gA ((3 * x1) + 2) 24 ((fX9_isPaid u_paid u_payment (u_book (3 * x1).toNatClampNeg) (u_book ((3 * x1) + 1).toNatClampNeg) (u_book ((3 * x1) + 2).toNatClampNeg)).bind (fun z6 => if z6 = 0 then (some (x1, u_groups, u_paid, u_balance, u_left, u_sum, u_parts, u_group, u_payment)) else (fX9_looked_L6 u_inBook u_groups u_paid u_book u_balance u_left u_sum u_parts u_group u_payment n (x1 + 1)))))))
def fX9_looked (u_people : Int32) (u_inBook : Int32) (u_owes : (Nat → Int32)) (u_book : (Nat → Int32)) (u_balance : (Nat → Int32)) (u_left : (Nat → Int32)) (u_sum : (Nat → Int32)) (u_parts : (Nat → Int32)) (u_group : (Nat → Int32)) (u_payment : (Nat → Int32)) : Option (Int32 × Int32 × Int32 × (Nat → Int32) × (Nat → Int32) × (Nat → Int32) × (Nat → Int32) × (Nat → Int32) × (Nat → Int32)) := (fX9_payments u_people u_owes u_balance u_left u_sum u_parts u_group u_payment).bind (fun z1 => fX9_looked_L6 u_inBook z1.1 z1.2.1 u_book z1.2.2.1 z1.2.2.2.1 z1.2.2.2.2.1 z1.2.2.2.2.2.1 z1.2.2.2.2.2.2.1 z1.2.2.2.2.2.2.2 400 0)
set_option maxRecDepth 20000 in
theorem LX9_looked_6 {p : Program} {l : Launch} {e : Env} {R : Room} {s : State} {m : MethodId} {args : Array Value} {below : List Frame} {meth : Method} {c : Code} {Q : State → Prop} {D : va_G} {C : Nat → ClassId} {A : Nat → Prop} (cx : CX p m c s args RX9 cX9_looked 2 D C A R 4) {q_ q_owes q_denies q_debt q_cut q_sight q_event q_book q_text q_path q_ring q_balance q_left q_sum q_parts q_group q_payment q_then q_image q_tapeSort q_tapeSize q_items : Nat} {u_people : Int32} {u_debts : Int32} {u_cuts : Int32} {u_seen : Int32} {u_events : Int32} {u_inBook : Int32} {u_texted : Int32} {u_rule : Int32} {u_rings : Int32} {u_size : Int32} {u_least : Int32} {u_worth : Int64} {u_groups : Int32} {u_paid : Int32} {u_imaged : Int32} {u_owes : (Nat → Int32)} {u_book : (Nat → Int32)} {u_balance : (Nat → Int32)} {u_left : (Nat → Int32)} {u_sum : (Nat → Int32)} {u_parts : (Nat → Int32)} {u_group : (Nat → Int32)} {u_payment : (Nat → Int32)} {z : (Int32 × Int32 × Int32 × (Nat → Int32) × (Nat → Int32) × (Nat → Int32) × (Nat → Int32) × (Nat → Int32) × (Nat → Int32))} (hret : RT p l e R s m args below meth c Q D A cX9_looked (some .int) [(q_, .inr (9, [.int u_people, .ref q_owes, .ref q_denies, .int u_debts, .ref q_debt, .int u_cuts, .ref q_cut, .int u_seen, .ref q_sight, .int u_events, .ref q_event, .int u_inBook, .ref q_book, .int u_texted, .ref q_text, .ref q_path, .int u_rule, .int u_rings, .int u_size, .int u_least, .long u_worth, .ref q_ring, .ref q_balance, .ref q_left, .ref q_sum, .ref q_parts, .int z.2.1, .ref q_group, .int z.2.2.1, .ref q_payment, .ref q_then, .int u_imaged, .ref q_image, .ref q_tapeSort, .ref q_tapeSize, .ref q_items])), (q_owes, .inl (C 0, 36, .inl u_owes)), (q_book, .inl (C 0, 24, .inl u_book)), (q_balance, .inl (C 0, 6, .inl z.2.2.2.1)), (q_left, .inl (C 0, 6, .inl z.2.2.2.2.1)), (q_sum, .inl (C 0, 64, .inl z.2.2.2.2.2.1)), (q_parts, .inl (C 0, 64, .inl z.2.2.2.2.2.2.1)), (q_group, .inl (C 0, 3, .inl z.2.2.2.2.2.2.2.1)), (q_payment, .inl (C 0, 30, .inl z.2.2.2.2.2.2.2.2))] (some (.int z.1))) :
    ∀ (n : Nat) (x1 : Int32) (H : Heap) (locs : List Loc) (ls : Array Slot), fX9_looked_L6 u_inBook u_groups u_paid u_book u_balance u_left u_sum u_parts u_group u_payment n x1 = some z → HW D A s.heap H locs [(q_, .inr (9, [.int u_people, .ref q_owes, .ref q_denies, .int u_debts, .ref q_debt, .int u_cuts, .ref q_cut, .int u_seen, .ref q_sight, .int u_events, .ref q_event, .int u_inBook, .ref q_book, .int u_texted, .ref q_text, .ref q_path, .int u_rule, .int u_rings, .int u_size, .int u_least, .long u_worth, .ref q_ring, .ref q_balance, .ref q_left, .ref q_sum, .ref q_parts, .int u_groups, .ref q_group, .int u_paid, .ref q_payment, .ref q_then, .int u_imaged, .ref q_image, .ref q_tapeSort, .ref q_tapeSize, .ref q_items])), (q_owes, .inl (C 0, 36, .inl u_owes)), (q_book, .inl (C 0, 24, .inl u_book)), (q_balance, .inl (C 0, 6, .inl u_balance)), (q_left, .inl (C 0, 6, .inl u_left)), (q_sum, .inl (C 0, 64, .inl u_sum)), (q_parts, .inl (C 0, 64, .inl u_parts)), (q_group, .inl (C 0, 3, .inl u_group)), (q_payment, .inl (C 0, 30, .inl u_payment))] → lv_has ls 2 [(0, .ref q_), (1, .int x1)] → W p l e R s m args below meth c H locs 0 0 Q (F0 m 6 ls []) := by
  have hx := cx.1
  have hb := cx.2.1
  intro n
  induction n with
  | zero => intro x1 H locs ls hF; cases hF
  | succ n ih =>
    intro x1 H locs ls hF hw hl
    rw [fX9_looked_L6.eq_2] at hF
    refine lv_iload_n hx hb dX9_looked_6 rfl (lv_at hl 1 rfl) ?_
    refine lv_aload_n hx hb dX9_looked_7 rfl (lv_at hl 0 rfl) ?_
    refine r_get (ci := 9) (v := .int u_inBook) cx hw iX9 0 11 rfl rfl (by decide) wf_X9_261 rfl dX9_looked_8 ?_
    refine lv_icmp_ge (tgt := 57) hx hb dX9_looked_11 (by decide) (fun c2 => ?_) (fun c2 => ?_)
    · replace hF := oi_t c2 hF
      refine lv_bipush (v := (-5)) hx hb dX9_looked_57 (by decide) ?_
      obtain rfl := Option.some.inj hF
      exact rt_i hret hw rfl dX9_looked_59
    · replace hF := oi_f c2 hF
      refine lv_aload_n hx hb dX9_looked_14 rfl (lv_at hl 0 rfl) ?_
      refine lv_aload_n hx hb dX9_looked_15 rfl (lv_at hl 0 rfl) ?_
      refine r_get (ci := 9) (v := .ref q_book) cx hw iX9 0 12 rfl rfl (by decide) wf_X9_30 rfl dX9_looked_16 ?_
      refine lv_iconst (v := 3) hx hb dX9_looked_19 (by decide) ?_
      refine lv_iload_n hx hb dX9_looked_20 rfl (lv_at hl 1 rfl) ?_
      refine lv_imul hx hb dX9_looked_21 ?_
      obtain ⟨g3, hF⟩ := gA_s hF
      refine r_iald cx hw 2 rfl g3 dX9_looked_22 ?_
      refine lv_aload_n hx hb dX9_looked_23 rfl (lv_at hl 0 rfl) ?_
      refine r_get (ci := 9) (v := .ref q_book) cx hw iX9 0 12 rfl rfl (by decide) wf_X9_30 rfl dX9_looked_24 ?_
      refine lv_iconst (v := 3) hx hb dX9_looked_27 (by decide) ?_
      refine lv_iload_n hx hb dX9_looked_28 rfl (lv_at hl 1 rfl) ?_
      refine lv_imul hx hb dX9_looked_29 ?_
      refine lv_iconst (v := 1) hx hb dX9_looked_30 (by decide) ?_
      refine lv_iadd hx hb dX9_looked_31 ?_
      obtain ⟨g4, hF⟩ := gA_s hF
      refine r_iald cx hw 2 rfl g4 dX9_looked_32 ?_
      refine lv_aload_n hx hb dX9_looked_33 rfl (lv_at hl 0 rfl) ?_
      refine r_get (ci := 9) (v := .ref q_book) cx hw iX9 0 12 rfl rfl (by decide) wf_X9_30 rfl dX9_looked_34 ?_
      refine lv_iconst (v := 3) hx hb dX9_looked_37 (by decide) ?_
      refine lv_iload_n hx hb dX9_looked_38 rfl (lv_at hl 1 rfl) ?_
      refine lv_imul hx hb dX9_looked_39 ?_
      refine lv_iconst (v := 2) hx hb dX9_looked_40 (by decide) ?_
      refine lv_iadd hx hb dX9_looked_41 ?_
      obtain ⟨g5, hF⟩ := gA_s hF
      refine r_iald cx hw 2 rfl g5 dX9_looked_42 ?_
      obtain ⟨z6, hz6, hF⟩ := ob hF
      refine cV (wr := [(q_owes, .inl (C 0, 36, .inl u_owes)), (q_book, .inl (C 0, 24, .inl u_book)), (q_balance, .inl (C 0, 6, .inl u_balance)), (q_left, .inl (C 0, 6, .inl u_left)), (q_sum, .inl (C 0, 64, .inl u_sum)), (q_parts, .inl (C 0, 64, .inl u_parts)), (q_group, .inl (C 0, 3, .inl u_group))]) (w2 := [(q_, .inr (9, [.int u_people, .ref q_owes, .ref q_denies, .int u_debts, .ref q_debt, .int u_cuts, .ref q_cut, .int u_seen, .ref q_sight, .int u_events, .ref q_event, .int u_inBook, .ref q_book, .int u_texted, .ref q_text, .ref q_path, .int u_rule, .int u_rings, .int u_size, .int u_least, .long u_worth, .ref q_ring, .ref q_balance, .ref q_left, .ref q_sum, .ref q_parts, .int u_groups, .ref q_group, .int u_paid, .ref q_payment, .ref q_then, .int u_imaged, .ref q_image, .ref q_tapeSort, .ref q_tapeSize, .ref q_items])), (q_owes, .inl (C 0, 36, .inl u_owes)), (q_book, .inl (C 0, 24, .inl u_book)), (q_balance, .inl (C 0, 6, .inl u_balance)), (q_left, .inl (C 0, 6, .inl u_left)), (q_sum, .inl (C 0, 64, .inl u_sum)), (q_parts, .inl (C 0, 64, .inl u_parts)), (q_group, .inl (C 0, 3, .inl u_group)), (q_payment, .inl (C 0, 30, .inl u_payment))]) (st2 := [.int z6]) cx (CX9_isPaid l D C q_ q_owes q_denies q_debt q_cut q_sight q_event q_book q_text q_path q_ring q_balance q_left q_sum q_parts q_group q_payment q_then q_image q_tapeSort q_tapeSize q_items u_people u_debts u_cuts u_seen u_events u_inBook u_texted u_rule u_rings u_size u_least u_worth u_groups u_paid u_imaged u_payment (u_book (3 * x1).toNatClampNeg) (u_book ((3 * x1) + 1).toNatClampNeg) (u_book ((3 * x1) + 2).toNatClampNeg) z6 hz6) lk_X9_236 my_X9_isPaid ml_X9_isPaid ⟨by decide, by decide⟩ hw [0, 8] [1, 2, 3, 4, 5, 6, 7] [7, 0, 1, 2, 3, 4, 5, 6, 8] rfl rfl (by decide) rfl rfl rfl rfl (Nat.le_of_ble_eq_true rfl) dX9_looked_43 rfl (fun H locs hw => ?_) hl.1
      refine lv_if_ne (tgt := 51) hx hb dX9_looked_46 (by decide) (fun c7 => ?_) (fun c7 => ?_)
      · replace hF := oi_f c7 hF
        refine lv_iinc (v := x1 + 1) (lv' := [(1, .int (x1 + 1)), (0, .ref q_)]) hx hb dX9_looked_51 hl (k := 1) rfl rfl (by decide) rfl (fun ls hl => ?_)
        refine lv_goto (tgt := 6) hx hb dX9_looked_54 (by decide) ?_
        exact ih (x1 + 1) H locs ls hF hw (lv_sub hl [1, 0] rfl)
      · replace hF := oi_t c7 hF
        refine lv_iload_n hx hb dX9_looked_49 rfl (lv_at hl 1 rfl) ?_
        obtain rfl := Option.some.inj hF
        exact rt_i hret hw rfl dX9_looked_50
set_option maxRecDepth 20000 in
theorem CX9_looked (l : Launch) (D : va_G) (C : Nat → ClassId) (q_ q_owes q_denies q_debt q_cut q_sight q_event q_book q_text q_path q_ring q_balance q_left q_sum q_parts q_group q_payment q_then q_image q_tapeSort q_tapeSize q_items : Nat) (u_people : Int32) (u_debts : Int32) (u_cuts : Int32) (u_seen : Int32) (u_events : Int32) (u_inBook : Int32) (u_texted : Int32) (u_rule : Int32) (u_rings : Int32) (u_size : Int32) (u_least : Int32) (u_worth : Int64) (u_groups : Int32) (u_paid : Int32) (u_imaged : Int32) (u_owes : (Nat → Int32)) (u_book : (Nat → Int32)) (u_balance : (Nat → Int32)) (u_left : (Nat → Int32)) (u_sum : (Nat → Int32)) (u_parts : (Nat → Int32)) (u_group : (Nat → Int32)) (u_payment : (Nat → Int32)) (z : (Int32 × Int32 × Int32 × (Nat → Int32) × (Nat → Int32) × (Nat → Int32) × (Nat → Int32) × (Nat → Int32) × (Nat → Int32))) (hF : fX9_looked u_people u_inBook u_owes u_book u_balance u_left u_sum u_parts u_group u_payment = some z) : Ct l yX9_looked cX9_looked 2 (some .int) 4 D C [.ref q_] [(q_, .inr (9, [.int u_people, .ref q_owes, .ref q_denies, .int u_debts, .ref q_debt, .int u_cuts, .ref q_cut, .int u_seen, .ref q_sight, .int u_events, .ref q_event, .int u_inBook, .ref q_book, .int u_texted, .ref q_text, .ref q_path, .int u_rule, .int u_rings, .int u_size, .int u_least, .long u_worth, .ref q_ring, .ref q_balance, .ref q_left, .ref q_sum, .ref q_parts, .int u_groups, .ref q_group, .int u_paid, .ref q_payment, .ref q_then, .int u_imaged, .ref q_image, .ref q_tapeSort, .ref q_tapeSize, .ref q_items])), (q_owes, .inl (C 0, 36, .inl u_owes)), (q_book, .inl (C 0, 24, .inl u_book)), (q_balance, .inl (C 0, 6, .inl u_balance)), (q_left, .inl (C 0, 6, .inl u_left)), (q_sum, .inl (C 0, 64, .inl u_sum)), (q_parts, .inl (C 0, 64, .inl u_parts)), (q_group, .inl (C 0, 3, .inl u_group)), (q_payment, .inl (C 0, 30, .inl u_payment))] [(q_, .inr (9, [.int u_people, .ref q_owes, .ref q_denies, .int u_debts, .ref q_debt, .int u_cuts, .ref q_cut, .int u_seen, .ref q_sight, .int u_events, .ref q_event, .int u_inBook, .ref q_book, .int u_texted, .ref q_text, .ref q_path, .int u_rule, .int u_rings, .int u_size, .int u_least, .long u_worth, .ref q_ring, .ref q_balance, .ref q_left, .ref q_sum, .ref q_parts, .int z.2.1, .ref q_group, .int z.2.2.1, .ref q_payment, .ref q_then, .int u_imaged, .ref q_image, .ref q_tapeSort, .ref q_tapeSize, .ref q_items])), (q_owes, .inl (C 0, 36, .inl u_owes)), (q_book, .inl (C 0, 24, .inl u_book)), (q_balance, .inl (C 0, 6, .inl z.2.2.2.1)), (q_left, .inl (C 0, 6, .inl z.2.2.2.2.1)), (q_sum, .inl (C 0, 64, .inl z.2.2.2.2.2.1)), (q_parts, .inl (C 0, 64, .inl z.2.2.2.2.2.2.1)), (q_group, .inl (C 0, 3, .inl z.2.2.2.2.2.2.2.1)), (q_payment, .inl (C 0, 30, .inl z.2.2.2.2.2.2.2.2))] (some (.int z.1)) := by
  refine Ct_of (by decide) (Nat.le_of_ble_eq_true rfl) ?_
  intro p e R s m args below meth c A Q H locs ls cx hw hl hret
  have cx : CX p m c s args RX9 cX9_looked 2 D C A R 4 := cx
  have hx := cx.1
  have hb := cx.2.1
  have hl : lv_has ls 2 [(0, .ref q_)] := hl
  rw [fX9_looked.eq_1] at hF
  refine lv_aload_n hx hb dX9_looked_0 rfl (lv_at hl 0 rfl) ?_
  obtain ⟨z1, hz1, hF⟩ := ob hF
  refine cV (wr := [(q_book, .inl (C 0, 24, .inl u_book))]) (w2 := [(q_, .inr (9, [.int u_people, .ref q_owes, .ref q_denies, .int u_debts, .ref q_debt, .int u_cuts, .ref q_cut, .int u_seen, .ref q_sight, .int u_events, .ref q_event, .int u_inBook, .ref q_book, .int u_texted, .ref q_text, .ref q_path, .int u_rule, .int u_rings, .int u_size, .int u_least, .long u_worth, .ref q_ring, .ref q_balance, .ref q_left, .ref q_sum, .ref q_parts, .int z1.1, .ref q_group, .int z1.2.1, .ref q_payment, .ref q_then, .int u_imaged, .ref q_image, .ref q_tapeSort, .ref q_tapeSize, .ref q_items])), (q_owes, .inl (C 0, 36, .inl u_owes)), (q_book, .inl (C 0, 24, .inl u_book)), (q_balance, .inl (C 0, 6, .inl z1.2.2.1)), (q_left, .inl (C 0, 6, .inl z1.2.2.2.1)), (q_sum, .inl (C 0, 64, .inl z1.2.2.2.2.1)), (q_parts, .inl (C 0, 64, .inl z1.2.2.2.2.2.1)), (q_group, .inl (C 0, 3, .inl z1.2.2.2.2.2.2.1)), (q_payment, .inl (C 0, 30, .inl z1.2.2.2.2.2.2.2))]) (st2 := []) cx (CX9_payments l D C q_ q_owes q_denies q_debt q_cut q_sight q_event q_book q_text q_path q_ring q_balance q_left q_sum q_parts q_group q_payment q_then q_image q_tapeSort q_tapeSize q_items u_people u_debts u_cuts u_seen u_events u_inBook u_texted u_rule u_rings u_size u_least u_worth u_groups u_paid u_imaged u_owes u_balance u_left u_sum u_parts u_group u_payment z1 hz1) lk_X9_192 my_X9_payments ml_X9_payments ⟨by decide, by decide⟩ hw [0, 1, 3, 4, 5, 6, 7, 8] [2] [1, 2, 0, 3, 4, 5, 6, 7, 8] rfl rfl (by decide) rfl rfl rfl rfl (Nat.le_of_ble_eq_true rfl) dX9_looked_1 rfl (fun H locs hw => ?_) hl.1
  refine lv_iconst (v := 0) hx hb dX9_looked_4 (by decide) ?_
  refine lv_istore_n (lv' := [(1, .int 0), (0, .ref q_)]) hx hb dX9_looked_5 rfl hl (by decide) rfl (fun ls hl => ?_)
  refine LX9_looked_6 cx hret 400 0 H locs ls hF hw (lv_sub hl [1, 0] rfl)
theorem dX9_isTape_0 : decode cX9_isTape 0 = .ok (.iload_n 0, 1) := by decide +kernel
theorem dX9_isTape_1 : decode cX9_isTape 1 = .ok (.iconst 0, 1) := by decide +kernel
theorem dX9_isTape_2 : decode cX9_isTape 2 = .ok (.iconst 5, 1) := by decide +kernel
theorem dX9_isTape_3 : decode cX9_isTape 3 = .ok (.invokestatic 80, 3) := by decide +kernel
theorem dX9_isTape_6 : decode cX9_isTape 6 = .ok (.ireturn, 1) := by decide +kernel
def fX9_isTape (x0 : Int32) : Option Int32 := (fX9_within x0 0 5).bind (fun z1 => gB z1 (some z1))
set_option maxRecDepth 20000 in
theorem CX9_isTape (l : Launch) (D : va_G) (C : Nat → ClassId)  (x0 : Int32) (z : Int32) (hF : fX9_isTape x0 = some z) : Ct l yX9_isTape cX9_isTape 1 (some .boolean) 2 D C [.int x0] [] [] (some (.int z)) := by
  refine Ct_of (by decide) (Nat.le_of_ble_eq_true rfl) ?_
  intro p e R s m args below meth c A Q H locs ls cx hw hl hret
  have cx : CX p m c s args RX9 cX9_isTape 1 D C A R 2 := cx
  have hx := cx.1
  have hb := cx.2.1
  have hl : lv_has ls 1 [(0, .int x0)] := hl
  rw [fX9_isTape.eq_1] at hF
  refine lv_iload_n hx hb dX9_isTape_0 rfl (lv_at hl 0 rfl) ?_
  refine lv_iconst (v := 0) hx hb dX9_isTape_1 (by decide) ?_
  refine lv_iconst (v := 5) hx hb dX9_isTape_2 (by decide) ?_
  obtain ⟨z1, hz1, hF⟩ := ob hF
  refine cS (wr := []) (w2 := []) (st2 := [.int z1]) cx (CX9_within l D C x0 0 5 z1 hz1) lk_X9_80 my_X9_within ml_X9_within ⟨by decide, by decide⟩ hw [] [] [] rfl rfl (by decide) rfl rfl (Nat.le_of_ble_eq_true rfl) dX9_isTape_3 rfl (fun H locs hw => ?_) hl.1
  obtain ⟨g2, hF⟩ := gB_s hF
  obtain rfl := Option.some.inj hF
  exact rt_z hret hw rfl g2 dX9_isTape_6
theorem lk_X9_264 : Cond.methodLink RX9 264 yX9_isTape ∈ gdt := gdt_of 1218 (by decide +kernel) (by decide +kernel)
theorem wf_X9_66 : Cond.fieldLink RX9 66 (TX9 33).1 (TX9 33).2.1 (TX9 33).2.2.1 ∈ gdt := gdt_of 873 (by decide +kernel) (by decide +kernel)
theorem wf_X9_69 : Cond.fieldLink RX9 69 (TX9 34).1 (TX9 34).2.1 (TX9 34).2.2.1 ∈ gdt := gdt_of 874 (by decide +kernel) (by decide +kernel)
theorem wf_X9_72 : Cond.fieldLink RX9 72 (TX9 35).1 (TX9 35).2.1 (TX9 35).2.2.1 ∈ gdt := gdt_of 875 (by decide +kernel) (by decide +kernel)
theorem cl_X9_267 : Cond.constantLong RX9 267 10000 ∈ gdt := gdt_of 1221 (by decide +kernel) (by decide +kernel)
theorem cl_X9_269 : Cond.constantLong RX9 269 1000 ∈ gdt := gdt_of 1222 (by decide +kernel) (by decide +kernel)
theorem my_X9_isTape : (yX9_isTape.cls ≠ "java/lang/invoke/MethodHandle" ∧ yX9_isTape.cls ≠ "java/lang/invoke/VarHandle") ∧ Cond.static yX9_isTape ∈ gdt ∧ Cond.initialized yX9_isTape.cls ∈ gdt ∧ Cond.code yX9_isTape cX9_isTape 1 (some .boolean) ∈ gdt := ⟨⟨by decide +kernel, by decide +kernel⟩, gdt_of 1219 (by decide +kernel) (by decide +kernel), gdt_of 77 (by decide +kernel) (by decide +kernel), gdt_of 1220 (by decide +kernel) (by decide +kernel)⟩
theorem ml_X9_isTape : (parseMethodDescriptor yX9_isTape.desc).map (fun d => d.parameters.length) = some 1 := by decide +kernel
theorem dX9_judge_0 : decode cX9_judge 0 = .ok (.iload_n 1, 1) := by decide +kernel
theorem dX9_judge_1 : decode cX9_judge 1 = .ok (.invokestatic 264, 3) := by decide +kernel
theorem dX9_judge_4 : decode cX9_judge 4 = .ok (.ifCond .ne 5, 3) := by decide +kernel
theorem dX9_judge_7 : decode cX9_judge 7 = .ok (.iconst (-1), 1) := by decide +kernel
theorem dX9_judge_8 : decode cX9_judge 8 = .ok (.ireturn, 1) := by decide +kernel
theorem dX9_judge_9 : decode cX9_judge 9 = .ok (.aload_n 0, 1) := by decide +kernel
theorem dX9_judge_10 : decode cX9_judge 10 = .ok (.getfield 66, 3) := by decide +kernel
theorem dX9_judge_13 : decode cX9_judge 13 = .ok (.iload_n 1, 1) := by decide +kernel
theorem dX9_judge_14 : decode cX9_judge 14 = .ok (.iaload, 1) := by decide +kernel
theorem dX9_judge_15 : decode cX9_judge 15 = .ok (.iconst (-1), 1) := by decide +kernel
theorem dX9_judge_16 : decode cX9_judge 16 = .ok (.if_icmp .eq 16, 3) := by decide +kernel
theorem dX9_judge_19 : decode cX9_judge 19 = .ok (.aload_n 0, 1) := by decide +kernel
theorem dX9_judge_20 : decode cX9_judge 20 = .ok (.getfield 66, 3) := by decide +kernel
theorem dX9_judge_23 : decode cX9_judge 23 = .ok (.iload_n 1, 1) := by decide +kernel
theorem dX9_judge_24 : decode cX9_judge 24 = .ok (.iaload, 1) := by decide +kernel
theorem dX9_judge_25 : decode cX9_judge 25 = .ok (.iconst 3, 1) := by decide +kernel
theorem dX9_judge_26 : decode cX9_judge 26 = .ok (.if_icmp .eq 6, 3) := by decide +kernel
theorem dX9_judge_29 : decode cX9_judge 29 = .ok (.bipush (-12), 2) := by decide +kernel
theorem dX9_judge_31 : decode cX9_judge 31 = .ok (.ireturn, 1) := by decide +kernel
theorem dX9_judge_32 : decode cX9_judge 32 = .ok (.aload_n 0, 1) := by decide +kernel
theorem dX9_judge_33 : decode cX9_judge 33 = .ok (.invokevirtual 192, 3) := by decide +kernel
theorem dX9_judge_36 : decode cX9_judge 36 = .ok (.iconst 0, 1) := by decide +kernel
theorem dX9_judge_37 : decode cX9_judge 37 = .ok (.istore_n 3, 1) := by decide +kernel
theorem dX9_judge_38 : decode cX9_judge 38 = .ok (.iload_n 3, 1) := by decide +kernel
theorem dX9_judge_39 : decode cX9_judge 39 = .ok (.aload_n 0, 1) := by decide +kernel
theorem dX9_judge_40 : decode cX9_judge 40 = .ok (.getfield 186, 3) := by decide +kernel
theorem dX9_judge_43 : decode cX9_judge 43 = .ok (.if_icmp .ge 104, 3) := by decide +kernel
theorem dX9_judge_46 : decode cX9_judge 46 = .ok (.aload_n 0, 1) := by decide +kernel
theorem dX9_judge_47 : decode cX9_judge 47 = .ok (.getfield 66, 3) := by decide +kernel
theorem dX9_judge_50 : decode cX9_judge 50 = .ok (.iload_n 1, 1) := by decide +kernel
theorem dX9_judge_51 : decode cX9_judge 51 = .ok (.iaload, 1) := by decide +kernel
theorem dX9_judge_52 : decode cX9_judge 52 = .ok (.iconst (-1), 1) := by decide +kernel
theorem dX9_judge_53 : decode cX9_judge 53 = .ok (.if_icmp .eq 23, 3) := by decide +kernel
theorem dX9_judge_56 : decode cX9_judge 56 = .ok (.iload_n 2, 1) := by decide +kernel
theorem dX9_judge_57 : decode cX9_judge 57 = .ok (.ifCond .lt 19, 3) := by decide +kernel
theorem dX9_judge_60 : decode cX9_judge 60 = .ok (.iload_n 2, 1) := by decide +kernel
theorem dX9_judge_61 : decode cX9_judge 61 = .ok (.i2l, 1) := by decide +kernel
theorem dX9_judge_62 : decode cX9_judge 62 = .ok (.iload_n 3, 1) := by decide +kernel
theorem dX9_judge_63 : decode cX9_judge 63 = .ok (.i2l, 1) := by decide +kernel
theorem dX9_judge_64 : decode cX9_judge 64 = .ok (.ladd, 1) := by decide +kernel
theorem dX9_judge_65 : decode cX9_judge 65 = .ok (.aload_n 0, 1) := by decide +kernel
theorem dX9_judge_66 : decode cX9_judge 66 = .ok (.getfield 69, 3) := by decide +kernel
theorem dX9_judge_69 : decode cX9_judge 69 = .ok (.iload_n 1, 1) := by decide +kernel
theorem dX9_judge_70 : decode cX9_judge 70 = .ok (.iaload, 1) := by decide +kernel
theorem dX9_judge_71 : decode cX9_judge 71 = .ok (.i2l, 1) := by decide +kernel
theorem dX9_judge_72 : decode cX9_judge 72 = .ok (.lcmp, 1) := by decide +kernel
theorem dX9_judge_73 : decode cX9_judge 73 = .ok (.ifCond .lt 8, 3) := by decide +kernel
theorem dX9_judge_76 : decode cX9_judge 76 = .ok (.bipush 100, 2) := by decide +kernel
theorem dX9_judge_78 : decode cX9_judge 78 = .ok (.iload_n 3, 1) := by decide +kernel
theorem dX9_judge_79 : decode cX9_judge 79 = .ok (.iadd, 1) := by decide +kernel
theorem dX9_judge_80 : decode cX9_judge 80 = .ok (.ireturn, 1) := by decide +kernel
theorem dX9_judge_81 : decode cX9_judge 81 = .ok (.aload_n 0, 1) := by decide +kernel
theorem dX9_judge_82 : decode cX9_judge 82 = .ok (.getfield 72, 3) := by decide +kernel
theorem dX9_judge_85 : decode cX9_judge 85 = .ok (.bipush 60, 2) := by decide +kernel
theorem dX9_judge_87 : decode cX9_judge 87 = .ok (.iload_n 1, 1) := by decide +kernel
theorem dX9_judge_88 : decode cX9_judge 88 = .ok (.imul, 1) := by decide +kernel
theorem dX9_judge_89 : decode cX9_judge 89 = .ok (.iload_n 2, 1) := by decide +kernel
theorem dX9_judge_90 : decode cX9_judge 90 = .ok (.iadd, 1) := by decide +kernel
theorem dX9_judge_91 : decode cX9_judge 91 = .ok (.iload_n 3, 1) := by decide +kernel
theorem dX9_judge_92 : decode cX9_judge 92 = .ok (.iadd, 1) := by decide +kernel
theorem dX9_judge_93 : decode cX9_judge 93 = .ok (.laload, 1) := by decide +kernel
theorem dX9_judge_94 : decode cX9_judge 94 = .ok (.ldc2_w 267, 3) := by decide +kernel
theorem dX9_judge_97 : decode cX9_judge 97 = .ok (.aload_n 0, 1) := by decide +kernel
theorem dX9_judge_98 : decode cX9_judge 98 = .ok (.getfield 57, 3) := by decide +kernel
theorem dX9_judge_101 : decode cX9_judge 101 = .ok (.iconst 3, 1) := by decide +kernel
theorem dX9_judge_102 : decode cX9_judge 102 = .ok (.iload_n 3, 1) := by decide +kernel
theorem dX9_judge_103 : decode cX9_judge 103 = .ok (.imul, 1) := by decide +kernel
theorem dX9_judge_104 : decode cX9_judge 104 = .ok (.iaload, 1) := by decide +kernel
theorem dX9_judge_105 : decode cX9_judge 105 = .ok (.i2l, 1) := by decide +kernel
theorem dX9_judge_106 : decode cX9_judge 106 = .ok (.lmul, 1) := by decide +kernel
theorem dX9_judge_107 : decode cX9_judge 107 = .ok (.ldc2_w 269, 3) := by decide +kernel
theorem dX9_judge_110 : decode cX9_judge 110 = .ok (.aload_n 0, 1) := by decide +kernel
theorem dX9_judge_111 : decode cX9_judge 111 = .ok (.getfield 57, 3) := by decide +kernel
theorem dX9_judge_114 : decode cX9_judge 114 = .ok (.iconst 3, 1) := by decide +kernel
theorem dX9_judge_115 : decode cX9_judge 115 = .ok (.iload_n 3, 1) := by decide +kernel
theorem dX9_judge_116 : decode cX9_judge 116 = .ok (.imul, 1) := by decide +kernel
theorem dX9_judge_117 : decode cX9_judge 117 = .ok (.iconst 1, 1) := by decide +kernel
theorem dX9_judge_118 : decode cX9_judge 118 = .ok (.iadd, 1) := by decide +kernel
theorem dX9_judge_119 : decode cX9_judge 119 = .ok (.iaload, 1) := by decide +kernel
theorem dX9_judge_120 : decode cX9_judge 120 = .ok (.i2l, 1) := by decide +kernel
theorem dX9_judge_121 : decode cX9_judge 121 = .ok (.lmul, 1) := by decide +kernel
theorem dX9_judge_122 : decode cX9_judge 122 = .ok (.ladd, 1) := by decide +kernel
theorem dX9_judge_123 : decode cX9_judge 123 = .ok (.aload_n 0, 1) := by decide +kernel
theorem dX9_judge_124 : decode cX9_judge 124 = .ok (.getfield 57, 3) := by decide +kernel
theorem dX9_judge_127 : decode cX9_judge 127 = .ok (.iconst 3, 1) := by decide +kernel
theorem dX9_judge_128 : decode cX9_judge 128 = .ok (.iload_n 3, 1) := by decide +kernel
theorem dX9_judge_129 : decode cX9_judge 129 = .ok (.imul, 1) := by decide +kernel
theorem dX9_judge_130 : decode cX9_judge 130 = .ok (.iconst 2, 1) := by decide +kernel
theorem dX9_judge_131 : decode cX9_judge 131 = .ok (.iadd, 1) := by decide +kernel
theorem dX9_judge_132 : decode cX9_judge 132 = .ok (.iaload, 1) := by decide +kernel
theorem dX9_judge_133 : decode cX9_judge 133 = .ok (.i2l, 1) := by decide +kernel
theorem dX9_judge_134 : decode cX9_judge 134 = .ok (.ladd, 1) := by decide +kernel
theorem dX9_judge_135 : decode cX9_judge 135 = .ok (.lcmp, 1) := by decide +kernel
theorem dX9_judge_136 : decode cX9_judge 136 = .ok (.ifCond .eq 5, 3) := by decide +kernel
theorem dX9_judge_139 : decode cX9_judge 139 = .ok (.iload_n 3, 1) := by decide +kernel
theorem dX9_judge_140 : decode cX9_judge 140 = .ok (.ireturn, 1) := by decide +kernel
theorem dX9_judge_141 : decode cX9_judge 141 = .ok (.iinc 3 1, 3) := by decide +kernel
theorem dX9_judge_144 : decode cX9_judge 144 = .ok (.goto (-106), 3) := by decide +kernel
theorem dX9_judge_147 : decode cX9_judge 147 = .ok (.bipush (-5), 2) := by decide +kernel
theorem dX9_judge_149 : decode cX9_judge 149 = .ok (.ireturn, 1) := by decide +kernel
def fX9_judge_L38 (u_groups : Int32) (u_paid : Int32) (u_balance : (Nat → Int32)) (u_left : (Nat → Int32)) (u_sum : (Nat → Int32)) (u_parts : (Nat → Int32)) (u_group : (Nat → Int32)) (u_payment : (Nat → Int32)) (u_tapeSort : (Nat → Int32)) (u_tapeSize : (Nat → Int32)) (u_items : (Nat → Int64)) (x1 : Int32) (x2 : Int32) : Nat → Int32 → Option (Int32 × Int32 × Int32 × (Nat → Int32) × (Nat → Int32) × (Nat → Int32) × (Nat → Int32) × (Nat → Int32) × (Nat → Int32))
  | 0, _ => none
  | n + 1, x3 => if u_paid ≤ x3 then (some ((-5), u_groups, u_paid, u_balance, u_left, u_sum, u_parts, u_group, u_payment)) else (gA x1 6 (if (u_tapeSort (x1).toNatClampNeg) = (-1) then (some (100 + x3, u_groups, u_paid, u_balance, u_left, u_sum, u_parts, u_group, u_payment)) else (if x2 < 0 then (some (100 + x3, u_groups, u_paid, u_balance, u_left, u_sum, u_parts, u_group, u_payment)) else (gA x1 6 (if (lg_cmp (((x2 : Int32).toInt64) + ((x3 : Int32).toInt64)) ((u_tapeSize (x1).toNatClampNeg : Int32).toInt64)) < 0 then (gA (((60 * x1) + x2) + x3) 360 (gA (3 * x3) 30 (gA ((3 * x3) + 1) 30 (gA ((3 * x3) + 2) 30 (if (lg_cmp (u_items (((60 * x1) + x2) + x3).toNatClampNeg) (((10000 * ((u_payment (3 * x3).toNatClampNeg : Int32).toInt64)) + (1000 * ((u_payment ((3 * x3) + 1).toNatClampNeg : Int32).toInt64))) + ((u_payment ((3 * x3) + 2).toNatClampNeg : Int32).toInt64))) = 0 then (fX9_judge_L38 u_groups u_paid u_balance u_left u_sum u_parts u_group u_payment u_tapeSort u_tapeSize u_items x1 x2 n (x3 + 1)) else (some (x3, u_groups, u_paid, u_balance, u_left, u_sum, u_parts, u_group, u_payment))))))) else (some (100 + x3, u_groups, u_paid, u_balance, u_left, u_sum, u_parts, u_group, u_payment)))))))
def fX9_judge (u_people : Int32) (u_groups : Int32) (u_paid : Int32) (u_owes : (Nat → Int32)) (u_balance : (Nat → Int32)) (u_left : (Nat → Int32)) (u_sum : (Nat → Int32)) (u_parts : (Nat → Int32)) (u_group : (Nat → Int32)) (u_payment : (Nat → Int32)) (u_tapeSort : (Nat → Int32)) (u_tapeSize : (Nat → Int32)) (u_items : (Nat → Int64)) (x1 : Int32) (x2 : Int32) : Option (Int32 × Int32 × Int32 × (Nat → Int32) × (Nat → Int32) × (Nat → Int32) × (Nat → Int32) × (Nat → Int32) × (Nat → Int32)) := (fX9_isTape x1).bind (fun z1 => if z1 = 0 then (some ((-1), u_groups, u_paid, u_balance, u_left, u_sum, u_parts, u_group, u_payment)) else (gA x1 6 (if (u_tapeSort (x1).toNatClampNeg) = (-1) then ((fX9_payments u_people u_owes u_balance u_left u_sum u_parts u_group u_payment).bind (fun z5 => fX9_judge_L38 z5.1 z5.2.1 z5.2.2.1 z5.2.2.2.1 z5.2.2.2.2.1 z5.2.2.2.2.2.1 z5.2.2.2.2.2.2.1 z5.2.2.2.2.2.2.2 u_tapeSort u_tapeSize u_items x1 x2 400 0)) else (gA x1 6 (if (u_tapeSort (x1).toNatClampNeg) = 3 then ((fX9_payments u_people u_owes u_balance u_left u_sum u_parts u_group u_payment).bind (fun z19 => fX9_judge_L38 z19.1 z19.2.1 z19.2.2.1 z19.2.2.2.1 z19.2.2.2.2.1 z19.2.2.2.2.2.1 z19.2.2.2.2.2.2.1 z19.2.2.2.2.2.2.2 u_tapeSort u_tapeSize u_items x1 x2 400 0)) else (some ((-12), u_groups, u_paid, u_balance, u_left, u_sum, u_parts, u_group, u_payment)))))))
set_option maxRecDepth 20000 in
theorem LX9_judge_38 {p : Program} {l : Launch} {e : Env} {R : Room} {s : State} {m : MethodId} {args : Array Value} {below : List Frame} {meth : Method} {c : Code} {Q : State → Prop} {D : va_G} {C : Nat → ClassId} {A : Nat → Prop} (cx : CX p m c s args RX9 cX9_judge 4 D C A R 4) {q_ q_owes q_denies q_debt q_cut q_sight q_event q_book q_text q_path q_ring q_balance q_left q_sum q_parts q_group q_payment q_then q_image q_tapeSort q_tapeSize q_items : Nat} {u_people : Int32} {u_debts : Int32} {u_cuts : Int32} {u_seen : Int32} {u_events : Int32} {u_inBook : Int32} {u_texted : Int32} {u_rule : Int32} {u_rings : Int32} {u_size : Int32} {u_least : Int32} {u_worth : Int64} {u_groups : Int32} {u_paid : Int32} {u_imaged : Int32} {u_owes : (Nat → Int32)} {u_balance : (Nat → Int32)} {u_left : (Nat → Int32)} {u_sum : (Nat → Int32)} {u_parts : (Nat → Int32)} {u_group : (Nat → Int32)} {u_payment : (Nat → Int32)} {u_tapeSort : (Nat → Int32)} {u_tapeSize : (Nat → Int32)} {u_items : (Nat → Int64)} {x1 : Int32} {x2 : Int32} {z : (Int32 × Int32 × Int32 × (Nat → Int32) × (Nat → Int32) × (Nat → Int32) × (Nat → Int32) × (Nat → Int32) × (Nat → Int32))} (hret : RT p l e R s m args below meth c Q D A cX9_judge (some .int) [(q_, .inr (9, [.int u_people, .ref q_owes, .ref q_denies, .int u_debts, .ref q_debt, .int u_cuts, .ref q_cut, .int u_seen, .ref q_sight, .int u_events, .ref q_event, .int u_inBook, .ref q_book, .int u_texted, .ref q_text, .ref q_path, .int u_rule, .int u_rings, .int u_size, .int u_least, .long u_worth, .ref q_ring, .ref q_balance, .ref q_left, .ref q_sum, .ref q_parts, .int z.2.1, .ref q_group, .int z.2.2.1, .ref q_payment, .ref q_then, .int u_imaged, .ref q_image, .ref q_tapeSort, .ref q_tapeSize, .ref q_items])), (q_owes, .inl (C 0, 36, .inl u_owes)), (q_balance, .inl (C 0, 6, .inl z.2.2.2.1)), (q_left, .inl (C 0, 6, .inl z.2.2.2.2.1)), (q_sum, .inl (C 0, 64, .inl z.2.2.2.2.2.1)), (q_parts, .inl (C 0, 64, .inl z.2.2.2.2.2.2.1)), (q_group, .inl (C 0, 3, .inl z.2.2.2.2.2.2.2.1)), (q_payment, .inl (C 0, 30, .inl z.2.2.2.2.2.2.2.2)), (q_tapeSort, .inl (C 0, 6, .inl u_tapeSort)), (q_tapeSize, .inl (C 0, 6, .inl u_tapeSize)), (q_items, .inl (C 1, 360, .inr (.inl u_items)))] (some (.int z.1))) :
    ∀ (n : Nat) (x3 : Int32) (H : Heap) (locs : List Loc) (ls : Array Slot), fX9_judge_L38 u_groups u_paid u_balance u_left u_sum u_parts u_group u_payment u_tapeSort u_tapeSize u_items x1 x2 n x3 = some z → HW D A s.heap H locs [(q_, .inr (9, [.int u_people, .ref q_owes, .ref q_denies, .int u_debts, .ref q_debt, .int u_cuts, .ref q_cut, .int u_seen, .ref q_sight, .int u_events, .ref q_event, .int u_inBook, .ref q_book, .int u_texted, .ref q_text, .ref q_path, .int u_rule, .int u_rings, .int u_size, .int u_least, .long u_worth, .ref q_ring, .ref q_balance, .ref q_left, .ref q_sum, .ref q_parts, .int u_groups, .ref q_group, .int u_paid, .ref q_payment, .ref q_then, .int u_imaged, .ref q_image, .ref q_tapeSort, .ref q_tapeSize, .ref q_items])), (q_owes, .inl (C 0, 36, .inl u_owes)), (q_balance, .inl (C 0, 6, .inl u_balance)), (q_left, .inl (C 0, 6, .inl u_left)), (q_sum, .inl (C 0, 64, .inl u_sum)), (q_parts, .inl (C 0, 64, .inl u_parts)), (q_group, .inl (C 0, 3, .inl u_group)), (q_payment, .inl (C 0, 30, .inl u_payment)), (q_tapeSort, .inl (C 0, 6, .inl u_tapeSort)), (q_tapeSize, .inl (C 0, 6, .inl u_tapeSize)), (q_items, .inl (C 1, 360, .inr (.inl u_items)))] → lv_has ls 4 [(0, .ref q_), (1, .int x1), (2, .int x2), (3, .int x3)] → W p l e R s m args below meth c H locs 0 0 Q (F0 m 38 ls []) := by
  have hx := cx.1
  have hb := cx.2.1
  intro n
  induction n with
  | zero => intro x3 H locs ls hF; cases hF
  | succ n ih =>
    intro x3 H locs ls hF hw hl
    rw [fX9_judge_L38.eq_2] at hF
    refine lv_iload_n hx hb dX9_judge_38 rfl (lv_at hl 3 rfl) ?_
    refine lv_aload_n hx hb dX9_judge_39 rfl (lv_at hl 0 rfl) ?_
    refine r_get (ci := 9) (v := .int u_paid) cx hw iX9 0 28 rfl rfl (by decide) wf_X9_186 rfl dX9_judge_40 ?_
    refine lv_icmp_ge (tgt := 147) hx hb dX9_judge_43 (by decide) (fun c6 => ?_) (fun c6 => ?_)
    · replace hF := oi_t c6 hF
      refine lv_bipush (v := (-5)) hx hb dX9_judge_147 (by decide) ?_
      obtain rfl := Option.some.inj hF
      exact rt_i hret hw rfl dX9_judge_149
    · replace hF := oi_f c6 hF
      refine lv_aload_n hx hb dX9_judge_46 rfl (lv_at hl 0 rfl) ?_
      refine r_get (ci := 9) (v := .ref q_tapeSort) cx hw iX9 0 33 rfl rfl (by decide) wf_X9_66 rfl dX9_judge_47 ?_
      refine lv_iload_n hx hb dX9_judge_50 rfl (lv_at hl 1 rfl) ?_
      obtain ⟨g7, hF⟩ := gA_s hF
      refine r_iald cx hw 8 rfl g7 dX9_judge_51 ?_
      refine lv_iconst (v := (-1)) hx hb dX9_judge_52 (by decide) ?_
      refine lv_icmp_eq (tgt := 76) hx hb dX9_judge_53 (by decide) (fun c8 => ?_) (fun c8 => ?_)
      · replace hF := oi_t c8 hF
        refine lv_bipush (v := 100) hx hb dX9_judge_76 (by decide) ?_
        refine lv_iload_n hx hb dX9_judge_78 rfl (lv_at hl 3 rfl) ?_
        refine lv_iadd hx hb dX9_judge_79 ?_
        obtain rfl := Option.some.inj hF
        exact rt_i hret hw rfl dX9_judge_80
      · replace hF := oi_f c8 hF
        refine lv_iload_n hx hb dX9_judge_56 rfl (lv_at hl 2 rfl) ?_
        refine lv_if_lt (tgt := 76) hx hb dX9_judge_57 (by decide) (fun c9 => ?_) (fun c9 => ?_)
        · replace hF := oi_t c9 hF
          refine lv_bipush (v := 100) hx hb dX9_judge_76 (by decide) ?_
          refine lv_iload_n hx hb dX9_judge_78 rfl (lv_at hl 3 rfl) ?_
          refine lv_iadd hx hb dX9_judge_79 ?_
          obtain rfl := Option.some.inj hF
          exact rt_i hret hw rfl dX9_judge_80
        · replace hF := oi_f c9 hF
          refine lv_iload_n hx hb dX9_judge_60 rfl (lv_at hl 2 rfl) ?_
          refine lv_i2l (v := (x2 : Int32).toInt64) hx hb dX9_judge_61 rfl ?_
          refine lv_iload_n hx hb dX9_judge_62 rfl (lv_at hl 3 rfl) ?_
          refine lv_i2l (v := (x3 : Int32).toInt64) hx hb dX9_judge_63 rfl ?_
          refine lv_ladd hx hb dX9_judge_64 ?_
          refine lv_aload_n hx hb dX9_judge_65 rfl (lv_at hl 0 rfl) ?_
          refine r_get (ci := 9) (v := .ref q_tapeSize) cx hw iX9 0 34 rfl rfl (by decide) wf_X9_69 rfl dX9_judge_66 ?_
          refine lv_iload_n hx hb dX9_judge_69 rfl (lv_at hl 1 rfl) ?_
          obtain ⟨g10, hF⟩ := gA_s hF
          refine r_iald cx hw 9 rfl g10 dX9_judge_70 ?_
          refine lv_i2l (v := (u_tapeSize (x1).toNatClampNeg : Int32).toInt64) hx hb dX9_judge_71 rfl ?_
          refine W.lcmp hx hb dX9_judge_72 ?_
          refine lv_if_lt (tgt := 81) hx hb dX9_judge_73 (by decide) (fun c11 => ?_) (fun c11 => ?_)
          · replace hF := oi_t c11 hF
            refine lv_aload_n hx hb dX9_judge_81 rfl (lv_at hl 0 rfl) ?_
            refine r_get (ci := 9) (v := .ref q_items) cx hw iX9 0 35 rfl rfl (by decide) wf_X9_72 rfl dX9_judge_82 ?_
            refine lv_bipush (v := 60) hx hb dX9_judge_85 (by decide) ?_
            refine lv_iload_n hx hb dX9_judge_87 rfl (lv_at hl 1 rfl) ?_
            refine lv_imul hx hb dX9_judge_88 ?_
            refine lv_iload_n hx hb dX9_judge_89 rfl (lv_at hl 2 rfl) ?_
            refine lv_iadd hx hb dX9_judge_90 ?_
            refine lv_iload_n hx hb dX9_judge_91 rfl (lv_at hl 3 rfl) ?_
            refine lv_iadd hx hb dX9_judge_92 ?_
            obtain ⟨g12, hF⟩ := gA_s hF
            refine r_lald cx hw 10 rfl g12 dX9_judge_93 ?_
            refine lv_ldc2 (v := 10000) hx hb cx.2.2.2.1 (cx.2.2.2.2.1 _ cl_X9_267) dX9_judge_94 ?_
            refine lv_aload_n hx hb dX9_judge_97 rfl (lv_at hl 0 rfl) ?_
            refine r_get (ci := 9) (v := .ref q_payment) cx hw iX9 0 29 rfl rfl (by decide) wf_X9_57 rfl dX9_judge_98 ?_
            refine lv_iconst (v := 3) hx hb dX9_judge_101 (by decide) ?_
            refine lv_iload_n hx hb dX9_judge_102 rfl (lv_at hl 3 rfl) ?_
            refine lv_imul hx hb dX9_judge_103 ?_
            obtain ⟨g13, hF⟩ := gA_s hF
            refine r_iald cx hw 7 rfl g13 dX9_judge_104 ?_
            refine lv_i2l (v := (u_payment (3 * x3).toNatClampNeg : Int32).toInt64) hx hb dX9_judge_105 rfl ?_
            refine lv_lmul hx hb dX9_judge_106 ?_
            refine lv_ldc2 (v := 1000) hx hb cx.2.2.2.1 (cx.2.2.2.2.1 _ cl_X9_269) dX9_judge_107 ?_
            refine lv_aload_n hx hb dX9_judge_110 rfl (lv_at hl 0 rfl) ?_
            refine r_get (ci := 9) (v := .ref q_payment) cx hw iX9 0 29 rfl rfl (by decide) wf_X9_57 rfl dX9_judge_111 ?_
            refine lv_iconst (v := 3) hx hb dX9_judge_114 (by decide) ?_
            refine lv_iload_n hx hb dX9_judge_115 rfl (lv_at hl 3 rfl) ?_
            refine lv_imul hx hb dX9_judge_116 ?_
            refine lv_iconst (v := 1) hx hb dX9_judge_117 (by decide) ?_
            refine lv_iadd hx hb dX9_judge_118 ?_
            obtain ⟨g14, hF⟩ := gA_s hF
            refine r_iald cx hw 7 rfl g14 dX9_judge_119 ?_
            refine lv_i2l (v := (u_payment ((3 * x3) + 1).toNatClampNeg : Int32).toInt64) hx hb dX9_judge_120 rfl ?_
            refine lv_lmul hx hb dX9_judge_121 ?_
            refine lv_ladd hx hb dX9_judge_122 ?_
            refine lv_aload_n hx hb dX9_judge_123 rfl (lv_at hl 0 rfl) ?_
            refine r_get (ci := 9) (v := .ref q_payment) cx hw iX9 0 29 rfl rfl (by decide) wf_X9_57 rfl dX9_judge_124 ?_
            refine lv_iconst (v := 3) hx hb dX9_judge_127 (by decide) ?_
            refine lv_iload_n hx hb dX9_judge_128 rfl (lv_at hl 3 rfl) ?_
            refine lv_imul hx hb dX9_judge_129 ?_
            refine lv_iconst (v := 2) hx hb dX9_judge_130 (by decide) ?_
            refine lv_iadd hx hb dX9_judge_131 ?_
            obtain ⟨g15, hF⟩ := gA_s hF
            refine r_iald cx hw 7 rfl g15 dX9_judge_132 ?_
            refine lv_i2l (v := (u_payment ((3 * x3) + 2).toNatClampNeg : Int32).toInt64) hx hb dX9_judge_133 rfl ?_
            refine lv_ladd hx hb dX9_judge_134 ?_
            refine W.lcmp hx hb dX9_judge_135 ?_
            refine lv_if_eq (tgt := 141) hx hb dX9_judge_136 (by decide) (fun c16 => ?_) (fun c16 => ?_)
            · replace hF := oi_t c16 hF
              refine lv_iinc (v := x3 + 1) (lv' := [(3, .int (x3 + 1)), (0, .ref q_), (1, .int x1), (2, .int x2)]) hx hb dX9_judge_141 hl (k := 3) rfl rfl (by decide) rfl (fun ls hl => ?_)
              refine lv_goto (tgt := 38) hx hb dX9_judge_144 (by decide) ?_
              exact ih (x3 + 1) H locs ls hF hw (lv_sub hl [1, 2, 3, 0] rfl)
            · replace hF := oi_f c16 hF
              refine lv_iload_n hx hb dX9_judge_139 rfl (lv_at hl 3 rfl) ?_
              obtain rfl := Option.some.inj hF
              exact rt_i hret hw rfl dX9_judge_140
          · replace hF := oi_f c11 hF
            refine lv_bipush (v := 100) hx hb dX9_judge_76 (by decide) ?_
            refine lv_iload_n hx hb dX9_judge_78 rfl (lv_at hl 3 rfl) ?_
            refine lv_iadd hx hb dX9_judge_79 ?_
            obtain rfl := Option.some.inj hF
            exact rt_i hret hw rfl dX9_judge_80
set_option maxRecDepth 20000 in
theorem CX9_judge (l : Launch) (D : va_G) (C : Nat → ClassId) (q_ q_owes q_denies q_debt q_cut q_sight q_event q_book q_text q_path q_ring q_balance q_left q_sum q_parts q_group q_payment q_then q_image q_tapeSort q_tapeSize q_items : Nat) (u_people : Int32) (u_debts : Int32) (u_cuts : Int32) (u_seen : Int32) (u_events : Int32) (u_inBook : Int32) (u_texted : Int32) (u_rule : Int32) (u_rings : Int32) (u_size : Int32) (u_least : Int32) (u_worth : Int64) (u_groups : Int32) (u_paid : Int32) (u_imaged : Int32) (u_owes : (Nat → Int32)) (u_balance : (Nat → Int32)) (u_left : (Nat → Int32)) (u_sum : (Nat → Int32)) (u_parts : (Nat → Int32)) (u_group : (Nat → Int32)) (u_payment : (Nat → Int32)) (u_tapeSort : (Nat → Int32)) (u_tapeSize : (Nat → Int32)) (u_items : (Nat → Int64)) (x1 : Int32) (x2 : Int32) (z : (Int32 × Int32 × Int32 × (Nat → Int32) × (Nat → Int32) × (Nat → Int32) × (Nat → Int32) × (Nat → Int32) × (Nat → Int32))) (hF : fX9_judge u_people u_groups u_paid u_owes u_balance u_left u_sum u_parts u_group u_payment u_tapeSort u_tapeSize u_items x1 x2 = some z) : Ct l yX9_judge cX9_judge 4 (some .int) 4 D C [.ref q_, .int x1, .int x2] [(q_, .inr (9, [.int u_people, .ref q_owes, .ref q_denies, .int u_debts, .ref q_debt, .int u_cuts, .ref q_cut, .int u_seen, .ref q_sight, .int u_events, .ref q_event, .int u_inBook, .ref q_book, .int u_texted, .ref q_text, .ref q_path, .int u_rule, .int u_rings, .int u_size, .int u_least, .long u_worth, .ref q_ring, .ref q_balance, .ref q_left, .ref q_sum, .ref q_parts, .int u_groups, .ref q_group, .int u_paid, .ref q_payment, .ref q_then, .int u_imaged, .ref q_image, .ref q_tapeSort, .ref q_tapeSize, .ref q_items])), (q_owes, .inl (C 0, 36, .inl u_owes)), (q_balance, .inl (C 0, 6, .inl u_balance)), (q_left, .inl (C 0, 6, .inl u_left)), (q_sum, .inl (C 0, 64, .inl u_sum)), (q_parts, .inl (C 0, 64, .inl u_parts)), (q_group, .inl (C 0, 3, .inl u_group)), (q_payment, .inl (C 0, 30, .inl u_payment)), (q_tapeSort, .inl (C 0, 6, .inl u_tapeSort)), (q_tapeSize, .inl (C 0, 6, .inl u_tapeSize)), (q_items, .inl (C 1, 360, .inr (.inl u_items)))] [(q_, .inr (9, [.int u_people, .ref q_owes, .ref q_denies, .int u_debts, .ref q_debt, .int u_cuts, .ref q_cut, .int u_seen, .ref q_sight, .int u_events, .ref q_event, .int u_inBook, .ref q_book, .int u_texted, .ref q_text, .ref q_path, .int u_rule, .int u_rings, .int u_size, .int u_least, .long u_worth, .ref q_ring, .ref q_balance, .ref q_left, .ref q_sum, .ref q_parts, .int z.2.1, .ref q_group, .int z.2.2.1, .ref q_payment, .ref q_then, .int u_imaged, .ref q_image, .ref q_tapeSort, .ref q_tapeSize, .ref q_items])), (q_owes, .inl (C 0, 36, .inl u_owes)), (q_balance, .inl (C 0, 6, .inl z.2.2.2.1)), (q_left, .inl (C 0, 6, .inl z.2.2.2.2.1)), (q_sum, .inl (C 0, 64, .inl z.2.2.2.2.2.1)), (q_parts, .inl (C 0, 64, .inl z.2.2.2.2.2.2.1)), (q_group, .inl (C 0, 3, .inl z.2.2.2.2.2.2.2.1)), (q_payment, .inl (C 0, 30, .inl z.2.2.2.2.2.2.2.2)), (q_tapeSort, .inl (C 0, 6, .inl u_tapeSort)), (q_tapeSize, .inl (C 0, 6, .inl u_tapeSize)), (q_items, .inl (C 1, 360, .inr (.inl u_items)))] (some (.int z.1)) := by
  refine Ct_of (by decide) (Nat.le_of_ble_eq_true rfl) ?_
  intro p e R s m args below meth c A Q H locs ls cx hw hl hret
  have cx : CX p m c s args RX9 cX9_judge 4 D C A R 4 := cx
  have hx := cx.1
  have hb := cx.2.1
  have hl : lv_has ls 4 [(0, .ref q_), (1, .int x1), (2, .int x2)] := hl
  rw [fX9_judge.eq_1] at hF
  refine lv_iload_n hx hb dX9_judge_0 rfl (lv_at hl 1 rfl) ?_
  obtain ⟨z1, hz1, hF⟩ := ob hF
  refine cS (wr := [(q_, .inr (9, [.int u_people, .ref q_owes, .ref q_denies, .int u_debts, .ref q_debt, .int u_cuts, .ref q_cut, .int u_seen, .ref q_sight, .int u_events, .ref q_event, .int u_inBook, .ref q_book, .int u_texted, .ref q_text, .ref q_path, .int u_rule, .int u_rings, .int u_size, .int u_least, .long u_worth, .ref q_ring, .ref q_balance, .ref q_left, .ref q_sum, .ref q_parts, .int u_groups, .ref q_group, .int u_paid, .ref q_payment, .ref q_then, .int u_imaged, .ref q_image, .ref q_tapeSort, .ref q_tapeSize, .ref q_items])), (q_owes, .inl (C 0, 36, .inl u_owes)), (q_balance, .inl (C 0, 6, .inl u_balance)), (q_left, .inl (C 0, 6, .inl u_left)), (q_sum, .inl (C 0, 64, .inl u_sum)), (q_parts, .inl (C 0, 64, .inl u_parts)), (q_group, .inl (C 0, 3, .inl u_group)), (q_payment, .inl (C 0, 30, .inl u_payment)), (q_tapeSort, .inl (C 0, 6, .inl u_tapeSort)), (q_tapeSize, .inl (C 0, 6, .inl u_tapeSize)), (q_items, .inl (C 1, 360, .inr (.inl u_items)))]) (w2 := [(q_, .inr (9, [.int u_people, .ref q_owes, .ref q_denies, .int u_debts, .ref q_debt, .int u_cuts, .ref q_cut, .int u_seen, .ref q_sight, .int u_events, .ref q_event, .int u_inBook, .ref q_book, .int u_texted, .ref q_text, .ref q_path, .int u_rule, .int u_rings, .int u_size, .int u_least, .long u_worth, .ref q_ring, .ref q_balance, .ref q_left, .ref q_sum, .ref q_parts, .int u_groups, .ref q_group, .int u_paid, .ref q_payment, .ref q_then, .int u_imaged, .ref q_image, .ref q_tapeSort, .ref q_tapeSize, .ref q_items])), (q_owes, .inl (C 0, 36, .inl u_owes)), (q_balance, .inl (C 0, 6, .inl u_balance)), (q_left, .inl (C 0, 6, .inl u_left)), (q_sum, .inl (C 0, 64, .inl u_sum)), (q_parts, .inl (C 0, 64, .inl u_parts)), (q_group, .inl (C 0, 3, .inl u_group)), (q_payment, .inl (C 0, 30, .inl u_payment)), (q_tapeSort, .inl (C 0, 6, .inl u_tapeSort)), (q_tapeSize, .inl (C 0, 6, .inl u_tapeSize)), (q_items, .inl (C 1, 360, .inr (.inl u_items)))]) (st2 := [.int z1]) cx (CX9_isTape l D C x1 z1 hz1) lk_X9_264 my_X9_isTape ml_X9_isTape ⟨by decide, by decide⟩ hw [] [0, 1, 2, 3, 4, 5, 6, 7, 8, 9, 10] [0, 1, 2, 3, 4, 5, 6, 7, 8, 9, 10] rfl rfl (by decide) rfl rfl (Nat.le_of_ble_eq_true rfl) dX9_judge_1 rfl (fun H locs hw => ?_) hl.1
  refine lv_if_ne (tgt := 9) hx hb dX9_judge_4 (by decide) (fun c2 => ?_) (fun c2 => ?_)
  · replace hF := oi_f c2 hF
    refine lv_aload_n hx hb dX9_judge_9 rfl (lv_at hl 0 rfl) ?_
    refine r_get (ci := 9) (v := .ref q_tapeSort) cx hw iX9 0 33 rfl rfl (by decide) wf_X9_66 rfl dX9_judge_10 ?_
    refine lv_iload_n hx hb dX9_judge_13 rfl (lv_at hl 1 rfl) ?_
    obtain ⟨g3, hF⟩ := gA_s hF
    refine r_iald cx hw 8 rfl g3 dX9_judge_14 ?_
    refine lv_iconst (v := (-1)) hx hb dX9_judge_15 (by decide) ?_
    refine lv_icmp_eq (tgt := 32) hx hb dX9_judge_16 (by decide) (fun c4 => ?_) (fun c4 => ?_)
    · replace hF := oi_t c4 hF
      refine lv_aload_n hx hb dX9_judge_32 rfl (lv_at hl 0 rfl) ?_
      obtain ⟨z5, hz5, hF⟩ := ob hF
      refine cV (wr := [(q_tapeSort, .inl (C 0, 6, .inl u_tapeSort)), (q_tapeSize, .inl (C 0, 6, .inl u_tapeSize)), (q_items, .inl (C 1, 360, .inr (.inl u_items)))]) (w2 := [(q_, .inr (9, [.int u_people, .ref q_owes, .ref q_denies, .int u_debts, .ref q_debt, .int u_cuts, .ref q_cut, .int u_seen, .ref q_sight, .int u_events, .ref q_event, .int u_inBook, .ref q_book, .int u_texted, .ref q_text, .ref q_path, .int u_rule, .int u_rings, .int u_size, .int u_least, .long u_worth, .ref q_ring, .ref q_balance, .ref q_left, .ref q_sum, .ref q_parts, .int z5.1, .ref q_group, .int z5.2.1, .ref q_payment, .ref q_then, .int u_imaged, .ref q_image, .ref q_tapeSort, .ref q_tapeSize, .ref q_items])), (q_owes, .inl (C 0, 36, .inl u_owes)), (q_balance, .inl (C 0, 6, .inl z5.2.2.1)), (q_left, .inl (C 0, 6, .inl z5.2.2.2.1)), (q_sum, .inl (C 0, 64, .inl z5.2.2.2.2.1)), (q_parts, .inl (C 0, 64, .inl z5.2.2.2.2.2.1)), (q_group, .inl (C 0, 3, .inl z5.2.2.2.2.2.2.1)), (q_payment, .inl (C 0, 30, .inl z5.2.2.2.2.2.2.2)), (q_tapeSort, .inl (C 0, 6, .inl u_tapeSort)), (q_tapeSize, .inl (C 0, 6, .inl u_tapeSize)), (q_items, .inl (C 1, 360, .inr (.inl u_items)))]) (st2 := []) cx (CX9_payments l D C q_ q_owes q_denies q_debt q_cut q_sight q_event q_book q_text q_path q_ring q_balance q_left q_sum q_parts q_group q_payment q_then q_image q_tapeSort q_tapeSize q_items u_people u_debts u_cuts u_seen u_events u_inBook u_texted u_rule u_rings u_size u_least u_worth u_groups u_paid u_imaged u_owes u_balance u_left u_sum u_parts u_group u_payment z5 hz5) lk_X9_192 my_X9_payments ml_X9_payments ⟨by decide, by decide⟩ hw [0, 1, 2, 3, 4, 5, 6, 7] [8, 9, 10] [3, 4, 5, 6, 7, 8, 9, 10, 0, 1, 2] rfl rfl (by decide) rfl rfl rfl rfl (Nat.le_of_ble_eq_true rfl) dX9_judge_33 rfl (fun H locs hw => ?_) hl.1
      refine lv_iconst (v := 0) hx hb dX9_judge_36 (by decide) ?_
      refine lv_istore_n (lv' := [(3, .int 0), (0, .ref q_), (1, .int x1), (2, .int x2)]) hx hb dX9_judge_37 rfl hl (by decide) rfl (fun ls hl => ?_)
      refine LX9_judge_38 cx hret 400 0 H locs ls hF hw (lv_sub hl [1, 2, 3, 0] rfl)
    · replace hF := oi_f c4 hF
      refine lv_aload_n hx hb dX9_judge_19 rfl (lv_at hl 0 rfl) ?_
      refine r_get (ci := 9) (v := .ref q_tapeSort) cx hw iX9 0 33 rfl rfl (by decide) wf_X9_66 rfl dX9_judge_20 ?_
      refine lv_iload_n hx hb dX9_judge_23 rfl (lv_at hl 1 rfl) ?_
      obtain ⟨g17, hF⟩ := gA_s hF
      refine r_iald cx hw 8 rfl g17 dX9_judge_24 ?_
      refine lv_iconst (v := 3) hx hb dX9_judge_25 (by decide) ?_
      refine lv_icmp_eq (tgt := 32) hx hb dX9_judge_26 (by decide) (fun c18 => ?_) (fun c18 => ?_)
      · replace hF := oi_t c18 hF
        refine lv_aload_n hx hb dX9_judge_32 rfl (lv_at hl 0 rfl) ?_
        obtain ⟨z19, hz19, hF⟩ := ob hF
        refine cV (wr := [(q_tapeSort, .inl (C 0, 6, .inl u_tapeSort)), (q_tapeSize, .inl (C 0, 6, .inl u_tapeSize)), (q_items, .inl (C 1, 360, .inr (.inl u_items)))]) (w2 := [(q_, .inr (9, [.int u_people, .ref q_owes, .ref q_denies, .int u_debts, .ref q_debt, .int u_cuts, .ref q_cut, .int u_seen, .ref q_sight, .int u_events, .ref q_event, .int u_inBook, .ref q_book, .int u_texted, .ref q_text, .ref q_path, .int u_rule, .int u_rings, .int u_size, .int u_least, .long u_worth, .ref q_ring, .ref q_balance, .ref q_left, .ref q_sum, .ref q_parts, .int z19.1, .ref q_group, .int z19.2.1, .ref q_payment, .ref q_then, .int u_imaged, .ref q_image, .ref q_tapeSort, .ref q_tapeSize, .ref q_items])), (q_owes, .inl (C 0, 36, .inl u_owes)), (q_balance, .inl (C 0, 6, .inl z19.2.2.1)), (q_left, .inl (C 0, 6, .inl z19.2.2.2.1)), (q_sum, .inl (C 0, 64, .inl z19.2.2.2.2.1)), (q_parts, .inl (C 0, 64, .inl z19.2.2.2.2.2.1)), (q_group, .inl (C 0, 3, .inl z19.2.2.2.2.2.2.1)), (q_payment, .inl (C 0, 30, .inl z19.2.2.2.2.2.2.2)), (q_tapeSort, .inl (C 0, 6, .inl u_tapeSort)), (q_tapeSize, .inl (C 0, 6, .inl u_tapeSize)), (q_items, .inl (C 1, 360, .inr (.inl u_items)))]) (st2 := []) cx (CX9_payments l D C q_ q_owes q_denies q_debt q_cut q_sight q_event q_book q_text q_path q_ring q_balance q_left q_sum q_parts q_group q_payment q_then q_image q_tapeSort q_tapeSize q_items u_people u_debts u_cuts u_seen u_events u_inBook u_texted u_rule u_rings u_size u_least u_worth u_groups u_paid u_imaged u_owes u_balance u_left u_sum u_parts u_group u_payment z19 hz19) lk_X9_192 my_X9_payments ml_X9_payments ⟨by decide, by decide⟩ hw [0, 1, 2, 3, 4, 5, 6, 7] [8, 9, 10] [3, 4, 5, 6, 7, 8, 9, 10, 0, 1, 2] rfl rfl (by decide) rfl rfl rfl rfl (Nat.le_of_ble_eq_true rfl) dX9_judge_33 rfl (fun H locs hw => ?_) hl.1
        refine lv_iconst (v := 0) hx hb dX9_judge_36 (by decide) ?_
        refine lv_istore_n (lv' := [(3, .int 0), (0, .ref q_), (1, .int x1), (2, .int x2)]) hx hb dX9_judge_37 rfl hl (by decide) rfl (fun ls hl => ?_)
        refine LX9_judge_38 cx hret 400 0 H locs ls hF hw (lv_sub hl [1, 2, 3, 0] rfl)
      · replace hF := oi_f c18 hF
        refine lv_bipush (v := (-12)) hx hb dX9_judge_29 (by decide) ?_
        obtain rfl := Option.some.inj hF
        exact rt_i hret hw rfl dX9_judge_31
  · replace hF := oi_t c2 hF
    refine lv_iconst (v := (-1)) hx hb dX9_judge_7 (by decide) ?_
    obtain rfl := Option.some.inj hF
    exact rt_i hret hw rfl dX9_judge_8
theorem wf_X9_271 : Cond.fieldLink RX9 271 (TX9 31).1 (TX9 31).2.1 (TX9 31).2.2.1 ∈ gdt := gdt_of 871 (by decide +kernel) (by decide +kernel)
theorem wf_X9_63 : Cond.fieldLink RX9 63 (TX9 32).1 (TX9 32).2.1 (TX9 32).2.2.1 ∈ gdt := gdt_of 872 (by decide +kernel) (by decide +kernel)
theorem dX9_image_0 : decode cX9_image 0 = .ok (.aload_n 0, 1) := by decide +kernel
theorem dX9_image_1 : decode cX9_image 1 = .ok (.iconst 1, 1) := by decide +kernel
theorem dX9_image_2 : decode cX9_image 2 = .ok (.putfield 271, 3) := by decide +kernel
theorem dX9_image_5 : decode cX9_image 5 = .ok (.iconst 0, 1) := by decide +kernel
theorem dX9_image_6 : decode cX9_image 6 = .ok (.istore_n 1, 1) := by decide +kernel
theorem dX9_image_7 : decode cX9_image 7 = .ok (.iload_n 1, 1) := by decide +kernel
theorem dX9_image_8 : decode cX9_image 8 = .ok (.bipush 36, 2) := by decide +kernel
theorem dX9_image_10 : decode cX9_image 10 = .ok (.if_icmp .ge 36, 3) := by decide +kernel
theorem dX9_image_13 : decode cX9_image 13 = .ok (.aload_n 0, 1) := by decide +kernel
theorem dX9_image_14 : decode cX9_image 14 = .ok (.getfield 63, 3) := by decide +kernel
theorem dX9_image_17 : decode cX9_image 17 = .ok (.iload_n 1, 1) := by decide +kernel
theorem dX9_image_18 : decode cX9_image 18 = .ok (.aload_n 0, 1) := by decide +kernel
theorem dX9_image_19 : decode cX9_image 19 = .ok (.getfield 9, 3) := by decide +kernel
theorem dX9_image_22 : decode cX9_image 22 = .ok (.iload_n 1, 1) := by decide +kernel
theorem dX9_image_23 : decode cX9_image 23 = .ok (.iaload, 1) := by decide +kernel
theorem dX9_image_24 : decode cX9_image 24 = .ok (.iastore, 1) := by decide +kernel
theorem dX9_image_25 : decode cX9_image 25 = .ok (.aload_n 0, 1) := by decide +kernel
theorem dX9_image_26 : decode cX9_image 26 = .ok (.getfield 63, 3) := by decide +kernel
theorem dX9_image_29 : decode cX9_image 29 = .ok (.bipush 36, 2) := by decide +kernel
theorem dX9_image_31 : decode cX9_image 31 = .ok (.iload_n 1, 1) := by decide +kernel
theorem dX9_image_32 : decode cX9_image 32 = .ok (.iadd, 1) := by decide +kernel
theorem dX9_image_33 : decode cX9_image 33 = .ok (.aload_n 0, 1) := by decide +kernel
theorem dX9_image_34 : decode cX9_image 34 = .ok (.getfield 15, 3) := by decide +kernel
theorem dX9_image_37 : decode cX9_image 37 = .ok (.iload_n 1, 1) := by decide +kernel
theorem dX9_image_38 : decode cX9_image 38 = .ok (.iaload, 1) := by decide +kernel
theorem dX9_image_39 : decode cX9_image 39 = .ok (.iastore, 1) := by decide +kernel
theorem dX9_image_40 : decode cX9_image 40 = .ok (.iinc 1 1, 3) := by decide +kernel
theorem dX9_image_43 : decode cX9_image 43 = .ok (.goto (-36), 3) := by decide +kernel
theorem dX9_image_46 : decode cX9_image 46 = .ok (.iconst 0, 1) := by decide +kernel
theorem dX9_image_47 : decode cX9_image 47 = .ok (.istore_n 1, 1) := by decide +kernel
theorem dX9_image_48 : decode cX9_image 48 = .ok (.iload_n 1, 1) := by decide +kernel
theorem dX9_image_49 : decode cX9_image 49 = .ok (.bipush 30, 2) := by decide +kernel
theorem dX9_image_51 : decode cX9_image 51 = .ok (.if_icmp .ge 24, 3) := by decide +kernel
theorem dX9_image_54 : decode cX9_image 54 = .ok (.aload_n 0, 1) := by decide +kernel
theorem dX9_image_55 : decode cX9_image 55 = .ok (.getfield 63, 3) := by decide +kernel
theorem dX9_image_58 : decode cX9_image 58 = .ok (.bipush 72, 2) := by decide +kernel
theorem dX9_image_60 : decode cX9_image 60 = .ok (.iload_n 1, 1) := by decide +kernel
theorem dX9_image_61 : decode cX9_image 61 = .ok (.iadd, 1) := by decide +kernel
theorem dX9_image_62 : decode cX9_image 62 = .ok (.aload_n 0, 1) := by decide +kernel
theorem dX9_image_63 : decode cX9_image 63 = .ok (.getfield 18, 3) := by decide +kernel
theorem dX9_image_66 : decode cX9_image 66 = .ok (.iload_n 1, 1) := by decide +kernel
theorem dX9_image_67 : decode cX9_image 67 = .ok (.iaload, 1) := by decide +kernel
theorem dX9_image_68 : decode cX9_image 68 = .ok (.iastore, 1) := by decide +kernel
theorem dX9_image_69 : decode cX9_image 69 = .ok (.iinc 1 1, 3) := by decide +kernel
theorem dX9_image_72 : decode cX9_image 72 = .ok (.goto (-24), 3) := by decide +kernel
theorem dX9_image_75 : decode cX9_image 75 = .ok (.iconst 0, 1) := by decide +kernel
theorem dX9_image_76 : decode cX9_image 76 = .ok (.istore_n 1, 1) := by decide +kernel
theorem dX9_image_77 : decode cX9_image 77 = .ok (.iload_n 1, 1) := by decide +kernel
theorem dX9_image_78 : decode cX9_image 78 = .ok (.bipush 120, 2) := by decide +kernel
theorem dX9_image_80 : decode cX9_image 80 = .ok (.if_icmp .ge 24, 3) := by decide +kernel
theorem dX9_image_83 : decode cX9_image 83 = .ok (.aload_n 0, 1) := by decide +kernel
theorem dX9_image_84 : decode cX9_image 84 = .ok (.getfield 63, 3) := by decide +kernel
theorem dX9_image_87 : decode cX9_image 87 = .ok (.bipush 102, 2) := by decide +kernel
theorem dX9_image_89 : decode cX9_image 89 = .ok (.iload_n 1, 1) := by decide +kernel
theorem dX9_image_90 : decode cX9_image 90 = .ok (.iadd, 1) := by decide +kernel
theorem dX9_image_91 : decode cX9_image 91 = .ok (.aload_n 0, 1) := by decide +kernel
theorem dX9_image_92 : decode cX9_image 92 = .ok (.getfield 21, 3) := by decide +kernel
theorem dX9_image_95 : decode cX9_image 95 = .ok (.iload_n 1, 1) := by decide +kernel
theorem dX9_image_96 : decode cX9_image 96 = .ok (.iaload, 1) := by decide +kernel
theorem dX9_image_97 : decode cX9_image 97 = .ok (.iastore, 1) := by decide +kernel
theorem dX9_image_98 : decode cX9_image 98 = .ok (.iinc 1 1, 3) := by decide +kernel
theorem dX9_image_101 : decode cX9_image 101 = .ok (.goto (-24), 3) := by decide +kernel
theorem dX9_image_104 : decode cX9_image 104 = .ok (.iconst 0, 1) := by decide +kernel
theorem dX9_image_105 : decode cX9_image 105 = .ok (.istore_n 1, 1) := by decide +kernel
theorem dX9_image_106 : decode cX9_image 106 = .ok (.iload_n 1, 1) := by decide +kernel
theorem dX9_image_107 : decode cX9_image 107 = .ok (.bipush 15, 2) := by decide +kernel
theorem dX9_image_109 : decode cX9_image 109 = .ok (.if_icmp .ge 25, 3) := by decide +kernel
theorem dX9_image_112 : decode cX9_image 112 = .ok (.aload_n 0, 1) := by decide +kernel
theorem dX9_image_113 : decode cX9_image 113 = .ok (.getfield 63, 3) := by decide +kernel
theorem dX9_image_116 : decode cX9_image 116 = .ok (.sipush 222, 3) := by decide +kernel
theorem dX9_image_119 : decode cX9_image 119 = .ok (.iload_n 1, 1) := by decide +kernel
theorem dX9_image_120 : decode cX9_image 120 = .ok (.iadd, 1) := by decide +kernel
theorem dX9_image_121 : decode cX9_image 121 = .ok (.aload_n 0, 1) := by decide +kernel
theorem dX9_image_122 : decode cX9_image 122 = .ok (.getfield 24, 3) := by decide +kernel
theorem dX9_image_125 : decode cX9_image 125 = .ok (.iload_n 1, 1) := by decide +kernel
theorem dX9_image_126 : decode cX9_image 126 = .ok (.iaload, 1) := by decide +kernel
theorem dX9_image_127 : decode cX9_image 127 = .ok (.iastore, 1) := by decide +kernel
theorem dX9_image_128 : decode cX9_image 128 = .ok (.iinc 1 1, 3) := by decide +kernel
theorem dX9_image_131 : decode cX9_image 131 = .ok (.goto (-25), 3) := by decide +kernel
theorem dX9_image_134 : decode cX9_image 134 = .ok (.iconst 0, 1) := by decide +kernel
theorem dX9_image_135 : decode cX9_image 135 = .ok (.istore_n 1, 1) := by decide +kernel
theorem dX9_image_136 : decode cX9_image 136 = .ok (.iload_n 1, 1) := by decide +kernel
theorem dX9_image_137 : decode cX9_image 137 = .ok (.bipush 16, 2) := by decide +kernel
theorem dX9_image_139 : decode cX9_image 139 = .ok (.if_icmp .ge 25, 3) := by decide +kernel
theorem dX9_image_142 : decode cX9_image 142 = .ok (.aload_n 0, 1) := by decide +kernel
theorem dX9_image_143 : decode cX9_image 143 = .ok (.getfield 63, 3) := by decide +kernel
theorem dX9_image_146 : decode cX9_image 146 = .ok (.sipush 237, 3) := by decide +kernel
theorem dX9_image_149 : decode cX9_image 149 = .ok (.iload_n 1, 1) := by decide +kernel
theorem dX9_image_150 : decode cX9_image 150 = .ok (.iadd, 1) := by decide +kernel
theorem dX9_image_151 : decode cX9_image 151 = .ok (.aload_n 0, 1) := by decide +kernel
theorem dX9_image_152 : decode cX9_image 152 = .ok (.getfield 27, 3) := by decide +kernel
theorem dX9_image_155 : decode cX9_image 155 = .ok (.iload_n 1, 1) := by decide +kernel
theorem dX9_image_156 : decode cX9_image 156 = .ok (.iaload, 1) := by decide +kernel
theorem dX9_image_157 : decode cX9_image 157 = .ok (.iastore, 1) := by decide +kernel
theorem dX9_image_158 : decode cX9_image 158 = .ok (.iinc 1 1, 3) := by decide +kernel
theorem dX9_image_161 : decode cX9_image 161 = .ok (.goto (-25), 3) := by decide +kernel
theorem dX9_image_164 : decode cX9_image 164 = .ok (.iconst 0, 1) := by decide +kernel
theorem dX9_image_165 : decode cX9_image 165 = .ok (.istore_n 1, 1) := by decide +kernel
theorem dX9_image_166 : decode cX9_image 166 = .ok (.iload_n 1, 1) := by decide +kernel
theorem dX9_image_167 : decode cX9_image 167 = .ok (.bipush 24, 2) := by decide +kernel
theorem dX9_image_169 : decode cX9_image 169 = .ok (.if_icmp .ge 25, 3) := by decide +kernel
theorem dX9_image_172 : decode cX9_image 172 = .ok (.aload_n 0, 1) := by decide +kernel
theorem dX9_image_173 : decode cX9_image 173 = .ok (.getfield 63, 3) := by decide +kernel
theorem dX9_image_176 : decode cX9_image 176 = .ok (.sipush 253, 3) := by decide +kernel
theorem dX9_image_179 : decode cX9_image 179 = .ok (.iload_n 1, 1) := by decide +kernel
theorem dX9_image_180 : decode cX9_image 180 = .ok (.iadd, 1) := by decide +kernel
theorem dX9_image_181 : decode cX9_image 181 = .ok (.aload_n 0, 1) := by decide +kernel
theorem dX9_image_182 : decode cX9_image 182 = .ok (.getfield 30, 3) := by decide +kernel
theorem dX9_image_185 : decode cX9_image 185 = .ok (.iload_n 1, 1) := by decide +kernel
theorem dX9_image_186 : decode cX9_image 186 = .ok (.iaload, 1) := by decide +kernel
theorem dX9_image_187 : decode cX9_image 187 = .ok (.iastore, 1) := by decide +kernel
theorem dX9_image_188 : decode cX9_image 188 = .ok (.iinc 1 1, 3) := by decide +kernel
theorem dX9_image_191 : decode cX9_image 191 = .ok (.goto (-25), 3) := by decide +kernel
theorem dX9_image_194 : decode cX9_image 194 = .ok (.aload_n 0, 1) := by decide +kernel
theorem dX9_image_195 : decode cX9_image 195 = .ok (.getfield 63, 3) := by decide +kernel
theorem dX9_image_198 : decode cX9_image 198 = .ok (.sipush 277, 3) := by decide +kernel
theorem dX9_image_201 : decode cX9_image 201 = .ok (.aload_n 0, 1) := by decide +kernel
theorem dX9_image_202 : decode cX9_image 202 = .ok (.getfield 76, 3) := by decide +kernel
theorem dX9_image_205 : decode cX9_image 205 = .ok (.iastore, 1) := by decide +kernel
theorem dX9_image_206 : decode cX9_image 206 = .ok (.aload_n 0, 1) := by decide +kernel
theorem dX9_image_207 : decode cX9_image 207 = .ok (.getfield 63, 3) := by decide +kernel
theorem dX9_image_210 : decode cX9_image 210 = .ok (.sipush 278, 3) := by decide +kernel
theorem dX9_image_213 : decode cX9_image 213 = .ok (.aload_n 0, 1) := by decide +kernel
theorem dX9_image_214 : decode cX9_image 214 = .ok (.getfield 88, 3) := by decide +kernel
theorem dX9_image_217 : decode cX9_image 217 = .ok (.iastore, 1) := by decide +kernel
theorem dX9_image_218 : decode cX9_image 218 = .ok (.aload_n 0, 1) := by decide +kernel
theorem dX9_image_219 : decode cX9_image 219 = .ok (.getfield 63, 3) := by decide +kernel
theorem dX9_image_222 : decode cX9_image 222 = .ok (.sipush 279, 3) := by decide +kernel
theorem dX9_image_225 : decode cX9_image 225 = .ok (.aload_n 0, 1) := by decide +kernel
theorem dX9_image_226 : decode cX9_image 226 = .ok (.getfield 168, 3) := by decide +kernel
theorem dX9_image_229 : decode cX9_image 229 = .ok (.iastore, 1) := by decide +kernel
theorem dX9_image_230 : decode cX9_image 230 = .ok (.aload_n 0, 1) := by decide +kernel
theorem dX9_image_231 : decode cX9_image 231 = .ok (.getfield 63, 3) := by decide +kernel
theorem dX9_image_234 : decode cX9_image 234 = .ok (.sipush 280, 3) := by decide +kernel
theorem dX9_image_237 : decode cX9_image 237 = .ok (.aload_n 0, 1) := by decide +kernel
theorem dX9_image_238 : decode cX9_image 238 = .ok (.getfield 233, 3) := by decide +kernel
theorem dX9_image_241 : decode cX9_image 241 = .ok (.iastore, 1) := by decide +kernel
theorem dX9_image_242 : decode cX9_image 242 = .ok (.aload_n 0, 1) := by decide +kernel
theorem dX9_image_243 : decode cX9_image 243 = .ok (.getfield 63, 3) := by decide +kernel
theorem dX9_image_246 : decode cX9_image 246 = .ok (.sipush 281, 3) := by decide +kernel
theorem dX9_image_249 : decode cX9_image 249 = .ok (.aload_n 0, 1) := by decide +kernel
theorem dX9_image_250 : decode cX9_image 250 = .ok (.getfield 255, 3) := by decide +kernel
theorem dX9_image_253 : decode cX9_image 253 = .ok (.iastore, 1) := by decide +kernel
theorem dX9_image_254 : decode cX9_image 254 = .ok (.aload_n 0, 1) := by decide +kernel
theorem dX9_image_255 : decode cX9_image 255 = .ok (.getfield 63, 3) := by decide +kernel
theorem dX9_image_258 : decode cX9_image 258 = .ok (.sipush 282, 3) := by decide +kernel
theorem dX9_image_261 : decode cX9_image 261 = .ok (.aload_n 0, 1) := by decide +kernel
theorem dX9_image_262 : decode cX9_image 262 = .ok (.getfield 261, 3) := by decide +kernel
theorem dX9_image_265 : decode cX9_image 265 = .ok (.iastore, 1) := by decide +kernel
theorem dX9_image_266 : decode cX9_image 266 = .ok (.aload_n 0, 1) := by decide +kernel
theorem dX9_image_267 : decode cX9_image 267 = .ok (.getfield 76, 3) := by decide +kernel
theorem dX9_image_270 : decode cX9_image 270 = .ok (.ireturn, 1) := by decide +kernel
def fX9_image_L7 (k46 : (Nat → Int32) → Option (Int32 × Int32 × (Nat → Int32))) (u_owes : (Nat → Int32)) (u_denies : (Nat → Int32)) : Nat → Int32 → (Nat → Int32) → Option (Int32 × Int32 × (Nat → Int32))
  | 0, _, _ => none
  | n + 1, x1, u_image => if 36 ≤ x1 then (k46 u_image) else (gA x1 36 (gA x1 284 (gA x1 36 (gA (36 + x1) 284 (fX9_image_L7 k46 u_owes u_denies n (x1 + 1) (upd (upd u_image (x1 : Int32).toNatClampNeg (u_owes (x1).toNatClampNeg)) (36 + x1 : Int32).toNatClampNeg (u_denies (x1).toNatClampNeg)))))))
def fX9_image_L48 (k75 : (Nat → Int32) → Option (Int32 × Int32 × (Nat → Int32))) (u_debt : (Nat → Int32)) : Nat → Int32 → (Nat → Int32) → Option (Int32 × Int32 × (Nat → Int32))
  | 0, _, _ => none
  | n + 1, x1, u_image => if 30 ≤ x1 then (k75 u_image) else (gA x1 30 (gA (72 + x1) 284 (fX9_image_L48 k75 u_debt n (x1 + 1) (upd u_image (72 + x1 : Int32).toNatClampNeg (u_debt (x1).toNatClampNeg)))))
def fX9_image_L77 (k104 : (Nat → Int32) → Option (Int32 × Int32 × (Nat → Int32))) (u_cut : (Nat → Int32)) : Nat → Int32 → (Nat → Int32) → Option (Int32 × Int32 × (Nat → Int32))
  | 0, _, _ => none
  | n + 1, x1, u_image => if 120 ≤ x1 then (k104 u_image) else (gA x1 120 (gA (102 + x1) 284 (fX9_image_L77 k104 u_cut n (x1 + 1) (upd u_image (102 + x1 : Int32).toNatClampNeg (u_cut (x1).toNatClampNeg)))))
def fX9_image_L106 (k134 : (Nat → Int32) → Option (Int32 × Int32 × (Nat → Int32))) (u_sight : (Nat → Int32)) : Nat → Int32 → (Nat → Int32) → Option (Int32 × Int32 × (Nat → Int32))
  | 0, _, _ => none
  | n + 1, x1, u_image => if 15 ≤ x1 then (k134 u_image) else (gA x1 15 (gA (222 + x1) 284 (fX9_image_L106 k134 u_sight n (x1 + 1) (upd u_image (222 + x1 : Int32).toNatClampNeg (u_sight (x1).toNatClampNeg)))))
def fX9_image_L136 (k164 : (Nat → Int32) → Option (Int32 × Int32 × (Nat → Int32))) (u_event : (Nat → Int32)) : Nat → Int32 → (Nat → Int32) → Option (Int32 × Int32 × (Nat → Int32))
  | 0, _, _ => none
  | n + 1, x1, u_image => if 16 ≤ x1 then (k164 u_image) else (gA x1 16 (gA (237 + x1) 284 (fX9_image_L136 k164 u_event n (x1 + 1) (upd u_image (237 + x1 : Int32).toNatClampNeg (u_event (x1).toNatClampNeg)))))
def fX9_image_L166 (k194 : (Nat → Int32) → Option (Int32 × Int32 × (Nat → Int32))) (u_book : (Nat → Int32)) : Nat → Int32 → (Nat → Int32) → Option (Int32 × Int32 × (Nat → Int32))
  | 0, _, _ => none
  | n + 1, x1, u_image => if 24 ≤ x1 then (k194 u_image) else (gA x1 24 (gA (253 + x1) 284 (fX9_image_L166 k194 u_book n (x1 + 1) (upd u_image (253 + x1 : Int32).toNatClampNeg (u_book (x1).toNatClampNeg)))))
def fX9_image (u_people : Int32) (u_debts : Int32) (u_cuts : Int32) (u_seen : Int32) (u_events : Int32) (u_inBook : Int32) (u_owes : (Nat → Int32)) (u_denies : (Nat → Int32)) (u_debt : (Nat → Int32)) (u_cut : (Nat → Int32)) (u_sight : (Nat → Int32)) (u_event : (Nat → Int32)) (u_book : (Nat → Int32)) (u_image : (Nat → Int32)) : Option (Int32 × Int32 × (Nat → Int32)) := fX9_image_L7 (fun (u_image_6 : (Nat → Int32)) => fX9_image_L48 (fun (u_image_10 : (Nat → Int32)) => fX9_image_L77 (fun (u_image_14 : (Nat → Int32)) => fX9_image_L106 (fun (u_image_18 : (Nat → Int32)) => fX9_image_L136 (fun (u_image_22 : (Nat → Int32)) => fX9_image_L166 (fun (u_image_26 : (Nat → Int32)) => gA 277 284 (gA 278 284 (gA 279 284 (gA 280 284 (gA 281 284 (gA 282 284 (some (u_people, 1, upd (upd (upd (upd (upd (upd u_image_26 (277 : Int32).toNatClampNeg u_people) (278 : Int32).toNatClampNeg u_debts) (279 : Int32).toNatClampNeg u_cuts) (280 : Int32).toNatClampNeg u_seen) (281 : Int32).toNatClampNeg u_events) (282 : Int32).toNatClampNeg u_inBook)))))))) u_book 400 0 u_image_22) u_event 400 0 u_image_18) u_sight 400 0 u_image_14) u_cut 400 0 u_image_10) u_debt 400 0 u_image_6) u_owes u_denies 400 0 u_image
set_option maxRecDepth 20000 in
theorem LX9_image_7 {p : Program} {l : Launch} {e : Env} {R : Room} {s : State} {m : MethodId} {args : Array Value} {below : List Frame} {meth : Method} {c : Code} {Q : State → Prop} {D : va_G} {C : Nat → ClassId} {A : Nat → Prop} (cx : CX p m c s args RX9 cX9_image 2 D C A R 1) {q_ q_owes q_denies q_debt q_cut q_sight q_event q_book q_text q_path q_ring q_balance q_left q_sum q_parts q_group q_payment q_then q_image q_tapeSort q_tapeSize q_items : Nat} {u_people : Int32} {u_debts : Int32} {u_cuts : Int32} {u_seen : Int32} {u_events : Int32} {u_inBook : Int32} {u_texted : Int32} {u_rule : Int32} {u_rings : Int32} {u_size : Int32} {u_least : Int32} {u_worth : Int64} {u_groups : Int32} {u_paid : Int32} {u_imaged : Int32} {u_owes : (Nat → Int32)} {u_denies : (Nat → Int32)} {u_debt : (Nat → Int32)} {u_cut : (Nat → Int32)} {u_sight : (Nat → Int32)} {u_event : (Nat → Int32)} {u_book : (Nat → Int32)} {z : (Int32 × Int32 × (Nat → Int32))} (hret : RT p l e R s m args below meth c Q D A cX9_image (some .int) [(q_, .inr (9, [.int u_people, .ref q_owes, .ref q_denies, .int u_debts, .ref q_debt, .int u_cuts, .ref q_cut, .int u_seen, .ref q_sight, .int u_events, .ref q_event, .int u_inBook, .ref q_book, .int u_texted, .ref q_text, .ref q_path, .int u_rule, .int u_rings, .int u_size, .int u_least, .long u_worth, .ref q_ring, .ref q_balance, .ref q_left, .ref q_sum, .ref q_parts, .int u_groups, .ref q_group, .int u_paid, .ref q_payment, .ref q_then, .int z.2.1, .ref q_image, .ref q_tapeSort, .ref q_tapeSize, .ref q_items])), (q_owes, .inl (C 0, 36, .inl u_owes)), (q_denies, .inl (C 0, 36, .inl u_denies)), (q_debt, .inl (C 0, 30, .inl u_debt)), (q_cut, .inl (C 0, 120, .inl u_cut)), (q_sight, .inl (C 0, 15, .inl u_sight)), (q_event, .inl (C 0, 16, .inl u_event)), (q_book, .inl (C 0, 24, .inl u_book)), (q_image, .inl (C 0, 284, .inl z.2.2))] (some (.int z.1))) {k46 : (Nat → Int32) → Option (Int32 × Int32 × (Nat → Int32))} (hk46 : ∀ (u_image : (Nat → Int32)) (H : Heap) (locs : List Loc) (ls : Array Slot), k46 u_image = some z → HW D A s.heap H locs [(q_, .inr (9, [.int u_people, .ref q_owes, .ref q_denies, .int u_debts, .ref q_debt, .int u_cuts, .ref q_cut, .int u_seen, .ref q_sight, .int u_events, .ref q_event, .int u_inBook, .ref q_book, .int u_texted, .ref q_text, .ref q_path, .int u_rule, .int u_rings, .int u_size, .int u_least, .long u_worth, .ref q_ring, .ref q_balance, .ref q_left, .ref q_sum, .ref q_parts, .int u_groups, .ref q_group, .int u_paid, .ref q_payment, .ref q_then, .int u_imaged, .ref q_image, .ref q_tapeSort, .ref q_tapeSize, .ref q_items])), (q_owes, .inl (C 0, 36, .inl u_owes)), (q_denies, .inl (C 0, 36, .inl u_denies)), (q_debt, .inl (C 0, 30, .inl u_debt)), (q_cut, .inl (C 0, 120, .inl u_cut)), (q_sight, .inl (C 0, 15, .inl u_sight)), (q_event, .inl (C 0, 16, .inl u_event)), (q_book, .inl (C 0, 24, .inl u_book)), (q_image, .inl (C 0, 284, .inl u_image))] → lv_has ls 2 [(0, .ref q_)] → W p l e R s m args below meth c H locs 0 0 Q (F0 m 46 ls [])) :
    ∀ (n : Nat) (x1 : Int32) (u_image : (Nat → Int32)) (H : Heap) (locs : List Loc) (ls : Array Slot), fX9_image_L7 k46 u_owes u_denies n x1 u_image = some z → HW D A s.heap H locs [(q_, .inr (9, [.int u_people, .ref q_owes, .ref q_denies, .int u_debts, .ref q_debt, .int u_cuts, .ref q_cut, .int u_seen, .ref q_sight, .int u_events, .ref q_event, .int u_inBook, .ref q_book, .int u_texted, .ref q_text, .ref q_path, .int u_rule, .int u_rings, .int u_size, .int u_least, .long u_worth, .ref q_ring, .ref q_balance, .ref q_left, .ref q_sum, .ref q_parts, .int u_groups, .ref q_group, .int u_paid, .ref q_payment, .ref q_then, .int u_imaged, .ref q_image, .ref q_tapeSort, .ref q_tapeSize, .ref q_items])), (q_owes, .inl (C 0, 36, .inl u_owes)), (q_denies, .inl (C 0, 36, .inl u_denies)), (q_debt, .inl (C 0, 30, .inl u_debt)), (q_cut, .inl (C 0, 120, .inl u_cut)), (q_sight, .inl (C 0, 15, .inl u_sight)), (q_event, .inl (C 0, 16, .inl u_event)), (q_book, .inl (C 0, 24, .inl u_book)), (q_image, .inl (C 0, 284, .inl u_image))] → lv_has ls 2 [(0, .ref q_), (1, .int x1)] → W p l e R s m args below meth c H locs 0 0 Q (F0 m 7 ls []) := by
  have hx := cx.1
  have hb := cx.2.1
  intro n
  induction n with
  | zero => intro x1 u_image H locs ls hF; cases hF
  | succ n ih =>
    intro x1 u_image H locs ls hF hw hl
    rw [fX9_image_L7.eq_2] at hF
    refine lv_iload_n hx hb dX9_image_7 rfl (lv_at hl 1 rfl) ?_
    refine lv_bipush (v := 36) hx hb dX9_image_8 (by decide) ?_
    refine lv_icmp_ge (tgt := 46) hx hb dX9_image_10 (by decide) (fun c1 => ?_) (fun c1 => ?_)
    · replace hF := oi_t c1 hF
      exact hk46 u_image H locs ls hF hw (lv_sub hl [0] rfl)
    · replace hF := oi_f c1 hF
      refine lv_aload_n hx hb dX9_image_13 rfl (lv_at hl 0 rfl) ?_
      refine r_get (ci := 9) (v := .ref q_image) cx hw iX9 0 32 rfl rfl (by decide) wf_X9_63 rfl dX9_image_14 ?_
      refine lv_iload_n hx hb dX9_image_17 rfl (lv_at hl 1 rfl) ?_
      refine lv_aload_n hx hb dX9_image_18 rfl (lv_at hl 0 rfl) ?_
      refine r_get (ci := 9) (v := .ref q_owes) cx hw iX9 0 1 rfl rfl (by decide) wf_X9_9 rfl dX9_image_19 ?_
      refine lv_iload_n hx hb dX9_image_22 rfl (lv_at hl 1 rfl) ?_
      obtain ⟨g2, hF⟩ := gA_s hF
      refine r_iald cx hw 1 rfl g2 dX9_image_23 ?_
      obtain ⟨g3, hF⟩ := gA_s hF
      refine r_iast (w2 := [(q_, .inr (9, [.int u_people, .ref q_owes, .ref q_denies, .int u_debts, .ref q_debt, .int u_cuts, .ref q_cut, .int u_seen, .ref q_sight, .int u_events, .ref q_event, .int u_inBook, .ref q_book, .int u_texted, .ref q_text, .ref q_path, .int u_rule, .int u_rings, .int u_size, .int u_least, .long u_worth, .ref q_ring, .ref q_balance, .ref q_left, .ref q_sum, .ref q_parts, .int u_groups, .ref q_group, .int u_paid, .ref q_payment, .ref q_then, .int u_imaged, .ref q_image, .ref q_tapeSort, .ref q_tapeSize, .ref q_items])), (q_owes, .inl (C 0, 36, .inl u_owes)), (q_denies, .inl (C 0, 36, .inl u_denies)), (q_debt, .inl (C 0, 30, .inl u_debt)), (q_cut, .inl (C 0, 120, .inl u_cut)), (q_sight, .inl (C 0, 15, .inl u_sight)), (q_event, .inl (C 0, 16, .inl u_event)), (q_book, .inl (C 0, 24, .inl u_book)), (q_image, .inl (C 0, 284, .inl (upd u_image (x1 : Int32).toNatClampNeg (u_owes (x1).toNatClampNeg))))]) cx hw 8 rfl g3 dX9_image_24 rfl (fun H locs hw => ?_)
      refine lv_aload_n hx hb dX9_image_25 rfl (lv_at hl 0 rfl) ?_
      refine r_get (ci := 9) (v := .ref q_image) cx hw iX9 0 32 rfl rfl (by decide) wf_X9_63 rfl dX9_image_26 ?_
      refine lv_bipush (v := 36) hx hb dX9_image_29 (by decide) ?_
      refine lv_iload_n hx hb dX9_image_31 rfl (lv_at hl 1 rfl) ?_
      refine lv_iadd hx hb dX9_image_32 ?_
      refine lv_aload_n hx hb dX9_image_33 rfl (lv_at hl 0 rfl) ?_
      refine r_get (ci := 9) (v := .ref q_denies) cx hw iX9 0 2 rfl rfl (by decide) wf_X9_15 rfl dX9_image_34 ?_
      refine lv_iload_n hx hb dX9_image_37 rfl (lv_at hl 1 rfl) ?_
      obtain ⟨g4, hF⟩ := gA_s hF
      refine r_iald cx hw 2 rfl g4 dX9_image_38 ?_
      obtain ⟨g5, hF⟩ := gA_s hF
      refine r_iast (w2 := [(q_, .inr (9, [.int u_people, .ref q_owes, .ref q_denies, .int u_debts, .ref q_debt, .int u_cuts, .ref q_cut, .int u_seen, .ref q_sight, .int u_events, .ref q_event, .int u_inBook, .ref q_book, .int u_texted, .ref q_text, .ref q_path, .int u_rule, .int u_rings, .int u_size, .int u_least, .long u_worth, .ref q_ring, .ref q_balance, .ref q_left, .ref q_sum, .ref q_parts, .int u_groups, .ref q_group, .int u_paid, .ref q_payment, .ref q_then, .int u_imaged, .ref q_image, .ref q_tapeSort, .ref q_tapeSize, .ref q_items])), (q_owes, .inl (C 0, 36, .inl u_owes)), (q_denies, .inl (C 0, 36, .inl u_denies)), (q_debt, .inl (C 0, 30, .inl u_debt)), (q_cut, .inl (C 0, 120, .inl u_cut)), (q_sight, .inl (C 0, 15, .inl u_sight)), (q_event, .inl (C 0, 16, .inl u_event)), (q_book, .inl (C 0, 24, .inl u_book)), (q_image, .inl (C 0, 284, .inl (upd (upd u_image (x1 : Int32).toNatClampNeg (u_owes (x1).toNatClampNeg)) (36 + x1 : Int32).toNatClampNeg (u_denies (x1).toNatClampNeg))))]) cx hw 8 rfl g5 dX9_image_39 rfl (fun H locs hw => ?_)
      refine lv_iinc (v := x1 + 1) (lv' := [(1, .int (x1 + 1)), (0, .ref q_)]) hx hb dX9_image_40 hl (k := 1) rfl rfl (by decide) rfl (fun ls hl => ?_)
      refine lv_goto (tgt := 7) hx hb dX9_image_43 (by decide) ?_
      exact ih (x1 + 1) (upd (upd u_image (x1 : Int32).toNatClampNeg (u_owes (x1).toNatClampNeg)) (36 + x1 : Int32).toNatClampNeg (u_denies (x1).toNatClampNeg)) H locs ls hF hw (lv_sub hl [1, 0] rfl)
set_option maxRecDepth 20000 in
theorem LX9_image_48 {p : Program} {l : Launch} {e : Env} {R : Room} {s : State} {m : MethodId} {args : Array Value} {below : List Frame} {meth : Method} {c : Code} {Q : State → Prop} {D : va_G} {C : Nat → ClassId} {A : Nat → Prop} (cx : CX p m c s args RX9 cX9_image 2 D C A R 1) {q_ q_owes q_denies q_debt q_cut q_sight q_event q_book q_text q_path q_ring q_balance q_left q_sum q_parts q_group q_payment q_then q_image q_tapeSort q_tapeSize q_items : Nat} {u_people : Int32} {u_debts : Int32} {u_cuts : Int32} {u_seen : Int32} {u_events : Int32} {u_inBook : Int32} {u_texted : Int32} {u_rule : Int32} {u_rings : Int32} {u_size : Int32} {u_least : Int32} {u_worth : Int64} {u_groups : Int32} {u_paid : Int32} {u_imaged : Int32} {u_owes : (Nat → Int32)} {u_denies : (Nat → Int32)} {u_debt : (Nat → Int32)} {u_cut : (Nat → Int32)} {u_sight : (Nat → Int32)} {u_event : (Nat → Int32)} {u_book : (Nat → Int32)} {z : (Int32 × Int32 × (Nat → Int32))} (hret : RT p l e R s m args below meth c Q D A cX9_image (some .int) [(q_, .inr (9, [.int u_people, .ref q_owes, .ref q_denies, .int u_debts, .ref q_debt, .int u_cuts, .ref q_cut, .int u_seen, .ref q_sight, .int u_events, .ref q_event, .int u_inBook, .ref q_book, .int u_texted, .ref q_text, .ref q_path, .int u_rule, .int u_rings, .int u_size, .int u_least, .long u_worth, .ref q_ring, .ref q_balance, .ref q_left, .ref q_sum, .ref q_parts, .int u_groups, .ref q_group, .int u_paid, .ref q_payment, .ref q_then, .int z.2.1, .ref q_image, .ref q_tapeSort, .ref q_tapeSize, .ref q_items])), (q_owes, .inl (C 0, 36, .inl u_owes)), (q_denies, .inl (C 0, 36, .inl u_denies)), (q_debt, .inl (C 0, 30, .inl u_debt)), (q_cut, .inl (C 0, 120, .inl u_cut)), (q_sight, .inl (C 0, 15, .inl u_sight)), (q_event, .inl (C 0, 16, .inl u_event)), (q_book, .inl (C 0, 24, .inl u_book)), (q_image, .inl (C 0, 284, .inl z.2.2))] (some (.int z.1))) {k75 : (Nat → Int32) → Option (Int32 × Int32 × (Nat → Int32))} (hk75 : ∀ (u_image : (Nat → Int32)) (H : Heap) (locs : List Loc) (ls : Array Slot), k75 u_image = some z → HW D A s.heap H locs [(q_, .inr (9, [.int u_people, .ref q_owes, .ref q_denies, .int u_debts, .ref q_debt, .int u_cuts, .ref q_cut, .int u_seen, .ref q_sight, .int u_events, .ref q_event, .int u_inBook, .ref q_book, .int u_texted, .ref q_text, .ref q_path, .int u_rule, .int u_rings, .int u_size, .int u_least, .long u_worth, .ref q_ring, .ref q_balance, .ref q_left, .ref q_sum, .ref q_parts, .int u_groups, .ref q_group, .int u_paid, .ref q_payment, .ref q_then, .int u_imaged, .ref q_image, .ref q_tapeSort, .ref q_tapeSize, .ref q_items])), (q_owes, .inl (C 0, 36, .inl u_owes)), (q_denies, .inl (C 0, 36, .inl u_denies)), (q_debt, .inl (C 0, 30, .inl u_debt)), (q_cut, .inl (C 0, 120, .inl u_cut)), (q_sight, .inl (C 0, 15, .inl u_sight)), (q_event, .inl (C 0, 16, .inl u_event)), (q_book, .inl (C 0, 24, .inl u_book)), (q_image, .inl (C 0, 284, .inl u_image))] → lv_has ls 2 [(0, .ref q_)] → W p l e R s m args below meth c H locs 0 0 Q (F0 m 75 ls [])) :
    ∀ (n : Nat) (x1 : Int32) (u_image : (Nat → Int32)) (H : Heap) (locs : List Loc) (ls : Array Slot), fX9_image_L48 k75 u_debt n x1 u_image = some z → HW D A s.heap H locs [(q_, .inr (9, [.int u_people, .ref q_owes, .ref q_denies, .int u_debts, .ref q_debt, .int u_cuts, .ref q_cut, .int u_seen, .ref q_sight, .int u_events, .ref q_event, .int u_inBook, .ref q_book, .int u_texted, .ref q_text, .ref q_path, .int u_rule, .int u_rings, .int u_size, .int u_least, .long u_worth, .ref q_ring, .ref q_balance, .ref q_left, .ref q_sum, .ref q_parts, .int u_groups, .ref q_group, .int u_paid, .ref q_payment, .ref q_then, .int u_imaged, .ref q_image, .ref q_tapeSort, .ref q_tapeSize, .ref q_items])), (q_owes, .inl (C 0, 36, .inl u_owes)), (q_denies, .inl (C 0, 36, .inl u_denies)), (q_debt, .inl (C 0, 30, .inl u_debt)), (q_cut, .inl (C 0, 120, .inl u_cut)), (q_sight, .inl (C 0, 15, .inl u_sight)), (q_event, .inl (C 0, 16, .inl u_event)), (q_book, .inl (C 0, 24, .inl u_book)), (q_image, .inl (C 0, 284, .inl u_image))] → lv_has ls 2 [(0, .ref q_), (1, .int x1)] → W p l e R s m args below meth c H locs 0 0 Q (F0 m 48 ls []) := by
  have hx := cx.1
  have hb := cx.2.1
  intro n
  induction n with
  | zero => intro x1 u_image H locs ls hF; cases hF
  | succ n ih =>
    intro x1 u_image H locs ls hF hw hl
    rw [fX9_image_L48.eq_2] at hF
    refine lv_iload_n hx hb dX9_image_48 rfl (lv_at hl 1 rfl) ?_
    refine lv_bipush (v := 30) hx hb dX9_image_49 (by decide) ?_
    refine lv_icmp_ge (tgt := 75) hx hb dX9_image_51 (by decide) (fun c7 => ?_) (fun c7 => ?_)
    · replace hF := oi_t c7 hF
      exact hk75 u_image H locs ls hF hw (lv_sub hl [0] rfl)
    · replace hF := oi_f c7 hF
      refine lv_aload_n hx hb dX9_image_54 rfl (lv_at hl 0 rfl) ?_
      refine r_get (ci := 9) (v := .ref q_image) cx hw iX9 0 32 rfl rfl (by decide) wf_X9_63 rfl dX9_image_55 ?_
      refine lv_bipush (v := 72) hx hb dX9_image_58 (by decide) ?_
      refine lv_iload_n hx hb dX9_image_60 rfl (lv_at hl 1 rfl) ?_
      refine lv_iadd hx hb dX9_image_61 ?_
      refine lv_aload_n hx hb dX9_image_62 rfl (lv_at hl 0 rfl) ?_
      refine r_get (ci := 9) (v := .ref q_debt) cx hw iX9 0 4 rfl rfl (by decide) wf_X9_18 rfl dX9_image_63 ?_
      refine lv_iload_n hx hb dX9_image_66 rfl (lv_at hl 1 rfl) ?_
      obtain ⟨g8, hF⟩ := gA_s hF
      refine r_iald cx hw 3 rfl g8 dX9_image_67 ?_
      obtain ⟨g9, hF⟩ := gA_s hF
      refine r_iast (w2 := [(q_, .inr (9, [.int u_people, .ref q_owes, .ref q_denies, .int u_debts, .ref q_debt, .int u_cuts, .ref q_cut, .int u_seen, .ref q_sight, .int u_events, .ref q_event, .int u_inBook, .ref q_book, .int u_texted, .ref q_text, .ref q_path, .int u_rule, .int u_rings, .int u_size, .int u_least, .long u_worth, .ref q_ring, .ref q_balance, .ref q_left, .ref q_sum, .ref q_parts, .int u_groups, .ref q_group, .int u_paid, .ref q_payment, .ref q_then, .int u_imaged, .ref q_image, .ref q_tapeSort, .ref q_tapeSize, .ref q_items])), (q_owes, .inl (C 0, 36, .inl u_owes)), (q_denies, .inl (C 0, 36, .inl u_denies)), (q_debt, .inl (C 0, 30, .inl u_debt)), (q_cut, .inl (C 0, 120, .inl u_cut)), (q_sight, .inl (C 0, 15, .inl u_sight)), (q_event, .inl (C 0, 16, .inl u_event)), (q_book, .inl (C 0, 24, .inl u_book)), (q_image, .inl (C 0, 284, .inl (upd u_image (72 + x1 : Int32).toNatClampNeg (u_debt (x1).toNatClampNeg))))]) cx hw 8 rfl g9 dX9_image_68 rfl (fun H locs hw => ?_)
      refine lv_iinc (v := x1 + 1) (lv' := [(1, .int (x1 + 1)), (0, .ref q_)]) hx hb dX9_image_69 hl (k := 1) rfl rfl (by decide) rfl (fun ls hl => ?_)
      refine lv_goto (tgt := 48) hx hb dX9_image_72 (by decide) ?_
      exact ih (x1 + 1) (upd u_image (72 + x1 : Int32).toNatClampNeg (u_debt (x1).toNatClampNeg)) H locs ls hF hw (lv_sub hl [1, 0] rfl)
set_option maxRecDepth 20000 in
theorem LX9_image_77 {p : Program} {l : Launch} {e : Env} {R : Room} {s : State} {m : MethodId} {args : Array Value} {below : List Frame} {meth : Method} {c : Code} {Q : State → Prop} {D : va_G} {C : Nat → ClassId} {A : Nat → Prop} (cx : CX p m c s args RX9 cX9_image 2 D C A R 1) {q_ q_owes q_denies q_debt q_cut q_sight q_event q_book q_text q_path q_ring q_balance q_left q_sum q_parts q_group q_payment q_then q_image q_tapeSort q_tapeSize q_items : Nat} {u_people : Int32} {u_debts : Int32} {u_cuts : Int32} {u_seen : Int32} {u_events : Int32} {u_inBook : Int32} {u_texted : Int32} {u_rule : Int32} {u_rings : Int32} {u_size : Int32} {u_least : Int32} {u_worth : Int64} {u_groups : Int32} {u_paid : Int32} {u_imaged : Int32} {u_owes : (Nat → Int32)} {u_denies : (Nat → Int32)} {u_debt : (Nat → Int32)} {u_cut : (Nat → Int32)} {u_sight : (Nat → Int32)} {u_event : (Nat → Int32)} {u_book : (Nat → Int32)} {z : (Int32 × Int32 × (Nat → Int32))} (hret : RT p l e R s m args below meth c Q D A cX9_image (some .int) [(q_, .inr (9, [.int u_people, .ref q_owes, .ref q_denies, .int u_debts, .ref q_debt, .int u_cuts, .ref q_cut, .int u_seen, .ref q_sight, .int u_events, .ref q_event, .int u_inBook, .ref q_book, .int u_texted, .ref q_text, .ref q_path, .int u_rule, .int u_rings, .int u_size, .int u_least, .long u_worth, .ref q_ring, .ref q_balance, .ref q_left, .ref q_sum, .ref q_parts, .int u_groups, .ref q_group, .int u_paid, .ref q_payment, .ref q_then, .int z.2.1, .ref q_image, .ref q_tapeSort, .ref q_tapeSize, .ref q_items])), (q_owes, .inl (C 0, 36, .inl u_owes)), (q_denies, .inl (C 0, 36, .inl u_denies)), (q_debt, .inl (C 0, 30, .inl u_debt)), (q_cut, .inl (C 0, 120, .inl u_cut)), (q_sight, .inl (C 0, 15, .inl u_sight)), (q_event, .inl (C 0, 16, .inl u_event)), (q_book, .inl (C 0, 24, .inl u_book)), (q_image, .inl (C 0, 284, .inl z.2.2))] (some (.int z.1))) {k104 : (Nat → Int32) → Option (Int32 × Int32 × (Nat → Int32))} (hk104 : ∀ (u_image : (Nat → Int32)) (H : Heap) (locs : List Loc) (ls : Array Slot), k104 u_image = some z → HW D A s.heap H locs [(q_, .inr (9, [.int u_people, .ref q_owes, .ref q_denies, .int u_debts, .ref q_debt, .int u_cuts, .ref q_cut, .int u_seen, .ref q_sight, .int u_events, .ref q_event, .int u_inBook, .ref q_book, .int u_texted, .ref q_text, .ref q_path, .int u_rule, .int u_rings, .int u_size, .int u_least, .long u_worth, .ref q_ring, .ref q_balance, .ref q_left, .ref q_sum, .ref q_parts, .int u_groups, .ref q_group, .int u_paid, .ref q_payment, .ref q_then, .int u_imaged, .ref q_image, .ref q_tapeSort, .ref q_tapeSize, .ref q_items])), (q_owes, .inl (C 0, 36, .inl u_owes)), (q_denies, .inl (C 0, 36, .inl u_denies)), (q_debt, .inl (C 0, 30, .inl u_debt)), (q_cut, .inl (C 0, 120, .inl u_cut)), (q_sight, .inl (C 0, 15, .inl u_sight)), (q_event, .inl (C 0, 16, .inl u_event)), (q_book, .inl (C 0, 24, .inl u_book)), (q_image, .inl (C 0, 284, .inl u_image))] → lv_has ls 2 [(0, .ref q_)] → W p l e R s m args below meth c H locs 0 0 Q (F0 m 104 ls [])) :
    ∀ (n : Nat) (x1 : Int32) (u_image : (Nat → Int32)) (H : Heap) (locs : List Loc) (ls : Array Slot), fX9_image_L77 k104 u_cut n x1 u_image = some z → HW D A s.heap H locs [(q_, .inr (9, [.int u_people, .ref q_owes, .ref q_denies, .int u_debts, .ref q_debt, .int u_cuts, .ref q_cut, .int u_seen, .ref q_sight, .int u_events, .ref q_event, .int u_inBook, .ref q_book, .int u_texted, .ref q_text, .ref q_path, .int u_rule, .int u_rings, .int u_size, .int u_least, .long u_worth, .ref q_ring, .ref q_balance, .ref q_left, .ref q_sum, .ref q_parts, .int u_groups, .ref q_group, .int u_paid, .ref q_payment, .ref q_then, .int u_imaged, .ref q_image, .ref q_tapeSort, .ref q_tapeSize, .ref q_items])), (q_owes, .inl (C 0, 36, .inl u_owes)), (q_denies, .inl (C 0, 36, .inl u_denies)), (q_debt, .inl (C 0, 30, .inl u_debt)), (q_cut, .inl (C 0, 120, .inl u_cut)), (q_sight, .inl (C 0, 15, .inl u_sight)), (q_event, .inl (C 0, 16, .inl u_event)), (q_book, .inl (C 0, 24, .inl u_book)), (q_image, .inl (C 0, 284, .inl u_image))] → lv_has ls 2 [(0, .ref q_), (1, .int x1)] → W p l e R s m args below meth c H locs 0 0 Q (F0 m 77 ls []) := by
  have hx := cx.1
  have hb := cx.2.1
  intro n
  induction n with
  | zero => intro x1 u_image H locs ls hF; cases hF
  | succ n ih =>
    intro x1 u_image H locs ls hF hw hl
    rw [fX9_image_L77.eq_2] at hF
    refine lv_iload_n hx hb dX9_image_77 rfl (lv_at hl 1 rfl) ?_
    refine lv_bipush (v := 120) hx hb dX9_image_78 (by decide) ?_
    refine lv_icmp_ge (tgt := 104) hx hb dX9_image_80 (by decide) (fun c11 => ?_) (fun c11 => ?_)
    · replace hF := oi_t c11 hF
      exact hk104 u_image H locs ls hF hw (lv_sub hl [0] rfl)
    · replace hF := oi_f c11 hF
      refine lv_aload_n hx hb dX9_image_83 rfl (lv_at hl 0 rfl) ?_
      refine r_get (ci := 9) (v := .ref q_image) cx hw iX9 0 32 rfl rfl (by decide) wf_X9_63 rfl dX9_image_84 ?_
      refine lv_bipush (v := 102) hx hb dX9_image_87 (by decide) ?_
      refine lv_iload_n hx hb dX9_image_89 rfl (lv_at hl 1 rfl) ?_
      refine lv_iadd hx hb dX9_image_90 ?_
      refine lv_aload_n hx hb dX9_image_91 rfl (lv_at hl 0 rfl) ?_
      refine r_get (ci := 9) (v := .ref q_cut) cx hw iX9 0 6 rfl rfl (by decide) wf_X9_21 rfl dX9_image_92 ?_
      refine lv_iload_n hx hb dX9_image_95 rfl (lv_at hl 1 rfl) ?_
      obtain ⟨g12, hF⟩ := gA_s hF
      refine r_iald cx hw 4 rfl g12 dX9_image_96 ?_
      obtain ⟨g13, hF⟩ := gA_s hF
      refine r_iast (w2 := [(q_, .inr (9, [.int u_people, .ref q_owes, .ref q_denies, .int u_debts, .ref q_debt, .int u_cuts, .ref q_cut, .int u_seen, .ref q_sight, .int u_events, .ref q_event, .int u_inBook, .ref q_book, .int u_texted, .ref q_text, .ref q_path, .int u_rule, .int u_rings, .int u_size, .int u_least, .long u_worth, .ref q_ring, .ref q_balance, .ref q_left, .ref q_sum, .ref q_parts, .int u_groups, .ref q_group, .int u_paid, .ref q_payment, .ref q_then, .int u_imaged, .ref q_image, .ref q_tapeSort, .ref q_tapeSize, .ref q_items])), (q_owes, .inl (C 0, 36, .inl u_owes)), (q_denies, .inl (C 0, 36, .inl u_denies)), (q_debt, .inl (C 0, 30, .inl u_debt)), (q_cut, .inl (C 0, 120, .inl u_cut)), (q_sight, .inl (C 0, 15, .inl u_sight)), (q_event, .inl (C 0, 16, .inl u_event)), (q_book, .inl (C 0, 24, .inl u_book)), (q_image, .inl (C 0, 284, .inl (upd u_image (102 + x1 : Int32).toNatClampNeg (u_cut (x1).toNatClampNeg))))]) cx hw 8 rfl g13 dX9_image_97 rfl (fun H locs hw => ?_)
      refine lv_iinc (v := x1 + 1) (lv' := [(1, .int (x1 + 1)), (0, .ref q_)]) hx hb dX9_image_98 hl (k := 1) rfl rfl (by decide) rfl (fun ls hl => ?_)
      refine lv_goto (tgt := 77) hx hb dX9_image_101 (by decide) ?_
      exact ih (x1 + 1) (upd u_image (102 + x1 : Int32).toNatClampNeg (u_cut (x1).toNatClampNeg)) H locs ls hF hw (lv_sub hl [1, 0] rfl)
set_option maxRecDepth 20000 in
theorem LX9_image_106 {p : Program} {l : Launch} {e : Env} {R : Room} {s : State} {m : MethodId} {args : Array Value} {below : List Frame} {meth : Method} {c : Code} {Q : State → Prop} {D : va_G} {C : Nat → ClassId} {A : Nat → Prop} (cx : CX p m c s args RX9 cX9_image 2 D C A R 1) {q_ q_owes q_denies q_debt q_cut q_sight q_event q_book q_text q_path q_ring q_balance q_left q_sum q_parts q_group q_payment q_then q_image q_tapeSort q_tapeSize q_items : Nat} {u_people : Int32} {u_debts : Int32} {u_cuts : Int32} {u_seen : Int32} {u_events : Int32} {u_inBook : Int32} {u_texted : Int32} {u_rule : Int32} {u_rings : Int32} {u_size : Int32} {u_least : Int32} {u_worth : Int64} {u_groups : Int32} {u_paid : Int32} {u_imaged : Int32} {u_owes : (Nat → Int32)} {u_denies : (Nat → Int32)} {u_debt : (Nat → Int32)} {u_cut : (Nat → Int32)} {u_sight : (Nat → Int32)} {u_event : (Nat → Int32)} {u_book : (Nat → Int32)} {z : (Int32 × Int32 × (Nat → Int32))} (hret : RT p l e R s m args below meth c Q D A cX9_image (some .int) [(q_, .inr (9, [.int u_people, .ref q_owes, .ref q_denies, .int u_debts, .ref q_debt, .int u_cuts, .ref q_cut, .int u_seen, .ref q_sight, .int u_events, .ref q_event, .int u_inBook, .ref q_book, .int u_texted, .ref q_text, .ref q_path, .int u_rule, .int u_rings, .int u_size, .int u_least, .long u_worth, .ref q_ring, .ref q_balance, .ref q_left, .ref q_sum, .ref q_parts, .int u_groups, .ref q_group, .int u_paid, .ref q_payment, .ref q_then, .int z.2.1, .ref q_image, .ref q_tapeSort, .ref q_tapeSize, .ref q_items])), (q_owes, .inl (C 0, 36, .inl u_owes)), (q_denies, .inl (C 0, 36, .inl u_denies)), (q_debt, .inl (C 0, 30, .inl u_debt)), (q_cut, .inl (C 0, 120, .inl u_cut)), (q_sight, .inl (C 0, 15, .inl u_sight)), (q_event, .inl (C 0, 16, .inl u_event)), (q_book, .inl (C 0, 24, .inl u_book)), (q_image, .inl (C 0, 284, .inl z.2.2))] (some (.int z.1))) {k134 : (Nat → Int32) → Option (Int32 × Int32 × (Nat → Int32))} (hk134 : ∀ (u_image : (Nat → Int32)) (H : Heap) (locs : List Loc) (ls : Array Slot), k134 u_image = some z → HW D A s.heap H locs [(q_, .inr (9, [.int u_people, .ref q_owes, .ref q_denies, .int u_debts, .ref q_debt, .int u_cuts, .ref q_cut, .int u_seen, .ref q_sight, .int u_events, .ref q_event, .int u_inBook, .ref q_book, .int u_texted, .ref q_text, .ref q_path, .int u_rule, .int u_rings, .int u_size, .int u_least, .long u_worth, .ref q_ring, .ref q_balance, .ref q_left, .ref q_sum, .ref q_parts, .int u_groups, .ref q_group, .int u_paid, .ref q_payment, .ref q_then, .int u_imaged, .ref q_image, .ref q_tapeSort, .ref q_tapeSize, .ref q_items])), (q_owes, .inl (C 0, 36, .inl u_owes)), (q_denies, .inl (C 0, 36, .inl u_denies)), (q_debt, .inl (C 0, 30, .inl u_debt)), (q_cut, .inl (C 0, 120, .inl u_cut)), (q_sight, .inl (C 0, 15, .inl u_sight)), (q_event, .inl (C 0, 16, .inl u_event)), (q_book, .inl (C 0, 24, .inl u_book)), (q_image, .inl (C 0, 284, .inl u_image))] → lv_has ls 2 [(0, .ref q_)] → W p l e R s m args below meth c H locs 0 0 Q (F0 m 134 ls [])) :
    ∀ (n : Nat) (x1 : Int32) (u_image : (Nat → Int32)) (H : Heap) (locs : List Loc) (ls : Array Slot), fX9_image_L106 k134 u_sight n x1 u_image = some z → HW D A s.heap H locs [(q_, .inr (9, [.int u_people, .ref q_owes, .ref q_denies, .int u_debts, .ref q_debt, .int u_cuts, .ref q_cut, .int u_seen, .ref q_sight, .int u_events, .ref q_event, .int u_inBook, .ref q_book, .int u_texted, .ref q_text, .ref q_path, .int u_rule, .int u_rings, .int u_size, .int u_least, .long u_worth, .ref q_ring, .ref q_balance, .ref q_left, .ref q_sum, .ref q_parts, .int u_groups, .ref q_group, .int u_paid, .ref q_payment, .ref q_then, .int u_imaged, .ref q_image, .ref q_tapeSort, .ref q_tapeSize, .ref q_items])), (q_owes, .inl (C 0, 36, .inl u_owes)), (q_denies, .inl (C 0, 36, .inl u_denies)), (q_debt, .inl (C 0, 30, .inl u_debt)), (q_cut, .inl (C 0, 120, .inl u_cut)), (q_sight, .inl (C 0, 15, .inl u_sight)), (q_event, .inl (C 0, 16, .inl u_event)), (q_book, .inl (C 0, 24, .inl u_book)), (q_image, .inl (C 0, 284, .inl u_image))] → lv_has ls 2 [(0, .ref q_), (1, .int x1)] → W p l e R s m args below meth c H locs 0 0 Q (F0 m 106 ls []) := by
  have hx := cx.1
  have hb := cx.2.1
  intro n
  induction n with
  | zero => intro x1 u_image H locs ls hF; cases hF
  | succ n ih =>
    intro x1 u_image H locs ls hF hw hl
    rw [fX9_image_L106.eq_2] at hF
    refine lv_iload_n hx hb dX9_image_106 rfl (lv_at hl 1 rfl) ?_
    refine lv_bipush (v := 15) hx hb dX9_image_107 (by decide) ?_
    refine lv_icmp_ge (tgt := 134) hx hb dX9_image_109 (by decide) (fun c15 => ?_) (fun c15 => ?_)
    · replace hF := oi_t c15 hF
      exact hk134 u_image H locs ls hF hw (lv_sub hl [0] rfl)
    · replace hF := oi_f c15 hF
      refine lv_aload_n hx hb dX9_image_112 rfl (lv_at hl 0 rfl) ?_
      refine r_get (ci := 9) (v := .ref q_image) cx hw iX9 0 32 rfl rfl (by decide) wf_X9_63 rfl dX9_image_113 ?_
      refine lv_sipush (v := 222) hx hb dX9_image_116 (by decide) ?_
      refine lv_iload_n hx hb dX9_image_119 rfl (lv_at hl 1 rfl) ?_
      refine lv_iadd hx hb dX9_image_120 ?_
      refine lv_aload_n hx hb dX9_image_121 rfl (lv_at hl 0 rfl) ?_
      refine r_get (ci := 9) (v := .ref q_sight) cx hw iX9 0 8 rfl rfl (by decide) wf_X9_24 rfl dX9_image_122 ?_
      refine lv_iload_n hx hb dX9_image_125 rfl (lv_at hl 1 rfl) ?_
      obtain ⟨g16, hF⟩ := gA_s hF
      refine r_iald cx hw 5 rfl g16 dX9_image_126 ?_
      obtain ⟨g17, hF⟩ := gA_s hF
      refine r_iast (w2 := [(q_, .inr (9, [.int u_people, .ref q_owes, .ref q_denies, .int u_debts, .ref q_debt, .int u_cuts, .ref q_cut, .int u_seen, .ref q_sight, .int u_events, .ref q_event, .int u_inBook, .ref q_book, .int u_texted, .ref q_text, .ref q_path, .int u_rule, .int u_rings, .int u_size, .int u_least, .long u_worth, .ref q_ring, .ref q_balance, .ref q_left, .ref q_sum, .ref q_parts, .int u_groups, .ref q_group, .int u_paid, .ref q_payment, .ref q_then, .int u_imaged, .ref q_image, .ref q_tapeSort, .ref q_tapeSize, .ref q_items])), (q_owes, .inl (C 0, 36, .inl u_owes)), (q_denies, .inl (C 0, 36, .inl u_denies)), (q_debt, .inl (C 0, 30, .inl u_debt)), (q_cut, .inl (C 0, 120, .inl u_cut)), (q_sight, .inl (C 0, 15, .inl u_sight)), (q_event, .inl (C 0, 16, .inl u_event)), (q_book, .inl (C 0, 24, .inl u_book)), (q_image, .inl (C 0, 284, .inl (upd u_image (222 + x1 : Int32).toNatClampNeg (u_sight (x1).toNatClampNeg))))]) cx hw 8 rfl g17 dX9_image_127 rfl (fun H locs hw => ?_)
      refine lv_iinc (v := x1 + 1) (lv' := [(1, .int (x1 + 1)), (0, .ref q_)]) hx hb dX9_image_128 hl (k := 1) rfl rfl (by decide) rfl (fun ls hl => ?_)
      refine lv_goto (tgt := 106) hx hb dX9_image_131 (by decide) ?_
      exact ih (x1 + 1) (upd u_image (222 + x1 : Int32).toNatClampNeg (u_sight (x1).toNatClampNeg)) H locs ls hF hw (lv_sub hl [1, 0] rfl)
set_option maxRecDepth 20000 in
theorem LX9_image_136 {p : Program} {l : Launch} {e : Env} {R : Room} {s : State} {m : MethodId} {args : Array Value} {below : List Frame} {meth : Method} {c : Code} {Q : State → Prop} {D : va_G} {C : Nat → ClassId} {A : Nat → Prop} (cx : CX p m c s args RX9 cX9_image 2 D C A R 1) {q_ q_owes q_denies q_debt q_cut q_sight q_event q_book q_text q_path q_ring q_balance q_left q_sum q_parts q_group q_payment q_then q_image q_tapeSort q_tapeSize q_items : Nat} {u_people : Int32} {u_debts : Int32} {u_cuts : Int32} {u_seen : Int32} {u_events : Int32} {u_inBook : Int32} {u_texted : Int32} {u_rule : Int32} {u_rings : Int32} {u_size : Int32} {u_least : Int32} {u_worth : Int64} {u_groups : Int32} {u_paid : Int32} {u_imaged : Int32} {u_owes : (Nat → Int32)} {u_denies : (Nat → Int32)} {u_debt : (Nat → Int32)} {u_cut : (Nat → Int32)} {u_sight : (Nat → Int32)} {u_event : (Nat → Int32)} {u_book : (Nat → Int32)} {z : (Int32 × Int32 × (Nat → Int32))} (hret : RT p l e R s m args below meth c Q D A cX9_image (some .int) [(q_, .inr (9, [.int u_people, .ref q_owes, .ref q_denies, .int u_debts, .ref q_debt, .int u_cuts, .ref q_cut, .int u_seen, .ref q_sight, .int u_events, .ref q_event, .int u_inBook, .ref q_book, .int u_texted, .ref q_text, .ref q_path, .int u_rule, .int u_rings, .int u_size, .int u_least, .long u_worth, .ref q_ring, .ref q_balance, .ref q_left, .ref q_sum, .ref q_parts, .int u_groups, .ref q_group, .int u_paid, .ref q_payment, .ref q_then, .int z.2.1, .ref q_image, .ref q_tapeSort, .ref q_tapeSize, .ref q_items])), (q_owes, .inl (C 0, 36, .inl u_owes)), (q_denies, .inl (C 0, 36, .inl u_denies)), (q_debt, .inl (C 0, 30, .inl u_debt)), (q_cut, .inl (C 0, 120, .inl u_cut)), (q_sight, .inl (C 0, 15, .inl u_sight)), (q_event, .inl (C 0, 16, .inl u_event)), (q_book, .inl (C 0, 24, .inl u_book)), (q_image, .inl (C 0, 284, .inl z.2.2))] (some (.int z.1))) {k164 : (Nat → Int32) → Option (Int32 × Int32 × (Nat → Int32))} (hk164 : ∀ (u_image : (Nat → Int32)) (H : Heap) (locs : List Loc) (ls : Array Slot), k164 u_image = some z → HW D A s.heap H locs [(q_, .inr (9, [.int u_people, .ref q_owes, .ref q_denies, .int u_debts, .ref q_debt, .int u_cuts, .ref q_cut, .int u_seen, .ref q_sight, .int u_events, .ref q_event, .int u_inBook, .ref q_book, .int u_texted, .ref q_text, .ref q_path, .int u_rule, .int u_rings, .int u_size, .int u_least, .long u_worth, .ref q_ring, .ref q_balance, .ref q_left, .ref q_sum, .ref q_parts, .int u_groups, .ref q_group, .int u_paid, .ref q_payment, .ref q_then, .int u_imaged, .ref q_image, .ref q_tapeSort, .ref q_tapeSize, .ref q_items])), (q_owes, .inl (C 0, 36, .inl u_owes)), (q_denies, .inl (C 0, 36, .inl u_denies)), (q_debt, .inl (C 0, 30, .inl u_debt)), (q_cut, .inl (C 0, 120, .inl u_cut)), (q_sight, .inl (C 0, 15, .inl u_sight)), (q_event, .inl (C 0, 16, .inl u_event)), (q_book, .inl (C 0, 24, .inl u_book)), (q_image, .inl (C 0, 284, .inl u_image))] → lv_has ls 2 [(0, .ref q_)] → W p l e R s m args below meth c H locs 0 0 Q (F0 m 164 ls [])) :
    ∀ (n : Nat) (x1 : Int32) (u_image : (Nat → Int32)) (H : Heap) (locs : List Loc) (ls : Array Slot), fX9_image_L136 k164 u_event n x1 u_image = some z → HW D A s.heap H locs [(q_, .inr (9, [.int u_people, .ref q_owes, .ref q_denies, .int u_debts, .ref q_debt, .int u_cuts, .ref q_cut, .int u_seen, .ref q_sight, .int u_events, .ref q_event, .int u_inBook, .ref q_book, .int u_texted, .ref q_text, .ref q_path, .int u_rule, .int u_rings, .int u_size, .int u_least, .long u_worth, .ref q_ring, .ref q_balance, .ref q_left, .ref q_sum, .ref q_parts, .int u_groups, .ref q_group, .int u_paid, .ref q_payment, .ref q_then, .int u_imaged, .ref q_image, .ref q_tapeSort, .ref q_tapeSize, .ref q_items])), (q_owes, .inl (C 0, 36, .inl u_owes)), (q_denies, .inl (C 0, 36, .inl u_denies)), (q_debt, .inl (C 0, 30, .inl u_debt)), (q_cut, .inl (C 0, 120, .inl u_cut)), (q_sight, .inl (C 0, 15, .inl u_sight)), (q_event, .inl (C 0, 16, .inl u_event)), (q_book, .inl (C 0, 24, .inl u_book)), (q_image, .inl (C 0, 284, .inl u_image))] → lv_has ls 2 [(0, .ref q_), (1, .int x1)] → W p l e R s m args below meth c H locs 0 0 Q (F0 m 136 ls []) := by
  have hx := cx.1
  have hb := cx.2.1
  intro n
  induction n with
  | zero => intro x1 u_image H locs ls hF; cases hF
  | succ n ih =>
    intro x1 u_image H locs ls hF hw hl
    rw [fX9_image_L136.eq_2] at hF
    refine lv_iload_n hx hb dX9_image_136 rfl (lv_at hl 1 rfl) ?_
    refine lv_bipush (v := 16) hx hb dX9_image_137 (by decide) ?_
    refine lv_icmp_ge (tgt := 164) hx hb dX9_image_139 (by decide) (fun c19 => ?_) (fun c19 => ?_)
    · replace hF := oi_t c19 hF
      exact hk164 u_image H locs ls hF hw (lv_sub hl [0] rfl)
    · replace hF := oi_f c19 hF
      refine lv_aload_n hx hb dX9_image_142 rfl (lv_at hl 0 rfl) ?_
      refine r_get (ci := 9) (v := .ref q_image) cx hw iX9 0 32 rfl rfl (by decide) wf_X9_63 rfl dX9_image_143 ?_
      refine lv_sipush (v := 237) hx hb dX9_image_146 (by decide) ?_
      refine lv_iload_n hx hb dX9_image_149 rfl (lv_at hl 1 rfl) ?_
      refine lv_iadd hx hb dX9_image_150 ?_
      refine lv_aload_n hx hb dX9_image_151 rfl (lv_at hl 0 rfl) ?_
      refine r_get (ci := 9) (v := .ref q_event) cx hw iX9 0 10 rfl rfl (by decide) wf_X9_27 rfl dX9_image_152 ?_
      refine lv_iload_n hx hb dX9_image_155 rfl (lv_at hl 1 rfl) ?_
      obtain ⟨g20, hF⟩ := gA_s hF
      refine r_iald cx hw 6 rfl g20 dX9_image_156 ?_
      obtain ⟨g21, hF⟩ := gA_s hF
      refine r_iast (w2 := [(q_, .inr (9, [.int u_people, .ref q_owes, .ref q_denies, .int u_debts, .ref q_debt, .int u_cuts, .ref q_cut, .int u_seen, .ref q_sight, .int u_events, .ref q_event, .int u_inBook, .ref q_book, .int u_texted, .ref q_text, .ref q_path, .int u_rule, .int u_rings, .int u_size, .int u_least, .long u_worth, .ref q_ring, .ref q_balance, .ref q_left, .ref q_sum, .ref q_parts, .int u_groups, .ref q_group, .int u_paid, .ref q_payment, .ref q_then, .int u_imaged, .ref q_image, .ref q_tapeSort, .ref q_tapeSize, .ref q_items])), (q_owes, .inl (C 0, 36, .inl u_owes)), (q_denies, .inl (C 0, 36, .inl u_denies)), (q_debt, .inl (C 0, 30, .inl u_debt)), (q_cut, .inl (C 0, 120, .inl u_cut)), (q_sight, .inl (C 0, 15, .inl u_sight)), (q_event, .inl (C 0, 16, .inl u_event)), (q_book, .inl (C 0, 24, .inl u_book)), (q_image, .inl (C 0, 284, .inl (upd u_image (237 + x1 : Int32).toNatClampNeg (u_event (x1).toNatClampNeg))))]) cx hw 8 rfl g21 dX9_image_157 rfl (fun H locs hw => ?_)
      refine lv_iinc (v := x1 + 1) (lv' := [(1, .int (x1 + 1)), (0, .ref q_)]) hx hb dX9_image_158 hl (k := 1) rfl rfl (by decide) rfl (fun ls hl => ?_)
      refine lv_goto (tgt := 136) hx hb dX9_image_161 (by decide) ?_
      exact ih (x1 + 1) (upd u_image (237 + x1 : Int32).toNatClampNeg (u_event (x1).toNatClampNeg)) H locs ls hF hw (lv_sub hl [1, 0] rfl)
set_option maxRecDepth 20000 in
theorem LX9_image_166 {p : Program} {l : Launch} {e : Env} {R : Room} {s : State} {m : MethodId} {args : Array Value} {below : List Frame} {meth : Method} {c : Code} {Q : State → Prop} {D : va_G} {C : Nat → ClassId} {A : Nat → Prop} (cx : CX p m c s args RX9 cX9_image 2 D C A R 1) {q_ q_owes q_denies q_debt q_cut q_sight q_event q_book q_text q_path q_ring q_balance q_left q_sum q_parts q_group q_payment q_then q_image q_tapeSort q_tapeSize q_items : Nat} {u_people : Int32} {u_debts : Int32} {u_cuts : Int32} {u_seen : Int32} {u_events : Int32} {u_inBook : Int32} {u_texted : Int32} {u_rule : Int32} {u_rings : Int32} {u_size : Int32} {u_least : Int32} {u_worth : Int64} {u_groups : Int32} {u_paid : Int32} {u_imaged : Int32} {u_owes : (Nat → Int32)} {u_denies : (Nat → Int32)} {u_debt : (Nat → Int32)} {u_cut : (Nat → Int32)} {u_sight : (Nat → Int32)} {u_event : (Nat → Int32)} {u_book : (Nat → Int32)} {z : (Int32 × Int32 × (Nat → Int32))} (hret : RT p l e R s m args below meth c Q D A cX9_image (some .int) [(q_, .inr (9, [.int u_people, .ref q_owes, .ref q_denies, .int u_debts, .ref q_debt, .int u_cuts, .ref q_cut, .int u_seen, .ref q_sight, .int u_events, .ref q_event, .int u_inBook, .ref q_book, .int u_texted, .ref q_text, .ref q_path, .int u_rule, .int u_rings, .int u_size, .int u_least, .long u_worth, .ref q_ring, .ref q_balance, .ref q_left, .ref q_sum, .ref q_parts, .int u_groups, .ref q_group, .int u_paid, .ref q_payment, .ref q_then, .int z.2.1, .ref q_image, .ref q_tapeSort, .ref q_tapeSize, .ref q_items])), (q_owes, .inl (C 0, 36, .inl u_owes)), (q_denies, .inl (C 0, 36, .inl u_denies)), (q_debt, .inl (C 0, 30, .inl u_debt)), (q_cut, .inl (C 0, 120, .inl u_cut)), (q_sight, .inl (C 0, 15, .inl u_sight)), (q_event, .inl (C 0, 16, .inl u_event)), (q_book, .inl (C 0, 24, .inl u_book)), (q_image, .inl (C 0, 284, .inl z.2.2))] (some (.int z.1))) {k194 : (Nat → Int32) → Option (Int32 × Int32 × (Nat → Int32))} (hk194 : ∀ (u_image : (Nat → Int32)) (H : Heap) (locs : List Loc) (ls : Array Slot), k194 u_image = some z → HW D A s.heap H locs [(q_, .inr (9, [.int u_people, .ref q_owes, .ref q_denies, .int u_debts, .ref q_debt, .int u_cuts, .ref q_cut, .int u_seen, .ref q_sight, .int u_events, .ref q_event, .int u_inBook, .ref q_book, .int u_texted, .ref q_text, .ref q_path, .int u_rule, .int u_rings, .int u_size, .int u_least, .long u_worth, .ref q_ring, .ref q_balance, .ref q_left, .ref q_sum, .ref q_parts, .int u_groups, .ref q_group, .int u_paid, .ref q_payment, .ref q_then, .int u_imaged, .ref q_image, .ref q_tapeSort, .ref q_tapeSize, .ref q_items])), (q_owes, .inl (C 0, 36, .inl u_owes)), (q_denies, .inl (C 0, 36, .inl u_denies)), (q_debt, .inl (C 0, 30, .inl u_debt)), (q_cut, .inl (C 0, 120, .inl u_cut)), (q_sight, .inl (C 0, 15, .inl u_sight)), (q_event, .inl (C 0, 16, .inl u_event)), (q_book, .inl (C 0, 24, .inl u_book)), (q_image, .inl (C 0, 284, .inl u_image))] → lv_has ls 2 [(0, .ref q_)] → W p l e R s m args below meth c H locs 0 0 Q (F0 m 194 ls [])) :
    ∀ (n : Nat) (x1 : Int32) (u_image : (Nat → Int32)) (H : Heap) (locs : List Loc) (ls : Array Slot), fX9_image_L166 k194 u_book n x1 u_image = some z → HW D A s.heap H locs [(q_, .inr (9, [.int u_people, .ref q_owes, .ref q_denies, .int u_debts, .ref q_debt, .int u_cuts, .ref q_cut, .int u_seen, .ref q_sight, .int u_events, .ref q_event, .int u_inBook, .ref q_book, .int u_texted, .ref q_text, .ref q_path, .int u_rule, .int u_rings, .int u_size, .int u_least, .long u_worth, .ref q_ring, .ref q_balance, .ref q_left, .ref q_sum, .ref q_parts, .int u_groups, .ref q_group, .int u_paid, .ref q_payment, .ref q_then, .int u_imaged, .ref q_image, .ref q_tapeSort, .ref q_tapeSize, .ref q_items])), (q_owes, .inl (C 0, 36, .inl u_owes)), (q_denies, .inl (C 0, 36, .inl u_denies)), (q_debt, .inl (C 0, 30, .inl u_debt)), (q_cut, .inl (C 0, 120, .inl u_cut)), (q_sight, .inl (C 0, 15, .inl u_sight)), (q_event, .inl (C 0, 16, .inl u_event)), (q_book, .inl (C 0, 24, .inl u_book)), (q_image, .inl (C 0, 284, .inl u_image))] → lv_has ls 2 [(0, .ref q_), (1, .int x1)] → W p l e R s m args below meth c H locs 0 0 Q (F0 m 166 ls []) := by
  have hx := cx.1
  have hb := cx.2.1
  intro n
  induction n with
  | zero => intro x1 u_image H locs ls hF; cases hF
  | succ n ih =>
    intro x1 u_image H locs ls hF hw hl
    rw [fX9_image_L166.eq_2] at hF
    refine lv_iload_n hx hb dX9_image_166 rfl (lv_at hl 1 rfl) ?_
    refine lv_bipush (v := 24) hx hb dX9_image_167 (by decide) ?_
    refine lv_icmp_ge (tgt := 194) hx hb dX9_image_169 (by decide) (fun c23 => ?_) (fun c23 => ?_)
    · replace hF := oi_t c23 hF
      exact hk194 u_image H locs ls hF hw (lv_sub hl [0] rfl)
    · replace hF := oi_f c23 hF
      refine lv_aload_n hx hb dX9_image_172 rfl (lv_at hl 0 rfl) ?_
      refine r_get (ci := 9) (v := .ref q_image) cx hw iX9 0 32 rfl rfl (by decide) wf_X9_63 rfl dX9_image_173 ?_
      refine lv_sipush (v := 253) hx hb dX9_image_176 (by decide) ?_
      refine lv_iload_n hx hb dX9_image_179 rfl (lv_at hl 1 rfl) ?_
      refine lv_iadd hx hb dX9_image_180 ?_
      refine lv_aload_n hx hb dX9_image_181 rfl (lv_at hl 0 rfl) ?_
      refine r_get (ci := 9) (v := .ref q_book) cx hw iX9 0 12 rfl rfl (by decide) wf_X9_30 rfl dX9_image_182 ?_
      refine lv_iload_n hx hb dX9_image_185 rfl (lv_at hl 1 rfl) ?_
      obtain ⟨g24, hF⟩ := gA_s hF
      refine r_iald cx hw 7 rfl g24 dX9_image_186 ?_
      obtain ⟨g25, hF⟩ := gA_s hF
      refine r_iast (w2 := [(q_, .inr (9, [.int u_people, .ref q_owes, .ref q_denies, .int u_debts, .ref q_debt, .int u_cuts, .ref q_cut, .int u_seen, .ref q_sight, .int u_events, .ref q_event, .int u_inBook, .ref q_book, .int u_texted, .ref q_text, .ref q_path, .int u_rule, .int u_rings, .int u_size, .int u_least, .long u_worth, .ref q_ring, .ref q_balance, .ref q_left, .ref q_sum, .ref q_parts, .int u_groups, .ref q_group, .int u_paid, .ref q_payment, .ref q_then, .int u_imaged, .ref q_image, .ref q_tapeSort, .ref q_tapeSize, .ref q_items])), (q_owes, .inl (C 0, 36, .inl u_owes)), (q_denies, .inl (C 0, 36, .inl u_denies)), (q_debt, .inl (C 0, 30, .inl u_debt)), (q_cut, .inl (C 0, 120, .inl u_cut)), (q_sight, .inl (C 0, 15, .inl u_sight)), (q_event, .inl (C 0, 16, .inl u_event)), (q_book, .inl (C 0, 24, .inl u_book)), (q_image, .inl (C 0, 284, .inl (upd u_image (253 + x1 : Int32).toNatClampNeg (u_book (x1).toNatClampNeg))))]) cx hw 8 rfl g25 dX9_image_187 rfl (fun H locs hw => ?_)
      refine lv_iinc (v := x1 + 1) (lv' := [(1, .int (x1 + 1)), (0, .ref q_)]) hx hb dX9_image_188 hl (k := 1) rfl rfl (by decide) rfl (fun ls hl => ?_)
      refine lv_goto (tgt := 166) hx hb dX9_image_191 (by decide) ?_
      exact ih (x1 + 1) (upd u_image (253 + x1 : Int32).toNatClampNeg (u_book (x1).toNatClampNeg)) H locs ls hF hw (lv_sub hl [1, 0] rfl)
set_option maxRecDepth 20000 in
theorem CX9_image (l : Launch) (D : va_G) (C : Nat → ClassId) (q_ q_owes q_denies q_debt q_cut q_sight q_event q_book q_text q_path q_ring q_balance q_left q_sum q_parts q_group q_payment q_then q_image q_tapeSort q_tapeSize q_items : Nat) (u_people : Int32) (u_debts : Int32) (u_cuts : Int32) (u_seen : Int32) (u_events : Int32) (u_inBook : Int32) (u_texted : Int32) (u_rule : Int32) (u_rings : Int32) (u_size : Int32) (u_least : Int32) (u_worth : Int64) (u_groups : Int32) (u_paid : Int32) (u_imaged : Int32) (u_owes : (Nat → Int32)) (u_denies : (Nat → Int32)) (u_debt : (Nat → Int32)) (u_cut : (Nat → Int32)) (u_sight : (Nat → Int32)) (u_event : (Nat → Int32)) (u_book : (Nat → Int32)) (u_image : (Nat → Int32)) (z : (Int32 × Int32 × (Nat → Int32))) (hF : fX9_image u_people u_debts u_cuts u_seen u_events u_inBook u_owes u_denies u_debt u_cut u_sight u_event u_book u_image = some z) : Ct l yX9_image cX9_image 2 (some .int) 1 D C [.ref q_] [(q_, .inr (9, [.int u_people, .ref q_owes, .ref q_denies, .int u_debts, .ref q_debt, .int u_cuts, .ref q_cut, .int u_seen, .ref q_sight, .int u_events, .ref q_event, .int u_inBook, .ref q_book, .int u_texted, .ref q_text, .ref q_path, .int u_rule, .int u_rings, .int u_size, .int u_least, .long u_worth, .ref q_ring, .ref q_balance, .ref q_left, .ref q_sum, .ref q_parts, .int u_groups, .ref q_group, .int u_paid, .ref q_payment, .ref q_then, .int u_imaged, .ref q_image, .ref q_tapeSort, .ref q_tapeSize, .ref q_items])), (q_owes, .inl (C 0, 36, .inl u_owes)), (q_denies, .inl (C 0, 36, .inl u_denies)), (q_debt, .inl (C 0, 30, .inl u_debt)), (q_cut, .inl (C 0, 120, .inl u_cut)), (q_sight, .inl (C 0, 15, .inl u_sight)), (q_event, .inl (C 0, 16, .inl u_event)), (q_book, .inl (C 0, 24, .inl u_book)), (q_image, .inl (C 0, 284, .inl u_image))] [(q_, .inr (9, [.int u_people, .ref q_owes, .ref q_denies, .int u_debts, .ref q_debt, .int u_cuts, .ref q_cut, .int u_seen, .ref q_sight, .int u_events, .ref q_event, .int u_inBook, .ref q_book, .int u_texted, .ref q_text, .ref q_path, .int u_rule, .int u_rings, .int u_size, .int u_least, .long u_worth, .ref q_ring, .ref q_balance, .ref q_left, .ref q_sum, .ref q_parts, .int u_groups, .ref q_group, .int u_paid, .ref q_payment, .ref q_then, .int z.2.1, .ref q_image, .ref q_tapeSort, .ref q_tapeSize, .ref q_items])), (q_owes, .inl (C 0, 36, .inl u_owes)), (q_denies, .inl (C 0, 36, .inl u_denies)), (q_debt, .inl (C 0, 30, .inl u_debt)), (q_cut, .inl (C 0, 120, .inl u_cut)), (q_sight, .inl (C 0, 15, .inl u_sight)), (q_event, .inl (C 0, 16, .inl u_event)), (q_book, .inl (C 0, 24, .inl u_book)), (q_image, .inl (C 0, 284, .inl z.2.2))] (some (.int z.1)) := by
  refine Ct_of (by decide) (Nat.le_of_ble_eq_true rfl) ?_
  intro p e R s m args below meth c A Q H locs ls cx hw hl hret
  have cx : CX p m c s args RX9 cX9_image 2 D C A R 1 := cx
  have hx := cx.1
  have hb := cx.2.1
  have hl : lv_has ls 2 [(0, .ref q_)] := hl
  rw [fX9_image.eq_1] at hF
  refine lv_aload_n hx hb dX9_image_0 rfl (lv_at hl 0 rfl) ?_
  refine lv_iconst (v := 1) hx hb dX9_image_1 (by decide) ?_
  refine r_put (ci := 9) (w2 := [(q_, .inr (9, [.int u_people, .ref q_owes, .ref q_denies, .int u_debts, .ref q_debt, .int u_cuts, .ref q_cut, .int u_seen, .ref q_sight, .int u_events, .ref q_event, .int u_inBook, .ref q_book, .int u_texted, .ref q_text, .ref q_path, .int u_rule, .int u_rings, .int u_size, .int u_least, .long u_worth, .ref q_ring, .ref q_balance, .ref q_left, .ref q_sum, .ref q_parts, .int u_groups, .ref q_group, .int u_paid, .ref q_payment, .ref q_then, .int 1, .ref q_image, .ref q_tapeSort, .ref q_tapeSize, .ref q_items])), (q_owes, .inl (C 0, 36, .inl u_owes)), (q_denies, .inl (C 0, 36, .inl u_denies)), (q_debt, .inl (C 0, 30, .inl u_debt)), (q_cut, .inl (C 0, 120, .inl u_cut)), (q_sight, .inl (C 0, 15, .inl u_sight)), (q_event, .inl (C 0, 16, .inl u_event)), (q_book, .inl (C 0, 24, .inl u_book)), (q_image, .inl (C 0, 284, .inl u_image))]) cx hw iX9 tyX9_ok nmX9 0 31 rfl rfl (by decide) wf_X9_271 rfl rfl rfl rfl (Nat.le_of_ble_eq_true rfl) dX9_image_2 rfl (fun H locs hw => ?_)
  refine lv_iconst (v := 0) hx hb dX9_image_5 (by decide) ?_
  refine lv_istore_n (lv' := [(1, .int 0), (0, .ref q_)]) hx hb dX9_image_6 rfl hl (by decide) rfl (fun ls hl => ?_)
  refine LX9_image_7 cx hret (fun u_image_6 H locs ls hF hw hl => ?_) 400 0 u_image H locs ls hF hw (lv_sub hl [1, 0] rfl)
  · refine lv_iconst (v := 0) hx hb dX9_image_46 (by decide) ?_
    refine lv_istore_n (lv' := [(1, .int 0), (0, .ref q_)]) hx hb dX9_image_47 rfl hl (by decide) rfl (fun ls hl => ?_)
    refine LX9_image_48 cx hret (fun u_image_10 H locs ls hF hw hl => ?_) 400 0 u_image_6 H locs ls hF hw (lv_sub hl [1, 0] rfl)
    · refine lv_iconst (v := 0) hx hb dX9_image_75 (by decide) ?_
      refine lv_istore_n (lv' := [(1, .int 0), (0, .ref q_)]) hx hb dX9_image_76 rfl hl (by decide) rfl (fun ls hl => ?_)
      refine LX9_image_77 cx hret (fun u_image_14 H locs ls hF hw hl => ?_) 400 0 u_image_10 H locs ls hF hw (lv_sub hl [1, 0] rfl)
      · refine lv_iconst (v := 0) hx hb dX9_image_104 (by decide) ?_
        refine lv_istore_n (lv' := [(1, .int 0), (0, .ref q_)]) hx hb dX9_image_105 rfl hl (by decide) rfl (fun ls hl => ?_)
        refine LX9_image_106 cx hret (fun u_image_18 H locs ls hF hw hl => ?_) 400 0 u_image_14 H locs ls hF hw (lv_sub hl [1, 0] rfl)
        · refine lv_iconst (v := 0) hx hb dX9_image_134 (by decide) ?_
          refine lv_istore_n (lv' := [(1, .int 0), (0, .ref q_)]) hx hb dX9_image_135 rfl hl (by decide) rfl (fun ls hl => ?_)
          refine LX9_image_136 cx hret (fun u_image_22 H locs ls hF hw hl => ?_) 400 0 u_image_18 H locs ls hF hw (lv_sub hl [1, 0] rfl)
          · refine lv_iconst (v := 0) hx hb dX9_image_164 (by decide) ?_
            refine lv_istore_n (lv' := [(1, .int 0), (0, .ref q_)]) hx hb dX9_image_165 rfl hl (by decide) rfl (fun ls hl => ?_)
            refine LX9_image_166 cx hret (fun u_image_26 H locs ls hF hw hl => ?_) 400 0 u_image_22 H locs ls hF hw (lv_sub hl [1, 0] rfl)
            · refine lv_aload_n hx hb dX9_image_194 rfl (lv_at hl 0 rfl) ?_
              refine r_get (ci := 9) (v := .ref q_image) cx hw iX9 0 32 rfl rfl (by decide) wf_X9_63 rfl dX9_image_195 ?_
              refine lv_sipush (v := 277) hx hb dX9_image_198 (by decide) ?_
              refine lv_aload_n hx hb dX9_image_201 rfl (lv_at hl 0 rfl) ?_
              refine r_get (ci := 9) (v := .int u_people) cx hw iX9 0 0 rfl rfl (by decide) wf_X9_76 rfl dX9_image_202 ?_
              obtain ⟨g27, hF⟩ := gA_s hF
              refine r_iast (w2 := [(q_, .inr (9, [.int u_people, .ref q_owes, .ref q_denies, .int u_debts, .ref q_debt, .int u_cuts, .ref q_cut, .int u_seen, .ref q_sight, .int u_events, .ref q_event, .int u_inBook, .ref q_book, .int u_texted, .ref q_text, .ref q_path, .int u_rule, .int u_rings, .int u_size, .int u_least, .long u_worth, .ref q_ring, .ref q_balance, .ref q_left, .ref q_sum, .ref q_parts, .int u_groups, .ref q_group, .int u_paid, .ref q_payment, .ref q_then, .int 1, .ref q_image, .ref q_tapeSort, .ref q_tapeSize, .ref q_items])), (q_owes, .inl (C 0, 36, .inl u_owes)), (q_denies, .inl (C 0, 36, .inl u_denies)), (q_debt, .inl (C 0, 30, .inl u_debt)), (q_cut, .inl (C 0, 120, .inl u_cut)), (q_sight, .inl (C 0, 15, .inl u_sight)), (q_event, .inl (C 0, 16, .inl u_event)), (q_book, .inl (C 0, 24, .inl u_book)), (q_image, .inl (C 0, 284, .inl (upd u_image_26 (277 : Int32).toNatClampNeg u_people)))]) cx hw 8 rfl g27 dX9_image_205 rfl (fun H locs hw => ?_)
              refine lv_aload_n hx hb dX9_image_206 rfl (lv_at hl 0 rfl) ?_
              refine r_get (ci := 9) (v := .ref q_image) cx hw iX9 0 32 rfl rfl (by decide) wf_X9_63 rfl dX9_image_207 ?_
              refine lv_sipush (v := 278) hx hb dX9_image_210 (by decide) ?_
              refine lv_aload_n hx hb dX9_image_213 rfl (lv_at hl 0 rfl) ?_
              refine r_get (ci := 9) (v := .int u_debts) cx hw iX9 0 3 rfl rfl (by decide) wf_X9_88 rfl dX9_image_214 ?_
              obtain ⟨g28, hF⟩ := gA_s hF
              refine r_iast (w2 := [(q_, .inr (9, [.int u_people, .ref q_owes, .ref q_denies, .int u_debts, .ref q_debt, .int u_cuts, .ref q_cut, .int u_seen, .ref q_sight, .int u_events, .ref q_event, .int u_inBook, .ref q_book, .int u_texted, .ref q_text, .ref q_path, .int u_rule, .int u_rings, .int u_size, .int u_least, .long u_worth, .ref q_ring, .ref q_balance, .ref q_left, .ref q_sum, .ref q_parts, .int u_groups, .ref q_group, .int u_paid, .ref q_payment, .ref q_then, .int 1, .ref q_image, .ref q_tapeSort, .ref q_tapeSize, .ref q_items])), (q_owes, .inl (C 0, 36, .inl u_owes)), (q_denies, .inl (C 0, 36, .inl u_denies)), (q_debt, .inl (C 0, 30, .inl u_debt)), (q_cut, .inl (C 0, 120, .inl u_cut)), (q_sight, .inl (C 0, 15, .inl u_sight)), (q_event, .inl (C 0, 16, .inl u_event)), (q_book, .inl (C 0, 24, .inl u_book)), (q_image, .inl (C 0, 284, .inl (upd (upd u_image_26 (277 : Int32).toNatClampNeg u_people) (278 : Int32).toNatClampNeg u_debts)))]) cx hw 8 rfl g28 dX9_image_217 rfl (fun H locs hw => ?_)
              refine lv_aload_n hx hb dX9_image_218 rfl (lv_at hl 0 rfl) ?_
              refine r_get (ci := 9) (v := .ref q_image) cx hw iX9 0 32 rfl rfl (by decide) wf_X9_63 rfl dX9_image_219 ?_
              refine lv_sipush (v := 279) hx hb dX9_image_222 (by decide) ?_
              refine lv_aload_n hx hb dX9_image_225 rfl (lv_at hl 0 rfl) ?_
              refine r_get (ci := 9) (v := .int u_cuts) cx hw iX9 0 5 rfl rfl (by decide) wf_X9_168 rfl dX9_image_226 ?_
              obtain ⟨g29, hF⟩ := gA_s hF
              refine r_iast (w2 := [(q_, .inr (9, [.int u_people, .ref q_owes, .ref q_denies, .int u_debts, .ref q_debt, .int u_cuts, .ref q_cut, .int u_seen, .ref q_sight, .int u_events, .ref q_event, .int u_inBook, .ref q_book, .int u_texted, .ref q_text, .ref q_path, .int u_rule, .int u_rings, .int u_size, .int u_least, .long u_worth, .ref q_ring, .ref q_balance, .ref q_left, .ref q_sum, .ref q_parts, .int u_groups, .ref q_group, .int u_paid, .ref q_payment, .ref q_then, .int 1, .ref q_image, .ref q_tapeSort, .ref q_tapeSize, .ref q_items])), (q_owes, .inl (C 0, 36, .inl u_owes)), (q_denies, .inl (C 0, 36, .inl u_denies)), (q_debt, .inl (C 0, 30, .inl u_debt)), (q_cut, .inl (C 0, 120, .inl u_cut)), (q_sight, .inl (C 0, 15, .inl u_sight)), (q_event, .inl (C 0, 16, .inl u_event)), (q_book, .inl (C 0, 24, .inl u_book)), (q_image, .inl (C 0, 284, .inl (upd (upd (upd u_image_26 (277 : Int32).toNatClampNeg u_people) (278 : Int32).toNatClampNeg u_debts) (279 : Int32).toNatClampNeg u_cuts)))]) cx hw 8 rfl g29 dX9_image_229 rfl (fun H locs hw => ?_)
              refine lv_aload_n hx hb dX9_image_230 rfl (lv_at hl 0 rfl) ?_
              refine r_get (ci := 9) (v := .ref q_image) cx hw iX9 0 32 rfl rfl (by decide) wf_X9_63 rfl dX9_image_231 ?_
              refine lv_sipush (v := 280) hx hb dX9_image_234 (by decide) ?_
              refine lv_aload_n hx hb dX9_image_237 rfl (lv_at hl 0 rfl) ?_
              refine r_get (ci := 9) (v := .int u_seen) cx hw iX9 0 7 rfl rfl (by decide) wf_X9_233 rfl dX9_image_238 ?_
              obtain ⟨g30, hF⟩ := gA_s hF
              refine r_iast (w2 := [(q_, .inr (9, [.int u_people, .ref q_owes, .ref q_denies, .int u_debts, .ref q_debt, .int u_cuts, .ref q_cut, .int u_seen, .ref q_sight, .int u_events, .ref q_event, .int u_inBook, .ref q_book, .int u_texted, .ref q_text, .ref q_path, .int u_rule, .int u_rings, .int u_size, .int u_least, .long u_worth, .ref q_ring, .ref q_balance, .ref q_left, .ref q_sum, .ref q_parts, .int u_groups, .ref q_group, .int u_paid, .ref q_payment, .ref q_then, .int 1, .ref q_image, .ref q_tapeSort, .ref q_tapeSize, .ref q_items])), (q_owes, .inl (C 0, 36, .inl u_owes)), (q_denies, .inl (C 0, 36, .inl u_denies)), (q_debt, .inl (C 0, 30, .inl u_debt)), (q_cut, .inl (C 0, 120, .inl u_cut)), (q_sight, .inl (C 0, 15, .inl u_sight)), (q_event, .inl (C 0, 16, .inl u_event)), (q_book, .inl (C 0, 24, .inl u_book)), (q_image, .inl (C 0, 284, .inl (upd (upd (upd (upd u_image_26 (277 : Int32).toNatClampNeg u_people) (278 : Int32).toNatClampNeg u_debts) (279 : Int32).toNatClampNeg u_cuts) (280 : Int32).toNatClampNeg u_seen)))]) cx hw 8 rfl g30 dX9_image_241 rfl (fun H locs hw => ?_)
              refine lv_aload_n hx hb dX9_image_242 rfl (lv_at hl 0 rfl) ?_
              refine r_get (ci := 9) (v := .ref q_image) cx hw iX9 0 32 rfl rfl (by decide) wf_X9_63 rfl dX9_image_243 ?_
              refine lv_sipush (v := 281) hx hb dX9_image_246 (by decide) ?_
              refine lv_aload_n hx hb dX9_image_249 rfl (lv_at hl 0 rfl) ?_
              refine r_get (ci := 9) (v := .int u_events) cx hw iX9 0 9 rfl rfl (by decide) wf_X9_255 rfl dX9_image_250 ?_
              obtain ⟨g31, hF⟩ := gA_s hF
              refine r_iast (w2 := [(q_, .inr (9, [.int u_people, .ref q_owes, .ref q_denies, .int u_debts, .ref q_debt, .int u_cuts, .ref q_cut, .int u_seen, .ref q_sight, .int u_events, .ref q_event, .int u_inBook, .ref q_book, .int u_texted, .ref q_text, .ref q_path, .int u_rule, .int u_rings, .int u_size, .int u_least, .long u_worth, .ref q_ring, .ref q_balance, .ref q_left, .ref q_sum, .ref q_parts, .int u_groups, .ref q_group, .int u_paid, .ref q_payment, .ref q_then, .int 1, .ref q_image, .ref q_tapeSort, .ref q_tapeSize, .ref q_items])), (q_owes, .inl (C 0, 36, .inl u_owes)), (q_denies, .inl (C 0, 36, .inl u_denies)), (q_debt, .inl (C 0, 30, .inl u_debt)), (q_cut, .inl (C 0, 120, .inl u_cut)), (q_sight, .inl (C 0, 15, .inl u_sight)), (q_event, .inl (C 0, 16, .inl u_event)), (q_book, .inl (C 0, 24, .inl u_book)), (q_image, .inl (C 0, 284, .inl (upd (upd (upd (upd (upd u_image_26 (277 : Int32).toNatClampNeg u_people) (278 : Int32).toNatClampNeg u_debts) (279 : Int32).toNatClampNeg u_cuts) (280 : Int32).toNatClampNeg u_seen) (281 : Int32).toNatClampNeg u_events)))]) cx hw 8 rfl g31 dX9_image_253 rfl (fun H locs hw => ?_)
              refine lv_aload_n hx hb dX9_image_254 rfl (lv_at hl 0 rfl) ?_
              refine r_get (ci := 9) (v := .ref q_image) cx hw iX9 0 32 rfl rfl (by decide) wf_X9_63 rfl dX9_image_255 ?_
              refine lv_sipush (v := 282) hx hb dX9_image_258 (by decide) ?_
              refine lv_aload_n hx hb dX9_image_261 rfl (lv_at hl 0 rfl) ?_
              refine r_get (ci := 9) (v := .int u_inBook) cx hw iX9 0 11 rfl rfl (by decide) wf_X9_261 rfl dX9_image_262 ?_
              obtain ⟨g32, hF⟩ := gA_s hF
              refine r_iast (w2 := [(q_, .inr (9, [.int u_people, .ref q_owes, .ref q_denies, .int u_debts, .ref q_debt, .int u_cuts, .ref q_cut, .int u_seen, .ref q_sight, .int u_events, .ref q_event, .int u_inBook, .ref q_book, .int u_texted, .ref q_text, .ref q_path, .int u_rule, .int u_rings, .int u_size, .int u_least, .long u_worth, .ref q_ring, .ref q_balance, .ref q_left, .ref q_sum, .ref q_parts, .int u_groups, .ref q_group, .int u_paid, .ref q_payment, .ref q_then, .int 1, .ref q_image, .ref q_tapeSort, .ref q_tapeSize, .ref q_items])), (q_owes, .inl (C 0, 36, .inl u_owes)), (q_denies, .inl (C 0, 36, .inl u_denies)), (q_debt, .inl (C 0, 30, .inl u_debt)), (q_cut, .inl (C 0, 120, .inl u_cut)), (q_sight, .inl (C 0, 15, .inl u_sight)), (q_event, .inl (C 0, 16, .inl u_event)), (q_book, .inl (C 0, 24, .inl u_book)), (q_image, .inl (C 0, 284, .inl (upd (upd (upd (upd (upd (upd u_image_26 (277 : Int32).toNatClampNeg u_people) (278 : Int32).toNatClampNeg u_debts) (279 : Int32).toNatClampNeg u_cuts) (280 : Int32).toNatClampNeg u_seen) (281 : Int32).toNatClampNeg u_events) (282 : Int32).toNatClampNeg u_inBook)))]) cx hw 8 rfl g32 dX9_image_265 rfl (fun H locs hw => ?_)
              refine lv_aload_n hx hb dX9_image_266 rfl (lv_at hl 0 rfl) ?_
              refine r_get (ci := 9) (v := .int u_people) cx hw iX9 0 0 rfl rfl (by decide) wf_X9_76 rfl dX9_image_267 ?_
              obtain rfl := Option.some.inj hF
              exact rt_i hret hw rfl dX9_image_270
theorem dX9_undo_0 : decode cX9_undo 0 = .ok (.aload_n 0, 1) := by decide +kernel
theorem dX9_undo_1 : decode cX9_undo 1 = .ok (.getfield 271, 3) := by decide +kernel
theorem dX9_undo_4 : decode cX9_undo 4 = .ok (.ifCond .ne 6, 3) := by decide +kernel
theorem dX9_undo_7 : decode cX9_undo 7 = .ok (.bipush (-3), 2) := by decide +kernel
theorem dX9_undo_9 : decode cX9_undo 9 = .ok (.ireturn, 1) := by decide +kernel
theorem dX9_undo_10 : decode cX9_undo 10 = .ok (.iconst 0, 1) := by decide +kernel
theorem dX9_undo_11 : decode cX9_undo 11 = .ok (.istore_n 1, 1) := by decide +kernel
theorem dX9_undo_12 : decode cX9_undo 12 = .ok (.iload_n 1, 1) := by decide +kernel
theorem dX9_undo_13 : decode cX9_undo 13 = .ok (.bipush 36, 2) := by decide +kernel
theorem dX9_undo_15 : decode cX9_undo 15 = .ok (.if_icmp .ge 36, 3) := by decide +kernel
theorem dX9_undo_18 : decode cX9_undo 18 = .ok (.aload_n 0, 1) := by decide +kernel
theorem dX9_undo_19 : decode cX9_undo 19 = .ok (.getfield 9, 3) := by decide +kernel
theorem dX9_undo_22 : decode cX9_undo 22 = .ok (.iload_n 1, 1) := by decide +kernel
theorem dX9_undo_23 : decode cX9_undo 23 = .ok (.aload_n 0, 1) := by decide +kernel
theorem dX9_undo_24 : decode cX9_undo 24 = .ok (.getfield 63, 3) := by decide +kernel
theorem dX9_undo_27 : decode cX9_undo 27 = .ok (.iload_n 1, 1) := by decide +kernel
theorem dX9_undo_28 : decode cX9_undo 28 = .ok (.iaload, 1) := by decide +kernel
theorem dX9_undo_29 : decode cX9_undo 29 = .ok (.iastore, 1) := by decide +kernel
theorem dX9_undo_30 : decode cX9_undo 30 = .ok (.aload_n 0, 1) := by decide +kernel
theorem dX9_undo_31 : decode cX9_undo 31 = .ok (.getfield 15, 3) := by decide +kernel
theorem dX9_undo_34 : decode cX9_undo 34 = .ok (.iload_n 1, 1) := by decide +kernel
theorem dX9_undo_35 : decode cX9_undo 35 = .ok (.aload_n 0, 1) := by decide +kernel
theorem dX9_undo_36 : decode cX9_undo 36 = .ok (.getfield 63, 3) := by decide +kernel
theorem dX9_undo_39 : decode cX9_undo 39 = .ok (.bipush 36, 2) := by decide +kernel
theorem dX9_undo_41 : decode cX9_undo 41 = .ok (.iload_n 1, 1) := by decide +kernel
theorem dX9_undo_42 : decode cX9_undo 42 = .ok (.iadd, 1) := by decide +kernel
theorem dX9_undo_43 : decode cX9_undo 43 = .ok (.iaload, 1) := by decide +kernel
theorem dX9_undo_44 : decode cX9_undo 44 = .ok (.iastore, 1) := by decide +kernel
theorem dX9_undo_45 : decode cX9_undo 45 = .ok (.iinc 1 1, 3) := by decide +kernel
theorem dX9_undo_48 : decode cX9_undo 48 = .ok (.goto (-36), 3) := by decide +kernel
theorem dX9_undo_51 : decode cX9_undo 51 = .ok (.iconst 0, 1) := by decide +kernel
theorem dX9_undo_52 : decode cX9_undo 52 = .ok (.istore_n 1, 1) := by decide +kernel
theorem dX9_undo_53 : decode cX9_undo 53 = .ok (.iload_n 1, 1) := by decide +kernel
theorem dX9_undo_54 : decode cX9_undo 54 = .ok (.bipush 30, 2) := by decide +kernel
theorem dX9_undo_56 : decode cX9_undo 56 = .ok (.if_icmp .ge 24, 3) := by decide +kernel
theorem dX9_undo_59 : decode cX9_undo 59 = .ok (.aload_n 0, 1) := by decide +kernel
theorem dX9_undo_60 : decode cX9_undo 60 = .ok (.getfield 18, 3) := by decide +kernel
theorem dX9_undo_63 : decode cX9_undo 63 = .ok (.iload_n 1, 1) := by decide +kernel
theorem dX9_undo_64 : decode cX9_undo 64 = .ok (.aload_n 0, 1) := by decide +kernel
theorem dX9_undo_65 : decode cX9_undo 65 = .ok (.getfield 63, 3) := by decide +kernel
theorem dX9_undo_68 : decode cX9_undo 68 = .ok (.bipush 72, 2) := by decide +kernel
theorem dX9_undo_70 : decode cX9_undo 70 = .ok (.iload_n 1, 1) := by decide +kernel
theorem dX9_undo_71 : decode cX9_undo 71 = .ok (.iadd, 1) := by decide +kernel
theorem dX9_undo_72 : decode cX9_undo 72 = .ok (.iaload, 1) := by decide +kernel
theorem dX9_undo_73 : decode cX9_undo 73 = .ok (.iastore, 1) := by decide +kernel
theorem dX9_undo_74 : decode cX9_undo 74 = .ok (.iinc 1 1, 3) := by decide +kernel
theorem dX9_undo_77 : decode cX9_undo 77 = .ok (.goto (-24), 3) := by decide +kernel
theorem dX9_undo_80 : decode cX9_undo 80 = .ok (.iconst 0, 1) := by decide +kernel
theorem dX9_undo_81 : decode cX9_undo 81 = .ok (.istore_n 1, 1) := by decide +kernel
theorem dX9_undo_82 : decode cX9_undo 82 = .ok (.iload_n 1, 1) := by decide +kernel
theorem dX9_undo_83 : decode cX9_undo 83 = .ok (.bipush 120, 2) := by decide +kernel
theorem dX9_undo_85 : decode cX9_undo 85 = .ok (.if_icmp .ge 24, 3) := by decide +kernel
theorem dX9_undo_88 : decode cX9_undo 88 = .ok (.aload_n 0, 1) := by decide +kernel
theorem dX9_undo_89 : decode cX9_undo 89 = .ok (.getfield 21, 3) := by decide +kernel
theorem dX9_undo_92 : decode cX9_undo 92 = .ok (.iload_n 1, 1) := by decide +kernel
theorem dX9_undo_93 : decode cX9_undo 93 = .ok (.aload_n 0, 1) := by decide +kernel
theorem dX9_undo_94 : decode cX9_undo 94 = .ok (.getfield 63, 3) := by decide +kernel
theorem dX9_undo_97 : decode cX9_undo 97 = .ok (.bipush 102, 2) := by decide +kernel
theorem dX9_undo_99 : decode cX9_undo 99 = .ok (.iload_n 1, 1) := by decide +kernel
theorem dX9_undo_100 : decode cX9_undo 100 = .ok (.iadd, 1) := by decide +kernel
theorem dX9_undo_101 : decode cX9_undo 101 = .ok (.iaload, 1) := by decide +kernel
theorem dX9_undo_102 : decode cX9_undo 102 = .ok (.iastore, 1) := by decide +kernel
theorem dX9_undo_103 : decode cX9_undo 103 = .ok (.iinc 1 1, 3) := by decide +kernel
theorem dX9_undo_106 : decode cX9_undo 106 = .ok (.goto (-24), 3) := by decide +kernel
theorem dX9_undo_109 : decode cX9_undo 109 = .ok (.iconst 0, 1) := by decide +kernel
theorem dX9_undo_110 : decode cX9_undo 110 = .ok (.istore_n 1, 1) := by decide +kernel
theorem dX9_undo_111 : decode cX9_undo 111 = .ok (.iload_n 1, 1) := by decide +kernel
theorem dX9_undo_112 : decode cX9_undo 112 = .ok (.bipush 15, 2) := by decide +kernel
theorem dX9_undo_114 : decode cX9_undo 114 = .ok (.if_icmp .ge 25, 3) := by decide +kernel
theorem dX9_undo_117 : decode cX9_undo 117 = .ok (.aload_n 0, 1) := by decide +kernel
theorem dX9_undo_118 : decode cX9_undo 118 = .ok (.getfield 24, 3) := by decide +kernel
theorem dX9_undo_121 : decode cX9_undo 121 = .ok (.iload_n 1, 1) := by decide +kernel
theorem dX9_undo_122 : decode cX9_undo 122 = .ok (.aload_n 0, 1) := by decide +kernel
theorem dX9_undo_123 : decode cX9_undo 123 = .ok (.getfield 63, 3) := by decide +kernel
theorem dX9_undo_126 : decode cX9_undo 126 = .ok (.sipush 222, 3) := by decide +kernel
theorem dX9_undo_129 : decode cX9_undo 129 = .ok (.iload_n 1, 1) := by decide +kernel
theorem dX9_undo_130 : decode cX9_undo 130 = .ok (.iadd, 1) := by decide +kernel
theorem dX9_undo_131 : decode cX9_undo 131 = .ok (.iaload, 1) := by decide +kernel
theorem dX9_undo_132 : decode cX9_undo 132 = .ok (.iastore, 1) := by decide +kernel
theorem dX9_undo_133 : decode cX9_undo 133 = .ok (.iinc 1 1, 3) := by decide +kernel
theorem dX9_undo_136 : decode cX9_undo 136 = .ok (.goto (-25), 3) := by decide +kernel
theorem dX9_undo_139 : decode cX9_undo 139 = .ok (.iconst 0, 1) := by decide +kernel
theorem dX9_undo_140 : decode cX9_undo 140 = .ok (.istore_n 1, 1) := by decide +kernel
theorem dX9_undo_141 : decode cX9_undo 141 = .ok (.iload_n 1, 1) := by decide +kernel
theorem dX9_undo_142 : decode cX9_undo 142 = .ok (.bipush 16, 2) := by decide +kernel
theorem dX9_undo_144 : decode cX9_undo 144 = .ok (.if_icmp .ge 25, 3) := by decide +kernel
theorem dX9_undo_147 : decode cX9_undo 147 = .ok (.aload_n 0, 1) := by decide +kernel
theorem dX9_undo_148 : decode cX9_undo 148 = .ok (.getfield 27, 3) := by decide +kernel
theorem dX9_undo_151 : decode cX9_undo 151 = .ok (.iload_n 1, 1) := by decide +kernel
theorem dX9_undo_152 : decode cX9_undo 152 = .ok (.aload_n 0, 1) := by decide +kernel
theorem dX9_undo_153 : decode cX9_undo 153 = .ok (.getfield 63, 3) := by decide +kernel
theorem dX9_undo_156 : decode cX9_undo 156 = .ok (.sipush 237, 3) := by decide +kernel
theorem dX9_undo_159 : decode cX9_undo 159 = .ok (.iload_n 1, 1) := by decide +kernel
theorem dX9_undo_160 : decode cX9_undo 160 = .ok (.iadd, 1) := by decide +kernel
theorem dX9_undo_161 : decode cX9_undo 161 = .ok (.iaload, 1) := by decide +kernel
theorem dX9_undo_162 : decode cX9_undo 162 = .ok (.iastore, 1) := by decide +kernel
theorem dX9_undo_163 : decode cX9_undo 163 = .ok (.iinc 1 1, 3) := by decide +kernel
theorem dX9_undo_166 : decode cX9_undo 166 = .ok (.goto (-25), 3) := by decide +kernel
theorem dX9_undo_169 : decode cX9_undo 169 = .ok (.iconst 0, 1) := by decide +kernel
theorem dX9_undo_170 : decode cX9_undo 170 = .ok (.istore_n 1, 1) := by decide +kernel
theorem dX9_undo_171 : decode cX9_undo 171 = .ok (.iload_n 1, 1) := by decide +kernel
theorem dX9_undo_172 : decode cX9_undo 172 = .ok (.bipush 24, 2) := by decide +kernel
theorem dX9_undo_174 : decode cX9_undo 174 = .ok (.if_icmp .ge 25, 3) := by decide +kernel
theorem dX9_undo_177 : decode cX9_undo 177 = .ok (.aload_n 0, 1) := by decide +kernel
theorem dX9_undo_178 : decode cX9_undo 178 = .ok (.getfield 30, 3) := by decide +kernel
theorem dX9_undo_181 : decode cX9_undo 181 = .ok (.iload_n 1, 1) := by decide +kernel
theorem dX9_undo_182 : decode cX9_undo 182 = .ok (.aload_n 0, 1) := by decide +kernel
theorem dX9_undo_183 : decode cX9_undo 183 = .ok (.getfield 63, 3) := by decide +kernel
theorem dX9_undo_186 : decode cX9_undo 186 = .ok (.sipush 253, 3) := by decide +kernel
theorem dX9_undo_189 : decode cX9_undo 189 = .ok (.iload_n 1, 1) := by decide +kernel
theorem dX9_undo_190 : decode cX9_undo 190 = .ok (.iadd, 1) := by decide +kernel
theorem dX9_undo_191 : decode cX9_undo 191 = .ok (.iaload, 1) := by decide +kernel
theorem dX9_undo_192 : decode cX9_undo 192 = .ok (.iastore, 1) := by decide +kernel
theorem dX9_undo_193 : decode cX9_undo 193 = .ok (.iinc 1 1, 3) := by decide +kernel
theorem dX9_undo_196 : decode cX9_undo 196 = .ok (.goto (-25), 3) := by decide +kernel
theorem dX9_undo_199 : decode cX9_undo 199 = .ok (.aload_n 0, 1) := by decide +kernel
theorem dX9_undo_200 : decode cX9_undo 200 = .ok (.aload_n 0, 1) := by decide +kernel
theorem dX9_undo_201 : decode cX9_undo 201 = .ok (.getfield 63, 3) := by decide +kernel
theorem dX9_undo_204 : decode cX9_undo 204 = .ok (.sipush 277, 3) := by decide +kernel
theorem dX9_undo_207 : decode cX9_undo 207 = .ok (.iaload, 1) := by decide +kernel
theorem dX9_undo_208 : decode cX9_undo 208 = .ok (.putfield 76, 3) := by decide +kernel
theorem dX9_undo_211 : decode cX9_undo 211 = .ok (.aload_n 0, 1) := by decide +kernel
theorem dX9_undo_212 : decode cX9_undo 212 = .ok (.aload_n 0, 1) := by decide +kernel
theorem dX9_undo_213 : decode cX9_undo 213 = .ok (.getfield 63, 3) := by decide +kernel
theorem dX9_undo_216 : decode cX9_undo 216 = .ok (.sipush 278, 3) := by decide +kernel
theorem dX9_undo_219 : decode cX9_undo 219 = .ok (.iaload, 1) := by decide +kernel
theorem dX9_undo_220 : decode cX9_undo 220 = .ok (.putfield 88, 3) := by decide +kernel
theorem dX9_undo_223 : decode cX9_undo 223 = .ok (.aload_n 0, 1) := by decide +kernel
theorem dX9_undo_224 : decode cX9_undo 224 = .ok (.aload_n 0, 1) := by decide +kernel
theorem dX9_undo_225 : decode cX9_undo 225 = .ok (.getfield 63, 3) := by decide +kernel
theorem dX9_undo_228 : decode cX9_undo 228 = .ok (.sipush 279, 3) := by decide +kernel
theorem dX9_undo_231 : decode cX9_undo 231 = .ok (.iaload, 1) := by decide +kernel
theorem dX9_undo_232 : decode cX9_undo 232 = .ok (.putfield 168, 3) := by decide +kernel
theorem dX9_undo_235 : decode cX9_undo 235 = .ok (.aload_n 0, 1) := by decide +kernel
theorem dX9_undo_236 : decode cX9_undo 236 = .ok (.aload_n 0, 1) := by decide +kernel
theorem dX9_undo_237 : decode cX9_undo 237 = .ok (.getfield 63, 3) := by decide +kernel
theorem dX9_undo_240 : decode cX9_undo 240 = .ok (.sipush 280, 3) := by decide +kernel
theorem dX9_undo_243 : decode cX9_undo 243 = .ok (.iaload, 1) := by decide +kernel
theorem dX9_undo_244 : decode cX9_undo 244 = .ok (.putfield 233, 3) := by decide +kernel
theorem dX9_undo_247 : decode cX9_undo 247 = .ok (.aload_n 0, 1) := by decide +kernel
theorem dX9_undo_248 : decode cX9_undo 248 = .ok (.aload_n 0, 1) := by decide +kernel
theorem dX9_undo_249 : decode cX9_undo 249 = .ok (.getfield 63, 3) := by decide +kernel
theorem dX9_undo_252 : decode cX9_undo 252 = .ok (.sipush 281, 3) := by decide +kernel
theorem dX9_undo_255 : decode cX9_undo 255 = .ok (.iaload, 1) := by decide +kernel
theorem dX9_undo_256 : decode cX9_undo 256 = .ok (.putfield 255, 3) := by decide +kernel
theorem dX9_undo_259 : decode cX9_undo 259 = .ok (.aload_n 0, 1) := by decide +kernel
theorem dX9_undo_260 : decode cX9_undo 260 = .ok (.aload_n 0, 1) := by decide +kernel
theorem dX9_undo_261 : decode cX9_undo 261 = .ok (.getfield 63, 3) := by decide +kernel
theorem dX9_undo_264 : decode cX9_undo 264 = .ok (.sipush 282, 3) := by decide +kernel
theorem dX9_undo_267 : decode cX9_undo 267 = .ok (.iaload, 1) := by decide +kernel
theorem dX9_undo_268 : decode cX9_undo 268 = .ok (.putfield 261, 3) := by decide +kernel
theorem dX9_undo_271 : decode cX9_undo 271 = .ok (.aload_n 0, 1) := by decide +kernel
theorem dX9_undo_272 : decode cX9_undo 272 = .ok (.getfield 76, 3) := by decide +kernel
theorem dX9_undo_275 : decode cX9_undo 275 = .ok (.ireturn, 1) := by decide +kernel
def fX9_undo_L12 (k51 : (Nat → Int32) → (Nat → Int32) → Option (Int32 × Int32 × Int32 × Int32 × Int32 × Int32 × Int32 × (Nat → Int32) × (Nat → Int32) × (Nat → Int32) × (Nat → Int32) × (Nat → Int32) × (Nat → Int32) × (Nat → Int32))) (u_image : (Nat → Int32)) : Nat → Int32 → (Nat → Int32) → (Nat → Int32) → Option (Int32 × Int32 × Int32 × Int32 × Int32 × Int32 × Int32 × (Nat → Int32) × (Nat → Int32) × (Nat → Int32) × (Nat → Int32) × (Nat → Int32) × (Nat → Int32) × (Nat → Int32))
  | 0, _, _, _ => none
  | n + 1, x1, u_owes, u_denies => if 36 ≤ x1 then (k51 u_owes u_denies) else (gA x1 284 (gA x1 36 (gA (36 + x1) 284 (gA x1 36 (fX9_undo_L12 k51 u_image n (x1 + 1) (upd u_owes (x1 : Int32).toNatClampNeg (u_image (x1).toNatClampNeg)) (upd u_denies (x1 : Int32).toNatClampNeg (u_image (36 + x1).toNatClampNeg)))))))
def fX9_undo_L53 (k80 : (Nat → Int32) → Option (Int32 × Int32 × Int32 × Int32 × Int32 × Int32 × Int32 × (Nat → Int32) × (Nat → Int32) × (Nat → Int32) × (Nat → Int32) × (Nat → Int32) × (Nat → Int32) × (Nat → Int32))) (u_image : (Nat → Int32)) : Nat → Int32 → (Nat → Int32) → Option (Int32 × Int32 × Int32 × Int32 × Int32 × Int32 × Int32 × (Nat → Int32) × (Nat → Int32) × (Nat → Int32) × (Nat → Int32) × (Nat → Int32) × (Nat → Int32) × (Nat → Int32))
  | 0, _, _ => none
  | n + 1, x1, u_debt => if 30 ≤ x1 then (k80 u_debt) else (gA (72 + x1) 284 (gA x1 30 (fX9_undo_L53 k80 u_image n (x1 + 1) (upd u_debt (x1 : Int32).toNatClampNeg (u_image (72 + x1).toNatClampNeg)))))
def fX9_undo_L82 (k109 : (Nat → Int32) → Option (Int32 × Int32 × Int32 × Int32 × Int32 × Int32 × Int32 × (Nat → Int32) × (Nat → Int32) × (Nat → Int32) × (Nat → Int32) × (Nat → Int32) × (Nat → Int32) × (Nat → Int32))) (u_image : (Nat → Int32)) : Nat → Int32 → (Nat → Int32) → Option (Int32 × Int32 × Int32 × Int32 × Int32 × Int32 × Int32 × (Nat → Int32) × (Nat → Int32) × (Nat → Int32) × (Nat → Int32) × (Nat → Int32) × (Nat → Int32) × (Nat → Int32))
  | 0, _, _ => none
  | n + 1, x1, u_cut => if 120 ≤ x1 then (k109 u_cut) else (gA (102 + x1) 284 (gA x1 120 (fX9_undo_L82 k109 u_image n (x1 + 1) (upd u_cut (x1 : Int32).toNatClampNeg (u_image (102 + x1).toNatClampNeg)))))
def fX9_undo_L111 (k139 : (Nat → Int32) → Option (Int32 × Int32 × Int32 × Int32 × Int32 × Int32 × Int32 × (Nat → Int32) × (Nat → Int32) × (Nat → Int32) × (Nat → Int32) × (Nat → Int32) × (Nat → Int32) × (Nat → Int32))) (u_image : (Nat → Int32)) : Nat → Int32 → (Nat → Int32) → Option (Int32 × Int32 × Int32 × Int32 × Int32 × Int32 × Int32 × (Nat → Int32) × (Nat → Int32) × (Nat → Int32) × (Nat → Int32) × (Nat → Int32) × (Nat → Int32) × (Nat → Int32))
  | 0, _, _ => none
  | n + 1, x1, u_sight => if 15 ≤ x1 then (k139 u_sight) else (gA (222 + x1) 284 (gA x1 15 (fX9_undo_L111 k139 u_image n (x1 + 1) (upd u_sight (x1 : Int32).toNatClampNeg (u_image (222 + x1).toNatClampNeg)))))
def fX9_undo_L141 (k169 : (Nat → Int32) → Option (Int32 × Int32 × Int32 × Int32 × Int32 × Int32 × Int32 × (Nat → Int32) × (Nat → Int32) × (Nat → Int32) × (Nat → Int32) × (Nat → Int32) × (Nat → Int32) × (Nat → Int32))) (u_image : (Nat → Int32)) : Nat → Int32 → (Nat → Int32) → Option (Int32 × Int32 × Int32 × Int32 × Int32 × Int32 × Int32 × (Nat → Int32) × (Nat → Int32) × (Nat → Int32) × (Nat → Int32) × (Nat → Int32) × (Nat → Int32) × (Nat → Int32))
  | 0, _, _ => none
  | n + 1, x1, u_event => if 16 ≤ x1 then (k169 u_event) else (gA (237 + x1) 284 (gA x1 16 (fX9_undo_L141 k169 u_image n (x1 + 1) (upd u_event (x1 : Int32).toNatClampNeg (u_image (237 + x1).toNatClampNeg)))))
def fX9_undo_L171 (k199 : (Nat → Int32) → Option (Int32 × Int32 × Int32 × Int32 × Int32 × Int32 × Int32 × (Nat → Int32) × (Nat → Int32) × (Nat → Int32) × (Nat → Int32) × (Nat → Int32) × (Nat → Int32) × (Nat → Int32))) (u_image : (Nat → Int32)) : Nat → Int32 → (Nat → Int32) → Option (Int32 × Int32 × Int32 × Int32 × Int32 × Int32 × Int32 × (Nat → Int32) × (Nat → Int32) × (Nat → Int32) × (Nat → Int32) × (Nat → Int32) × (Nat → Int32) × (Nat → Int32))
  | 0, _, _ => none
  | n + 1, x1, u_book => if 24 ≤ x1 then (k199 u_book) else (gA (253 + x1) 284 (gA x1 24 (fX9_undo_L171 k199 u_image n (x1 + 1) (upd u_book (x1 : Int32).toNatClampNeg (u_image (253 + x1).toNatClampNeg)))))
def fX9_undo (u_people : Int32) (u_debts : Int32) (u_cuts : Int32) (u_seen : Int32) (u_events : Int32) (u_inBook : Int32) (u_imaged : Int32) (u_owes : (Nat → Int32)) (u_denies : (Nat → Int32)) (u_debt : (Nat → Int32)) (u_cut : (Nat → Int32)) (u_sight : (Nat → Int32)) (u_event : (Nat → Int32)) (u_book : (Nat → Int32)) (u_image : (Nat → Int32)) : Option (Int32 × Int32 × Int32 × Int32 × Int32 × Int32 × Int32 × (Nat → Int32) × (Nat → Int32) × (Nat → Int32) × (Nat → Int32) × (Nat → Int32) × (Nat → Int32) × (Nat → Int32)) := if u_imaged = 0 then (some ((-3), u_people, u_debts, u_cuts, u_seen, u_events, u_inBook, u_owes, u_denies, u_debt, u_cut, u_sight, u_event, u_book)) else (fX9_undo_L12 (fun (u_owes_7 : (Nat → Int32)) (u_denies_7 : (Nat → Int32)) => fX9_undo_L53 (fun (u_debt_11 : (Nat → Int32)) => fX9_undo_L82 (fun (u_cut_15 : (Nat → Int32)) => fX9_undo_L111 (fun (u_sight_19 : (Nat → Int32)) => fX9_undo_L141 (fun (u_event_23 : (Nat → Int32)) => fX9_undo_L171 (fun (u_book_27 : (Nat → Int32)) => gA 277 284 (gA 278 284 (gA 279 284 (gA 280 284 (gA 281 284 (gA 282 284 (some (u_image (277 : Int32).toNatClampNeg, u_image (277 : Int32).toNatClampNeg, u_image (278 : Int32).toNatClampNeg, u_image (279 : Int32).toNatClampNeg, u_image (280 : Int32).toNatClampNeg, u_image (281 : Int32).toNatClampNeg, u_image (282 : Int32).toNatClampNeg, u_owes_7, u_denies_7, u_debt_11, u_cut_15, u_sight_19, u_event_23, u_book_27)))))))) u_image 400 0 u_book) u_image 400 0 u_event) u_image 400 0 u_sight) u_image 400 0 u_cut) u_image 400 0 u_debt) u_image 400 0 u_owes u_denies)
set_option maxRecDepth 20000 in
theorem LX9_undo_12 {p : Program} {l : Launch} {e : Env} {R : Room} {s : State} {m : MethodId} {args : Array Value} {below : List Frame} {meth : Method} {c : Code} {Q : State → Prop} {D : va_G} {C : Nat → ClassId} {A : Nat → Prop} (cx : CX p m c s args RX9 cX9_undo 2 D C A R 1) {q_ q_owes q_denies q_debt q_cut q_sight q_event q_book q_text q_path q_ring q_balance q_left q_sum q_parts q_group q_payment q_then q_image q_tapeSort q_tapeSize q_items : Nat} {u_people : Int32} {u_debts : Int32} {u_cuts : Int32} {u_seen : Int32} {u_events : Int32} {u_inBook : Int32} {u_texted : Int32} {u_rule : Int32} {u_rings : Int32} {u_size : Int32} {u_least : Int32} {u_worth : Int64} {u_groups : Int32} {u_paid : Int32} {u_imaged : Int32} {u_debt : (Nat → Int32)} {u_cut : (Nat → Int32)} {u_sight : (Nat → Int32)} {u_event : (Nat → Int32)} {u_book : (Nat → Int32)} {u_image : (Nat → Int32)} {z : (Int32 × Int32 × Int32 × Int32 × Int32 × Int32 × Int32 × (Nat → Int32) × (Nat → Int32) × (Nat → Int32) × (Nat → Int32) × (Nat → Int32) × (Nat → Int32) × (Nat → Int32))} (hret : RT p l e R s m args below meth c Q D A cX9_undo (some .int) [(q_, .inr (9, [.int z.2.1, .ref q_owes, .ref q_denies, .int z.2.2.1, .ref q_debt, .int z.2.2.2.1, .ref q_cut, .int z.2.2.2.2.1, .ref q_sight, .int z.2.2.2.2.2.1, .ref q_event, .int z.2.2.2.2.2.2.1, .ref q_book, .int u_texted, .ref q_text, .ref q_path, .int u_rule, .int u_rings, .int u_size, .int u_least, .long u_worth, .ref q_ring, .ref q_balance, .ref q_left, .ref q_sum, .ref q_parts, .int u_groups, .ref q_group, .int u_paid, .ref q_payment, .ref q_then, .int u_imaged, .ref q_image, .ref q_tapeSort, .ref q_tapeSize, .ref q_items])), (q_owes, .inl (C 0, 36, .inl z.2.2.2.2.2.2.2.1)), (q_denies, .inl (C 0, 36, .inl z.2.2.2.2.2.2.2.2.1)), (q_debt, .inl (C 0, 30, .inl z.2.2.2.2.2.2.2.2.2.1)), (q_cut, .inl (C 0, 120, .inl z.2.2.2.2.2.2.2.2.2.2.1)), (q_sight, .inl (C 0, 15, .inl z.2.2.2.2.2.2.2.2.2.2.2.1)), (q_event, .inl (C 0, 16, .inl z.2.2.2.2.2.2.2.2.2.2.2.2.1)), (q_book, .inl (C 0, 24, .inl z.2.2.2.2.2.2.2.2.2.2.2.2.2)), (q_image, .inl (C 0, 284, .inl u_image))] (some (.int z.1))) {k51 : (Nat → Int32) → (Nat → Int32) → Option (Int32 × Int32 × Int32 × Int32 × Int32 × Int32 × Int32 × (Nat → Int32) × (Nat → Int32) × (Nat → Int32) × (Nat → Int32) × (Nat → Int32) × (Nat → Int32) × (Nat → Int32))} (hk51 : ∀ (u_owes : (Nat → Int32)) (u_denies : (Nat → Int32)) (H : Heap) (locs : List Loc) (ls : Array Slot), k51 u_owes u_denies = some z → HW D A s.heap H locs [(q_, .inr (9, [.int u_people, .ref q_owes, .ref q_denies, .int u_debts, .ref q_debt, .int u_cuts, .ref q_cut, .int u_seen, .ref q_sight, .int u_events, .ref q_event, .int u_inBook, .ref q_book, .int u_texted, .ref q_text, .ref q_path, .int u_rule, .int u_rings, .int u_size, .int u_least, .long u_worth, .ref q_ring, .ref q_balance, .ref q_left, .ref q_sum, .ref q_parts, .int u_groups, .ref q_group, .int u_paid, .ref q_payment, .ref q_then, .int u_imaged, .ref q_image, .ref q_tapeSort, .ref q_tapeSize, .ref q_items])), (q_owes, .inl (C 0, 36, .inl u_owes)), (q_denies, .inl (C 0, 36, .inl u_denies)), (q_debt, .inl (C 0, 30, .inl u_debt)), (q_cut, .inl (C 0, 120, .inl u_cut)), (q_sight, .inl (C 0, 15, .inl u_sight)), (q_event, .inl (C 0, 16, .inl u_event)), (q_book, .inl (C 0, 24, .inl u_book)), (q_image, .inl (C 0, 284, .inl u_image))] → lv_has ls 2 [(0, .ref q_)] → W p l e R s m args below meth c H locs 0 0 Q (F0 m 51 ls [])) :
    ∀ (n : Nat) (x1 : Int32) (u_owes : (Nat → Int32)) (u_denies : (Nat → Int32)) (H : Heap) (locs : List Loc) (ls : Array Slot), fX9_undo_L12 k51 u_image n x1 u_owes u_denies = some z → HW D A s.heap H locs [(q_, .inr (9, [.int u_people, .ref q_owes, .ref q_denies, .int u_debts, .ref q_debt, .int u_cuts, .ref q_cut, .int u_seen, .ref q_sight, .int u_events, .ref q_event, .int u_inBook, .ref q_book, .int u_texted, .ref q_text, .ref q_path, .int u_rule, .int u_rings, .int u_size, .int u_least, .long u_worth, .ref q_ring, .ref q_balance, .ref q_left, .ref q_sum, .ref q_parts, .int u_groups, .ref q_group, .int u_paid, .ref q_payment, .ref q_then, .int u_imaged, .ref q_image, .ref q_tapeSort, .ref q_tapeSize, .ref q_items])), (q_owes, .inl (C 0, 36, .inl u_owes)), (q_denies, .inl (C 0, 36, .inl u_denies)), (q_debt, .inl (C 0, 30, .inl u_debt)), (q_cut, .inl (C 0, 120, .inl u_cut)), (q_sight, .inl (C 0, 15, .inl u_sight)), (q_event, .inl (C 0, 16, .inl u_event)), (q_book, .inl (C 0, 24, .inl u_book)), (q_image, .inl (C 0, 284, .inl u_image))] → lv_has ls 2 [(0, .ref q_), (1, .int x1)] → W p l e R s m args below meth c H locs 0 0 Q (F0 m 12 ls []) := by
  have hx := cx.1
  have hb := cx.2.1
  intro n
  induction n with
  | zero => intro x1 u_owes u_denies H locs ls hF; cases hF
  | succ n ih =>
    intro x1 u_owes u_denies H locs ls hF hw hl
    rw [fX9_undo_L12.eq_2] at hF
    refine lv_iload_n hx hb dX9_undo_12 rfl (lv_at hl 1 rfl) ?_
    refine lv_bipush (v := 36) hx hb dX9_undo_13 (by decide) ?_
    refine lv_icmp_ge (tgt := 51) hx hb dX9_undo_15 (by decide) (fun c2 => ?_) (fun c2 => ?_)
    · replace hF := oi_t c2 hF
      exact hk51 u_owes u_denies H locs ls hF hw (lv_sub hl [0] rfl)
    · replace hF := oi_f c2 hF
      refine lv_aload_n hx hb dX9_undo_18 rfl (lv_at hl 0 rfl) ?_
      refine r_get (ci := 9) (v := .ref q_owes) cx hw iX9 0 1 rfl rfl (by decide) wf_X9_9 rfl dX9_undo_19 ?_
      refine lv_iload_n hx hb dX9_undo_22 rfl (lv_at hl 1 rfl) ?_
      refine lv_aload_n hx hb dX9_undo_23 rfl (lv_at hl 0 rfl) ?_
      refine r_get (ci := 9) (v := .ref q_image) cx hw iX9 0 32 rfl rfl (by decide) wf_X9_63 rfl dX9_undo_24 ?_
      refine lv_iload_n hx hb dX9_undo_27 rfl (lv_at hl 1 rfl) ?_
      obtain ⟨g3, hF⟩ := gA_s hF
      refine r_iald cx hw 8 rfl g3 dX9_undo_28 ?_
      obtain ⟨g4, hF⟩ := gA_s hF
      refine r_iast (w2 := [(q_, .inr (9, [.int u_people, .ref q_owes, .ref q_denies, .int u_debts, .ref q_debt, .int u_cuts, .ref q_cut, .int u_seen, .ref q_sight, .int u_events, .ref q_event, .int u_inBook, .ref q_book, .int u_texted, .ref q_text, .ref q_path, .int u_rule, .int u_rings, .int u_size, .int u_least, .long u_worth, .ref q_ring, .ref q_balance, .ref q_left, .ref q_sum, .ref q_parts, .int u_groups, .ref q_group, .int u_paid, .ref q_payment, .ref q_then, .int u_imaged, .ref q_image, .ref q_tapeSort, .ref q_tapeSize, .ref q_items])), (q_owes, .inl (C 0, 36, .inl (upd u_owes (x1 : Int32).toNatClampNeg (u_image (x1).toNatClampNeg)))), (q_denies, .inl (C 0, 36, .inl u_denies)), (q_debt, .inl (C 0, 30, .inl u_debt)), (q_cut, .inl (C 0, 120, .inl u_cut)), (q_sight, .inl (C 0, 15, .inl u_sight)), (q_event, .inl (C 0, 16, .inl u_event)), (q_book, .inl (C 0, 24, .inl u_book)), (q_image, .inl (C 0, 284, .inl u_image))]) cx hw 1 rfl g4 dX9_undo_29 rfl (fun H locs hw => ?_)
      refine lv_aload_n hx hb dX9_undo_30 rfl (lv_at hl 0 rfl) ?_
      refine r_get (ci := 9) (v := .ref q_denies) cx hw iX9 0 2 rfl rfl (by decide) wf_X9_15 rfl dX9_undo_31 ?_
      refine lv_iload_n hx hb dX9_undo_34 rfl (lv_at hl 1 rfl) ?_
      refine lv_aload_n hx hb dX9_undo_35 rfl (lv_at hl 0 rfl) ?_
      refine r_get (ci := 9) (v := .ref q_image) cx hw iX9 0 32 rfl rfl (by decide) wf_X9_63 rfl dX9_undo_36 ?_
      refine lv_bipush (v := 36) hx hb dX9_undo_39 (by decide) ?_
      refine lv_iload_n hx hb dX9_undo_41 rfl (lv_at hl 1 rfl) ?_
      refine lv_iadd hx hb dX9_undo_42 ?_
      obtain ⟨g5, hF⟩ := gA_s hF
      refine r_iald cx hw 8 rfl g5 dX9_undo_43 ?_
      obtain ⟨g6, hF⟩ := gA_s hF
      refine r_iast (w2 := [(q_, .inr (9, [.int u_people, .ref q_owes, .ref q_denies, .int u_debts, .ref q_debt, .int u_cuts, .ref q_cut, .int u_seen, .ref q_sight, .int u_events, .ref q_event, .int u_inBook, .ref q_book, .int u_texted, .ref q_text, .ref q_path, .int u_rule, .int u_rings, .int u_size, .int u_least, .long u_worth, .ref q_ring, .ref q_balance, .ref q_left, .ref q_sum, .ref q_parts, .int u_groups, .ref q_group, .int u_paid, .ref q_payment, .ref q_then, .int u_imaged, .ref q_image, .ref q_tapeSort, .ref q_tapeSize, .ref q_items])), (q_owes, .inl (C 0, 36, .inl (upd u_owes (x1 : Int32).toNatClampNeg (u_image (x1).toNatClampNeg)))), (q_denies, .inl (C 0, 36, .inl (upd u_denies (x1 : Int32).toNatClampNeg (u_image (36 + x1).toNatClampNeg)))), (q_debt, .inl (C 0, 30, .inl u_debt)), (q_cut, .inl (C 0, 120, .inl u_cut)), (q_sight, .inl (C 0, 15, .inl u_sight)), (q_event, .inl (C 0, 16, .inl u_event)), (q_book, .inl (C 0, 24, .inl u_book)), (q_image, .inl (C 0, 284, .inl u_image))]) cx hw 2 rfl g6 dX9_undo_44 rfl (fun H locs hw => ?_)
      refine lv_iinc (v := x1 + 1) (lv' := [(1, .int (x1 + 1)), (0, .ref q_)]) hx hb dX9_undo_45 hl (k := 1) rfl rfl (by decide) rfl (fun ls hl => ?_)
      refine lv_goto (tgt := 12) hx hb dX9_undo_48 (by decide) ?_
      exact ih (x1 + 1) (upd u_owes (x1 : Int32).toNatClampNeg (u_image (x1).toNatClampNeg)) (upd u_denies (x1 : Int32).toNatClampNeg (u_image (36 + x1).toNatClampNeg)) H locs ls hF hw (lv_sub hl [1, 0] rfl)
set_option maxRecDepth 20000 in
theorem LX9_undo_53 {p : Program} {l : Launch} {e : Env} {R : Room} {s : State} {m : MethodId} {args : Array Value} {below : List Frame} {meth : Method} {c : Code} {Q : State → Prop} {D : va_G} {C : Nat → ClassId} {A : Nat → Prop} (cx : CX p m c s args RX9 cX9_undo 2 D C A R 1) {q_ q_owes q_denies q_debt q_cut q_sight q_event q_book q_text q_path q_ring q_balance q_left q_sum q_parts q_group q_payment q_then q_image q_tapeSort q_tapeSize q_items : Nat} {u_people : Int32} {u_debts : Int32} {u_cuts : Int32} {u_seen : Int32} {u_events : Int32} {u_inBook : Int32} {u_texted : Int32} {u_rule : Int32} {u_rings : Int32} {u_size : Int32} {u_least : Int32} {u_worth : Int64} {u_groups : Int32} {u_paid : Int32} {u_imaged : Int32} {u_owes : (Nat → Int32)} {u_denies : (Nat → Int32)} {u_cut : (Nat → Int32)} {u_sight : (Nat → Int32)} {u_event : (Nat → Int32)} {u_book : (Nat → Int32)} {u_image : (Nat → Int32)} {z : (Int32 × Int32 × Int32 × Int32 × Int32 × Int32 × Int32 × (Nat → Int32) × (Nat → Int32) × (Nat → Int32) × (Nat → Int32) × (Nat → Int32) × (Nat → Int32) × (Nat → Int32))} (hret : RT p l e R s m args below meth c Q D A cX9_undo (some .int) [(q_, .inr (9, [.int z.2.1, .ref q_owes, .ref q_denies, .int z.2.2.1, .ref q_debt, .int z.2.2.2.1, .ref q_cut, .int z.2.2.2.2.1, .ref q_sight, .int z.2.2.2.2.2.1, .ref q_event, .int z.2.2.2.2.2.2.1, .ref q_book, .int u_texted, .ref q_text, .ref q_path, .int u_rule, .int u_rings, .int u_size, .int u_least, .long u_worth, .ref q_ring, .ref q_balance, .ref q_left, .ref q_sum, .ref q_parts, .int u_groups, .ref q_group, .int u_paid, .ref q_payment, .ref q_then, .int u_imaged, .ref q_image, .ref q_tapeSort, .ref q_tapeSize, .ref q_items])), (q_owes, .inl (C 0, 36, .inl z.2.2.2.2.2.2.2.1)), (q_denies, .inl (C 0, 36, .inl z.2.2.2.2.2.2.2.2.1)), (q_debt, .inl (C 0, 30, .inl z.2.2.2.2.2.2.2.2.2.1)), (q_cut, .inl (C 0, 120, .inl z.2.2.2.2.2.2.2.2.2.2.1)), (q_sight, .inl (C 0, 15, .inl z.2.2.2.2.2.2.2.2.2.2.2.1)), (q_event, .inl (C 0, 16, .inl z.2.2.2.2.2.2.2.2.2.2.2.2.1)), (q_book, .inl (C 0, 24, .inl z.2.2.2.2.2.2.2.2.2.2.2.2.2)), (q_image, .inl (C 0, 284, .inl u_image))] (some (.int z.1))) {k80 : (Nat → Int32) → Option (Int32 × Int32 × Int32 × Int32 × Int32 × Int32 × Int32 × (Nat → Int32) × (Nat → Int32) × (Nat → Int32) × (Nat → Int32) × (Nat → Int32) × (Nat → Int32) × (Nat → Int32))} (hk80 : ∀ (u_debt : (Nat → Int32)) (H : Heap) (locs : List Loc) (ls : Array Slot), k80 u_debt = some z → HW D A s.heap H locs [(q_, .inr (9, [.int u_people, .ref q_owes, .ref q_denies, .int u_debts, .ref q_debt, .int u_cuts, .ref q_cut, .int u_seen, .ref q_sight, .int u_events, .ref q_event, .int u_inBook, .ref q_book, .int u_texted, .ref q_text, .ref q_path, .int u_rule, .int u_rings, .int u_size, .int u_least, .long u_worth, .ref q_ring, .ref q_balance, .ref q_left, .ref q_sum, .ref q_parts, .int u_groups, .ref q_group, .int u_paid, .ref q_payment, .ref q_then, .int u_imaged, .ref q_image, .ref q_tapeSort, .ref q_tapeSize, .ref q_items])), (q_owes, .inl (C 0, 36, .inl u_owes)), (q_denies, .inl (C 0, 36, .inl u_denies)), (q_debt, .inl (C 0, 30, .inl u_debt)), (q_cut, .inl (C 0, 120, .inl u_cut)), (q_sight, .inl (C 0, 15, .inl u_sight)), (q_event, .inl (C 0, 16, .inl u_event)), (q_book, .inl (C 0, 24, .inl u_book)), (q_image, .inl (C 0, 284, .inl u_image))] → lv_has ls 2 [(0, .ref q_)] → W p l e R s m args below meth c H locs 0 0 Q (F0 m 80 ls [])) :
    ∀ (n : Nat) (x1 : Int32) (u_debt : (Nat → Int32)) (H : Heap) (locs : List Loc) (ls : Array Slot), fX9_undo_L53 k80 u_image n x1 u_debt = some z → HW D A s.heap H locs [(q_, .inr (9, [.int u_people, .ref q_owes, .ref q_denies, .int u_debts, .ref q_debt, .int u_cuts, .ref q_cut, .int u_seen, .ref q_sight, .int u_events, .ref q_event, .int u_inBook, .ref q_book, .int u_texted, .ref q_text, .ref q_path, .int u_rule, .int u_rings, .int u_size, .int u_least, .long u_worth, .ref q_ring, .ref q_balance, .ref q_left, .ref q_sum, .ref q_parts, .int u_groups, .ref q_group, .int u_paid, .ref q_payment, .ref q_then, .int u_imaged, .ref q_image, .ref q_tapeSort, .ref q_tapeSize, .ref q_items])), (q_owes, .inl (C 0, 36, .inl u_owes)), (q_denies, .inl (C 0, 36, .inl u_denies)), (q_debt, .inl (C 0, 30, .inl u_debt)), (q_cut, .inl (C 0, 120, .inl u_cut)), (q_sight, .inl (C 0, 15, .inl u_sight)), (q_event, .inl (C 0, 16, .inl u_event)), (q_book, .inl (C 0, 24, .inl u_book)), (q_image, .inl (C 0, 284, .inl u_image))] → lv_has ls 2 [(0, .ref q_), (1, .int x1)] → W p l e R s m args below meth c H locs 0 0 Q (F0 m 53 ls []) := by
  have hx := cx.1
  have hb := cx.2.1
  intro n
  induction n with
  | zero => intro x1 u_debt H locs ls hF; cases hF
  | succ n ih =>
    intro x1 u_debt H locs ls hF hw hl
    rw [fX9_undo_L53.eq_2] at hF
    refine lv_iload_n hx hb dX9_undo_53 rfl (lv_at hl 1 rfl) ?_
    refine lv_bipush (v := 30) hx hb dX9_undo_54 (by decide) ?_
    refine lv_icmp_ge (tgt := 80) hx hb dX9_undo_56 (by decide) (fun c8 => ?_) (fun c8 => ?_)
    · replace hF := oi_t c8 hF
      exact hk80 u_debt H locs ls hF hw (lv_sub hl [0] rfl)
    · replace hF := oi_f c8 hF
      refine lv_aload_n hx hb dX9_undo_59 rfl (lv_at hl 0 rfl) ?_
      refine r_get (ci := 9) (v := .ref q_debt) cx hw iX9 0 4 rfl rfl (by decide) wf_X9_18 rfl dX9_undo_60 ?_
      refine lv_iload_n hx hb dX9_undo_63 rfl (lv_at hl 1 rfl) ?_
      refine lv_aload_n hx hb dX9_undo_64 rfl (lv_at hl 0 rfl) ?_
      refine r_get (ci := 9) (v := .ref q_image) cx hw iX9 0 32 rfl rfl (by decide) wf_X9_63 rfl dX9_undo_65 ?_
      refine lv_bipush (v := 72) hx hb dX9_undo_68 (by decide) ?_
      refine lv_iload_n hx hb dX9_undo_70 rfl (lv_at hl 1 rfl) ?_
      refine lv_iadd hx hb dX9_undo_71 ?_
      obtain ⟨g9, hF⟩ := gA_s hF
      refine r_iald cx hw 8 rfl g9 dX9_undo_72 ?_
      obtain ⟨g10, hF⟩ := gA_s hF
      refine r_iast (w2 := [(q_, .inr (9, [.int u_people, .ref q_owes, .ref q_denies, .int u_debts, .ref q_debt, .int u_cuts, .ref q_cut, .int u_seen, .ref q_sight, .int u_events, .ref q_event, .int u_inBook, .ref q_book, .int u_texted, .ref q_text, .ref q_path, .int u_rule, .int u_rings, .int u_size, .int u_least, .long u_worth, .ref q_ring, .ref q_balance, .ref q_left, .ref q_sum, .ref q_parts, .int u_groups, .ref q_group, .int u_paid, .ref q_payment, .ref q_then, .int u_imaged, .ref q_image, .ref q_tapeSort, .ref q_tapeSize, .ref q_items])), (q_owes, .inl (C 0, 36, .inl u_owes)), (q_denies, .inl (C 0, 36, .inl u_denies)), (q_debt, .inl (C 0, 30, .inl (upd u_debt (x1 : Int32).toNatClampNeg (u_image (72 + x1).toNatClampNeg)))), (q_cut, .inl (C 0, 120, .inl u_cut)), (q_sight, .inl (C 0, 15, .inl u_sight)), (q_event, .inl (C 0, 16, .inl u_event)), (q_book, .inl (C 0, 24, .inl u_book)), (q_image, .inl (C 0, 284, .inl u_image))]) cx hw 3 rfl g10 dX9_undo_73 rfl (fun H locs hw => ?_)
      refine lv_iinc (v := x1 + 1) (lv' := [(1, .int (x1 + 1)), (0, .ref q_)]) hx hb dX9_undo_74 hl (k := 1) rfl rfl (by decide) rfl (fun ls hl => ?_)
      refine lv_goto (tgt := 53) hx hb dX9_undo_77 (by decide) ?_
      exact ih (x1 + 1) (upd u_debt (x1 : Int32).toNatClampNeg (u_image (72 + x1).toNatClampNeg)) H locs ls hF hw (lv_sub hl [1, 0] rfl)
set_option maxRecDepth 20000 in
theorem LX9_undo_82 {p : Program} {l : Launch} {e : Env} {R : Room} {s : State} {m : MethodId} {args : Array Value} {below : List Frame} {meth : Method} {c : Code} {Q : State → Prop} {D : va_G} {C : Nat → ClassId} {A : Nat → Prop} (cx : CX p m c s args RX9 cX9_undo 2 D C A R 1) {q_ q_owes q_denies q_debt q_cut q_sight q_event q_book q_text q_path q_ring q_balance q_left q_sum q_parts q_group q_payment q_then q_image q_tapeSort q_tapeSize q_items : Nat} {u_people : Int32} {u_debts : Int32} {u_cuts : Int32} {u_seen : Int32} {u_events : Int32} {u_inBook : Int32} {u_texted : Int32} {u_rule : Int32} {u_rings : Int32} {u_size : Int32} {u_least : Int32} {u_worth : Int64} {u_groups : Int32} {u_paid : Int32} {u_imaged : Int32} {u_owes : (Nat → Int32)} {u_denies : (Nat → Int32)} {u_debt : (Nat → Int32)} {u_sight : (Nat → Int32)} {u_event : (Nat → Int32)} {u_book : (Nat → Int32)} {u_image : (Nat → Int32)} {z : (Int32 × Int32 × Int32 × Int32 × Int32 × Int32 × Int32 × (Nat → Int32) × (Nat → Int32) × (Nat → Int32) × (Nat → Int32) × (Nat → Int32) × (Nat → Int32) × (Nat → Int32))} (hret : RT p l e R s m args below meth c Q D A cX9_undo (some .int) [(q_, .inr (9, [.int z.2.1, .ref q_owes, .ref q_denies, .int z.2.2.1, .ref q_debt, .int z.2.2.2.1, .ref q_cut, .int z.2.2.2.2.1, .ref q_sight, .int z.2.2.2.2.2.1, .ref q_event, .int z.2.2.2.2.2.2.1, .ref q_book, .int u_texted, .ref q_text, .ref q_path, .int u_rule, .int u_rings, .int u_size, .int u_least, .long u_worth, .ref q_ring, .ref q_balance, .ref q_left, .ref q_sum, .ref q_parts, .int u_groups, .ref q_group, .int u_paid, .ref q_payment, .ref q_then, .int u_imaged, .ref q_image, .ref q_tapeSort, .ref q_tapeSize, .ref q_items])), (q_owes, .inl (C 0, 36, .inl z.2.2.2.2.2.2.2.1)), (q_denies, .inl (C 0, 36, .inl z.2.2.2.2.2.2.2.2.1)), (q_debt, .inl (C 0, 30, .inl z.2.2.2.2.2.2.2.2.2.1)), (q_cut, .inl (C 0, 120, .inl z.2.2.2.2.2.2.2.2.2.2.1)), (q_sight, .inl (C 0, 15, .inl z.2.2.2.2.2.2.2.2.2.2.2.1)), (q_event, .inl (C 0, 16, .inl z.2.2.2.2.2.2.2.2.2.2.2.2.1)), (q_book, .inl (C 0, 24, .inl z.2.2.2.2.2.2.2.2.2.2.2.2.2)), (q_image, .inl (C 0, 284, .inl u_image))] (some (.int z.1))) {k109 : (Nat → Int32) → Option (Int32 × Int32 × Int32 × Int32 × Int32 × Int32 × Int32 × (Nat → Int32) × (Nat → Int32) × (Nat → Int32) × (Nat → Int32) × (Nat → Int32) × (Nat → Int32) × (Nat → Int32))} (hk109 : ∀ (u_cut : (Nat → Int32)) (H : Heap) (locs : List Loc) (ls : Array Slot), k109 u_cut = some z → HW D A s.heap H locs [(q_, .inr (9, [.int u_people, .ref q_owes, .ref q_denies, .int u_debts, .ref q_debt, .int u_cuts, .ref q_cut, .int u_seen, .ref q_sight, .int u_events, .ref q_event, .int u_inBook, .ref q_book, .int u_texted, .ref q_text, .ref q_path, .int u_rule, .int u_rings, .int u_size, .int u_least, .long u_worth, .ref q_ring, .ref q_balance, .ref q_left, .ref q_sum, .ref q_parts, .int u_groups, .ref q_group, .int u_paid, .ref q_payment, .ref q_then, .int u_imaged, .ref q_image, .ref q_tapeSort, .ref q_tapeSize, .ref q_items])), (q_owes, .inl (C 0, 36, .inl u_owes)), (q_denies, .inl (C 0, 36, .inl u_denies)), (q_debt, .inl (C 0, 30, .inl u_debt)), (q_cut, .inl (C 0, 120, .inl u_cut)), (q_sight, .inl (C 0, 15, .inl u_sight)), (q_event, .inl (C 0, 16, .inl u_event)), (q_book, .inl (C 0, 24, .inl u_book)), (q_image, .inl (C 0, 284, .inl u_image))] → lv_has ls 2 [(0, .ref q_)] → W p l e R s m args below meth c H locs 0 0 Q (F0 m 109 ls [])) :
    ∀ (n : Nat) (x1 : Int32) (u_cut : (Nat → Int32)) (H : Heap) (locs : List Loc) (ls : Array Slot), fX9_undo_L82 k109 u_image n x1 u_cut = some z → HW D A s.heap H locs [(q_, .inr (9, [.int u_people, .ref q_owes, .ref q_denies, .int u_debts, .ref q_debt, .int u_cuts, .ref q_cut, .int u_seen, .ref q_sight, .int u_events, .ref q_event, .int u_inBook, .ref q_book, .int u_texted, .ref q_text, .ref q_path, .int u_rule, .int u_rings, .int u_size, .int u_least, .long u_worth, .ref q_ring, .ref q_balance, .ref q_left, .ref q_sum, .ref q_parts, .int u_groups, .ref q_group, .int u_paid, .ref q_payment, .ref q_then, .int u_imaged, .ref q_image, .ref q_tapeSort, .ref q_tapeSize, .ref q_items])), (q_owes, .inl (C 0, 36, .inl u_owes)), (q_denies, .inl (C 0, 36, .inl u_denies)), (q_debt, .inl (C 0, 30, .inl u_debt)), (q_cut, .inl (C 0, 120, .inl u_cut)), (q_sight, .inl (C 0, 15, .inl u_sight)), (q_event, .inl (C 0, 16, .inl u_event)), (q_book, .inl (C 0, 24, .inl u_book)), (q_image, .inl (C 0, 284, .inl u_image))] → lv_has ls 2 [(0, .ref q_), (1, .int x1)] → W p l e R s m args below meth c H locs 0 0 Q (F0 m 82 ls []) := by
  have hx := cx.1
  have hb := cx.2.1
  intro n
  induction n with
  | zero => intro x1 u_cut H locs ls hF; cases hF
  | succ n ih =>
    intro x1 u_cut H locs ls hF hw hl
    rw [fX9_undo_L82.eq_2] at hF
    refine lv_iload_n hx hb dX9_undo_82 rfl (lv_at hl 1 rfl) ?_
    refine lv_bipush (v := 120) hx hb dX9_undo_83 (by decide) ?_
    refine lv_icmp_ge (tgt := 109) hx hb dX9_undo_85 (by decide) (fun c12 => ?_) (fun c12 => ?_)
    · replace hF := oi_t c12 hF
      exact hk109 u_cut H locs ls hF hw (lv_sub hl [0] rfl)
    · replace hF := oi_f c12 hF
      refine lv_aload_n hx hb dX9_undo_88 rfl (lv_at hl 0 rfl) ?_
      refine r_get (ci := 9) (v := .ref q_cut) cx hw iX9 0 6 rfl rfl (by decide) wf_X9_21 rfl dX9_undo_89 ?_
      refine lv_iload_n hx hb dX9_undo_92 rfl (lv_at hl 1 rfl) ?_
      refine lv_aload_n hx hb dX9_undo_93 rfl (lv_at hl 0 rfl) ?_
      refine r_get (ci := 9) (v := .ref q_image) cx hw iX9 0 32 rfl rfl (by decide) wf_X9_63 rfl dX9_undo_94 ?_
      refine lv_bipush (v := 102) hx hb dX9_undo_97 (by decide) ?_
      refine lv_iload_n hx hb dX9_undo_99 rfl (lv_at hl 1 rfl) ?_
      refine lv_iadd hx hb dX9_undo_100 ?_
      obtain ⟨g13, hF⟩ := gA_s hF
      refine r_iald cx hw 8 rfl g13 dX9_undo_101 ?_
      obtain ⟨g14, hF⟩ := gA_s hF
      refine r_iast (w2 := [(q_, .inr (9, [.int u_people, .ref q_owes, .ref q_denies, .int u_debts, .ref q_debt, .int u_cuts, .ref q_cut, .int u_seen, .ref q_sight, .int u_events, .ref q_event, .int u_inBook, .ref q_book, .int u_texted, .ref q_text, .ref q_path, .int u_rule, .int u_rings, .int u_size, .int u_least, .long u_worth, .ref q_ring, .ref q_balance, .ref q_left, .ref q_sum, .ref q_parts, .int u_groups, .ref q_group, .int u_paid, .ref q_payment, .ref q_then, .int u_imaged, .ref q_image, .ref q_tapeSort, .ref q_tapeSize, .ref q_items])), (q_owes, .inl (C 0, 36, .inl u_owes)), (q_denies, .inl (C 0, 36, .inl u_denies)), (q_debt, .inl (C 0, 30, .inl u_debt)), (q_cut, .inl (C 0, 120, .inl (upd u_cut (x1 : Int32).toNatClampNeg (u_image (102 + x1).toNatClampNeg)))), (q_sight, .inl (C 0, 15, .inl u_sight)), (q_event, .inl (C 0, 16, .inl u_event)), (q_book, .inl (C 0, 24, .inl u_book)), (q_image, .inl (C 0, 284, .inl u_image))]) cx hw 4 rfl g14 dX9_undo_102 rfl (fun H locs hw => ?_)
      refine lv_iinc (v := x1 + 1) (lv' := [(1, .int (x1 + 1)), (0, .ref q_)]) hx hb dX9_undo_103 hl (k := 1) rfl rfl (by decide) rfl (fun ls hl => ?_)
      refine lv_goto (tgt := 82) hx hb dX9_undo_106 (by decide) ?_
      exact ih (x1 + 1) (upd u_cut (x1 : Int32).toNatClampNeg (u_image (102 + x1).toNatClampNeg)) H locs ls hF hw (lv_sub hl [1, 0] rfl)
set_option maxRecDepth 20000 in
theorem LX9_undo_111 {p : Program} {l : Launch} {e : Env} {R : Room} {s : State} {m : MethodId} {args : Array Value} {below : List Frame} {meth : Method} {c : Code} {Q : State → Prop} {D : va_G} {C : Nat → ClassId} {A : Nat → Prop} (cx : CX p m c s args RX9 cX9_undo 2 D C A R 1) {q_ q_owes q_denies q_debt q_cut q_sight q_event q_book q_text q_path q_ring q_balance q_left q_sum q_parts q_group q_payment q_then q_image q_tapeSort q_tapeSize q_items : Nat} {u_people : Int32} {u_debts : Int32} {u_cuts : Int32} {u_seen : Int32} {u_events : Int32} {u_inBook : Int32} {u_texted : Int32} {u_rule : Int32} {u_rings : Int32} {u_size : Int32} {u_least : Int32} {u_worth : Int64} {u_groups : Int32} {u_paid : Int32} {u_imaged : Int32} {u_owes : (Nat → Int32)} {u_denies : (Nat → Int32)} {u_debt : (Nat → Int32)} {u_cut : (Nat → Int32)} {u_event : (Nat → Int32)} {u_book : (Nat → Int32)} {u_image : (Nat → Int32)} {z : (Int32 × Int32 × Int32 × Int32 × Int32 × Int32 × Int32 × (Nat → Int32) × (Nat → Int32) × (Nat → Int32) × (Nat → Int32) × (Nat → Int32) × (Nat → Int32) × (Nat → Int32))} (hret : RT p l e R s m args below meth c Q D A cX9_undo (some .int) [(q_, .inr (9, [.int z.2.1, .ref q_owes, .ref q_denies, .int z.2.2.1, .ref q_debt, .int z.2.2.2.1, .ref q_cut, .int z.2.2.2.2.1, .ref q_sight, .int z.2.2.2.2.2.1, .ref q_event, .int z.2.2.2.2.2.2.1, .ref q_book, .int u_texted, .ref q_text, .ref q_path, .int u_rule, .int u_rings, .int u_size, .int u_least, .long u_worth, .ref q_ring, .ref q_balance, .ref q_left, .ref q_sum, .ref q_parts, .int u_groups, .ref q_group, .int u_paid, .ref q_payment, .ref q_then, .int u_imaged, .ref q_image, .ref q_tapeSort, .ref q_tapeSize, .ref q_items])), (q_owes, .inl (C 0, 36, .inl z.2.2.2.2.2.2.2.1)), (q_denies, .inl (C 0, 36, .inl z.2.2.2.2.2.2.2.2.1)), (q_debt, .inl (C 0, 30, .inl z.2.2.2.2.2.2.2.2.2.1)), (q_cut, .inl (C 0, 120, .inl z.2.2.2.2.2.2.2.2.2.2.1)), (q_sight, .inl (C 0, 15, .inl z.2.2.2.2.2.2.2.2.2.2.2.1)), (q_event, .inl (C 0, 16, .inl z.2.2.2.2.2.2.2.2.2.2.2.2.1)), (q_book, .inl (C 0, 24, .inl z.2.2.2.2.2.2.2.2.2.2.2.2.2)), (q_image, .inl (C 0, 284, .inl u_image))] (some (.int z.1))) {k139 : (Nat → Int32) → Option (Int32 × Int32 × Int32 × Int32 × Int32 × Int32 × Int32 × (Nat → Int32) × (Nat → Int32) × (Nat → Int32) × (Nat → Int32) × (Nat → Int32) × (Nat → Int32) × (Nat → Int32))} (hk139 : ∀ (u_sight : (Nat → Int32)) (H : Heap) (locs : List Loc) (ls : Array Slot), k139 u_sight = some z → HW D A s.heap H locs [(q_, .inr (9, [.int u_people, .ref q_owes, .ref q_denies, .int u_debts, .ref q_debt, .int u_cuts, .ref q_cut, .int u_seen, .ref q_sight, .int u_events, .ref q_event, .int u_inBook, .ref q_book, .int u_texted, .ref q_text, .ref q_path, .int u_rule, .int u_rings, .int u_size, .int u_least, .long u_worth, .ref q_ring, .ref q_balance, .ref q_left, .ref q_sum, .ref q_parts, .int u_groups, .ref q_group, .int u_paid, .ref q_payment, .ref q_then, .int u_imaged, .ref q_image, .ref q_tapeSort, .ref q_tapeSize, .ref q_items])), (q_owes, .inl (C 0, 36, .inl u_owes)), (q_denies, .inl (C 0, 36, .inl u_denies)), (q_debt, .inl (C 0, 30, .inl u_debt)), (q_cut, .inl (C 0, 120, .inl u_cut)), (q_sight, .inl (C 0, 15, .inl u_sight)), (q_event, .inl (C 0, 16, .inl u_event)), (q_book, .inl (C 0, 24, .inl u_book)), (q_image, .inl (C 0, 284, .inl u_image))] → lv_has ls 2 [(0, .ref q_)] → W p l e R s m args below meth c H locs 0 0 Q (F0 m 139 ls [])) :
    ∀ (n : Nat) (x1 : Int32) (u_sight : (Nat → Int32)) (H : Heap) (locs : List Loc) (ls : Array Slot), fX9_undo_L111 k139 u_image n x1 u_sight = some z → HW D A s.heap H locs [(q_, .inr (9, [.int u_people, .ref q_owes, .ref q_denies, .int u_debts, .ref q_debt, .int u_cuts, .ref q_cut, .int u_seen, .ref q_sight, .int u_events, .ref q_event, .int u_inBook, .ref q_book, .int u_texted, .ref q_text, .ref q_path, .int u_rule, .int u_rings, .int u_size, .int u_least, .long u_worth, .ref q_ring, .ref q_balance, .ref q_left, .ref q_sum, .ref q_parts, .int u_groups, .ref q_group, .int u_paid, .ref q_payment, .ref q_then, .int u_imaged, .ref q_image, .ref q_tapeSort, .ref q_tapeSize, .ref q_items])), (q_owes, .inl (C 0, 36, .inl u_owes)), (q_denies, .inl (C 0, 36, .inl u_denies)), (q_debt, .inl (C 0, 30, .inl u_debt)), (q_cut, .inl (C 0, 120, .inl u_cut)), (q_sight, .inl (C 0, 15, .inl u_sight)), (q_event, .inl (C 0, 16, .inl u_event)), (q_book, .inl (C 0, 24, .inl u_book)), (q_image, .inl (C 0, 284, .inl u_image))] → lv_has ls 2 [(0, .ref q_), (1, .int x1)] → W p l e R s m args below meth c H locs 0 0 Q (F0 m 111 ls []) := by
  have hx := cx.1
  have hb := cx.2.1
  intro n
  induction n with
  | zero => intro x1 u_sight H locs ls hF; cases hF
  | succ n ih =>
    intro x1 u_sight H locs ls hF hw hl
    rw [fX9_undo_L111.eq_2] at hF
    refine lv_iload_n hx hb dX9_undo_111 rfl (lv_at hl 1 rfl) ?_
    refine lv_bipush (v := 15) hx hb dX9_undo_112 (by decide) ?_
    refine lv_icmp_ge (tgt := 139) hx hb dX9_undo_114 (by decide) (fun c16 => ?_) (fun c16 => ?_)
    · replace hF := oi_t c16 hF
      exact hk139 u_sight H locs ls hF hw (lv_sub hl [0] rfl)
    · replace hF := oi_f c16 hF
      refine lv_aload_n hx hb dX9_undo_117 rfl (lv_at hl 0 rfl) ?_
      refine r_get (ci := 9) (v := .ref q_sight) cx hw iX9 0 8 rfl rfl (by decide) wf_X9_24 rfl dX9_undo_118 ?_
      refine lv_iload_n hx hb dX9_undo_121 rfl (lv_at hl 1 rfl) ?_
      refine lv_aload_n hx hb dX9_undo_122 rfl (lv_at hl 0 rfl) ?_
      refine r_get (ci := 9) (v := .ref q_image) cx hw iX9 0 32 rfl rfl (by decide) wf_X9_63 rfl dX9_undo_123 ?_
      refine lv_sipush (v := 222) hx hb dX9_undo_126 (by decide) ?_
      refine lv_iload_n hx hb dX9_undo_129 rfl (lv_at hl 1 rfl) ?_
      refine lv_iadd hx hb dX9_undo_130 ?_
      obtain ⟨g17, hF⟩ := gA_s hF
      refine r_iald cx hw 8 rfl g17 dX9_undo_131 ?_
      obtain ⟨g18, hF⟩ := gA_s hF
      refine r_iast (w2 := [(q_, .inr (9, [.int u_people, .ref q_owes, .ref q_denies, .int u_debts, .ref q_debt, .int u_cuts, .ref q_cut, .int u_seen, .ref q_sight, .int u_events, .ref q_event, .int u_inBook, .ref q_book, .int u_texted, .ref q_text, .ref q_path, .int u_rule, .int u_rings, .int u_size, .int u_least, .long u_worth, .ref q_ring, .ref q_balance, .ref q_left, .ref q_sum, .ref q_parts, .int u_groups, .ref q_group, .int u_paid, .ref q_payment, .ref q_then, .int u_imaged, .ref q_image, .ref q_tapeSort, .ref q_tapeSize, .ref q_items])), (q_owes, .inl (C 0, 36, .inl u_owes)), (q_denies, .inl (C 0, 36, .inl u_denies)), (q_debt, .inl (C 0, 30, .inl u_debt)), (q_cut, .inl (C 0, 120, .inl u_cut)), (q_sight, .inl (C 0, 15, .inl (upd u_sight (x1 : Int32).toNatClampNeg (u_image (222 + x1).toNatClampNeg)))), (q_event, .inl (C 0, 16, .inl u_event)), (q_book, .inl (C 0, 24, .inl u_book)), (q_image, .inl (C 0, 284, .inl u_image))]) cx hw 5 rfl g18 dX9_undo_132 rfl (fun H locs hw => ?_)
      refine lv_iinc (v := x1 + 1) (lv' := [(1, .int (x1 + 1)), (0, .ref q_)]) hx hb dX9_undo_133 hl (k := 1) rfl rfl (by decide) rfl (fun ls hl => ?_)
      refine lv_goto (tgt := 111) hx hb dX9_undo_136 (by decide) ?_
      exact ih (x1 + 1) (upd u_sight (x1 : Int32).toNatClampNeg (u_image (222 + x1).toNatClampNeg)) H locs ls hF hw (lv_sub hl [1, 0] rfl)
set_option maxRecDepth 20000 in
theorem LX9_undo_141 {p : Program} {l : Launch} {e : Env} {R : Room} {s : State} {m : MethodId} {args : Array Value} {below : List Frame} {meth : Method} {c : Code} {Q : State → Prop} {D : va_G} {C : Nat → ClassId} {A : Nat → Prop} (cx : CX p m c s args RX9 cX9_undo 2 D C A R 1) {q_ q_owes q_denies q_debt q_cut q_sight q_event q_book q_text q_path q_ring q_balance q_left q_sum q_parts q_group q_payment q_then q_image q_tapeSort q_tapeSize q_items : Nat} {u_people : Int32} {u_debts : Int32} {u_cuts : Int32} {u_seen : Int32} {u_events : Int32} {u_inBook : Int32} {u_texted : Int32} {u_rule : Int32} {u_rings : Int32} {u_size : Int32} {u_least : Int32} {u_worth : Int64} {u_groups : Int32} {u_paid : Int32} {u_imaged : Int32} {u_owes : (Nat → Int32)} {u_denies : (Nat → Int32)} {u_debt : (Nat → Int32)} {u_cut : (Nat → Int32)} {u_sight : (Nat → Int32)} {u_book : (Nat → Int32)} {u_image : (Nat → Int32)} {z : (Int32 × Int32 × Int32 × Int32 × Int32 × Int32 × Int32 × (Nat → Int32) × (Nat → Int32) × (Nat → Int32) × (Nat → Int32) × (Nat → Int32) × (Nat → Int32) × (Nat → Int32))} (hret : RT p l e R s m args below meth c Q D A cX9_undo (some .int) [(q_, .inr (9, [.int z.2.1, .ref q_owes, .ref q_denies, .int z.2.2.1, .ref q_debt, .int z.2.2.2.1, .ref q_cut, .int z.2.2.2.2.1, .ref q_sight, .int z.2.2.2.2.2.1, .ref q_event, .int z.2.2.2.2.2.2.1, .ref q_book, .int u_texted, .ref q_text, .ref q_path, .int u_rule, .int u_rings, .int u_size, .int u_least, .long u_worth, .ref q_ring, .ref q_balance, .ref q_left, .ref q_sum, .ref q_parts, .int u_groups, .ref q_group, .int u_paid, .ref q_payment, .ref q_then, .int u_imaged, .ref q_image, .ref q_tapeSort, .ref q_tapeSize, .ref q_items])), (q_owes, .inl (C 0, 36, .inl z.2.2.2.2.2.2.2.1)), (q_denies, .inl (C 0, 36, .inl z.2.2.2.2.2.2.2.2.1)), (q_debt, .inl (C 0, 30, .inl z.2.2.2.2.2.2.2.2.2.1)), (q_cut, .inl (C 0, 120, .inl z.2.2.2.2.2.2.2.2.2.2.1)), (q_sight, .inl (C 0, 15, .inl z.2.2.2.2.2.2.2.2.2.2.2.1)), (q_event, .inl (C 0, 16, .inl z.2.2.2.2.2.2.2.2.2.2.2.2.1)), (q_book, .inl (C 0, 24, .inl z.2.2.2.2.2.2.2.2.2.2.2.2.2)), (q_image, .inl (C 0, 284, .inl u_image))] (some (.int z.1))) {k169 : (Nat → Int32) → Option (Int32 × Int32 × Int32 × Int32 × Int32 × Int32 × Int32 × (Nat → Int32) × (Nat → Int32) × (Nat → Int32) × (Nat → Int32) × (Nat → Int32) × (Nat → Int32) × (Nat → Int32))} (hk169 : ∀ (u_event : (Nat → Int32)) (H : Heap) (locs : List Loc) (ls : Array Slot), k169 u_event = some z → HW D A s.heap H locs [(q_, .inr (9, [.int u_people, .ref q_owes, .ref q_denies, .int u_debts, .ref q_debt, .int u_cuts, .ref q_cut, .int u_seen, .ref q_sight, .int u_events, .ref q_event, .int u_inBook, .ref q_book, .int u_texted, .ref q_text, .ref q_path, .int u_rule, .int u_rings, .int u_size, .int u_least, .long u_worth, .ref q_ring, .ref q_balance, .ref q_left, .ref q_sum, .ref q_parts, .int u_groups, .ref q_group, .int u_paid, .ref q_payment, .ref q_then, .int u_imaged, .ref q_image, .ref q_tapeSort, .ref q_tapeSize, .ref q_items])), (q_owes, .inl (C 0, 36, .inl u_owes)), (q_denies, .inl (C 0, 36, .inl u_denies)), (q_debt, .inl (C 0, 30, .inl u_debt)), (q_cut, .inl (C 0, 120, .inl u_cut)), (q_sight, .inl (C 0, 15, .inl u_sight)), (q_event, .inl (C 0, 16, .inl u_event)), (q_book, .inl (C 0, 24, .inl u_book)), (q_image, .inl (C 0, 284, .inl u_image))] → lv_has ls 2 [(0, .ref q_)] → W p l e R s m args below meth c H locs 0 0 Q (F0 m 169 ls [])) :
    ∀ (n : Nat) (x1 : Int32) (u_event : (Nat → Int32)) (H : Heap) (locs : List Loc) (ls : Array Slot), fX9_undo_L141 k169 u_image n x1 u_event = some z → HW D A s.heap H locs [(q_, .inr (9, [.int u_people, .ref q_owes, .ref q_denies, .int u_debts, .ref q_debt, .int u_cuts, .ref q_cut, .int u_seen, .ref q_sight, .int u_events, .ref q_event, .int u_inBook, .ref q_book, .int u_texted, .ref q_text, .ref q_path, .int u_rule, .int u_rings, .int u_size, .int u_least, .long u_worth, .ref q_ring, .ref q_balance, .ref q_left, .ref q_sum, .ref q_parts, .int u_groups, .ref q_group, .int u_paid, .ref q_payment, .ref q_then, .int u_imaged, .ref q_image, .ref q_tapeSort, .ref q_tapeSize, .ref q_items])), (q_owes, .inl (C 0, 36, .inl u_owes)), (q_denies, .inl (C 0, 36, .inl u_denies)), (q_debt, .inl (C 0, 30, .inl u_debt)), (q_cut, .inl (C 0, 120, .inl u_cut)), (q_sight, .inl (C 0, 15, .inl u_sight)), (q_event, .inl (C 0, 16, .inl u_event)), (q_book, .inl (C 0, 24, .inl u_book)), (q_image, .inl (C 0, 284, .inl u_image))] → lv_has ls 2 [(0, .ref q_), (1, .int x1)] → W p l e R s m args below meth c H locs 0 0 Q (F0 m 141 ls []) := by
  have hx := cx.1
  have hb := cx.2.1
  intro n
  induction n with
  | zero => intro x1 u_event H locs ls hF; cases hF
  | succ n ih =>
    intro x1 u_event H locs ls hF hw hl
    rw [fX9_undo_L141.eq_2] at hF
    refine lv_iload_n hx hb dX9_undo_141 rfl (lv_at hl 1 rfl) ?_
    refine lv_bipush (v := 16) hx hb dX9_undo_142 (by decide) ?_
    refine lv_icmp_ge (tgt := 169) hx hb dX9_undo_144 (by decide) (fun c20 => ?_) (fun c20 => ?_)
    · replace hF := oi_t c20 hF
      exact hk169 u_event H locs ls hF hw (lv_sub hl [0] rfl)
    · replace hF := oi_f c20 hF
      refine lv_aload_n hx hb dX9_undo_147 rfl (lv_at hl 0 rfl) ?_
      refine r_get (ci := 9) (v := .ref q_event) cx hw iX9 0 10 rfl rfl (by decide) wf_X9_27 rfl dX9_undo_148 ?_
      refine lv_iload_n hx hb dX9_undo_151 rfl (lv_at hl 1 rfl) ?_
      refine lv_aload_n hx hb dX9_undo_152 rfl (lv_at hl 0 rfl) ?_
      refine r_get (ci := 9) (v := .ref q_image) cx hw iX9 0 32 rfl rfl (by decide) wf_X9_63 rfl dX9_undo_153 ?_
      refine lv_sipush (v := 237) hx hb dX9_undo_156 (by decide) ?_
      refine lv_iload_n hx hb dX9_undo_159 rfl (lv_at hl 1 rfl) ?_
      refine lv_iadd hx hb dX9_undo_160 ?_
      obtain ⟨g21, hF⟩ := gA_s hF
      refine r_iald cx hw 8 rfl g21 dX9_undo_161 ?_
      obtain ⟨g22, hF⟩ := gA_s hF
      refine r_iast (w2 := [(q_, .inr (9, [.int u_people, .ref q_owes, .ref q_denies, .int u_debts, .ref q_debt, .int u_cuts, .ref q_cut, .int u_seen, .ref q_sight, .int u_events, .ref q_event, .int u_inBook, .ref q_book, .int u_texted, .ref q_text, .ref q_path, .int u_rule, .int u_rings, .int u_size, .int u_least, .long u_worth, .ref q_ring, .ref q_balance, .ref q_left, .ref q_sum, .ref q_parts, .int u_groups, .ref q_group, .int u_paid, .ref q_payment, .ref q_then, .int u_imaged, .ref q_image, .ref q_tapeSort, .ref q_tapeSize, .ref q_items])), (q_owes, .inl (C 0, 36, .inl u_owes)), (q_denies, .inl (C 0, 36, .inl u_denies)), (q_debt, .inl (C 0, 30, .inl u_debt)), (q_cut, .inl (C 0, 120, .inl u_cut)), (q_sight, .inl (C 0, 15, .inl u_sight)), (q_event, .inl (C 0, 16, .inl (upd u_event (x1 : Int32).toNatClampNeg (u_image (237 + x1).toNatClampNeg)))), (q_book, .inl (C 0, 24, .inl u_book)), (q_image, .inl (C 0, 284, .inl u_image))]) cx hw 6 rfl g22 dX9_undo_162 rfl (fun H locs hw => ?_)
      refine lv_iinc (v := x1 + 1) (lv' := [(1, .int (x1 + 1)), (0, .ref q_)]) hx hb dX9_undo_163 hl (k := 1) rfl rfl (by decide) rfl (fun ls hl => ?_)
      refine lv_goto (tgt := 141) hx hb dX9_undo_166 (by decide) ?_
      exact ih (x1 + 1) (upd u_event (x1 : Int32).toNatClampNeg (u_image (237 + x1).toNatClampNeg)) H locs ls hF hw (lv_sub hl [1, 0] rfl)
set_option maxRecDepth 20000 in
theorem LX9_undo_171 {p : Program} {l : Launch} {e : Env} {R : Room} {s : State} {m : MethodId} {args : Array Value} {below : List Frame} {meth : Method} {c : Code} {Q : State → Prop} {D : va_G} {C : Nat → ClassId} {A : Nat → Prop} (cx : CX p m c s args RX9 cX9_undo 2 D C A R 1) {q_ q_owes q_denies q_debt q_cut q_sight q_event q_book q_text q_path q_ring q_balance q_left q_sum q_parts q_group q_payment q_then q_image q_tapeSort q_tapeSize q_items : Nat} {u_people : Int32} {u_debts : Int32} {u_cuts : Int32} {u_seen : Int32} {u_events : Int32} {u_inBook : Int32} {u_texted : Int32} {u_rule : Int32} {u_rings : Int32} {u_size : Int32} {u_least : Int32} {u_worth : Int64} {u_groups : Int32} {u_paid : Int32} {u_imaged : Int32} {u_owes : (Nat → Int32)} {u_denies : (Nat → Int32)} {u_debt : (Nat → Int32)} {u_cut : (Nat → Int32)} {u_sight : (Nat → Int32)} {u_event : (Nat → Int32)} {u_image : (Nat → Int32)} {z : (Int32 × Int32 × Int32 × Int32 × Int32 × Int32 × Int32 × (Nat → Int32) × (Nat → Int32) × (Nat → Int32) × (Nat → Int32) × (Nat → Int32) × (Nat → Int32) × (Nat → Int32))} (hret : RT p l e R s m args below meth c Q D A cX9_undo (some .int) [(q_, .inr (9, [.int z.2.1, .ref q_owes, .ref q_denies, .int z.2.2.1, .ref q_debt, .int z.2.2.2.1, .ref q_cut, .int z.2.2.2.2.1, .ref q_sight, .int z.2.2.2.2.2.1, .ref q_event, .int z.2.2.2.2.2.2.1, .ref q_book, .int u_texted, .ref q_text, .ref q_path, .int u_rule, .int u_rings, .int u_size, .int u_least, .long u_worth, .ref q_ring, .ref q_balance, .ref q_left, .ref q_sum, .ref q_parts, .int u_groups, .ref q_group, .int u_paid, .ref q_payment, .ref q_then, .int u_imaged, .ref q_image, .ref q_tapeSort, .ref q_tapeSize, .ref q_items])), (q_owes, .inl (C 0, 36, .inl z.2.2.2.2.2.2.2.1)), (q_denies, .inl (C 0, 36, .inl z.2.2.2.2.2.2.2.2.1)), (q_debt, .inl (C 0, 30, .inl z.2.2.2.2.2.2.2.2.2.1)), (q_cut, .inl (C 0, 120, .inl z.2.2.2.2.2.2.2.2.2.2.1)), (q_sight, .inl (C 0, 15, .inl z.2.2.2.2.2.2.2.2.2.2.2.1)), (q_event, .inl (C 0, 16, .inl z.2.2.2.2.2.2.2.2.2.2.2.2.1)), (q_book, .inl (C 0, 24, .inl z.2.2.2.2.2.2.2.2.2.2.2.2.2)), (q_image, .inl (C 0, 284, .inl u_image))] (some (.int z.1))) {k199 : (Nat → Int32) → Option (Int32 × Int32 × Int32 × Int32 × Int32 × Int32 × Int32 × (Nat → Int32) × (Nat → Int32) × (Nat → Int32) × (Nat → Int32) × (Nat → Int32) × (Nat → Int32) × (Nat → Int32))} (hk199 : ∀ (u_book : (Nat → Int32)) (H : Heap) (locs : List Loc) (ls : Array Slot), k199 u_book = some z → HW D A s.heap H locs [(q_, .inr (9, [.int u_people, .ref q_owes, .ref q_denies, .int u_debts, .ref q_debt, .int u_cuts, .ref q_cut, .int u_seen, .ref q_sight, .int u_events, .ref q_event, .int u_inBook, .ref q_book, .int u_texted, .ref q_text, .ref q_path, .int u_rule, .int u_rings, .int u_size, .int u_least, .long u_worth, .ref q_ring, .ref q_balance, .ref q_left, .ref q_sum, .ref q_parts, .int u_groups, .ref q_group, .int u_paid, .ref q_payment, .ref q_then, .int u_imaged, .ref q_image, .ref q_tapeSort, .ref q_tapeSize, .ref q_items])), (q_owes, .inl (C 0, 36, .inl u_owes)), (q_denies, .inl (C 0, 36, .inl u_denies)), (q_debt, .inl (C 0, 30, .inl u_debt)), (q_cut, .inl (C 0, 120, .inl u_cut)), (q_sight, .inl (C 0, 15, .inl u_sight)), (q_event, .inl (C 0, 16, .inl u_event)), (q_book, .inl (C 0, 24, .inl u_book)), (q_image, .inl (C 0, 284, .inl u_image))] → lv_has ls 2 [(0, .ref q_)] → W p l e R s m args below meth c H locs 0 0 Q (F0 m 199 ls [])) :
    ∀ (n : Nat) (x1 : Int32) (u_book : (Nat → Int32)) (H : Heap) (locs : List Loc) (ls : Array Slot), fX9_undo_L171 k199 u_image n x1 u_book = some z → HW D A s.heap H locs [(q_, .inr (9, [.int u_people, .ref q_owes, .ref q_denies, .int u_debts, .ref q_debt, .int u_cuts, .ref q_cut, .int u_seen, .ref q_sight, .int u_events, .ref q_event, .int u_inBook, .ref q_book, .int u_texted, .ref q_text, .ref q_path, .int u_rule, .int u_rings, .int u_size, .int u_least, .long u_worth, .ref q_ring, .ref q_balance, .ref q_left, .ref q_sum, .ref q_parts, .int u_groups, .ref q_group, .int u_paid, .ref q_payment, .ref q_then, .int u_imaged, .ref q_image, .ref q_tapeSort, .ref q_tapeSize, .ref q_items])), (q_owes, .inl (C 0, 36, .inl u_owes)), (q_denies, .inl (C 0, 36, .inl u_denies)), (q_debt, .inl (C 0, 30, .inl u_debt)), (q_cut, .inl (C 0, 120, .inl u_cut)), (q_sight, .inl (C 0, 15, .inl u_sight)), (q_event, .inl (C 0, 16, .inl u_event)), (q_book, .inl (C 0, 24, .inl u_book)), (q_image, .inl (C 0, 284, .inl u_image))] → lv_has ls 2 [(0, .ref q_), (1, .int x1)] → W p l e R s m args below meth c H locs 0 0 Q (F0 m 171 ls []) := by
  have hx := cx.1
  have hb := cx.2.1
  intro n
  induction n with
  | zero => intro x1 u_book H locs ls hF; cases hF
  | succ n ih =>
    intro x1 u_book H locs ls hF hw hl
    rw [fX9_undo_L171.eq_2] at hF
    refine lv_iload_n hx hb dX9_undo_171 rfl (lv_at hl 1 rfl) ?_
    refine lv_bipush (v := 24) hx hb dX9_undo_172 (by decide) ?_
    refine lv_icmp_ge (tgt := 199) hx hb dX9_undo_174 (by decide) (fun c24 => ?_) (fun c24 => ?_)
    · replace hF := oi_t c24 hF
      exact hk199 u_book H locs ls hF hw (lv_sub hl [0] rfl)
    · replace hF := oi_f c24 hF
      refine lv_aload_n hx hb dX9_undo_177 rfl (lv_at hl 0 rfl) ?_
      refine r_get (ci := 9) (v := .ref q_book) cx hw iX9 0 12 rfl rfl (by decide) wf_X9_30 rfl dX9_undo_178 ?_
      refine lv_iload_n hx hb dX9_undo_181 rfl (lv_at hl 1 rfl) ?_
      refine lv_aload_n hx hb dX9_undo_182 rfl (lv_at hl 0 rfl) ?_
      refine r_get (ci := 9) (v := .ref q_image) cx hw iX9 0 32 rfl rfl (by decide) wf_X9_63 rfl dX9_undo_183 ?_
      refine lv_sipush (v := 253) hx hb dX9_undo_186 (by decide) ?_
      refine lv_iload_n hx hb dX9_undo_189 rfl (lv_at hl 1 rfl) ?_
      refine lv_iadd hx hb dX9_undo_190 ?_
      obtain ⟨g25, hF⟩ := gA_s hF
      refine r_iald cx hw 8 rfl g25 dX9_undo_191 ?_
      obtain ⟨g26, hF⟩ := gA_s hF
      refine r_iast (w2 := [(q_, .inr (9, [.int u_people, .ref q_owes, .ref q_denies, .int u_debts, .ref q_debt, .int u_cuts, .ref q_cut, .int u_seen, .ref q_sight, .int u_events, .ref q_event, .int u_inBook, .ref q_book, .int u_texted, .ref q_text, .ref q_path, .int u_rule, .int u_rings, .int u_size, .int u_least, .long u_worth, .ref q_ring, .ref q_balance, .ref q_left, .ref q_sum, .ref q_parts, .int u_groups, .ref q_group, .int u_paid, .ref q_payment, .ref q_then, .int u_imaged, .ref q_image, .ref q_tapeSort, .ref q_tapeSize, .ref q_items])), (q_owes, .inl (C 0, 36, .inl u_owes)), (q_denies, .inl (C 0, 36, .inl u_denies)), (q_debt, .inl (C 0, 30, .inl u_debt)), (q_cut, .inl (C 0, 120, .inl u_cut)), (q_sight, .inl (C 0, 15, .inl u_sight)), (q_event, .inl (C 0, 16, .inl u_event)), (q_book, .inl (C 0, 24, .inl (upd u_book (x1 : Int32).toNatClampNeg (u_image (253 + x1).toNatClampNeg)))), (q_image, .inl (C 0, 284, .inl u_image))]) cx hw 7 rfl g26 dX9_undo_192 rfl (fun H locs hw => ?_)
      refine lv_iinc (v := x1 + 1) (lv' := [(1, .int (x1 + 1)), (0, .ref q_)]) hx hb dX9_undo_193 hl (k := 1) rfl rfl (by decide) rfl (fun ls hl => ?_)
      refine lv_goto (tgt := 171) hx hb dX9_undo_196 (by decide) ?_
      exact ih (x1 + 1) (upd u_book (x1 : Int32).toNatClampNeg (u_image (253 + x1).toNatClampNeg)) H locs ls hF hw (lv_sub hl [1, 0] rfl)
set_option maxRecDepth 20000 in
theorem CX9_undo (l : Launch) (D : va_G) (C : Nat → ClassId) (q_ q_owes q_denies q_debt q_cut q_sight q_event q_book q_text q_path q_ring q_balance q_left q_sum q_parts q_group q_payment q_then q_image q_tapeSort q_tapeSize q_items : Nat) (u_people : Int32) (u_debts : Int32) (u_cuts : Int32) (u_seen : Int32) (u_events : Int32) (u_inBook : Int32) (u_texted : Int32) (u_rule : Int32) (u_rings : Int32) (u_size : Int32) (u_least : Int32) (u_worth : Int64) (u_groups : Int32) (u_paid : Int32) (u_imaged : Int32) (u_owes : (Nat → Int32)) (u_denies : (Nat → Int32)) (u_debt : (Nat → Int32)) (u_cut : (Nat → Int32)) (u_sight : (Nat → Int32)) (u_event : (Nat → Int32)) (u_book : (Nat → Int32)) (u_image : (Nat → Int32)) (z : (Int32 × Int32 × Int32 × Int32 × Int32 × Int32 × Int32 × (Nat → Int32) × (Nat → Int32) × (Nat → Int32) × (Nat → Int32) × (Nat → Int32) × (Nat → Int32) × (Nat → Int32))) (hF : fX9_undo u_people u_debts u_cuts u_seen u_events u_inBook u_imaged u_owes u_denies u_debt u_cut u_sight u_event u_book u_image = some z) : Ct l yX9_undo cX9_undo 2 (some .int) 1 D C [.ref q_] [(q_, .inr (9, [.int u_people, .ref q_owes, .ref q_denies, .int u_debts, .ref q_debt, .int u_cuts, .ref q_cut, .int u_seen, .ref q_sight, .int u_events, .ref q_event, .int u_inBook, .ref q_book, .int u_texted, .ref q_text, .ref q_path, .int u_rule, .int u_rings, .int u_size, .int u_least, .long u_worth, .ref q_ring, .ref q_balance, .ref q_left, .ref q_sum, .ref q_parts, .int u_groups, .ref q_group, .int u_paid, .ref q_payment, .ref q_then, .int u_imaged, .ref q_image, .ref q_tapeSort, .ref q_tapeSize, .ref q_items])), (q_owes, .inl (C 0, 36, .inl u_owes)), (q_denies, .inl (C 0, 36, .inl u_denies)), (q_debt, .inl (C 0, 30, .inl u_debt)), (q_cut, .inl (C 0, 120, .inl u_cut)), (q_sight, .inl (C 0, 15, .inl u_sight)), (q_event, .inl (C 0, 16, .inl u_event)), (q_book, .inl (C 0, 24, .inl u_book)), (q_image, .inl (C 0, 284, .inl u_image))] [(q_, .inr (9, [.int z.2.1, .ref q_owes, .ref q_denies, .int z.2.2.1, .ref q_debt, .int z.2.2.2.1, .ref q_cut, .int z.2.2.2.2.1, .ref q_sight, .int z.2.2.2.2.2.1, .ref q_event, .int z.2.2.2.2.2.2.1, .ref q_book, .int u_texted, .ref q_text, .ref q_path, .int u_rule, .int u_rings, .int u_size, .int u_least, .long u_worth, .ref q_ring, .ref q_balance, .ref q_left, .ref q_sum, .ref q_parts, .int u_groups, .ref q_group, .int u_paid, .ref q_payment, .ref q_then, .int u_imaged, .ref q_image, .ref q_tapeSort, .ref q_tapeSize, .ref q_items])), (q_owes, .inl (C 0, 36, .inl z.2.2.2.2.2.2.2.1)), (q_denies, .inl (C 0, 36, .inl z.2.2.2.2.2.2.2.2.1)), (q_debt, .inl (C 0, 30, .inl z.2.2.2.2.2.2.2.2.2.1)), (q_cut, .inl (C 0, 120, .inl z.2.2.2.2.2.2.2.2.2.2.1)), (q_sight, .inl (C 0, 15, .inl z.2.2.2.2.2.2.2.2.2.2.2.1)), (q_event, .inl (C 0, 16, .inl z.2.2.2.2.2.2.2.2.2.2.2.2.1)), (q_book, .inl (C 0, 24, .inl z.2.2.2.2.2.2.2.2.2.2.2.2.2)), (q_image, .inl (C 0, 284, .inl u_image))] (some (.int z.1)) := by
  refine Ct_of (by decide) (Nat.le_of_ble_eq_true rfl) ?_
  intro p e R s m args below meth c A Q H locs ls cx hw hl hret
  have cx : CX p m c s args RX9 cX9_undo 2 D C A R 1 := cx
  have hx := cx.1
  have hb := cx.2.1
  have hl : lv_has ls 2 [(0, .ref q_)] := hl
  rw [fX9_undo.eq_1] at hF
  refine lv_aload_n hx hb dX9_undo_0 rfl (lv_at hl 0 rfl) ?_
  refine r_get (ci := 9) (v := .int u_imaged) cx hw iX9 0 31 rfl rfl (by decide) wf_X9_271 rfl dX9_undo_1 ?_
  refine lv_if_ne (tgt := 10) hx hb dX9_undo_4 (by decide) (fun c1 => ?_) (fun c1 => ?_)
  · replace hF := oi_f c1 hF
    refine lv_iconst (v := 0) hx hb dX9_undo_10 (by decide) ?_
    refine lv_istore_n (lv' := [(1, .int 0), (0, .ref q_)]) hx hb dX9_undo_11 rfl hl (by decide) rfl (fun ls hl => ?_)
    refine LX9_undo_12 cx hret (fun u_owes_7 u_denies_7 H locs ls hF hw hl => ?_) 400 0 u_owes u_denies H locs ls hF hw (lv_sub hl [1, 0] rfl)
    · refine lv_iconst (v := 0) hx hb dX9_undo_51 (by decide) ?_
      refine lv_istore_n (lv' := [(1, .int 0), (0, .ref q_)]) hx hb dX9_undo_52 rfl hl (by decide) rfl (fun ls hl => ?_)
      refine LX9_undo_53 cx hret (fun u_debt_11 H locs ls hF hw hl => ?_) 400 0 u_debt H locs ls hF hw (lv_sub hl [1, 0] rfl)
      · refine lv_iconst (v := 0) hx hb dX9_undo_80 (by decide) ?_
        refine lv_istore_n (lv' := [(1, .int 0), (0, .ref q_)]) hx hb dX9_undo_81 rfl hl (by decide) rfl (fun ls hl => ?_)
        refine LX9_undo_82 cx hret (fun u_cut_15 H locs ls hF hw hl => ?_) 400 0 u_cut H locs ls hF hw (lv_sub hl [1, 0] rfl)
        · refine lv_iconst (v := 0) hx hb dX9_undo_109 (by decide) ?_
          refine lv_istore_n (lv' := [(1, .int 0), (0, .ref q_)]) hx hb dX9_undo_110 rfl hl (by decide) rfl (fun ls hl => ?_)
          refine LX9_undo_111 cx hret (fun u_sight_19 H locs ls hF hw hl => ?_) 400 0 u_sight H locs ls hF hw (lv_sub hl [1, 0] rfl)
          · refine lv_iconst (v := 0) hx hb dX9_undo_139 (by decide) ?_
            refine lv_istore_n (lv' := [(1, .int 0), (0, .ref q_)]) hx hb dX9_undo_140 rfl hl (by decide) rfl (fun ls hl => ?_)
            refine LX9_undo_141 cx hret (fun u_event_23 H locs ls hF hw hl => ?_) 400 0 u_event H locs ls hF hw (lv_sub hl [1, 0] rfl)
            · refine lv_iconst (v := 0) hx hb dX9_undo_169 (by decide) ?_
              refine lv_istore_n (lv' := [(1, .int 0), (0, .ref q_)]) hx hb dX9_undo_170 rfl hl (by decide) rfl (fun ls hl => ?_)
              refine LX9_undo_171 cx hret (fun u_book_27 H locs ls hF hw hl => ?_) 400 0 u_book H locs ls hF hw (lv_sub hl [1, 0] rfl)
              · refine lv_aload_n hx hb dX9_undo_199 rfl (lv_at hl 0 rfl) ?_
                refine lv_aload_n hx hb dX9_undo_200 rfl (lv_at hl 0 rfl) ?_
                refine r_get (ci := 9) (v := .ref q_image) cx hw iX9 0 32 rfl rfl (by decide) wf_X9_63 rfl dX9_undo_201 ?_
                refine lv_sipush (v := 277) hx hb dX9_undo_204 (by decide) ?_
                obtain ⟨g28, hF⟩ := gA_s hF
                refine r_iald cx hw 8 rfl g28 dX9_undo_207 ?_
                refine r_put (ci := 9) (w2 := [(q_, .inr (9, [.int (u_image (277 : Int32).toNatClampNeg), .ref q_owes, .ref q_denies, .int u_debts, .ref q_debt, .int u_cuts, .ref q_cut, .int u_seen, .ref q_sight, .int u_events, .ref q_event, .int u_inBook, .ref q_book, .int u_texted, .ref q_text, .ref q_path, .int u_rule, .int u_rings, .int u_size, .int u_least, .long u_worth, .ref q_ring, .ref q_balance, .ref q_left, .ref q_sum, .ref q_parts, .int u_groups, .ref q_group, .int u_paid, .ref q_payment, .ref q_then, .int u_imaged, .ref q_image, .ref q_tapeSort, .ref q_tapeSize, .ref q_items])), (q_owes, .inl (C 0, 36, .inl u_owes_7)), (q_denies, .inl (C 0, 36, .inl u_denies_7)), (q_debt, .inl (C 0, 30, .inl u_debt_11)), (q_cut, .inl (C 0, 120, .inl u_cut_15)), (q_sight, .inl (C 0, 15, .inl u_sight_19)), (q_event, .inl (C 0, 16, .inl u_event_23)), (q_book, .inl (C 0, 24, .inl u_book_27)), (q_image, .inl (C 0, 284, .inl u_image))]) cx hw iX9 tyX9_ok nmX9 0 0 rfl rfl (by decide) wf_X9_76 rfl rfl rfl rfl (Nat.le_of_ble_eq_true rfl) dX9_undo_208 rfl (fun H locs hw => ?_)
                refine lv_aload_n hx hb dX9_undo_211 rfl (lv_at hl 0 rfl) ?_
                refine lv_aload_n hx hb dX9_undo_212 rfl (lv_at hl 0 rfl) ?_
                refine r_get (ci := 9) (v := .ref q_image) cx hw iX9 0 32 rfl rfl (by decide) wf_X9_63 rfl dX9_undo_213 ?_
                refine lv_sipush (v := 278) hx hb dX9_undo_216 (by decide) ?_
                obtain ⟨g29, hF⟩ := gA_s hF
                refine r_iald cx hw 8 rfl g29 dX9_undo_219 ?_
                refine r_put (ci := 9) (w2 := [(q_, .inr (9, [.int (u_image (277 : Int32).toNatClampNeg), .ref q_owes, .ref q_denies, .int (u_image (278 : Int32).toNatClampNeg), .ref q_debt, .int u_cuts, .ref q_cut, .int u_seen, .ref q_sight, .int u_events, .ref q_event, .int u_inBook, .ref q_book, .int u_texted, .ref q_text, .ref q_path, .int u_rule, .int u_rings, .int u_size, .int u_least, .long u_worth, .ref q_ring, .ref q_balance, .ref q_left, .ref q_sum, .ref q_parts, .int u_groups, .ref q_group, .int u_paid, .ref q_payment, .ref q_then, .int u_imaged, .ref q_image, .ref q_tapeSort, .ref q_tapeSize, .ref q_items])), (q_owes, .inl (C 0, 36, .inl u_owes_7)), (q_denies, .inl (C 0, 36, .inl u_denies_7)), (q_debt, .inl (C 0, 30, .inl u_debt_11)), (q_cut, .inl (C 0, 120, .inl u_cut_15)), (q_sight, .inl (C 0, 15, .inl u_sight_19)), (q_event, .inl (C 0, 16, .inl u_event_23)), (q_book, .inl (C 0, 24, .inl u_book_27)), (q_image, .inl (C 0, 284, .inl u_image))]) cx hw iX9 tyX9_ok nmX9 0 3 rfl rfl (by decide) wf_X9_88 rfl rfl rfl rfl (Nat.le_of_ble_eq_true rfl) dX9_undo_220 rfl (fun H locs hw => ?_)
                refine lv_aload_n hx hb dX9_undo_223 rfl (lv_at hl 0 rfl) ?_
                refine lv_aload_n hx hb dX9_undo_224 rfl (lv_at hl 0 rfl) ?_
                refine r_get (ci := 9) (v := .ref q_image) cx hw iX9 0 32 rfl rfl (by decide) wf_X9_63 rfl dX9_undo_225 ?_
                refine lv_sipush (v := 279) hx hb dX9_undo_228 (by decide) ?_
                obtain ⟨g30, hF⟩ := gA_s hF
                refine r_iald cx hw 8 rfl g30 dX9_undo_231 ?_
                refine r_put (ci := 9) (w2 := [(q_, .inr (9, [.int (u_image (277 : Int32).toNatClampNeg), .ref q_owes, .ref q_denies, .int (u_image (278 : Int32).toNatClampNeg), .ref q_debt, .int (u_image (279 : Int32).toNatClampNeg), .ref q_cut, .int u_seen, .ref q_sight, .int u_events, .ref q_event, .int u_inBook, .ref q_book, .int u_texted, .ref q_text, .ref q_path, .int u_rule, .int u_rings, .int u_size, .int u_least, .long u_worth, .ref q_ring, .ref q_balance, .ref q_left, .ref q_sum, .ref q_parts, .int u_groups, .ref q_group, .int u_paid, .ref q_payment, .ref q_then, .int u_imaged, .ref q_image, .ref q_tapeSort, .ref q_tapeSize, .ref q_items])), (q_owes, .inl (C 0, 36, .inl u_owes_7)), (q_denies, .inl (C 0, 36, .inl u_denies_7)), (q_debt, .inl (C 0, 30, .inl u_debt_11)), (q_cut, .inl (C 0, 120, .inl u_cut_15)), (q_sight, .inl (C 0, 15, .inl u_sight_19)), (q_event, .inl (C 0, 16, .inl u_event_23)), (q_book, .inl (C 0, 24, .inl u_book_27)), (q_image, .inl (C 0, 284, .inl u_image))]) cx hw iX9 tyX9_ok nmX9 0 5 rfl rfl (by decide) wf_X9_168 rfl rfl rfl rfl (Nat.le_of_ble_eq_true rfl) dX9_undo_232 rfl (fun H locs hw => ?_)
                refine lv_aload_n hx hb dX9_undo_235 rfl (lv_at hl 0 rfl) ?_
                refine lv_aload_n hx hb dX9_undo_236 rfl (lv_at hl 0 rfl) ?_
                refine r_get (ci := 9) (v := .ref q_image) cx hw iX9 0 32 rfl rfl (by decide) wf_X9_63 rfl dX9_undo_237 ?_
                refine lv_sipush (v := 280) hx hb dX9_undo_240 (by decide) ?_
                obtain ⟨g31, hF⟩ := gA_s hF
                refine r_iald cx hw 8 rfl g31 dX9_undo_243 ?_
                refine r_put (ci := 9) (w2 := [(q_, .inr (9, [.int (u_image (277 : Int32).toNatClampNeg), .ref q_owes, .ref q_denies, .int (u_image (278 : Int32).toNatClampNeg), .ref q_debt, .int (u_image (279 : Int32).toNatClampNeg), .ref q_cut, .int (u_image (280 : Int32).toNatClampNeg), .ref q_sight, .int u_events, .ref q_event, .int u_inBook, .ref q_book, .int u_texted, .ref q_text, .ref q_path, .int u_rule, .int u_rings, .int u_size, .int u_least, .long u_worth, .ref q_ring, .ref q_balance, .ref q_left, .ref q_sum, .ref q_parts, .int u_groups, .ref q_group, .int u_paid, .ref q_payment, .ref q_then, .int u_imaged, .ref q_image, .ref q_tapeSort, .ref q_tapeSize, .ref q_items])), (q_owes, .inl (C 0, 36, .inl u_owes_7)), (q_denies, .inl (C 0, 36, .inl u_denies_7)), (q_debt, .inl (C 0, 30, .inl u_debt_11)), (q_cut, .inl (C 0, 120, .inl u_cut_15)), (q_sight, .inl (C 0, 15, .inl u_sight_19)), (q_event, .inl (C 0, 16, .inl u_event_23)), (q_book, .inl (C 0, 24, .inl u_book_27)), (q_image, .inl (C 0, 284, .inl u_image))]) cx hw iX9 tyX9_ok nmX9 0 7 rfl rfl (by decide) wf_X9_233 rfl rfl rfl rfl (Nat.le_of_ble_eq_true rfl) dX9_undo_244 rfl (fun H locs hw => ?_)
                refine lv_aload_n hx hb dX9_undo_247 rfl (lv_at hl 0 rfl) ?_
                refine lv_aload_n hx hb dX9_undo_248 rfl (lv_at hl 0 rfl) ?_
                refine r_get (ci := 9) (v := .ref q_image) cx hw iX9 0 32 rfl rfl (by decide) wf_X9_63 rfl dX9_undo_249 ?_
                refine lv_sipush (v := 281) hx hb dX9_undo_252 (by decide) ?_
                obtain ⟨g32, hF⟩ := gA_s hF
                refine r_iald cx hw 8 rfl g32 dX9_undo_255 ?_
                refine r_put (ci := 9) (w2 := [(q_, .inr (9, [.int (u_image (277 : Int32).toNatClampNeg), .ref q_owes, .ref q_denies, .int (u_image (278 : Int32).toNatClampNeg), .ref q_debt, .int (u_image (279 : Int32).toNatClampNeg), .ref q_cut, .int (u_image (280 : Int32).toNatClampNeg), .ref q_sight, .int (u_image (281 : Int32).toNatClampNeg), .ref q_event, .int u_inBook, .ref q_book, .int u_texted, .ref q_text, .ref q_path, .int u_rule, .int u_rings, .int u_size, .int u_least, .long u_worth, .ref q_ring, .ref q_balance, .ref q_left, .ref q_sum, .ref q_parts, .int u_groups, .ref q_group, .int u_paid, .ref q_payment, .ref q_then, .int u_imaged, .ref q_image, .ref q_tapeSort, .ref q_tapeSize, .ref q_items])), (q_owes, .inl (C 0, 36, .inl u_owes_7)), (q_denies, .inl (C 0, 36, .inl u_denies_7)), (q_debt, .inl (C 0, 30, .inl u_debt_11)), (q_cut, .inl (C 0, 120, .inl u_cut_15)), (q_sight, .inl (C 0, 15, .inl u_sight_19)), (q_event, .inl (C 0, 16, .inl u_event_23)), (q_book, .inl (C 0, 24, .inl u_book_27)), (q_image, .inl (C 0, 284, .inl u_image))]) cx hw iX9 tyX9_ok nmX9 0 9 rfl rfl (by decide) wf_X9_255 rfl rfl rfl rfl (Nat.le_of_ble_eq_true rfl) dX9_undo_256 rfl (fun H locs hw => ?_)
                refine lv_aload_n hx hb dX9_undo_259 rfl (lv_at hl 0 rfl) ?_
                refine lv_aload_n hx hb dX9_undo_260 rfl (lv_at hl 0 rfl) ?_
                refine r_get (ci := 9) (v := .ref q_image) cx hw iX9 0 32 rfl rfl (by decide) wf_X9_63 rfl dX9_undo_261 ?_
                refine lv_sipush (v := 282) hx hb dX9_undo_264 (by decide) ?_
                obtain ⟨g33, hF⟩ := gA_s hF
                refine r_iald cx hw 8 rfl g33 dX9_undo_267 ?_
                refine r_put (ci := 9) (w2 := [(q_, .inr (9, [.int (u_image (277 : Int32).toNatClampNeg), .ref q_owes, .ref q_denies, .int (u_image (278 : Int32).toNatClampNeg), .ref q_debt, .int (u_image (279 : Int32).toNatClampNeg), .ref q_cut, .int (u_image (280 : Int32).toNatClampNeg), .ref q_sight, .int (u_image (281 : Int32).toNatClampNeg), .ref q_event, .int (u_image (282 : Int32).toNatClampNeg), .ref q_book, .int u_texted, .ref q_text, .ref q_path, .int u_rule, .int u_rings, .int u_size, .int u_least, .long u_worth, .ref q_ring, .ref q_balance, .ref q_left, .ref q_sum, .ref q_parts, .int u_groups, .ref q_group, .int u_paid, .ref q_payment, .ref q_then, .int u_imaged, .ref q_image, .ref q_tapeSort, .ref q_tapeSize, .ref q_items])), (q_owes, .inl (C 0, 36, .inl u_owes_7)), (q_denies, .inl (C 0, 36, .inl u_denies_7)), (q_debt, .inl (C 0, 30, .inl u_debt_11)), (q_cut, .inl (C 0, 120, .inl u_cut_15)), (q_sight, .inl (C 0, 15, .inl u_sight_19)), (q_event, .inl (C 0, 16, .inl u_event_23)), (q_book, .inl (C 0, 24, .inl u_book_27)), (q_image, .inl (C 0, 284, .inl u_image))]) cx hw iX9 tyX9_ok nmX9 0 11 rfl rfl (by decide) wf_X9_261 rfl rfl rfl rfl (Nat.le_of_ble_eq_true rfl) dX9_undo_268 rfl (fun H locs hw => ?_)
                refine lv_aload_n hx hb dX9_undo_271 rfl (lv_at hl 0 rfl) ?_
                refine r_get (ci := 9) (v := .int (u_image (277 : Int32).toNatClampNeg)) cx hw iX9 0 0 rfl rfl (by decide) wf_X9_76 rfl dX9_undo_272 ?_
                obtain rfl := Option.some.inj hF
                exact rt_i hret hw rfl dX9_undo_275
  · replace hF := oi_t c1 hF
    refine lv_bipush (v := (-3)) hx hb dX9_undo_7 (by decide) ?_
    obtain rfl := Option.some.inj hF
    exact rt_i hret hw rfl dX9_undo_9
theorem dX9_count_0 : decode cX9_count 0 = .ok (.iload_n 1, 1) := by decide +kernel
theorem dX9_count_1 : decode cX9_count 1 = .ok (.tableswitch 51 0 3 #[31, 36, 41, 46], 31) := by decide +kernel
theorem dX9_count_32 : decode cX9_count 32 = .ok (.aload_n 0, 1) := by decide +kernel
theorem dX9_count_33 : decode cX9_count 33 = .ok (.getfield 233, 3) := by decide +kernel
theorem dX9_count_36 : decode cX9_count 36 = .ok (.ireturn, 1) := by decide +kernel
theorem dX9_count_37 : decode cX9_count 37 = .ok (.aload_n 0, 1) := by decide +kernel
theorem dX9_count_38 : decode cX9_count 38 = .ok (.getfield 255, 3) := by decide +kernel
theorem dX9_count_41 : decode cX9_count 41 = .ok (.ireturn, 1) := by decide +kernel
theorem dX9_count_42 : decode cX9_count 42 = .ok (.aload_n 0, 1) := by decide +kernel
theorem dX9_count_43 : decode cX9_count 43 = .ok (.getfield 261, 3) := by decide +kernel
theorem dX9_count_46 : decode cX9_count 46 = .ok (.ireturn, 1) := by decide +kernel
theorem dX9_count_47 : decode cX9_count 47 = .ok (.aload_n 0, 1) := by decide +kernel
theorem dX9_count_48 : decode cX9_count 48 = .ok (.getfield 103, 3) := by decide +kernel
theorem dX9_count_51 : decode cX9_count 51 = .ok (.ireturn, 1) := by decide +kernel
theorem dX9_count_52 : decode cX9_count 52 = .ok (.bipush (-2), 2) := by decide +kernel
theorem dX9_count_54 : decode cX9_count 54 = .ok (.ireturn, 1) := by decide +kernel
def fX9_count (u_seen : Int32) (u_events : Int32) (u_inBook : Int32) (u_texted : Int32) (x1 : Int32) : Option Int32 := if x1 = 0 then (some u_seen) else (if x1 = 1 then (some u_events) else (if x1 = 2 then (some u_inBook) else (if x1 = 3 then (some u_texted) else (some (-2)))))
set_option maxRecDepth 20000 in
theorem CX9_count (l : Launch) (D : va_G) (C : Nat → ClassId) (q_ q_owes q_denies q_debt q_cut q_sight q_event q_book q_text q_path q_ring q_balance q_left q_sum q_parts q_group q_payment q_then q_image q_tapeSort q_tapeSize q_items : Nat) (u_people : Int32) (u_debts : Int32) (u_cuts : Int32) (u_seen : Int32) (u_events : Int32) (u_inBook : Int32) (u_texted : Int32) (u_rule : Int32) (u_rings : Int32) (u_size : Int32) (u_least : Int32) (u_worth : Int64) (u_groups : Int32) (u_paid : Int32) (u_imaged : Int32) (x1 : Int32) (z : Int32) (hF : fX9_count u_seen u_events u_inBook u_texted x1 = some z) : Ct l yX9_count cX9_count 2 (some .int) 1 D C [.ref q_, .int x1] [(q_, .inr (9, [.int u_people, .ref q_owes, .ref q_denies, .int u_debts, .ref q_debt, .int u_cuts, .ref q_cut, .int u_seen, .ref q_sight, .int u_events, .ref q_event, .int u_inBook, .ref q_book, .int u_texted, .ref q_text, .ref q_path, .int u_rule, .int u_rings, .int u_size, .int u_least, .long u_worth, .ref q_ring, .ref q_balance, .ref q_left, .ref q_sum, .ref q_parts, .int u_groups, .ref q_group, .int u_paid, .ref q_payment, .ref q_then, .int u_imaged, .ref q_image, .ref q_tapeSort, .ref q_tapeSize, .ref q_items]))] [(q_, .inr (9, [.int u_people, .ref q_owes, .ref q_denies, .int u_debts, .ref q_debt, .int u_cuts, .ref q_cut, .int u_seen, .ref q_sight, .int u_events, .ref q_event, .int u_inBook, .ref q_book, .int u_texted, .ref q_text, .ref q_path, .int u_rule, .int u_rings, .int u_size, .int u_least, .long u_worth, .ref q_ring, .ref q_balance, .ref q_left, .ref q_sum, .ref q_parts, .int u_groups, .ref q_group, .int u_paid, .ref q_payment, .ref q_then, .int u_imaged, .ref q_image, .ref q_tapeSort, .ref q_tapeSize, .ref q_items]))] (some (.int z)) := by
  refine Ct_of (by decide) (Nat.le_of_ble_eq_true rfl) ?_
  intro p e R s m args below meth c A Q H locs ls cx hw hl hret
  have cx : CX p m c s args RX9 cX9_count 2 D C A R 1 := cx
  have hx := cx.1
  have hb := cx.2.1
  have hl : lv_has ls 2 [(0, .ref q_), (1, .int x1)] := hl
  rw [fX9_count.eq_1] at hF
  refine lv_iload_n hx hb dX9_count_0 rfl (lv_at hl 1 rfl) ?_
  by_cases c1 : x1 = 0
  · replace hF := oi_t c1 hF
    refine lv_tableIn (tgt := 32) (off := 31) hx hb dX9_count_1 (by rw [c1]; decide) (by rw [c1]; decide) (by rw [c1]; decide +kernel) (by decide) ?_
    refine lv_aload_n hx hb dX9_count_32 rfl (lv_at hl 0 rfl) ?_
    refine r_get (ci := 9) (v := .int u_seen) cx hw iX9 0 7 rfl rfl (by decide) wf_X9_233 rfl dX9_count_33 ?_
    obtain rfl := Option.some.inj hF
    exact rt_i hret hw rfl dX9_count_36
  replace hF := oi_f c1 hF
  by_cases c2 : x1 = 1
  · replace hF := oi_t c2 hF
    refine lv_tableIn (tgt := 37) (off := 36) hx hb dX9_count_1 (by rw [c2]; decide) (by rw [c2]; decide) (by rw [c2]; decide +kernel) (by decide) ?_
    refine lv_aload_n hx hb dX9_count_37 rfl (lv_at hl 0 rfl) ?_
    refine r_get (ci := 9) (v := .int u_events) cx hw iX9 0 9 rfl rfl (by decide) wf_X9_255 rfl dX9_count_38 ?_
    obtain rfl := Option.some.inj hF
    exact rt_i hret hw rfl dX9_count_41
  replace hF := oi_f c2 hF
  by_cases c3 : x1 = 2
  · replace hF := oi_t c3 hF
    refine lv_tableIn (tgt := 42) (off := 41) hx hb dX9_count_1 (by rw [c3]; decide) (by rw [c3]; decide) (by rw [c3]; decide +kernel) (by decide) ?_
    refine lv_aload_n hx hb dX9_count_42 rfl (lv_at hl 0 rfl) ?_
    refine r_get (ci := 9) (v := .int u_inBook) cx hw iX9 0 11 rfl rfl (by decide) wf_X9_261 rfl dX9_count_43 ?_
    obtain rfl := Option.some.inj hF
    exact rt_i hret hw rfl dX9_count_46
  replace hF := oi_f c3 hF
  by_cases c4 : x1 = 3
  · replace hF := oi_t c4 hF
    refine lv_tableIn (tgt := 47) (off := 46) hx hb dX9_count_1 (by rw [c4]; decide) (by rw [c4]; decide) (by rw [c4]; decide +kernel) (by decide) ?_
    refine lv_aload_n hx hb dX9_count_47 rfl (lv_at hl 0 rfl) ?_
    refine r_get (ci := 9) (v := .int u_texted) cx hw iX9 0 13 rfl rfl (by decide) wf_X9_103 rfl dX9_count_48 ?_
    obtain rfl := Option.some.inj hF
    exact rt_i hret hw rfl dX9_count_51
  replace hF := oi_f c4 hF
  have t1 := ti_ne (n := 0) (by decide) c1
  have t2 := ti_ne (n := 1) (by decide) c2
  have t3 := ti_ne (n := 2) (by decide) c3
  have t4 := ti_ne (n := 3) (by decide) c4
  refine lv_tableOut (tgt := 52) hx hb dX9_count_1 (by omega) (by decide) ?_
  refine lv_bipush (v := (-2)) hx hb dX9_count_52 (by decide) ?_
  obtain rfl := Option.some.inj hF
  exact rt_i hret hw rfl dX9_count_54
theorem dX9_tape_0 : decode cX9_tape 0 = .ok (.iload_n 1, 1) := by decide +kernel
theorem dX9_tape_1 : decode cX9_tape 1 = .ok (.invokestatic 264, 3) := by decide +kernel
theorem dX9_tape_4 : decode cX9_tape 4 = .ok (.ifCond .ne 5, 3) := by decide +kernel
theorem dX9_tape_7 : decode cX9_tape 7 = .ok (.iconst (-1), 1) := by decide +kernel
theorem dX9_tape_8 : decode cX9_tape 8 = .ok (.ireturn, 1) := by decide +kernel
theorem dX9_tape_9 : decode cX9_tape 9 = .ok (.iload_n 2, 1) := by decide +kernel
theorem dX9_tape_10 : decode cX9_tape 10 = .ok (.iconst (-1), 1) := by decide +kernel
theorem dX9_tape_11 : decode cX9_tape 11 = .ok (.iconst 4, 1) := by decide +kernel
theorem dX9_tape_12 : decode cX9_tape 12 = .ok (.invokestatic 80, 3) := by decide +kernel
theorem dX9_tape_15 : decode cX9_tape 15 = .ok (.ifCond .eq 13, 3) := by decide +kernel
theorem dX9_tape_18 : decode cX9_tape 18 = .ok (.iload_n 2, 1) := by decide +kernel
theorem dX9_tape_19 : decode cX9_tape 19 = .ok (.ifCond .lt 12, 3) := by decide +kernel
theorem dX9_tape_22 : decode cX9_tape 22 = .ok (.iload_n 3, 1) := by decide +kernel
theorem dX9_tape_23 : decode cX9_tape 23 = .ok (.bipush 60, 2) := by decide +kernel
theorem dX9_tape_25 : decode cX9_tape 25 = .ok (.if_icmp .le 6, 3) := by decide +kernel
theorem dX9_tape_28 : decode cX9_tape 28 = .ok (.bipush (-2), 2) := by decide +kernel
theorem dX9_tape_30 : decode cX9_tape 30 = .ok (.ireturn, 1) := by decide +kernel
theorem dX9_tape_31 : decode cX9_tape 31 = .ok (.iload_n 2, 1) := by decide +kernel
theorem dX9_tape_32 : decode cX9_tape 32 = .ok (.ifCond .lt 10, 3) := by decide +kernel
theorem dX9_tape_35 : decode cX9_tape 35 = .ok (.iload_n 3, 1) := by decide +kernel
theorem dX9_tape_36 : decode cX9_tape 36 = .ok (.ifCond .ge 6, 3) := by decide +kernel
theorem dX9_tape_39 : decode cX9_tape 39 = .ok (.bipush (-14), 2) := by decide +kernel
theorem dX9_tape_41 : decode cX9_tape 41 = .ok (.ireturn, 1) := by decide +kernel
theorem dX9_tape_42 : decode cX9_tape 42 = .ok (.aload_n 0, 1) := by decide +kernel
theorem dX9_tape_43 : decode cX9_tape 43 = .ok (.getfield 66, 3) := by decide +kernel
theorem dX9_tape_46 : decode cX9_tape 46 = .ok (.iload_n 1, 1) := by decide +kernel
theorem dX9_tape_47 : decode cX9_tape 47 = .ok (.iload_n 2, 1) := by decide +kernel
theorem dX9_tape_48 : decode cX9_tape 48 = .ok (.iastore, 1) := by decide +kernel
theorem dX9_tape_49 : decode cX9_tape 49 = .ok (.aload_n 0, 1) := by decide +kernel
theorem dX9_tape_50 : decode cX9_tape 50 = .ok (.getfield 69, 3) := by decide +kernel
theorem dX9_tape_53 : decode cX9_tape 53 = .ok (.iload_n 1, 1) := by decide +kernel
theorem dX9_tape_54 : decode cX9_tape 54 = .ok (.iload_n 2, 1) := by decide +kernel
theorem dX9_tape_55 : decode cX9_tape 55 = .ok (.ifCond .ge 7, 3) := by decide +kernel
theorem dX9_tape_58 : decode cX9_tape 58 = .ok (.iconst 0, 1) := by decide +kernel
theorem dX9_tape_59 : decode cX9_tape 59 = .ok (.goto 4, 3) := by decide +kernel
theorem dX9_tape_62 : decode cX9_tape 62 = .ok (.iload_n 3, 1) := by decide +kernel
theorem dX9_tape_63 : decode cX9_tape 63 = .ok (.iastore, 1) := by decide +kernel
theorem dX9_tape_64 : decode cX9_tape 64 = .ok (.iconst 0, 1) := by decide +kernel
theorem dX9_tape_65 : decode cX9_tape 65 = .ok (.istore 4, 2) := by decide +kernel
theorem dX9_tape_67 : decode cX9_tape 67 = .ok (.iload 4, 2) := by decide +kernel
theorem dX9_tape_69 : decode cX9_tape 69 = .ok (.bipush 60, 2) := by decide +kernel
theorem dX9_tape_71 : decode cX9_tape 71 = .ok (.if_icmp .ge 22, 3) := by decide +kernel
theorem dX9_tape_74 : decode cX9_tape 74 = .ok (.aload_n 0, 1) := by decide +kernel
theorem dX9_tape_75 : decode cX9_tape 75 = .ok (.getfield 72, 3) := by decide +kernel
theorem dX9_tape_78 : decode cX9_tape 78 = .ok (.bipush 60, 2) := by decide +kernel
theorem dX9_tape_80 : decode cX9_tape 80 = .ok (.iload_n 1, 1) := by decide +kernel
theorem dX9_tape_81 : decode cX9_tape 81 = .ok (.imul, 1) := by decide +kernel
theorem dX9_tape_82 : decode cX9_tape 82 = .ok (.iload 4, 2) := by decide +kernel
theorem dX9_tape_84 : decode cX9_tape 84 = .ok (.iadd, 1) := by decide +kernel
theorem dX9_tape_85 : decode cX9_tape 85 = .ok (.lconst 0, 1) := by decide +kernel
theorem dX9_tape_86 : decode cX9_tape 86 = .ok (.lastore, 1) := by decide +kernel
theorem dX9_tape_87 : decode cX9_tape 87 = .ok (.iinc 4 1, 3) := by decide +kernel
theorem dX9_tape_90 : decode cX9_tape 90 = .ok (.goto (-23), 3) := by decide +kernel
theorem dX9_tape_93 : decode cX9_tape 93 = .ok (.iconst 1, 1) := by decide +kernel
theorem dX9_tape_94 : decode cX9_tape 94 = .ok (.ireturn, 1) := by decide +kernel
def fX9_tape_L67 (u_tapeSort : (Nat → Int32)) (u_tapeSize : (Nat → Int32)) (x1 : Int32) : Nat → Int32 → (Nat → Int64) → Option (Int32 × (Nat → Int32) × (Nat → Int32) × (Nat → Int64))
  | 0, _, _ => none
  | n + 1, x4, u_items => if 60 ≤ x4 then (some (1, u_tapeSort, u_tapeSize, u_items)) else (gA ((60 * x1) + x4) 360 (fX9_tape_L67 u_tapeSort u_tapeSize x1 n (x4 + 1) (vp_updL u_items ((60 * x1) + x4 : Int32).toNatClampNeg 0)))
def fX9_tape (u_tapeSort : (Nat → Int32)) (u_tapeSize : (Nat → Int32)) (u_items : (Nat → Int64)) (x1 : Int32) (x2 : Int32) (x3 : Int32) : Option (Int32 × (Nat → Int32) × (Nat → Int32) × (Nat → Int64)) := (fX9_isTape x1).bind (fun z1 => if z1 = 0 then (some ((-1), u_tapeSort, u_tapeSize, u_items)) else ((fX9_within x2 (-1) 4).bind (fun z3 => if z3 = 0 then (some ((-2), u_tapeSort, u_tapeSize, u_items)) else (if x2 < 0 then (if x2 < 0 then (gA x1 6 (if 0 ≤ x2 then (gA x1 6 (fX9_tape_L67 (upd u_tapeSort (x1 : Int32).toNatClampNeg x2) (upd u_tapeSize (x1 : Int32).toNatClampNeg x3) x1 400 0 u_items)) else (gA x1 6 (fX9_tape_L67 (upd u_tapeSort (x1 : Int32).toNatClampNeg x2) (upd u_tapeSize (x1 : Int32).toNatClampNeg 0) x1 400 0 u_items)))) else (if 0 ≤ x3 then (gA x1 6 (if 0 ≤ x2 then (gA x1 6 (fX9_tape_L67 (upd u_tapeSort (x1 : Int32).toNatClampNeg x2) (upd u_tapeSize (x1 : Int32).toNatClampNeg x3) x1 400 0 u_items)) else (gA x1 6 (fX9_tape_L67 (upd u_tapeSort (x1 : Int32).toNatClampNeg x2) (upd u_tapeSize (x1 : Int32).toNatClampNeg 0) x1 400 0 u_items)))) else (some ((-14), u_tapeSort, u_tapeSize, u_items)))) else (if x3 ≤ 60 then (if x2 < 0 then (gA x1 6 (if 0 ≤ x2 then (gA x1 6 (fX9_tape_L67 (upd u_tapeSort (x1 : Int32).toNatClampNeg x2) (upd u_tapeSize (x1 : Int32).toNatClampNeg x3) x1 400 0 u_items)) else (gA x1 6 (fX9_tape_L67 (upd u_tapeSort (x1 : Int32).toNatClampNeg x2) (upd u_tapeSize (x1 : Int32).toNatClampNeg 0) x1 400 0 u_items)))) else (if 0 ≤ x3 then (gA x1 6 (if 0 ≤ x2 then (gA x1 6 (fX9_tape_L67 (upd u_tapeSort (x1 : Int32).toNatClampNeg x2) (upd u_tapeSize (x1 : Int32).toNatClampNeg x3) x1 400 0 u_items)) else (gA x1 6 (fX9_tape_L67 (upd u_tapeSort (x1 : Int32).toNatClampNeg x2) (upd u_tapeSize (x1 : Int32).toNatClampNeg 0) x1 400 0 u_items)))) else (some ((-14), u_tapeSort, u_tapeSize, u_items)))) else (some ((-2), u_tapeSort, u_tapeSize, u_items)))))))
set_option maxRecDepth 20000 in
theorem LX9_tape_67 {p : Program} {l : Launch} {e : Env} {R : Room} {s : State} {m : MethodId} {args : Array Value} {below : List Frame} {meth : Method} {c : Code} {Q : State → Prop} {D : va_G} {C : Nat → ClassId} {A : Nat → Prop} (cx : CX p m c s args RX9 cX9_tape 5 D C A R 3) {q_ q_owes q_denies q_debt q_cut q_sight q_event q_book q_text q_path q_ring q_balance q_left q_sum q_parts q_group q_payment q_then q_image q_tapeSort q_tapeSize q_items : Nat} {u_people : Int32} {u_debts : Int32} {u_cuts : Int32} {u_seen : Int32} {u_events : Int32} {u_inBook : Int32} {u_texted : Int32} {u_rule : Int32} {u_rings : Int32} {u_size : Int32} {u_least : Int32} {u_worth : Int64} {u_groups : Int32} {u_paid : Int32} {u_imaged : Int32} {u_tapeSort : (Nat → Int32)} {u_tapeSize : (Nat → Int32)} {x1 : Int32} {z : (Int32 × (Nat → Int32) × (Nat → Int32) × (Nat → Int64))} (hret : RT p l e R s m args below meth c Q D A cX9_tape (some .int) [(q_, .inr (9, [.int u_people, .ref q_owes, .ref q_denies, .int u_debts, .ref q_debt, .int u_cuts, .ref q_cut, .int u_seen, .ref q_sight, .int u_events, .ref q_event, .int u_inBook, .ref q_book, .int u_texted, .ref q_text, .ref q_path, .int u_rule, .int u_rings, .int u_size, .int u_least, .long u_worth, .ref q_ring, .ref q_balance, .ref q_left, .ref q_sum, .ref q_parts, .int u_groups, .ref q_group, .int u_paid, .ref q_payment, .ref q_then, .int u_imaged, .ref q_image, .ref q_tapeSort, .ref q_tapeSize, .ref q_items])), (q_tapeSort, .inl (C 0, 6, .inl z.2.1)), (q_tapeSize, .inl (C 0, 6, .inl z.2.2.1)), (q_items, .inl (C 1, 360, .inr (.inl z.2.2.2)))] (some (.int z.1))) :
    ∀ (n : Nat) (x4 : Int32) (u_items : (Nat → Int64)) (H : Heap) (locs : List Loc) (ls : Array Slot), fX9_tape_L67 u_tapeSort u_tapeSize x1 n x4 u_items = some z → HW D A s.heap H locs [(q_, .inr (9, [.int u_people, .ref q_owes, .ref q_denies, .int u_debts, .ref q_debt, .int u_cuts, .ref q_cut, .int u_seen, .ref q_sight, .int u_events, .ref q_event, .int u_inBook, .ref q_book, .int u_texted, .ref q_text, .ref q_path, .int u_rule, .int u_rings, .int u_size, .int u_least, .long u_worth, .ref q_ring, .ref q_balance, .ref q_left, .ref q_sum, .ref q_parts, .int u_groups, .ref q_group, .int u_paid, .ref q_payment, .ref q_then, .int u_imaged, .ref q_image, .ref q_tapeSort, .ref q_tapeSize, .ref q_items])), (q_tapeSort, .inl (C 0, 6, .inl u_tapeSort)), (q_tapeSize, .inl (C 0, 6, .inl u_tapeSize)), (q_items, .inl (C 1, 360, .inr (.inl u_items)))] → lv_has ls 5 [(0, .ref q_), (1, .int x1), (4, .int x4)] → W p l e R s m args below meth c H locs 0 0 Q (F0 m 67 ls []) := by
  have hx := cx.1
  have hb := cx.2.1
  intro n
  induction n with
  | zero => intro x4 u_items H locs ls hF; cases hF
  | succ n ih =>
    intro x4 u_items H locs ls hF hw hl
    rw [fX9_tape_L67.eq_2] at hF
    refine lv_iload hx hb dX9_tape_67 (lv_at hl 2 rfl) ?_
    refine lv_bipush (v := 60) hx hb dX9_tape_69 (by decide) ?_
    refine lv_icmp_ge (tgt := 93) hx hb dX9_tape_71 (by decide) (fun c8 => ?_) (fun c8 => ?_)
    · replace hF := oi_t c8 hF
      refine lv_iconst (v := 1) hx hb dX9_tape_93 (by decide) ?_
      obtain rfl := Option.some.inj hF
      exact rt_i hret hw rfl dX9_tape_94
    · replace hF := oi_f c8 hF
      refine lv_aload_n hx hb dX9_tape_74 rfl (lv_at hl 0 rfl) ?_
      refine r_get (ci := 9) (v := .ref q_items) cx hw iX9 0 35 rfl rfl (by decide) wf_X9_72 rfl dX9_tape_75 ?_
      refine lv_bipush (v := 60) hx hb dX9_tape_78 (by decide) ?_
      refine lv_iload_n hx hb dX9_tape_80 rfl (lv_at hl 1 rfl) ?_
      refine lv_imul hx hb dX9_tape_81 ?_
      refine lv_iload hx hb dX9_tape_82 (lv_at hl 2 rfl) ?_
      refine lv_iadd hx hb dX9_tape_84 ?_
      refine lv_lconst (v := 0) hx hb dX9_tape_85 (by decide) ?_
      obtain ⟨g9, hF⟩ := gA_s hF
      refine r_last (w2 := [(q_, .inr (9, [.int u_people, .ref q_owes, .ref q_denies, .int u_debts, .ref q_debt, .int u_cuts, .ref q_cut, .int u_seen, .ref q_sight, .int u_events, .ref q_event, .int u_inBook, .ref q_book, .int u_texted, .ref q_text, .ref q_path, .int u_rule, .int u_rings, .int u_size, .int u_least, .long u_worth, .ref q_ring, .ref q_balance, .ref q_left, .ref q_sum, .ref q_parts, .int u_groups, .ref q_group, .int u_paid, .ref q_payment, .ref q_then, .int u_imaged, .ref q_image, .ref q_tapeSort, .ref q_tapeSize, .ref q_items])), (q_tapeSort, .inl (C 0, 6, .inl u_tapeSort)), (q_tapeSize, .inl (C 0, 6, .inl u_tapeSize)), (q_items, .inl (C 1, 360, .inr (.inl (vp_updL u_items ((60 * x1) + x4 : Int32).toNatClampNeg 0))))]) cx hw 3 rfl g9 dX9_tape_86 rfl (fun H locs hw => ?_)
      refine lv_iinc (v := x4 + 1) (lv' := [(4, .int (x4 + 1)), (0, .ref q_), (1, .int x1)]) hx hb dX9_tape_87 hl (k := 2) rfl rfl (by decide) rfl (fun ls hl => ?_)
      refine lv_goto (tgt := 67) hx hb dX9_tape_90 (by decide) ?_
      exact ih (x4 + 1) (vp_updL u_items ((60 * x1) + x4 : Int32).toNatClampNeg 0) H locs ls hF hw (lv_sub hl [1, 2, 0] rfl)
set_option maxRecDepth 20000 in
theorem CX9_tape (l : Launch) (D : va_G) (C : Nat → ClassId) (q_ q_owes q_denies q_debt q_cut q_sight q_event q_book q_text q_path q_ring q_balance q_left q_sum q_parts q_group q_payment q_then q_image q_tapeSort q_tapeSize q_items : Nat) (u_people : Int32) (u_debts : Int32) (u_cuts : Int32) (u_seen : Int32) (u_events : Int32) (u_inBook : Int32) (u_texted : Int32) (u_rule : Int32) (u_rings : Int32) (u_size : Int32) (u_least : Int32) (u_worth : Int64) (u_groups : Int32) (u_paid : Int32) (u_imaged : Int32) (u_tapeSort : (Nat → Int32)) (u_tapeSize : (Nat → Int32)) (u_items : (Nat → Int64)) (x1 : Int32) (x2 : Int32) (x3 : Int32) (z : (Int32 × (Nat → Int32) × (Nat → Int32) × (Nat → Int64))) (hF : fX9_tape u_tapeSort u_tapeSize u_items x1 x2 x3 = some z) : Ct l yX9_tape cX9_tape 5 (some .int) 3 D C [.ref q_, .int x1, .int x2, .int x3] [(q_, .inr (9, [.int u_people, .ref q_owes, .ref q_denies, .int u_debts, .ref q_debt, .int u_cuts, .ref q_cut, .int u_seen, .ref q_sight, .int u_events, .ref q_event, .int u_inBook, .ref q_book, .int u_texted, .ref q_text, .ref q_path, .int u_rule, .int u_rings, .int u_size, .int u_least, .long u_worth, .ref q_ring, .ref q_balance, .ref q_left, .ref q_sum, .ref q_parts, .int u_groups, .ref q_group, .int u_paid, .ref q_payment, .ref q_then, .int u_imaged, .ref q_image, .ref q_tapeSort, .ref q_tapeSize, .ref q_items])), (q_tapeSort, .inl (C 0, 6, .inl u_tapeSort)), (q_tapeSize, .inl (C 0, 6, .inl u_tapeSize)), (q_items, .inl (C 1, 360, .inr (.inl u_items)))] [(q_, .inr (9, [.int u_people, .ref q_owes, .ref q_denies, .int u_debts, .ref q_debt, .int u_cuts, .ref q_cut, .int u_seen, .ref q_sight, .int u_events, .ref q_event, .int u_inBook, .ref q_book, .int u_texted, .ref q_text, .ref q_path, .int u_rule, .int u_rings, .int u_size, .int u_least, .long u_worth, .ref q_ring, .ref q_balance, .ref q_left, .ref q_sum, .ref q_parts, .int u_groups, .ref q_group, .int u_paid, .ref q_payment, .ref q_then, .int u_imaged, .ref q_image, .ref q_tapeSort, .ref q_tapeSize, .ref q_items])), (q_tapeSort, .inl (C 0, 6, .inl z.2.1)), (q_tapeSize, .inl (C 0, 6, .inl z.2.2.1)), (q_items, .inl (C 1, 360, .inr (.inl z.2.2.2)))] (some (.int z.1)) := by
  refine Ct_of (by decide) (Nat.le_of_ble_eq_true rfl) ?_
  intro p e R s m args below meth c A Q H locs ls cx hw hl hret
  have cx : CX p m c s args RX9 cX9_tape 5 D C A R 3 := cx
  have hx := cx.1
  have hb := cx.2.1
  have hl : lv_has ls 5 [(0, .ref q_), (1, .int x1), (2, .int x2), (3, .int x3)] := hl
  rw [fX9_tape.eq_1] at hF
  refine lv_iload_n hx hb dX9_tape_0 rfl (lv_at hl 1 rfl) ?_
  obtain ⟨z1, hz1, hF⟩ := ob hF
  refine cS (wr := [(q_, .inr (9, [.int u_people, .ref q_owes, .ref q_denies, .int u_debts, .ref q_debt, .int u_cuts, .ref q_cut, .int u_seen, .ref q_sight, .int u_events, .ref q_event, .int u_inBook, .ref q_book, .int u_texted, .ref q_text, .ref q_path, .int u_rule, .int u_rings, .int u_size, .int u_least, .long u_worth, .ref q_ring, .ref q_balance, .ref q_left, .ref q_sum, .ref q_parts, .int u_groups, .ref q_group, .int u_paid, .ref q_payment, .ref q_then, .int u_imaged, .ref q_image, .ref q_tapeSort, .ref q_tapeSize, .ref q_items])), (q_tapeSort, .inl (C 0, 6, .inl u_tapeSort)), (q_tapeSize, .inl (C 0, 6, .inl u_tapeSize)), (q_items, .inl (C 1, 360, .inr (.inl u_items)))]) (w2 := [(q_, .inr (9, [.int u_people, .ref q_owes, .ref q_denies, .int u_debts, .ref q_debt, .int u_cuts, .ref q_cut, .int u_seen, .ref q_sight, .int u_events, .ref q_event, .int u_inBook, .ref q_book, .int u_texted, .ref q_text, .ref q_path, .int u_rule, .int u_rings, .int u_size, .int u_least, .long u_worth, .ref q_ring, .ref q_balance, .ref q_left, .ref q_sum, .ref q_parts, .int u_groups, .ref q_group, .int u_paid, .ref q_payment, .ref q_then, .int u_imaged, .ref q_image, .ref q_tapeSort, .ref q_tapeSize, .ref q_items])), (q_tapeSort, .inl (C 0, 6, .inl u_tapeSort)), (q_tapeSize, .inl (C 0, 6, .inl u_tapeSize)), (q_items, .inl (C 1, 360, .inr (.inl u_items)))]) (st2 := [.int z1]) cx (CX9_isTape l D C x1 z1 hz1) lk_X9_264 my_X9_isTape ml_X9_isTape ⟨by decide, by decide⟩ hw [] [0, 1, 2, 3] [0, 1, 2, 3] rfl rfl (by decide) rfl rfl (Nat.le_of_ble_eq_true rfl) dX9_tape_1 rfl (fun H locs hw => ?_) hl.1
  refine lv_if_ne (tgt := 9) hx hb dX9_tape_4 (by decide) (fun c2 => ?_) (fun c2 => ?_)
  · replace hF := oi_f c2 hF
    refine lv_iload_n hx hb dX9_tape_9 rfl (lv_at hl 2 rfl) ?_
    refine lv_iconst (v := (-1)) hx hb dX9_tape_10 (by decide) ?_
    refine lv_iconst (v := 4) hx hb dX9_tape_11 (by decide) ?_
    obtain ⟨z3, hz3, hF⟩ := ob hF
    refine cS (wr := [(q_, .inr (9, [.int u_people, .ref q_owes, .ref q_denies, .int u_debts, .ref q_debt, .int u_cuts, .ref q_cut, .int u_seen, .ref q_sight, .int u_events, .ref q_event, .int u_inBook, .ref q_book, .int u_texted, .ref q_text, .ref q_path, .int u_rule, .int u_rings, .int u_size, .int u_least, .long u_worth, .ref q_ring, .ref q_balance, .ref q_left, .ref q_sum, .ref q_parts, .int u_groups, .ref q_group, .int u_paid, .ref q_payment, .ref q_then, .int u_imaged, .ref q_image, .ref q_tapeSort, .ref q_tapeSize, .ref q_items])), (q_tapeSort, .inl (C 0, 6, .inl u_tapeSort)), (q_tapeSize, .inl (C 0, 6, .inl u_tapeSize)), (q_items, .inl (C 1, 360, .inr (.inl u_items)))]) (w2 := [(q_, .inr (9, [.int u_people, .ref q_owes, .ref q_denies, .int u_debts, .ref q_debt, .int u_cuts, .ref q_cut, .int u_seen, .ref q_sight, .int u_events, .ref q_event, .int u_inBook, .ref q_book, .int u_texted, .ref q_text, .ref q_path, .int u_rule, .int u_rings, .int u_size, .int u_least, .long u_worth, .ref q_ring, .ref q_balance, .ref q_left, .ref q_sum, .ref q_parts, .int u_groups, .ref q_group, .int u_paid, .ref q_payment, .ref q_then, .int u_imaged, .ref q_image, .ref q_tapeSort, .ref q_tapeSize, .ref q_items])), (q_tapeSort, .inl (C 0, 6, .inl u_tapeSort)), (q_tapeSize, .inl (C 0, 6, .inl u_tapeSize)), (q_items, .inl (C 1, 360, .inr (.inl u_items)))]) (st2 := [.int z3]) cx (CX9_within l D C x2 (-1) 4 z3 hz3) lk_X9_80 my_X9_within ml_X9_within ⟨by decide, by decide⟩ hw [] [0, 1, 2, 3] [0, 1, 2, 3] rfl rfl (by decide) rfl rfl (Nat.le_of_ble_eq_true rfl) dX9_tape_12 rfl (fun H locs hw => ?_) hl.1
    refine lv_if_eq (tgt := 28) hx hb dX9_tape_15 (by decide) (fun c4 => ?_) (fun c4 => ?_)
    · replace hF := oi_t c4 hF
      refine lv_bipush (v := (-2)) hx hb dX9_tape_28 (by decide) ?_
      obtain rfl := Option.some.inj hF
      exact rt_i hret hw rfl dX9_tape_30
    · replace hF := oi_f c4 hF
      refine lv_iload_n hx hb dX9_tape_18 rfl (lv_at hl 2 rfl) ?_
      refine lv_if_lt (tgt := 31) hx hb dX9_tape_19 (by decide) (fun c21 => ?_) (fun c21 => ?_)
      · replace hF := oi_t c21 hF
        refine lv_iload_n hx hb dX9_tape_31 rfl (lv_at hl 2 rfl) ?_
        refine lv_if_lt (tgt := 42) hx hb dX9_tape_32 (by decide) (fun c26 => ?_) (fun c26 => ?_)
        · replace hF := oi_t c26 hF
          refine lv_aload_n hx hb dX9_tape_42 rfl (lv_at hl 0 rfl) ?_
          refine r_get (ci := 9) (v := .ref q_tapeSort) cx hw iX9 0 33 rfl rfl (by decide) wf_X9_66 rfl dX9_tape_43 ?_
          refine lv_iload_n hx hb dX9_tape_46 rfl (lv_at hl 1 rfl) ?_
          refine lv_iload_n hx hb dX9_tape_47 rfl (lv_at hl 2 rfl) ?_
          obtain ⟨g27, hF⟩ := gA_s hF
          refine r_iast (w2 := [(q_, .inr (9, [.int u_people, .ref q_owes, .ref q_denies, .int u_debts, .ref q_debt, .int u_cuts, .ref q_cut, .int u_seen, .ref q_sight, .int u_events, .ref q_event, .int u_inBook, .ref q_book, .int u_texted, .ref q_text, .ref q_path, .int u_rule, .int u_rings, .int u_size, .int u_least, .long u_worth, .ref q_ring, .ref q_balance, .ref q_left, .ref q_sum, .ref q_parts, .int u_groups, .ref q_group, .int u_paid, .ref q_payment, .ref q_then, .int u_imaged, .ref q_image, .ref q_tapeSort, .ref q_tapeSize, .ref q_items])), (q_tapeSort, .inl (C 0, 6, .inl (upd u_tapeSort (x1 : Int32).toNatClampNeg x2))), (q_tapeSize, .inl (C 0, 6, .inl u_tapeSize)), (q_items, .inl (C 1, 360, .inr (.inl u_items)))]) cx hw 1 rfl g27 dX9_tape_48 rfl (fun H locs hw => ?_)
          refine lv_aload_n hx hb dX9_tape_49 rfl (lv_at hl 0 rfl) ?_
          refine r_get (ci := 9) (v := .ref q_tapeSize) cx hw iX9 0 34 rfl rfl (by decide) wf_X9_69 rfl dX9_tape_50 ?_
          refine lv_iload_n hx hb dX9_tape_53 rfl (lv_at hl 1 rfl) ?_
          refine lv_iload_n hx hb dX9_tape_54 rfl (lv_at hl 2 rfl) ?_
          refine lv_if_ge (tgt := 62) hx hb dX9_tape_55 (by decide) (fun c28 => ?_) (fun c28 => ?_)
          · replace hF := oi_t c28 hF
            refine lv_iload_n hx hb dX9_tape_62 rfl (lv_at hl 3 rfl) ?_
            obtain ⟨g29, hF⟩ := gA_s hF
            refine r_iast (w2 := [(q_, .inr (9, [.int u_people, .ref q_owes, .ref q_denies, .int u_debts, .ref q_debt, .int u_cuts, .ref q_cut, .int u_seen, .ref q_sight, .int u_events, .ref q_event, .int u_inBook, .ref q_book, .int u_texted, .ref q_text, .ref q_path, .int u_rule, .int u_rings, .int u_size, .int u_least, .long u_worth, .ref q_ring, .ref q_balance, .ref q_left, .ref q_sum, .ref q_parts, .int u_groups, .ref q_group, .int u_paid, .ref q_payment, .ref q_then, .int u_imaged, .ref q_image, .ref q_tapeSort, .ref q_tapeSize, .ref q_items])), (q_tapeSort, .inl (C 0, 6, .inl (upd u_tapeSort (x1 : Int32).toNatClampNeg x2))), (q_tapeSize, .inl (C 0, 6, .inl (upd u_tapeSize (x1 : Int32).toNatClampNeg x3))), (q_items, .inl (C 1, 360, .inr (.inl u_items)))]) cx hw 2 rfl g29 dX9_tape_63 rfl (fun H locs hw => ?_)
            refine lv_iconst (v := 0) hx hb dX9_tape_64 (by decide) ?_
            refine lv_istore (lv' := [(4, .int 0), (0, .ref q_), (1, .int x1), (2, .int x2), (3, .int x3)]) hx hb dX9_tape_65 hl (by decide) rfl (fun ls hl => ?_)
            refine LX9_tape_67 cx hret 400 0 u_items H locs ls hF hw (lv_sub hl [1, 2, 0] rfl)
          · replace hF := oi_f c28 hF
            refine lv_iconst (v := 0) hx hb dX9_tape_58 (by decide) ?_
            refine lv_goto (tgt := 63) hx hb dX9_tape_59 (by decide) ?_
            obtain ⟨g30, hF⟩ := gA_s hF
            refine r_iast (w2 := [(q_, .inr (9, [.int u_people, .ref q_owes, .ref q_denies, .int u_debts, .ref q_debt, .int u_cuts, .ref q_cut, .int u_seen, .ref q_sight, .int u_events, .ref q_event, .int u_inBook, .ref q_book, .int u_texted, .ref q_text, .ref q_path, .int u_rule, .int u_rings, .int u_size, .int u_least, .long u_worth, .ref q_ring, .ref q_balance, .ref q_left, .ref q_sum, .ref q_parts, .int u_groups, .ref q_group, .int u_paid, .ref q_payment, .ref q_then, .int u_imaged, .ref q_image, .ref q_tapeSort, .ref q_tapeSize, .ref q_items])), (q_tapeSort, .inl (C 0, 6, .inl (upd u_tapeSort (x1 : Int32).toNatClampNeg x2))), (q_tapeSize, .inl (C 0, 6, .inl (upd u_tapeSize (x1 : Int32).toNatClampNeg 0))), (q_items, .inl (C 1, 360, .inr (.inl u_items)))]) cx hw 2 rfl g30 dX9_tape_63 rfl (fun H locs hw => ?_)
            refine lv_iconst (v := 0) hx hb dX9_tape_64 (by decide) ?_
            refine lv_istore (lv' := [(4, .int 0), (0, .ref q_), (1, .int x1), (2, .int x2), (3, .int x3)]) hx hb dX9_tape_65 hl (by decide) rfl (fun ls hl => ?_)
            refine LX9_tape_67 cx hret 400 0 u_items H locs ls hF hw (lv_sub hl [1, 2, 0] rfl)
        · replace hF := oi_f c26 hF
          refine lv_iload_n hx hb dX9_tape_35 rfl (lv_at hl 3 rfl) ?_
          refine lv_if_ge (tgt := 42) hx hb dX9_tape_36 (by decide) (fun c31 => ?_) (fun c31 => ?_)
          · replace hF := oi_t c31 hF
            refine lv_aload_n hx hb dX9_tape_42 rfl (lv_at hl 0 rfl) ?_
            refine r_get (ci := 9) (v := .ref q_tapeSort) cx hw iX9 0 33 rfl rfl (by decide) wf_X9_66 rfl dX9_tape_43 ?_
            refine lv_iload_n hx hb dX9_tape_46 rfl (lv_at hl 1 rfl) ?_
            refine lv_iload_n hx hb dX9_tape_47 rfl (lv_at hl 2 rfl) ?_
            obtain ⟨g32, hF⟩ := gA_s hF
            refine r_iast (w2 := [(q_, .inr (9, [.int u_people, .ref q_owes, .ref q_denies, .int u_debts, .ref q_debt, .int u_cuts, .ref q_cut, .int u_seen, .ref q_sight, .int u_events, .ref q_event, .int u_inBook, .ref q_book, .int u_texted, .ref q_text, .ref q_path, .int u_rule, .int u_rings, .int u_size, .int u_least, .long u_worth, .ref q_ring, .ref q_balance, .ref q_left, .ref q_sum, .ref q_parts, .int u_groups, .ref q_group, .int u_paid, .ref q_payment, .ref q_then, .int u_imaged, .ref q_image, .ref q_tapeSort, .ref q_tapeSize, .ref q_items])), (q_tapeSort, .inl (C 0, 6, .inl (upd u_tapeSort (x1 : Int32).toNatClampNeg x2))), (q_tapeSize, .inl (C 0, 6, .inl u_tapeSize)), (q_items, .inl (C 1, 360, .inr (.inl u_items)))]) cx hw 1 rfl g32 dX9_tape_48 rfl (fun H locs hw => ?_)
            refine lv_aload_n hx hb dX9_tape_49 rfl (lv_at hl 0 rfl) ?_
            refine r_get (ci := 9) (v := .ref q_tapeSize) cx hw iX9 0 34 rfl rfl (by decide) wf_X9_69 rfl dX9_tape_50 ?_
            refine lv_iload_n hx hb dX9_tape_53 rfl (lv_at hl 1 rfl) ?_
            refine lv_iload_n hx hb dX9_tape_54 rfl (lv_at hl 2 rfl) ?_
            refine lv_if_ge (tgt := 62) hx hb dX9_tape_55 (by decide) (fun c33 => ?_) (fun c33 => ?_)
            · replace hF := oi_t c33 hF
              refine lv_iload_n hx hb dX9_tape_62 rfl (lv_at hl 3 rfl) ?_
              obtain ⟨g34, hF⟩ := gA_s hF
              refine r_iast (w2 := [(q_, .inr (9, [.int u_people, .ref q_owes, .ref q_denies, .int u_debts, .ref q_debt, .int u_cuts, .ref q_cut, .int u_seen, .ref q_sight, .int u_events, .ref q_event, .int u_inBook, .ref q_book, .int u_texted, .ref q_text, .ref q_path, .int u_rule, .int u_rings, .int u_size, .int u_least, .long u_worth, .ref q_ring, .ref q_balance, .ref q_left, .ref q_sum, .ref q_parts, .int u_groups, .ref q_group, .int u_paid, .ref q_payment, .ref q_then, .int u_imaged, .ref q_image, .ref q_tapeSort, .ref q_tapeSize, .ref q_items])), (q_tapeSort, .inl (C 0, 6, .inl (upd u_tapeSort (x1 : Int32).toNatClampNeg x2))), (q_tapeSize, .inl (C 0, 6, .inl (upd u_tapeSize (x1 : Int32).toNatClampNeg x3))), (q_items, .inl (C 1, 360, .inr (.inl u_items)))]) cx hw 2 rfl g34 dX9_tape_63 rfl (fun H locs hw => ?_)
              refine lv_iconst (v := 0) hx hb dX9_tape_64 (by decide) ?_
              refine lv_istore (lv' := [(4, .int 0), (0, .ref q_), (1, .int x1), (2, .int x2), (3, .int x3)]) hx hb dX9_tape_65 hl (by decide) rfl (fun ls hl => ?_)
              refine LX9_tape_67 cx hret 400 0 u_items H locs ls hF hw (lv_sub hl [1, 2, 0] rfl)
            · replace hF := oi_f c33 hF
              refine lv_iconst (v := 0) hx hb dX9_tape_58 (by decide) ?_
              refine lv_goto (tgt := 63) hx hb dX9_tape_59 (by decide) ?_
              obtain ⟨g35, hF⟩ := gA_s hF
              refine r_iast (w2 := [(q_, .inr (9, [.int u_people, .ref q_owes, .ref q_denies, .int u_debts, .ref q_debt, .int u_cuts, .ref q_cut, .int u_seen, .ref q_sight, .int u_events, .ref q_event, .int u_inBook, .ref q_book, .int u_texted, .ref q_text, .ref q_path, .int u_rule, .int u_rings, .int u_size, .int u_least, .long u_worth, .ref q_ring, .ref q_balance, .ref q_left, .ref q_sum, .ref q_parts, .int u_groups, .ref q_group, .int u_paid, .ref q_payment, .ref q_then, .int u_imaged, .ref q_image, .ref q_tapeSort, .ref q_tapeSize, .ref q_items])), (q_tapeSort, .inl (C 0, 6, .inl (upd u_tapeSort (x1 : Int32).toNatClampNeg x2))), (q_tapeSize, .inl (C 0, 6, .inl (upd u_tapeSize (x1 : Int32).toNatClampNeg 0))), (q_items, .inl (C 1, 360, .inr (.inl u_items)))]) cx hw 2 rfl g35 dX9_tape_63 rfl (fun H locs hw => ?_)
              refine lv_iconst (v := 0) hx hb dX9_tape_64 (by decide) ?_
              refine lv_istore (lv' := [(4, .int 0), (0, .ref q_), (1, .int x1), (2, .int x2), (3, .int x3)]) hx hb dX9_tape_65 hl (by decide) rfl (fun ls hl => ?_)
              refine LX9_tape_67 cx hret 400 0 u_items H locs ls hF hw (lv_sub hl [1, 2, 0] rfl)
          · replace hF := oi_f c31 hF
            refine lv_bipush (v := (-14)) hx hb dX9_tape_39 (by decide) ?_
            obtain rfl := Option.some.inj hF
            exact rt_i hret hw rfl dX9_tape_41
      · replace hF := oi_f c21 hF
        refine lv_iload_n hx hb dX9_tape_22 rfl (lv_at hl 3 rfl) ?_
        refine lv_bipush (v := 60) hx hb dX9_tape_23 (by decide) ?_
        refine lv_icmp_le (tgt := 31) hx hb dX9_tape_25 (by decide) (fun c36 => ?_) (fun c36 => ?_)
        · replace hF := oi_t c36 hF
          refine lv_iload_n hx hb dX9_tape_31 rfl (lv_at hl 2 rfl) ?_
          refine lv_if_lt (tgt := 42) hx hb dX9_tape_32 (by decide) (fun c41 => ?_) (fun c41 => ?_)
          · replace hF := oi_t c41 hF
            refine lv_aload_n hx hb dX9_tape_42 rfl (lv_at hl 0 rfl) ?_
            refine r_get (ci := 9) (v := .ref q_tapeSort) cx hw iX9 0 33 rfl rfl (by decide) wf_X9_66 rfl dX9_tape_43 ?_
            refine lv_iload_n hx hb dX9_tape_46 rfl (lv_at hl 1 rfl) ?_
            refine lv_iload_n hx hb dX9_tape_47 rfl (lv_at hl 2 rfl) ?_
            obtain ⟨g42, hF⟩ := gA_s hF
            refine r_iast (w2 := [(q_, .inr (9, [.int u_people, .ref q_owes, .ref q_denies, .int u_debts, .ref q_debt, .int u_cuts, .ref q_cut, .int u_seen, .ref q_sight, .int u_events, .ref q_event, .int u_inBook, .ref q_book, .int u_texted, .ref q_text, .ref q_path, .int u_rule, .int u_rings, .int u_size, .int u_least, .long u_worth, .ref q_ring, .ref q_balance, .ref q_left, .ref q_sum, .ref q_parts, .int u_groups, .ref q_group, .int u_paid, .ref q_payment, .ref q_then, .int u_imaged, .ref q_image, .ref q_tapeSort, .ref q_tapeSize, .ref q_items])), (q_tapeSort, .inl (C 0, 6, .inl (upd u_tapeSort (x1 : Int32).toNatClampNeg x2))), (q_tapeSize, .inl (C 0, 6, .inl u_tapeSize)), (q_items, .inl (C 1, 360, .inr (.inl u_items)))]) cx hw 1 rfl g42 dX9_tape_48 rfl (fun H locs hw => ?_)
            refine lv_aload_n hx hb dX9_tape_49 rfl (lv_at hl 0 rfl) ?_
            refine r_get (ci := 9) (v := .ref q_tapeSize) cx hw iX9 0 34 rfl rfl (by decide) wf_X9_69 rfl dX9_tape_50 ?_
            refine lv_iload_n hx hb dX9_tape_53 rfl (lv_at hl 1 rfl) ?_
            refine lv_iload_n hx hb dX9_tape_54 rfl (lv_at hl 2 rfl) ?_
            refine lv_if_ge (tgt := 62) hx hb dX9_tape_55 (by decide) (fun c43 => ?_) (fun c43 => ?_)
            · replace hF := oi_t c43 hF
              refine lv_iload_n hx hb dX9_tape_62 rfl (lv_at hl 3 rfl) ?_
              obtain ⟨g44, hF⟩ := gA_s hF
              refine r_iast (w2 := [(q_, .inr (9, [.int u_people, .ref q_owes, .ref q_denies, .int u_debts, .ref q_debt, .int u_cuts, .ref q_cut, .int u_seen, .ref q_sight, .int u_events, .ref q_event, .int u_inBook, .ref q_book, .int u_texted, .ref q_text, .ref q_path, .int u_rule, .int u_rings, .int u_size, .int u_least, .long u_worth, .ref q_ring, .ref q_balance, .ref q_left, .ref q_sum, .ref q_parts, .int u_groups, .ref q_group, .int u_paid, .ref q_payment, .ref q_then, .int u_imaged, .ref q_image, .ref q_tapeSort, .ref q_tapeSize, .ref q_items])), (q_tapeSort, .inl (C 0, 6, .inl (upd u_tapeSort (x1 : Int32).toNatClampNeg x2))), (q_tapeSize, .inl (C 0, 6, .inl (upd u_tapeSize (x1 : Int32).toNatClampNeg x3))), (q_items, .inl (C 1, 360, .inr (.inl u_items)))]) cx hw 2 rfl g44 dX9_tape_63 rfl (fun H locs hw => ?_)
              refine lv_iconst (v := 0) hx hb dX9_tape_64 (by decide) ?_
              refine lv_istore (lv' := [(4, .int 0), (0, .ref q_), (1, .int x1), (2, .int x2), (3, .int x3)]) hx hb dX9_tape_65 hl (by decide) rfl (fun ls hl => ?_)
              refine LX9_tape_67 cx hret 400 0 u_items H locs ls hF hw (lv_sub hl [1, 2, 0] rfl)
            · replace hF := oi_f c43 hF
              refine lv_iconst (v := 0) hx hb dX9_tape_58 (by decide) ?_
              refine lv_goto (tgt := 63) hx hb dX9_tape_59 (by decide) ?_
              obtain ⟨g45, hF⟩ := gA_s hF
              refine r_iast (w2 := [(q_, .inr (9, [.int u_people, .ref q_owes, .ref q_denies, .int u_debts, .ref q_debt, .int u_cuts, .ref q_cut, .int u_seen, .ref q_sight, .int u_events, .ref q_event, .int u_inBook, .ref q_book, .int u_texted, .ref q_text, .ref q_path, .int u_rule, .int u_rings, .int u_size, .int u_least, .long u_worth, .ref q_ring, .ref q_balance, .ref q_left, .ref q_sum, .ref q_parts, .int u_groups, .ref q_group, .int u_paid, .ref q_payment, .ref q_then, .int u_imaged, .ref q_image, .ref q_tapeSort, .ref q_tapeSize, .ref q_items])), (q_tapeSort, .inl (C 0, 6, .inl (upd u_tapeSort (x1 : Int32).toNatClampNeg x2))), (q_tapeSize, .inl (C 0, 6, .inl (upd u_tapeSize (x1 : Int32).toNatClampNeg 0))), (q_items, .inl (C 1, 360, .inr (.inl u_items)))]) cx hw 2 rfl g45 dX9_tape_63 rfl (fun H locs hw => ?_)
              refine lv_iconst (v := 0) hx hb dX9_tape_64 (by decide) ?_
              refine lv_istore (lv' := [(4, .int 0), (0, .ref q_), (1, .int x1), (2, .int x2), (3, .int x3)]) hx hb dX9_tape_65 hl (by decide) rfl (fun ls hl => ?_)
              refine LX9_tape_67 cx hret 400 0 u_items H locs ls hF hw (lv_sub hl [1, 2, 0] rfl)
          · replace hF := oi_f c41 hF
            refine lv_iload_n hx hb dX9_tape_35 rfl (lv_at hl 3 rfl) ?_
            refine lv_if_ge (tgt := 42) hx hb dX9_tape_36 (by decide) (fun c46 => ?_) (fun c46 => ?_)
            · replace hF := oi_t c46 hF
              refine lv_aload_n hx hb dX9_tape_42 rfl (lv_at hl 0 rfl) ?_
              refine r_get (ci := 9) (v := .ref q_tapeSort) cx hw iX9 0 33 rfl rfl (by decide) wf_X9_66 rfl dX9_tape_43 ?_
              refine lv_iload_n hx hb dX9_tape_46 rfl (lv_at hl 1 rfl) ?_
              refine lv_iload_n hx hb dX9_tape_47 rfl (lv_at hl 2 rfl) ?_
              obtain ⟨g47, hF⟩ := gA_s hF
              refine r_iast (w2 := [(q_, .inr (9, [.int u_people, .ref q_owes, .ref q_denies, .int u_debts, .ref q_debt, .int u_cuts, .ref q_cut, .int u_seen, .ref q_sight, .int u_events, .ref q_event, .int u_inBook, .ref q_book, .int u_texted, .ref q_text, .ref q_path, .int u_rule, .int u_rings, .int u_size, .int u_least, .long u_worth, .ref q_ring, .ref q_balance, .ref q_left, .ref q_sum, .ref q_parts, .int u_groups, .ref q_group, .int u_paid, .ref q_payment, .ref q_then, .int u_imaged, .ref q_image, .ref q_tapeSort, .ref q_tapeSize, .ref q_items])), (q_tapeSort, .inl (C 0, 6, .inl (upd u_tapeSort (x1 : Int32).toNatClampNeg x2))), (q_tapeSize, .inl (C 0, 6, .inl u_tapeSize)), (q_items, .inl (C 1, 360, .inr (.inl u_items)))]) cx hw 1 rfl g47 dX9_tape_48 rfl (fun H locs hw => ?_)
              refine lv_aload_n hx hb dX9_tape_49 rfl (lv_at hl 0 rfl) ?_
              refine r_get (ci := 9) (v := .ref q_tapeSize) cx hw iX9 0 34 rfl rfl (by decide) wf_X9_69 rfl dX9_tape_50 ?_
              refine lv_iload_n hx hb dX9_tape_53 rfl (lv_at hl 1 rfl) ?_
              refine lv_iload_n hx hb dX9_tape_54 rfl (lv_at hl 2 rfl) ?_
              refine lv_if_ge (tgt := 62) hx hb dX9_tape_55 (by decide) (fun c48 => ?_) (fun c48 => ?_)
              · replace hF := oi_t c48 hF
                refine lv_iload_n hx hb dX9_tape_62 rfl (lv_at hl 3 rfl) ?_
                obtain ⟨g49, hF⟩ := gA_s hF
                refine r_iast (w2 := [(q_, .inr (9, [.int u_people, .ref q_owes, .ref q_denies, .int u_debts, .ref q_debt, .int u_cuts, .ref q_cut, .int u_seen, .ref q_sight, .int u_events, .ref q_event, .int u_inBook, .ref q_book, .int u_texted, .ref q_text, .ref q_path, .int u_rule, .int u_rings, .int u_size, .int u_least, .long u_worth, .ref q_ring, .ref q_balance, .ref q_left, .ref q_sum, .ref q_parts, .int u_groups, .ref q_group, .int u_paid, .ref q_payment, .ref q_then, .int u_imaged, .ref q_image, .ref q_tapeSort, .ref q_tapeSize, .ref q_items])), (q_tapeSort, .inl (C 0, 6, .inl (upd u_tapeSort (x1 : Int32).toNatClampNeg x2))), (q_tapeSize, .inl (C 0, 6, .inl (upd u_tapeSize (x1 : Int32).toNatClampNeg x3))), (q_items, .inl (C 1, 360, .inr (.inl u_items)))]) cx hw 2 rfl g49 dX9_tape_63 rfl (fun H locs hw => ?_)
                refine lv_iconst (v := 0) hx hb dX9_tape_64 (by decide) ?_
                refine lv_istore (lv' := [(4, .int 0), (0, .ref q_), (1, .int x1), (2, .int x2), (3, .int x3)]) hx hb dX9_tape_65 hl (by decide) rfl (fun ls hl => ?_)
                refine LX9_tape_67 cx hret 400 0 u_items H locs ls hF hw (lv_sub hl [1, 2, 0] rfl)
              · replace hF := oi_f c48 hF
                refine lv_iconst (v := 0) hx hb dX9_tape_58 (by decide) ?_
                refine lv_goto (tgt := 63) hx hb dX9_tape_59 (by decide) ?_
                obtain ⟨g50, hF⟩ := gA_s hF
                refine r_iast (w2 := [(q_, .inr (9, [.int u_people, .ref q_owes, .ref q_denies, .int u_debts, .ref q_debt, .int u_cuts, .ref q_cut, .int u_seen, .ref q_sight, .int u_events, .ref q_event, .int u_inBook, .ref q_book, .int u_texted, .ref q_text, .ref q_path, .int u_rule, .int u_rings, .int u_size, .int u_least, .long u_worth, .ref q_ring, .ref q_balance, .ref q_left, .ref q_sum, .ref q_parts, .int u_groups, .ref q_group, .int u_paid, .ref q_payment, .ref q_then, .int u_imaged, .ref q_image, .ref q_tapeSort, .ref q_tapeSize, .ref q_items])), (q_tapeSort, .inl (C 0, 6, .inl (upd u_tapeSort (x1 : Int32).toNatClampNeg x2))), (q_tapeSize, .inl (C 0, 6, .inl (upd u_tapeSize (x1 : Int32).toNatClampNeg 0))), (q_items, .inl (C 1, 360, .inr (.inl u_items)))]) cx hw 2 rfl g50 dX9_tape_63 rfl (fun H locs hw => ?_)
                refine lv_iconst (v := 0) hx hb dX9_tape_64 (by decide) ?_
                refine lv_istore (lv' := [(4, .int 0), (0, .ref q_), (1, .int x1), (2, .int x2), (3, .int x3)]) hx hb dX9_tape_65 hl (by decide) rfl (fun ls hl => ?_)
                refine LX9_tape_67 cx hret 400 0 u_items H locs ls hF hw (lv_sub hl [1, 2, 0] rfl)
            · replace hF := oi_f c46 hF
              refine lv_bipush (v := (-14)) hx hb dX9_tape_39 (by decide) ?_
              obtain rfl := Option.some.inj hF
              exact rt_i hret hw rfl dX9_tape_41
        · replace hF := oi_f c36 hF
          refine lv_bipush (v := (-2)) hx hb dX9_tape_28 (by decide) ?_
          obtain rfl := Option.some.inj hF
          exact rt_i hret hw rfl dX9_tape_30
  · replace hF := oi_t c2 hF
    refine lv_iconst (v := (-1)) hx hb dX9_tape_7 (by decide) ?_
    obtain rfl := Option.some.inj hF
    exact rt_i hret hw rfl dX9_tape_8
