theorem dX9_within_0 : decode cX9_within 0 = .ok (.iload_n 0, 1) := by decide +kernel
theorem dX9_within_1 : decode cX9_within 1 = .ok (.iload_n 1, 1) := by decide +kernel
theorem dX9_within_2 : decode cX9_within 2 = .ok (.if_icmp .lt 12, 3) := by decide +kernel
theorem dX9_within_5 : decode cX9_within 5 = .ok (.iload_n 0, 1) := by decide +kernel
theorem dX9_within_6 : decode cX9_within 6 = .ok (.iload_n 2, 1) := by decide +kernel
theorem dX9_within_7 : decode cX9_within 7 = .ok (.if_icmp .gt 7, 3) := by decide +kernel
theorem dX9_within_10 : decode cX9_within 10 = .ok (.iconst 1, 1) := by decide +kernel
theorem dX9_within_11 : decode cX9_within 11 = .ok (.goto 4, 3) := by decide +kernel
theorem dX9_within_14 : decode cX9_within 14 = .ok (.iconst 0, 1) := by decide +kernel
theorem dX9_within_15 : decode cX9_within 15 = .ok (.ireturn, 1) := by decide +kernel
def fX9_within (x0 : Int32) (x1 : Int32) (x2 : Int32) : Option Int32 := if x0 < x1 then (some 0) else (if x2 < x0 then (some 0) else (some 1))
set_option maxRecDepth 20000 in
theorem CX9_within (l : Launch) (D : va_G) (C : Nat → ClassId)  (x0 : Int32) (x1 : Int32) (x2 : Int32) (z : Int32) (hF : fX9_within x0 x1 x2 = some z) : Ct l yX9_within cX9_within 3 (some .boolean) 1 D C [.int x0, .int x1, .int x2] [] [] (some (.int z)) := by
  refine Ct_of (by decide) (Nat.le_of_ble_eq_true rfl) ?_
  intro p e R s m args below meth c A Q H locs ls cx hw hl hret
  have cx : CX p m c s args RX9 cX9_within 3 D C A R 1 := cx
  have hx := cx.1
  have hb := cx.2.1
  have hl : lv_has ls 3 [(0, .int x0), (1, .int x1), (2, .int x2)] := hl
  rw [fX9_within.eq_1] at hF
  refine lv_iload_n hx hb dX9_within_0 rfl (lv_at hl 0 rfl) ?_
  refine lv_iload_n hx hb dX9_within_1 rfl (lv_at hl 1 rfl) ?_
  refine lv_icmp_lt (tgt := 14) hx hb dX9_within_2 (by decide) (fun c1 => ?_) (fun c1 => ?_)
  · replace hF := oi_t c1 hF
    refine lv_iconst (v := 0) hx hb dX9_within_14 (by decide) ?_
    obtain rfl := Option.some.inj hF
    exact rt_z hret hw rfl rfl dX9_within_15
  · replace hF := oi_f c1 hF
    refine lv_iload_n hx hb dX9_within_5 rfl (lv_at hl 0 rfl) ?_
    refine lv_iload_n hx hb dX9_within_6 rfl (lv_at hl 2 rfl) ?_
    refine lv_icmp_gt (tgt := 14) hx hb dX9_within_7 (by decide) (fun c2 => ?_) (fun c2 => ?_)
    · replace hF := oi_t c2 hF
      refine lv_iconst (v := 0) hx hb dX9_within_14 (by decide) ?_
      obtain rfl := Option.some.inj hF
      exact rt_z hret hw rfl rfl dX9_within_15
    · replace hF := oi_f c2 hF
      refine lv_iconst (v := 1) hx hb dX9_within_10 (by decide) ?_
      refine lv_goto (tgt := 15) hx hb dX9_within_11 (by decide) ?_
      obtain rfl := Option.some.inj hF
      exact rt_z hret hw rfl rfl dX9_within_15
theorem wf_X9_76 : Cond.fieldLink RX9 76 (TX9 0).1 (TX9 0).2.1 (TX9 0).2.2.1 ∈ gdt := gdt_of 840 (by decide +kernel) (by decide +kernel)
theorem lk_X9_80 : Cond.methodLink RX9 80 yX9_within ∈ gdt := gdt_of 965 (by decide +kernel) (by decide +kernel)
theorem my_X9_within : (yX9_within.cls ≠ "java/lang/invoke/MethodHandle" ∧ yX9_within.cls ≠ "java/lang/invoke/VarHandle") ∧ Cond.static yX9_within ∈ gdt ∧ Cond.initialized yX9_within.cls ∈ gdt ∧ Cond.code yX9_within cX9_within 3 (some .boolean) ∈ gdt := ⟨⟨by decide +kernel, by decide +kernel⟩, gdt_of 966 (by decide +kernel) (by decide +kernel), gdt_of 77 (by decide +kernel) (by decide +kernel), gdt_of 967 (by decide +kernel) (by decide +kernel)⟩
theorem ml_X9_within : (parseMethodDescriptor yX9_within.desc).map (fun d => d.parameters.length) = some 3 := by decide +kernel
theorem dX9_isPerson_0 : decode cX9_isPerson 0 = .ok (.iload_n 1, 1) := by decide +kernel
theorem dX9_isPerson_1 : decode cX9_isPerson 1 = .ok (.iconst 0, 1) := by decide +kernel
theorem dX9_isPerson_2 : decode cX9_isPerson 2 = .ok (.aload_n 0, 1) := by decide +kernel
theorem dX9_isPerson_3 : decode cX9_isPerson 3 = .ok (.getfield 76, 3) := by decide +kernel
theorem dX9_isPerson_6 : decode cX9_isPerson 6 = .ok (.iconst 1, 1) := by decide +kernel
theorem dX9_isPerson_7 : decode cX9_isPerson 7 = .ok (.isub, 1) := by decide +kernel
theorem dX9_isPerson_8 : decode cX9_isPerson 8 = .ok (.invokestatic 80, 3) := by decide +kernel
theorem dX9_isPerson_11 : decode cX9_isPerson 11 = .ok (.ireturn, 1) := by decide +kernel
def fX9_isPerson (u_people : Int32) (x1 : Int32) : Option Int32 := (fX9_within x1 0 (u_people - 1)).bind (fun z1 => gB z1 (some z1))
set_option maxRecDepth 20000 in
theorem CX9_isPerson (l : Launch) (D : va_G) (C : Nat → ClassId) (q_ q_owes q_denies q_debt q_cut q_sight q_event q_book q_text q_path q_ring q_balance q_left q_sum q_parts q_group q_payment q_then q_image q_tapeSort q_tapeSize q_items : Nat) (u_people : Int32) (u_debts : Int32) (u_cuts : Int32) (u_seen : Int32) (u_events : Int32) (u_inBook : Int32) (u_texted : Int32) (u_rule : Int32) (u_rings : Int32) (u_size : Int32) (u_least : Int32) (u_worth : Int64) (u_groups : Int32) (u_paid : Int32) (u_imaged : Int32) (x1 : Int32) (z : Int32) (hF : fX9_isPerson u_people x1 = some z) : Ct l yX9_isPerson cX9_isPerson 2 (some .boolean) 2 D C [.ref q_, .int x1] [(q_, .inr (9, [.int u_people, .ref q_owes, .ref q_denies, .int u_debts, .ref q_debt, .int u_cuts, .ref q_cut, .int u_seen, .ref q_sight, .int u_events, .ref q_event, .int u_inBook, .ref q_book, .int u_texted, .ref q_text, .ref q_path, .int u_rule, .int u_rings, .int u_size, .int u_least, .long u_worth, .ref q_ring, .ref q_balance, .ref q_left, .ref q_sum, .ref q_parts, .int u_groups, .ref q_group, .int u_paid, .ref q_payment, .ref q_then, .int u_imaged, .ref q_image, .ref q_tapeSort, .ref q_tapeSize, .ref q_items]))] [(q_, .inr (9, [.int u_people, .ref q_owes, .ref q_denies, .int u_debts, .ref q_debt, .int u_cuts, .ref q_cut, .int u_seen, .ref q_sight, .int u_events, .ref q_event, .int u_inBook, .ref q_book, .int u_texted, .ref q_text, .ref q_path, .int u_rule, .int u_rings, .int u_size, .int u_least, .long u_worth, .ref q_ring, .ref q_balance, .ref q_left, .ref q_sum, .ref q_parts, .int u_groups, .ref q_group, .int u_paid, .ref q_payment, .ref q_then, .int u_imaged, .ref q_image, .ref q_tapeSort, .ref q_tapeSize, .ref q_items]))] (some (.int z)) := by
  refine Ct_of (by decide) (Nat.le_of_ble_eq_true rfl) ?_
  intro p e R s m args below meth c A Q H locs ls cx hw hl hret
  have cx : CX p m c s args RX9 cX9_isPerson 2 D C A R 2 := cx
  have hx := cx.1
  have hb := cx.2.1
  have hl : lv_has ls 2 [(0, .ref q_), (1, .int x1)] := hl
  rw [fX9_isPerson.eq_1] at hF
  refine lv_iload_n hx hb dX9_isPerson_0 rfl (lv_at hl 1 rfl) ?_
  refine lv_iconst (v := 0) hx hb dX9_isPerson_1 (by decide) ?_
  refine lv_aload_n hx hb dX9_isPerson_2 rfl (lv_at hl 0 rfl) ?_
  refine r_get (ci := 9) (v := .int u_people) cx hw iX9 0 0 rfl rfl (by decide) wf_X9_76 rfl dX9_isPerson_3 ?_
  refine lv_iconst (v := 1) hx hb dX9_isPerson_6 (by decide) ?_
  refine lv_isub hx hb dX9_isPerson_7 ?_
  obtain ⟨z1, hz1, hF⟩ := ob hF
  refine cS (wr := [(q_, .inr (9, [.int u_people, .ref q_owes, .ref q_denies, .int u_debts, .ref q_debt, .int u_cuts, .ref q_cut, .int u_seen, .ref q_sight, .int u_events, .ref q_event, .int u_inBook, .ref q_book, .int u_texted, .ref q_text, .ref q_path, .int u_rule, .int u_rings, .int u_size, .int u_least, .long u_worth, .ref q_ring, .ref q_balance, .ref q_left, .ref q_sum, .ref q_parts, .int u_groups, .ref q_group, .int u_paid, .ref q_payment, .ref q_then, .int u_imaged, .ref q_image, .ref q_tapeSort, .ref q_tapeSize, .ref q_items]))]) (w2 := [(q_, .inr (9, [.int u_people, .ref q_owes, .ref q_denies, .int u_debts, .ref q_debt, .int u_cuts, .ref q_cut, .int u_seen, .ref q_sight, .int u_events, .ref q_event, .int u_inBook, .ref q_book, .int u_texted, .ref q_text, .ref q_path, .int u_rule, .int u_rings, .int u_size, .int u_least, .long u_worth, .ref q_ring, .ref q_balance, .ref q_left, .ref q_sum, .ref q_parts, .int u_groups, .ref q_group, .int u_paid, .ref q_payment, .ref q_then, .int u_imaged, .ref q_image, .ref q_tapeSort, .ref q_tapeSize, .ref q_items]))]) (st2 := [.int z1]) cx (CX9_within l D C x1 0 (u_people - 1) z1 hz1) lk_X9_80 my_X9_within ml_X9_within ⟨by decide, by decide⟩ hw [] [0] [0] rfl rfl (by decide) rfl rfl (Nat.le_of_ble_eq_true rfl) dX9_isPerson_8 rfl (fun H locs hw => ?_) hl.1
  obtain ⟨g2, hF⟩ := gB_s hF
  obtain rfl := Option.some.inj hF
  exact rt_z hret hw rfl g2 dX9_isPerson_11
theorem lk_X9_84 : Cond.methodLink RX9 84 yX9_isPerson ∈ gdt := gdt_of 961 (by decide +kernel) (by decide +kernel)
theorem my_X9_isPerson : (yX9_isPerson.cls ≠ "java/lang/invoke/MethodHandle" ∧ yX9_isPerson.cls ≠ "java/lang/invoke/VarHandle") ∧ Cond.instanceMethod yX9_isPerson ∈ gdt ∧ Cond.selects yX9_isPerson.cls yX9_isPerson yX9_isPerson ∈ gdt ∧ Cond.initialized yX9_isPerson.cls ∈ gdt ∧ Cond.code yX9_isPerson cX9_isPerson 2 (some .boolean) ∈ gdt := ⟨⟨by decide +kernel, by decide +kernel⟩, gdt_of 963 (by decide +kernel) (by decide +kernel), gdt_of 33 (by decide +kernel) (by decide +kernel), gdt_of 77 (by decide +kernel) (by decide +kernel), gdt_of 964 (by decide +kernel) (by decide +kernel)⟩
theorem ml_X9_isPerson : (parseMethodDescriptor yX9_isPerson.desc).map (fun d => d.parameters.length) = some 1 := by decide +kernel
theorem dX9_areTwo_0 : decode cX9_areTwo 0 = .ok (.aload_n 0, 1) := by decide +kernel
theorem dX9_areTwo_1 : decode cX9_areTwo 1 = .ok (.iload_n 1, 1) := by decide +kernel
theorem dX9_areTwo_2 : decode cX9_areTwo 2 = .ok (.invokevirtual 84, 3) := by decide +kernel
theorem dX9_areTwo_5 : decode cX9_areTwo 5 = .ok (.ifCond .eq 20, 3) := by decide +kernel
theorem dX9_areTwo_8 : decode cX9_areTwo 8 = .ok (.aload_n 0, 1) := by decide +kernel
theorem dX9_areTwo_9 : decode cX9_areTwo 9 = .ok (.iload_n 2, 1) := by decide +kernel
theorem dX9_areTwo_10 : decode cX9_areTwo 10 = .ok (.invokevirtual 84, 3) := by decide +kernel
theorem dX9_areTwo_13 : decode cX9_areTwo 13 = .ok (.ifCond .eq 12, 3) := by decide +kernel
theorem dX9_areTwo_16 : decode cX9_areTwo 16 = .ok (.iload_n 1, 1) := by decide +kernel
theorem dX9_areTwo_17 : decode cX9_areTwo 17 = .ok (.iload_n 2, 1) := by decide +kernel
theorem dX9_areTwo_18 : decode cX9_areTwo 18 = .ok (.if_icmp .eq 7, 3) := by decide +kernel
theorem dX9_areTwo_21 : decode cX9_areTwo 21 = .ok (.iconst 1, 1) := by decide +kernel
theorem dX9_areTwo_22 : decode cX9_areTwo 22 = .ok (.goto 4, 3) := by decide +kernel
theorem dX9_areTwo_25 : decode cX9_areTwo 25 = .ok (.iconst 0, 1) := by decide +kernel
theorem dX9_areTwo_26 : decode cX9_areTwo 26 = .ok (.ireturn, 1) := by decide +kernel
def fX9_areTwo (u_people : Int32) (x1 : Int32) (x2 : Int32) : Option Int32 := (fX9_isPerson u_people x1).bind (fun z1 => if z1 = 0 then (some 0) else ((fX9_isPerson u_people x2).bind (fun z3 => if z3 = 0 then (some 0) else (if x1 = x2 then (some 0) else (some 1)))))
set_option maxRecDepth 20000 in
theorem CX9_areTwo (l : Launch) (D : va_G) (C : Nat → ClassId) (q_ q_owes q_denies q_debt q_cut q_sight q_event q_book q_text q_path q_ring q_balance q_left q_sum q_parts q_group q_payment q_then q_image q_tapeSort q_tapeSize q_items : Nat) (u_people : Int32) (u_debts : Int32) (u_cuts : Int32) (u_seen : Int32) (u_events : Int32) (u_inBook : Int32) (u_texted : Int32) (u_rule : Int32) (u_rings : Int32) (u_size : Int32) (u_least : Int32) (u_worth : Int64) (u_groups : Int32) (u_paid : Int32) (u_imaged : Int32) (x1 : Int32) (x2 : Int32) (z : Int32) (hF : fX9_areTwo u_people x1 x2 = some z) : Ct l yX9_areTwo cX9_areTwo 3 (some .boolean) 3 D C [.ref q_, .int x1, .int x2] [(q_, .inr (9, [.int u_people, .ref q_owes, .ref q_denies, .int u_debts, .ref q_debt, .int u_cuts, .ref q_cut, .int u_seen, .ref q_sight, .int u_events, .ref q_event, .int u_inBook, .ref q_book, .int u_texted, .ref q_text, .ref q_path, .int u_rule, .int u_rings, .int u_size, .int u_least, .long u_worth, .ref q_ring, .ref q_balance, .ref q_left, .ref q_sum, .ref q_parts, .int u_groups, .ref q_group, .int u_paid, .ref q_payment, .ref q_then, .int u_imaged, .ref q_image, .ref q_tapeSort, .ref q_tapeSize, .ref q_items]))] [(q_, .inr (9, [.int u_people, .ref q_owes, .ref q_denies, .int u_debts, .ref q_debt, .int u_cuts, .ref q_cut, .int u_seen, .ref q_sight, .int u_events, .ref q_event, .int u_inBook, .ref q_book, .int u_texted, .ref q_text, .ref q_path, .int u_rule, .int u_rings, .int u_size, .int u_least, .long u_worth, .ref q_ring, .ref q_balance, .ref q_left, .ref q_sum, .ref q_parts, .int u_groups, .ref q_group, .int u_paid, .ref q_payment, .ref q_then, .int u_imaged, .ref q_image, .ref q_tapeSort, .ref q_tapeSize, .ref q_items]))] (some (.int z)) := by
  refine Ct_of (by decide) (Nat.le_of_ble_eq_true rfl) ?_
  intro p e R s m args below meth c A Q H locs ls cx hw hl hret
  have cx : CX p m c s args RX9 cX9_areTwo 3 D C A R 3 := cx
  have hx := cx.1
  have hb := cx.2.1
  have hl : lv_has ls 3 [(0, .ref q_), (1, .int x1), (2, .int x2)] := hl
  rw [fX9_areTwo.eq_1] at hF
  refine lv_aload_n hx hb dX9_areTwo_0 rfl (lv_at hl 0 rfl) ?_
  refine lv_iload_n hx hb dX9_areTwo_1 rfl (lv_at hl 1 rfl) ?_
  obtain ⟨z1, hz1, hF⟩ := ob hF
  refine cV (wr := []) (w2 := [(q_, .inr (9, [.int u_people, .ref q_owes, .ref q_denies, .int u_debts, .ref q_debt, .int u_cuts, .ref q_cut, .int u_seen, .ref q_sight, .int u_events, .ref q_event, .int u_inBook, .ref q_book, .int u_texted, .ref q_text, .ref q_path, .int u_rule, .int u_rings, .int u_size, .int u_least, .long u_worth, .ref q_ring, .ref q_balance, .ref q_left, .ref q_sum, .ref q_parts, .int u_groups, .ref q_group, .int u_paid, .ref q_payment, .ref q_then, .int u_imaged, .ref q_image, .ref q_tapeSort, .ref q_tapeSize, .ref q_items]))]) (st2 := [.int z1]) cx (CX9_isPerson l D C q_ q_owes q_denies q_debt q_cut q_sight q_event q_book q_text q_path q_ring q_balance q_left q_sum q_parts q_group q_payment q_then q_image q_tapeSort q_tapeSize q_items u_people u_debts u_cuts u_seen u_events u_inBook u_texted u_rule u_rings u_size u_least u_worth u_groups u_paid u_imaged x1 z1 hz1) lk_X9_84 my_X9_isPerson ml_X9_isPerson ⟨by decide, by decide⟩ hw [0] [] [0] rfl rfl (by decide) rfl rfl rfl rfl (Nat.le_of_ble_eq_true rfl) dX9_areTwo_2 rfl (fun H locs hw => ?_) hl.1
  refine lv_if_eq (tgt := 25) hx hb dX9_areTwo_5 (by decide) (fun c2 => ?_) (fun c2 => ?_)
  · replace hF := oi_t c2 hF
    refine lv_iconst (v := 0) hx hb dX9_areTwo_25 (by decide) ?_
    obtain rfl := Option.some.inj hF
    exact rt_z hret hw rfl rfl dX9_areTwo_26
  · replace hF := oi_f c2 hF
    refine lv_aload_n hx hb dX9_areTwo_8 rfl (lv_at hl 0 rfl) ?_
    refine lv_iload_n hx hb dX9_areTwo_9 rfl (lv_at hl 2 rfl) ?_
    obtain ⟨z3, hz3, hF⟩ := ob hF
    refine cV (wr := []) (w2 := [(q_, .inr (9, [.int u_people, .ref q_owes, .ref q_denies, .int u_debts, .ref q_debt, .int u_cuts, .ref q_cut, .int u_seen, .ref q_sight, .int u_events, .ref q_event, .int u_inBook, .ref q_book, .int u_texted, .ref q_text, .ref q_path, .int u_rule, .int u_rings, .int u_size, .int u_least, .long u_worth, .ref q_ring, .ref q_balance, .ref q_left, .ref q_sum, .ref q_parts, .int u_groups, .ref q_group, .int u_paid, .ref q_payment, .ref q_then, .int u_imaged, .ref q_image, .ref q_tapeSort, .ref q_tapeSize, .ref q_items]))]) (st2 := [.int z3]) cx (CX9_isPerson l D C q_ q_owes q_denies q_debt q_cut q_sight q_event q_book q_text q_path q_ring q_balance q_left q_sum q_parts q_group q_payment q_then q_image q_tapeSort q_tapeSize q_items u_people u_debts u_cuts u_seen u_events u_inBook u_texted u_rule u_rings u_size u_least u_worth u_groups u_paid u_imaged x2 z3 hz3) lk_X9_84 my_X9_isPerson ml_X9_isPerson ⟨by decide, by decide⟩ hw [0] [] [0] rfl rfl (by decide) rfl rfl rfl rfl (Nat.le_of_ble_eq_true rfl) dX9_areTwo_10 rfl (fun H locs hw => ?_) hl.1
    refine lv_if_eq (tgt := 25) hx hb dX9_areTwo_13 (by decide) (fun c4 => ?_) (fun c4 => ?_)
    · replace hF := oi_t c4 hF
      refine lv_iconst (v := 0) hx hb dX9_areTwo_25 (by decide) ?_
      obtain rfl := Option.some.inj hF
      exact rt_z hret hw rfl rfl dX9_areTwo_26
    · replace hF := oi_f c4 hF
      refine lv_iload_n hx hb dX9_areTwo_16 rfl (lv_at hl 1 rfl) ?_
      refine lv_iload_n hx hb dX9_areTwo_17 rfl (lv_at hl 2 rfl) ?_
      refine lv_icmp_eq (tgt := 25) hx hb dX9_areTwo_18 (by decide) (fun c5 => ?_) (fun c5 => ?_)
      · replace hF := oi_t c5 hF
        refine lv_iconst (v := 0) hx hb dX9_areTwo_25 (by decide) ?_
        obtain rfl := Option.some.inj hF
        exact rt_z hret hw rfl rfl dX9_areTwo_26
      · replace hF := oi_f c5 hF
        refine lv_iconst (v := 1) hx hb dX9_areTwo_21 (by decide) ?_
        refine lv_goto (tgt := 26) hx hb dX9_areTwo_22 (by decide) ?_
        obtain rfl := Option.some.inj hF
        exact rt_z hret hw rfl rfl dX9_areTwo_26
theorem wf_X9_9 : Cond.fieldLink RX9 9 (TX9 1).1 (TX9 1).2.1 (TX9 1).2.2.1 ∈ gdt := gdt_of 841 (by decide +kernel) (by decide +kernel)
theorem wf_X9_15 : Cond.fieldLink RX9 15 (TX9 2).1 (TX9 2).2.1 (TX9 2).2.2.1 ∈ gdt := gdt_of 842 (by decide +kernel) (by decide +kernel)
theorem dX9_person_0 : decode cX9_person 0 = .ok (.aload_n 0, 1) := by decide +kernel
theorem dX9_person_1 : decode cX9_person 1 = .ok (.getfield 76, 3) := by decide +kernel
theorem dX9_person_4 : decode cX9_person 4 = .ok (.bipush 6, 2) := by decide +kernel
theorem dX9_person_6 : decode cX9_person 6 = .ok (.if_icmp .ne 6, 3) := by decide +kernel
theorem dX9_person_9 : decode cX9_person 9 = .ok (.bipush (-4), 2) := by decide +kernel
theorem dX9_person_11 : decode cX9_person 11 = .ok (.ireturn, 1) := by decide +kernel
theorem dX9_person_12 : decode cX9_person 12 = .ok (.aload_n 0, 1) := by decide +kernel
theorem dX9_person_13 : decode cX9_person 13 = .ok (.dup, 1) := by decide +kernel
theorem dX9_person_14 : decode cX9_person 14 = .ok (.getfield 76, 3) := by decide +kernel
theorem dX9_person_17 : decode cX9_person 17 = .ok (.dup_x1, 1) := by decide +kernel
theorem dX9_person_18 : decode cX9_person 18 = .ok (.iconst 1, 1) := by decide +kernel
theorem dX9_person_19 : decode cX9_person 19 = .ok (.iadd, 1) := by decide +kernel
theorem dX9_person_20 : decode cX9_person 20 = .ok (.putfield 76, 3) := by decide +kernel
theorem dX9_person_23 : decode cX9_person 23 = .ok (.istore_n 1, 1) := by decide +kernel
theorem dX9_person_24 : decode cX9_person 24 = .ok (.iconst 0, 1) := by decide +kernel
theorem dX9_person_25 : decode cX9_person 25 = .ok (.istore_n 2, 1) := by decide +kernel
theorem dX9_person_26 : decode cX9_person 26 = .ok (.iload_n 2, 1) := by decide +kernel
theorem dX9_person_27 : decode cX9_person 27 = .ok (.bipush 6, 2) := by decide +kernel
theorem dX9_person_29 : decode cX9_person 29 = .ok (.if_icmp .ge 57, 3) := by decide +kernel
theorem dX9_person_32 : decode cX9_person 32 = .ok (.aload_n 0, 1) := by decide +kernel
theorem dX9_person_33 : decode cX9_person 33 = .ok (.getfield 9, 3) := by decide +kernel
theorem dX9_person_36 : decode cX9_person 36 = .ok (.bipush 6, 2) := by decide +kernel
theorem dX9_person_38 : decode cX9_person 38 = .ok (.iload_n 1, 1) := by decide +kernel
theorem dX9_person_39 : decode cX9_person 39 = .ok (.imul, 1) := by decide +kernel
theorem dX9_person_40 : decode cX9_person 40 = .ok (.iload_n 2, 1) := by decide +kernel
theorem dX9_person_41 : decode cX9_person 41 = .ok (.iadd, 1) := by decide +kernel
theorem dX9_person_42 : decode cX9_person 42 = .ok (.iconst 0, 1) := by decide +kernel
theorem dX9_person_43 : decode cX9_person 43 = .ok (.iastore, 1) := by decide +kernel
theorem dX9_person_44 : decode cX9_person 44 = .ok (.aload_n 0, 1) := by decide +kernel
theorem dX9_person_45 : decode cX9_person 45 = .ok (.getfield 9, 3) := by decide +kernel
theorem dX9_person_48 : decode cX9_person 48 = .ok (.bipush 6, 2) := by decide +kernel
theorem dX9_person_50 : decode cX9_person 50 = .ok (.iload_n 2, 1) := by decide +kernel
theorem dX9_person_51 : decode cX9_person 51 = .ok (.imul, 1) := by decide +kernel
theorem dX9_person_52 : decode cX9_person 52 = .ok (.iload_n 1, 1) := by decide +kernel
theorem dX9_person_53 : decode cX9_person 53 = .ok (.iadd, 1) := by decide +kernel
theorem dX9_person_54 : decode cX9_person 54 = .ok (.iconst 0, 1) := by decide +kernel
theorem dX9_person_55 : decode cX9_person 55 = .ok (.iastore, 1) := by decide +kernel
theorem dX9_person_56 : decode cX9_person 56 = .ok (.aload_n 0, 1) := by decide +kernel
theorem dX9_person_57 : decode cX9_person 57 = .ok (.getfield 15, 3) := by decide +kernel
theorem dX9_person_60 : decode cX9_person 60 = .ok (.bipush 6, 2) := by decide +kernel
theorem dX9_person_62 : decode cX9_person 62 = .ok (.iload_n 1, 1) := by decide +kernel
theorem dX9_person_63 : decode cX9_person 63 = .ok (.imul, 1) := by decide +kernel
theorem dX9_person_64 : decode cX9_person 64 = .ok (.iload_n 2, 1) := by decide +kernel
theorem dX9_person_65 : decode cX9_person 65 = .ok (.iadd, 1) := by decide +kernel
theorem dX9_person_66 : decode cX9_person 66 = .ok (.iconst 0, 1) := by decide +kernel
theorem dX9_person_67 : decode cX9_person 67 = .ok (.iastore, 1) := by decide +kernel
theorem dX9_person_68 : decode cX9_person 68 = .ok (.aload_n 0, 1) := by decide +kernel
theorem dX9_person_69 : decode cX9_person 69 = .ok (.getfield 15, 3) := by decide +kernel
theorem dX9_person_72 : decode cX9_person 72 = .ok (.bipush 6, 2) := by decide +kernel
theorem dX9_person_74 : decode cX9_person 74 = .ok (.iload_n 2, 1) := by decide +kernel
theorem dX9_person_75 : decode cX9_person 75 = .ok (.imul, 1) := by decide +kernel
theorem dX9_person_76 : decode cX9_person 76 = .ok (.iload_n 1, 1) := by decide +kernel
theorem dX9_person_77 : decode cX9_person 77 = .ok (.iadd, 1) := by decide +kernel
theorem dX9_person_78 : decode cX9_person 78 = .ok (.iconst 0, 1) := by decide +kernel
theorem dX9_person_79 : decode cX9_person 79 = .ok (.iastore, 1) := by decide +kernel
theorem dX9_person_80 : decode cX9_person 80 = .ok (.iinc 2 1, 3) := by decide +kernel
theorem dX9_person_83 : decode cX9_person 83 = .ok (.goto (-57), 3) := by decide +kernel
theorem dX9_person_86 : decode cX9_person 86 = .ok (.iload_n 1, 1) := by decide +kernel
theorem dX9_person_87 : decode cX9_person 87 = .ok (.ireturn, 1) := by decide +kernel
def fX9_person_L26 (u_people : Int32) (x1 : Int32) : Nat → Int32 → (Nat → Int32) → (Nat → Int32) → Option (Int32 × Int32 × (Nat → Int32) × (Nat → Int32))
  | 0, _, _, _ => none
  | n + 1, x2, u_owes, u_denies => if 6 ≤ x2 then (some (x1, u_people, u_owes, u_denies)) else (gA ((6 * x1) + x2) 36 (gA ((6 * x2) + x1) 36 (gA ((6 * x1) + x2) 36 (gA ((6 * x2) + x1) 36 (fX9_person_L26 u_people x1 n (x2 + 1) (upd (upd u_owes ((6 * x1) + x2 : Int32).toNatClampNeg 0) ((6 * x2) + x1 : Int32).toNatClampNeg 0) (upd (upd u_denies ((6 * x1) + x2 : Int32).toNatClampNeg 0) ((6 * x2) + x1 : Int32).toNatClampNeg 0))))))
def fX9_person (u_people : Int32) (u_owes : (Nat → Int32)) (u_denies : (Nat → Int32)) : Option (Int32 × Int32 × (Nat → Int32) × (Nat → Int32)) := if u_people = 6 then (some ((-4), u_people, u_owes, u_denies)) else (fX9_person_L26 (u_people + 1) u_people 400 0 u_owes u_denies)
set_option maxRecDepth 20000 in
theorem LX9_person_26 {p : Program} {l : Launch} {e : Env} {R : Room} {s : State} {m : MethodId} {args : Array Value} {below : List Frame} {meth : Method} {c : Code} {Q : State → Prop} {D : va_G} {C : Nat → ClassId} {A : Nat → Prop} (cx : CX p m c s args RX9 cX9_person 3 D C A R 1) {q_ q_owes q_denies q_debt q_cut q_sight q_event q_book q_text q_path q_ring q_balance q_left q_sum q_parts q_group q_payment q_then q_image q_tapeSort q_tapeSize q_items : Nat} {u_people : Int32} {u_debts : Int32} {u_cuts : Int32} {u_seen : Int32} {u_events : Int32} {u_inBook : Int32} {u_texted : Int32} {u_rule : Int32} {u_rings : Int32} {u_size : Int32} {u_least : Int32} {u_worth : Int64} {u_groups : Int32} {u_paid : Int32} {u_imaged : Int32} {x1 : Int32} {z : (Int32 × Int32 × (Nat → Int32) × (Nat → Int32))} (hret : RT p l e R s m args below meth c Q D A cX9_person (some .int) [(q_, .inr (9, [.int z.2.1, .ref q_owes, .ref q_denies, .int u_debts, .ref q_debt, .int u_cuts, .ref q_cut, .int u_seen, .ref q_sight, .int u_events, .ref q_event, .int u_inBook, .ref q_book, .int u_texted, .ref q_text, .ref q_path, .int u_rule, .int u_rings, .int u_size, .int u_least, .long u_worth, .ref q_ring, .ref q_balance, .ref q_left, .ref q_sum, .ref q_parts, .int u_groups, .ref q_group, .int u_paid, .ref q_payment, .ref q_then, .int u_imaged, .ref q_image, .ref q_tapeSort, .ref q_tapeSize, .ref q_items])), (q_owes, .inl (C 0, 36, .inl z.2.2.1)), (q_denies, .inl (C 0, 36, .inl z.2.2.2))] (some (.int z.1))) :
    ∀ (n : Nat) (x2 : Int32) (u_owes : (Nat → Int32)) (u_denies : (Nat → Int32)) (H : Heap) (locs : List Loc) (ls : Array Slot), fX9_person_L26 u_people x1 n x2 u_owes u_denies = some z → HW D A s.heap H locs [(q_, .inr (9, [.int u_people, .ref q_owes, .ref q_denies, .int u_debts, .ref q_debt, .int u_cuts, .ref q_cut, .int u_seen, .ref q_sight, .int u_events, .ref q_event, .int u_inBook, .ref q_book, .int u_texted, .ref q_text, .ref q_path, .int u_rule, .int u_rings, .int u_size, .int u_least, .long u_worth, .ref q_ring, .ref q_balance, .ref q_left, .ref q_sum, .ref q_parts, .int u_groups, .ref q_group, .int u_paid, .ref q_payment, .ref q_then, .int u_imaged, .ref q_image, .ref q_tapeSort, .ref q_tapeSize, .ref q_items])), (q_owes, .inl (C 0, 36, .inl u_owes)), (q_denies, .inl (C 0, 36, .inl u_denies))] → lv_has ls 3 [(0, .ref q_), (1, .int x1), (2, .int x2)] → W p l e R s m args below meth c H locs 0 0 Q (F0 m 26 ls []) := by
  have hx := cx.1
  have hb := cx.2.1
  intro n
  induction n with
  | zero => intro x2 u_owes u_denies H locs ls hF; cases hF
  | succ n ih =>
    intro x2 u_owes u_denies H locs ls hF hw hl
    rw [fX9_person_L26.eq_2] at hF
    refine lv_iload_n hx hb dX9_person_26 rfl (lv_at hl 2 rfl) ?_
    refine lv_bipush (v := 6) hx hb dX9_person_27 (by decide) ?_
    refine lv_icmp_ge (tgt := 86) hx hb dX9_person_29 (by decide) (fun c2 => ?_) (fun c2 => ?_)
    · replace hF := oi_t c2 hF
      refine lv_iload_n hx hb dX9_person_86 rfl (lv_at hl 1 rfl) ?_
      obtain rfl := Option.some.inj hF
      exact rt_i hret hw rfl dX9_person_87
    · replace hF := oi_f c2 hF
      refine lv_aload_n hx hb dX9_person_32 rfl (lv_at hl 0 rfl) ?_
      refine r_get (ci := 9) (v := .ref q_owes) cx hw iX9 0 1 rfl rfl (by decide) wf_X9_9 rfl dX9_person_33 ?_
      refine lv_bipush (v := 6) hx hb dX9_person_36 (by decide) ?_
      refine lv_iload_n hx hb dX9_person_38 rfl (lv_at hl 1 rfl) ?_
      refine lv_imul hx hb dX9_person_39 ?_
      refine lv_iload_n hx hb dX9_person_40 rfl (lv_at hl 2 rfl) ?_
      refine lv_iadd hx hb dX9_person_41 ?_
      refine lv_iconst (v := 0) hx hb dX9_person_42 (by decide) ?_
      obtain ⟨g3, hF⟩ := gA_s hF
      refine r_iast (w2 := [(q_, .inr (9, [.int u_people, .ref q_owes, .ref q_denies, .int u_debts, .ref q_debt, .int u_cuts, .ref q_cut, .int u_seen, .ref q_sight, .int u_events, .ref q_event, .int u_inBook, .ref q_book, .int u_texted, .ref q_text, .ref q_path, .int u_rule, .int u_rings, .int u_size, .int u_least, .long u_worth, .ref q_ring, .ref q_balance, .ref q_left, .ref q_sum, .ref q_parts, .int u_groups, .ref q_group, .int u_paid, .ref q_payment, .ref q_then, .int u_imaged, .ref q_image, .ref q_tapeSort, .ref q_tapeSize, .ref q_items])), (q_owes, .inl (C 0, 36, .inl (upd u_owes ((6 * x1) + x2 : Int32).toNatClampNeg 0))), (q_denies, .inl (C 0, 36, .inl u_denies))]) cx hw 1 rfl g3 dX9_person_43 rfl (fun H locs hw => ?_)
      refine lv_aload_n hx hb dX9_person_44 rfl (lv_at hl 0 rfl) ?_
      refine r_get (ci := 9) (v := .ref q_owes) cx hw iX9 0 1 rfl rfl (by decide) wf_X9_9 rfl dX9_person_45 ?_
      refine lv_bipush (v := 6) hx hb dX9_person_48 (by decide) ?_
      refine lv_iload_n hx hb dX9_person_50 rfl (lv_at hl 2 rfl) ?_
      refine lv_imul hx hb dX9_person_51 ?_
      refine lv_iload_n hx hb dX9_person_52 rfl (lv_at hl 1 rfl) ?_
      refine lv_iadd hx hb dX9_person_53 ?_
      refine lv_iconst (v := 0) hx hb dX9_person_54 (by decide) ?_
      obtain ⟨g4, hF⟩ := gA_s hF
      refine r_iast (w2 := [(q_, .inr (9, [.int u_people, .ref q_owes, .ref q_denies, .int u_debts, .ref q_debt, .int u_cuts, .ref q_cut, .int u_seen, .ref q_sight, .int u_events, .ref q_event, .int u_inBook, .ref q_book, .int u_texted, .ref q_text, .ref q_path, .int u_rule, .int u_rings, .int u_size, .int u_least, .long u_worth, .ref q_ring, .ref q_balance, .ref q_left, .ref q_sum, .ref q_parts, .int u_groups, .ref q_group, .int u_paid, .ref q_payment, .ref q_then, .int u_imaged, .ref q_image, .ref q_tapeSort, .ref q_tapeSize, .ref q_items])), (q_owes, .inl (C 0, 36, .inl (upd (upd u_owes ((6 * x1) + x2 : Int32).toNatClampNeg 0) ((6 * x2) + x1 : Int32).toNatClampNeg 0))), (q_denies, .inl (C 0, 36, .inl u_denies))]) cx hw 1 rfl g4 dX9_person_55 rfl (fun H locs hw => ?_)
      refine lv_aload_n hx hb dX9_person_56 rfl (lv_at hl 0 rfl) ?_
      refine r_get (ci := 9) (v := .ref q_denies) cx hw iX9 0 2 rfl rfl (by decide) wf_X9_15 rfl dX9_person_57 ?_
      refine lv_bipush (v := 6) hx hb dX9_person_60 (by decide) ?_
      refine lv_iload_n hx hb dX9_person_62 rfl (lv_at hl 1 rfl) ?_
      refine lv_imul hx hb dX9_person_63 ?_
      refine lv_iload_n hx hb dX9_person_64 rfl (lv_at hl 2 rfl) ?_
      refine lv_iadd hx hb dX9_person_65 ?_
      refine lv_iconst (v := 0) hx hb dX9_person_66 (by decide) ?_
      obtain ⟨g5, hF⟩ := gA_s hF
      refine r_iast (w2 := [(q_, .inr (9, [.int u_people, .ref q_owes, .ref q_denies, .int u_debts, .ref q_debt, .int u_cuts, .ref q_cut, .int u_seen, .ref q_sight, .int u_events, .ref q_event, .int u_inBook, .ref q_book, .int u_texted, .ref q_text, .ref q_path, .int u_rule, .int u_rings, .int u_size, .int u_least, .long u_worth, .ref q_ring, .ref q_balance, .ref q_left, .ref q_sum, .ref q_parts, .int u_groups, .ref q_group, .int u_paid, .ref q_payment, .ref q_then, .int u_imaged, .ref q_image, .ref q_tapeSort, .ref q_tapeSize, .ref q_items])), (q_owes, .inl (C 0, 36, .inl (upd (upd u_owes ((6 * x1) + x2 : Int32).toNatClampNeg 0) ((6 * x2) + x1 : Int32).toNatClampNeg 0))), (q_denies, .inl (C 0, 36, .inl (upd u_denies ((6 * x1) + x2 : Int32).toNatClampNeg 0)))]) cx hw 2 rfl g5 dX9_person_67 rfl (fun H locs hw => ?_)
      refine lv_aload_n hx hb dX9_person_68 rfl (lv_at hl 0 rfl) ?_
      refine r_get (ci := 9) (v := .ref q_denies) cx hw iX9 0 2 rfl rfl (by decide) wf_X9_15 rfl dX9_person_69 ?_
      refine lv_bipush (v := 6) hx hb dX9_person_72 (by decide) ?_
      refine lv_iload_n hx hb dX9_person_74 rfl (lv_at hl 2 rfl) ?_
      refine lv_imul hx hb dX9_person_75 ?_
      refine lv_iload_n hx hb dX9_person_76 rfl (lv_at hl 1 rfl) ?_
      refine lv_iadd hx hb dX9_person_77 ?_
      refine lv_iconst (v := 0) hx hb dX9_person_78 (by decide) ?_
      obtain ⟨g6, hF⟩ := gA_s hF
      refine r_iast (w2 := [(q_, .inr (9, [.int u_people, .ref q_owes, .ref q_denies, .int u_debts, .ref q_debt, .int u_cuts, .ref q_cut, .int u_seen, .ref q_sight, .int u_events, .ref q_event, .int u_inBook, .ref q_book, .int u_texted, .ref q_text, .ref q_path, .int u_rule, .int u_rings, .int u_size, .int u_least, .long u_worth, .ref q_ring, .ref q_balance, .ref q_left, .ref q_sum, .ref q_parts, .int u_groups, .ref q_group, .int u_paid, .ref q_payment, .ref q_then, .int u_imaged, .ref q_image, .ref q_tapeSort, .ref q_tapeSize, .ref q_items])), (q_owes, .inl (C 0, 36, .inl (upd (upd u_owes ((6 * x1) + x2 : Int32).toNatClampNeg 0) ((6 * x2) + x1 : Int32).toNatClampNeg 0))), (q_denies, .inl (C 0, 36, .inl (upd (upd u_denies ((6 * x1) + x2 : Int32).toNatClampNeg 0) ((6 * x2) + x1 : Int32).toNatClampNeg 0)))]) cx hw 2 rfl g6 dX9_person_79 rfl (fun H locs hw => ?_)
      refine lv_iinc (v := x2 + 1) (lv' := [(2, .int (x2 + 1)), (0, .ref q_), (1, .int x1)]) hx hb dX9_person_80 hl (k := 2) rfl rfl (by decide) rfl (fun ls hl => ?_)
      refine lv_goto (tgt := 26) hx hb dX9_person_83 (by decide) ?_
      exact ih (x2 + 1) (upd (upd u_owes ((6 * x1) + x2 : Int32).toNatClampNeg 0) ((6 * x2) + x1 : Int32).toNatClampNeg 0) (upd (upd u_denies ((6 * x1) + x2 : Int32).toNatClampNeg 0) ((6 * x2) + x1 : Int32).toNatClampNeg 0) H locs ls hF hw (lv_sub hl [1, 2, 0] rfl)
set_option maxRecDepth 20000 in
theorem CX9_person (l : Launch) (D : va_G) (C : Nat → ClassId) (q_ q_owes q_denies q_debt q_cut q_sight q_event q_book q_text q_path q_ring q_balance q_left q_sum q_parts q_group q_payment q_then q_image q_tapeSort q_tapeSize q_items : Nat) (u_people : Int32) (u_debts : Int32) (u_cuts : Int32) (u_seen : Int32) (u_events : Int32) (u_inBook : Int32) (u_texted : Int32) (u_rule : Int32) (u_rings : Int32) (u_size : Int32) (u_least : Int32) (u_worth : Int64) (u_groups : Int32) (u_paid : Int32) (u_imaged : Int32) (u_owes : (Nat → Int32)) (u_denies : (Nat → Int32)) (z : (Int32 × Int32 × (Nat → Int32) × (Nat → Int32))) (hF : fX9_person u_people u_owes u_denies = some z) : Ct l yX9_person cX9_person 3 (some .int) 1 D C [.ref q_] [(q_, .inr (9, [.int u_people, .ref q_owes, .ref q_denies, .int u_debts, .ref q_debt, .int u_cuts, .ref q_cut, .int u_seen, .ref q_sight, .int u_events, .ref q_event, .int u_inBook, .ref q_book, .int u_texted, .ref q_text, .ref q_path, .int u_rule, .int u_rings, .int u_size, .int u_least, .long u_worth, .ref q_ring, .ref q_balance, .ref q_left, .ref q_sum, .ref q_parts, .int u_groups, .ref q_group, .int u_paid, .ref q_payment, .ref q_then, .int u_imaged, .ref q_image, .ref q_tapeSort, .ref q_tapeSize, .ref q_items])), (q_owes, .inl (C 0, 36, .inl u_owes)), (q_denies, .inl (C 0, 36, .inl u_denies))] [(q_, .inr (9, [.int z.2.1, .ref q_owes, .ref q_denies, .int u_debts, .ref q_debt, .int u_cuts, .ref q_cut, .int u_seen, .ref q_sight, .int u_events, .ref q_event, .int u_inBook, .ref q_book, .int u_texted, .ref q_text, .ref q_path, .int u_rule, .int u_rings, .int u_size, .int u_least, .long u_worth, .ref q_ring, .ref q_balance, .ref q_left, .ref q_sum, .ref q_parts, .int u_groups, .ref q_group, .int u_paid, .ref q_payment, .ref q_then, .int u_imaged, .ref q_image, .ref q_tapeSort, .ref q_tapeSize, .ref q_items])), (q_owes, .inl (C 0, 36, .inl z.2.2.1)), (q_denies, .inl (C 0, 36, .inl z.2.2.2))] (some (.int z.1)) := by
  refine Ct_of (by decide) (Nat.le_of_ble_eq_true rfl) ?_
  intro p e R s m args below meth c A Q H locs ls cx hw hl hret
  have cx : CX p m c s args RX9 cX9_person 3 D C A R 1 := cx
  have hx := cx.1
  have hb := cx.2.1
  have hl : lv_has ls 3 [(0, .ref q_)] := hl
  rw [fX9_person.eq_1] at hF
  refine lv_aload_n hx hb dX9_person_0 rfl (lv_at hl 0 rfl) ?_
  refine r_get (ci := 9) (v := .int u_people) cx hw iX9 0 0 rfl rfl (by decide) wf_X9_76 rfl dX9_person_1 ?_
  refine lv_bipush (v := 6) hx hb dX9_person_4 (by decide) ?_
  refine lv_icmp_ne (tgt := 12) hx hb dX9_person_6 (by decide) (fun c1 => ?_) (fun c1 => ?_)
  · replace hF := oi_f c1 hF
    refine lv_aload_n hx hb dX9_person_12 rfl (lv_at hl 0 rfl) ?_
    refine lv_dup hx hb dX9_person_13 rfl ?_
    refine r_get (ci := 9) (v := .int u_people) cx hw iX9 0 0 rfl rfl (by decide) wf_X9_76 rfl dX9_person_14 ?_
    refine lv_dup_x1 hx hb dX9_person_17 rfl rfl ?_
    refine lv_iconst (v := 1) hx hb dX9_person_18 (by decide) ?_
    refine lv_iadd hx hb dX9_person_19 ?_
    refine r_put (ci := 9) (w2 := [(q_, .inr (9, [.int (u_people + 1), .ref q_owes, .ref q_denies, .int u_debts, .ref q_debt, .int u_cuts, .ref q_cut, .int u_seen, .ref q_sight, .int u_events, .ref q_event, .int u_inBook, .ref q_book, .int u_texted, .ref q_text, .ref q_path, .int u_rule, .int u_rings, .int u_size, .int u_least, .long u_worth, .ref q_ring, .ref q_balance, .ref q_left, .ref q_sum, .ref q_parts, .int u_groups, .ref q_group, .int u_paid, .ref q_payment, .ref q_then, .int u_imaged, .ref q_image, .ref q_tapeSort, .ref q_tapeSize, .ref q_items])), (q_owes, .inl (C 0, 36, .inl u_owes)), (q_denies, .inl (C 0, 36, .inl u_denies))]) cx hw iX9 tyX9_ok nmX9 0 0 rfl rfl (by decide) wf_X9_76 rfl rfl rfl rfl (Nat.le_of_ble_eq_true rfl) dX9_person_20 rfl (fun H locs hw => ?_)
    refine lv_istore_n (lv' := [(1, .int u_people), (0, .ref q_)]) hx hb dX9_person_23 rfl hl (by decide) rfl (fun ls hl => ?_)
    refine lv_iconst (v := 0) hx hb dX9_person_24 (by decide) ?_
    refine lv_istore_n (lv' := [(2, .int 0), (1, .int u_people), (0, .ref q_)]) hx hb dX9_person_25 rfl hl (by decide) rfl (fun ls hl => ?_)
    refine LX9_person_26 cx hret 400 0 u_owes u_denies H locs ls hF hw (lv_sub hl [2, 1, 0] rfl)
  · replace hF := oi_t c1 hF
    refine lv_bipush (v := (-4)) hx hb dX9_person_9 (by decide) ?_
    obtain rfl := Option.some.inj hF
    exact rt_i hret hw rfl dX9_person_11
theorem wf_X9_88 : Cond.fieldLink RX9 88 (TX9 3).1 (TX9 3).2.1 (TX9 3).2.2.1 ∈ gdt := gdt_of 843 (by decide +kernel) (by decide +kernel)
theorem wf_X9_18 : Cond.fieldLink RX9 18 (TX9 4).1 (TX9 4).2.1 (TX9 4).2.2.1 ∈ gdt := gdt_of 844 (by decide +kernel) (by decide +kernel)
theorem dX9_numberOf_0 : decode cX9_numberOf 0 = .ok (.iconst 0, 1) := by decide +kernel
theorem dX9_numberOf_1 : decode cX9_numberOf 1 = .ok (.istore_n 2, 1) := by decide +kernel
theorem dX9_numberOf_2 : decode cX9_numberOf 2 = .ok (.iload_n 2, 1) := by decide +kernel
theorem dX9_numberOf_3 : decode cX9_numberOf 3 = .ok (.aload_n 0, 1) := by decide +kernel
theorem dX9_numberOf_4 : decode cX9_numberOf 4 = .ok (.getfield 88, 3) := by decide +kernel
theorem dX9_numberOf_7 : decode cX9_numberOf 7 = .ok (.if_icmp .ge 21, 3) := by decide +kernel
theorem dX9_numberOf_10 : decode cX9_numberOf 10 = .ok (.aload_n 0, 1) := by decide +kernel
theorem dX9_numberOf_11 : decode cX9_numberOf 11 = .ok (.getfield 18, 3) := by decide +kernel
theorem dX9_numberOf_14 : decode cX9_numberOf 14 = .ok (.iload_n 2, 1) := by decide +kernel
theorem dX9_numberOf_15 : decode cX9_numberOf 15 = .ok (.iaload, 1) := by decide +kernel
theorem dX9_numberOf_16 : decode cX9_numberOf 16 = .ok (.iload_n 1, 1) := by decide +kernel
theorem dX9_numberOf_17 : decode cX9_numberOf 17 = .ok (.if_icmp .ne 5, 3) := by decide +kernel
theorem dX9_numberOf_20 : decode cX9_numberOf 20 = .ok (.iload_n 2, 1) := by decide +kernel
theorem dX9_numberOf_21 : decode cX9_numberOf 21 = .ok (.ireturn, 1) := by decide +kernel
theorem dX9_numberOf_22 : decode cX9_numberOf 22 = .ok (.iinc 2 1, 3) := by decide +kernel
theorem dX9_numberOf_25 : decode cX9_numberOf 25 = .ok (.goto (-23), 3) := by decide +kernel
theorem dX9_numberOf_28 : decode cX9_numberOf 28 = .ok (.bipush (-5), 2) := by decide +kernel
theorem dX9_numberOf_30 : decode cX9_numberOf 30 = .ok (.ireturn, 1) := by decide +kernel
def fX9_numberOf_L2 (u_debts : Int32) (u_debt : (Nat → Int32)) (x1 : Int32) : Nat → Int32 → Option Int32
  | 0, _ => none
  | n + 1, x2 => if u_debts ≤ x2 then (some (-5)) else (gA x2 30 (if (u_debt (x2).toNatClampNeg) = x1 then (some x2) else (fX9_numberOf_L2 u_debts u_debt x1 n (x2 + 1))))
def fX9_numberOf (u_debts : Int32) (u_debt : (Nat → Int32)) (x1 : Int32) : Option Int32 := fX9_numberOf_L2 u_debts u_debt x1 400 0
set_option maxRecDepth 20000 in
theorem LX9_numberOf_2 {p : Program} {l : Launch} {e : Env} {R : Room} {s : State} {m : MethodId} {args : Array Value} {below : List Frame} {meth : Method} {c : Code} {Q : State → Prop} {D : va_G} {C : Nat → ClassId} {A : Nat → Prop} (cx : CX p m c s args RX9 cX9_numberOf 3 D C A R 1) {q_ q_owes q_denies q_debt q_cut q_sight q_event q_book q_text q_path q_ring q_balance q_left q_sum q_parts q_group q_payment q_then q_image q_tapeSort q_tapeSize q_items : Nat} {u_people : Int32} {u_debts : Int32} {u_cuts : Int32} {u_seen : Int32} {u_events : Int32} {u_inBook : Int32} {u_texted : Int32} {u_rule : Int32} {u_rings : Int32} {u_size : Int32} {u_least : Int32} {u_worth : Int64} {u_groups : Int32} {u_paid : Int32} {u_imaged : Int32} {u_debt : (Nat → Int32)} {x1 : Int32} {z : Int32} (hret : RT p l e R s m args below meth c Q D A cX9_numberOf (some .int) [(q_, .inr (9, [.int u_people, .ref q_owes, .ref q_denies, .int u_debts, .ref q_debt, .int u_cuts, .ref q_cut, .int u_seen, .ref q_sight, .int u_events, .ref q_event, .int u_inBook, .ref q_book, .int u_texted, .ref q_text, .ref q_path, .int u_rule, .int u_rings, .int u_size, .int u_least, .long u_worth, .ref q_ring, .ref q_balance, .ref q_left, .ref q_sum, .ref q_parts, .int u_groups, .ref q_group, .int u_paid, .ref q_payment, .ref q_then, .int u_imaged, .ref q_image, .ref q_tapeSort, .ref q_tapeSize, .ref q_items])), (q_debt, .inl (C 0, 30, .inl u_debt))] (some (.int z))) :
    ∀ (n : Nat) (x2 : Int32) (H : Heap) (locs : List Loc) (ls : Array Slot), fX9_numberOf_L2 u_debts u_debt x1 n x2 = some z → HW D A s.heap H locs [(q_, .inr (9, [.int u_people, .ref q_owes, .ref q_denies, .int u_debts, .ref q_debt, .int u_cuts, .ref q_cut, .int u_seen, .ref q_sight, .int u_events, .ref q_event, .int u_inBook, .ref q_book, .int u_texted, .ref q_text, .ref q_path, .int u_rule, .int u_rings, .int u_size, .int u_least, .long u_worth, .ref q_ring, .ref q_balance, .ref q_left, .ref q_sum, .ref q_parts, .int u_groups, .ref q_group, .int u_paid, .ref q_payment, .ref q_then, .int u_imaged, .ref q_image, .ref q_tapeSort, .ref q_tapeSize, .ref q_items])), (q_debt, .inl (C 0, 30, .inl u_debt))] → lv_has ls 3 [(0, .ref q_), (1, .int x1), (2, .int x2)] → W p l e R s m args below meth c H locs 0 0 Q (F0 m 2 ls []) := by
  have hx := cx.1
  have hb := cx.2.1
  intro n
  induction n with
  | zero => intro x2 H locs ls hF; cases hF
  | succ n ih =>
    intro x2 H locs ls hF hw hl
    rw [fX9_numberOf_L2.eq_2] at hF
    refine lv_iload_n hx hb dX9_numberOf_2 rfl (lv_at hl 2 rfl) ?_
    refine lv_aload_n hx hb dX9_numberOf_3 rfl (lv_at hl 0 rfl) ?_
    refine r_get (ci := 9) (v := .int u_debts) cx hw iX9 0 3 rfl rfl (by decide) wf_X9_88 rfl dX9_numberOf_4 ?_
    refine lv_icmp_ge (tgt := 28) hx hb dX9_numberOf_7 (by decide) (fun c1 => ?_) (fun c1 => ?_)
    · replace hF := oi_t c1 hF
      refine lv_bipush (v := (-5)) hx hb dX9_numberOf_28 (by decide) ?_
      obtain rfl := Option.some.inj hF
      exact rt_i hret hw rfl dX9_numberOf_30
    · replace hF := oi_f c1 hF
      refine lv_aload_n hx hb dX9_numberOf_10 rfl (lv_at hl 0 rfl) ?_
      refine r_get (ci := 9) (v := .ref q_debt) cx hw iX9 0 4 rfl rfl (by decide) wf_X9_18 rfl dX9_numberOf_11 ?_
      refine lv_iload_n hx hb dX9_numberOf_14 rfl (lv_at hl 2 rfl) ?_
      obtain ⟨g2, hF⟩ := gA_s hF
      refine r_iald cx hw 1 rfl g2 dX9_numberOf_15 ?_
      refine lv_iload_n hx hb dX9_numberOf_16 rfl (lv_at hl 1 rfl) ?_
      refine lv_icmp_ne (tgt := 22) hx hb dX9_numberOf_17 (by decide) (fun c3 => ?_) (fun c3 => ?_)
      · replace hF := oi_f c3 hF
        refine lv_iinc (v := x2 + 1) (lv' := [(2, .int (x2 + 1)), (0, .ref q_), (1, .int x1)]) hx hb dX9_numberOf_22 hl (k := 2) rfl rfl (by decide) rfl (fun ls hl => ?_)
        refine lv_goto (tgt := 2) hx hb dX9_numberOf_25 (by decide) ?_
        exact ih (x2 + 1) H locs ls hF hw (lv_sub hl [1, 2, 0] rfl)
      · replace hF := oi_t c3 hF
        refine lv_iload_n hx hb dX9_numberOf_20 rfl (lv_at hl 2 rfl) ?_
        obtain rfl := Option.some.inj hF
        exact rt_i hret hw rfl dX9_numberOf_21
set_option maxRecDepth 20000 in
theorem CX9_numberOf (l : Launch) (D : va_G) (C : Nat → ClassId) (q_ q_owes q_denies q_debt q_cut q_sight q_event q_book q_text q_path q_ring q_balance q_left q_sum q_parts q_group q_payment q_then q_image q_tapeSort q_tapeSize q_items : Nat) (u_people : Int32) (u_debts : Int32) (u_cuts : Int32) (u_seen : Int32) (u_events : Int32) (u_inBook : Int32) (u_texted : Int32) (u_rule : Int32) (u_rings : Int32) (u_size : Int32) (u_least : Int32) (u_worth : Int64) (u_groups : Int32) (u_paid : Int32) (u_imaged : Int32) (u_debt : (Nat → Int32)) (x1 : Int32) (z : Int32) (hF : fX9_numberOf u_debts u_debt x1 = some z) : Ct l yX9_numberOf cX9_numberOf 3 (some .int) 1 D C [.ref q_, .int x1] [(q_, .inr (9, [.int u_people, .ref q_owes, .ref q_denies, .int u_debts, .ref q_debt, .int u_cuts, .ref q_cut, .int u_seen, .ref q_sight, .int u_events, .ref q_event, .int u_inBook, .ref q_book, .int u_texted, .ref q_text, .ref q_path, .int u_rule, .int u_rings, .int u_size, .int u_least, .long u_worth, .ref q_ring, .ref q_balance, .ref q_left, .ref q_sum, .ref q_parts, .int u_groups, .ref q_group, .int u_paid, .ref q_payment, .ref q_then, .int u_imaged, .ref q_image, .ref q_tapeSort, .ref q_tapeSize, .ref q_items])), (q_debt, .inl (C 0, 30, .inl u_debt))] [(q_, .inr (9, [.int u_people, .ref q_owes, .ref q_denies, .int u_debts, .ref q_debt, .int u_cuts, .ref q_cut, .int u_seen, .ref q_sight, .int u_events, .ref q_event, .int u_inBook, .ref q_book, .int u_texted, .ref q_text, .ref q_path, .int u_rule, .int u_rings, .int u_size, .int u_least, .long u_worth, .ref q_ring, .ref q_balance, .ref q_left, .ref q_sum, .ref q_parts, .int u_groups, .ref q_group, .int u_paid, .ref q_payment, .ref q_then, .int u_imaged, .ref q_image, .ref q_tapeSort, .ref q_tapeSize, .ref q_items])), (q_debt, .inl (C 0, 30, .inl u_debt))] (some (.int z)) := by
  refine Ct_of (by decide) (Nat.le_of_ble_eq_true rfl) ?_
  intro p e R s m args below meth c A Q H locs ls cx hw hl hret
  have cx : CX p m c s args RX9 cX9_numberOf 3 D C A R 1 := cx
  have hx := cx.1
  have hb := cx.2.1
  have hl : lv_has ls 3 [(0, .ref q_), (1, .int x1)] := hl
  rw [fX9_numberOf.eq_1] at hF
  refine lv_iconst (v := 0) hx hb dX9_numberOf_0 (by decide) ?_
  refine lv_istore_n (lv' := [(2, .int 0), (0, .ref q_), (1, .int x1)]) hx hb dX9_numberOf_1 rfl hl (by decide) rfl (fun ls hl => ?_)
  refine LX9_numberOf_2 cx hret 400 0 H locs ls hF hw (lv_sub hl [1, 2, 0] rfl)
theorem lk_X9_91 : Cond.methodLink RX9 91 yX9_numberOf ∈ gdt := gdt_of 972 (by decide +kernel) (by decide +kernel)
theorem my_X9_numberOf : (yX9_numberOf.cls ≠ "java/lang/invoke/MethodHandle" ∧ yX9_numberOf.cls ≠ "java/lang/invoke/VarHandle") ∧ Cond.instanceMethod yX9_numberOf ∈ gdt ∧ Cond.selects yX9_numberOf.cls yX9_numberOf yX9_numberOf ∈ gdt ∧ Cond.initialized yX9_numberOf.cls ∈ gdt ∧ Cond.code yX9_numberOf cX9_numberOf 3 (some .int) ∈ gdt := ⟨⟨by decide +kernel, by decide +kernel⟩, gdt_of 974 (by decide +kernel) (by decide +kernel), gdt_of 35 (by decide +kernel) (by decide +kernel), gdt_of 77 (by decide +kernel) (by decide +kernel), gdt_of 975 (by decide +kernel) (by decide +kernel)⟩
theorem ml_X9_numberOf : (parseMethodDescriptor yX9_numberOf.desc).map (fun d => d.parameters.length) = some 1 := by decide +kernel
theorem dX9_becomes_0 : decode cX9_becomes 0 = .ok (.aload_n 0, 1) := by decide +kernel
theorem dX9_becomes_1 : decode cX9_becomes 1 = .ok (.iload_n 1, 1) := by decide +kernel
theorem dX9_becomes_2 : decode cX9_becomes 2 = .ok (.invokevirtual 91, 3) := by decide +kernel
theorem dX9_becomes_5 : decode cX9_becomes 5 = .ok (.istore_n 3, 1) := by decide +kernel
theorem dX9_becomes_6 : decode cX9_becomes 6 = .ok (.aload_n 0, 1) := by decide +kernel
theorem dX9_becomes_7 : decode cX9_becomes 7 = .ok (.getfield 9, 3) := by decide +kernel
theorem dX9_becomes_10 : decode cX9_becomes 10 = .ok (.iload_n 1, 1) := by decide +kernel
theorem dX9_becomes_11 : decode cX9_becomes 11 = .ok (.iload_n 2, 1) := by decide +kernel
theorem dX9_becomes_12 : decode cX9_becomes 12 = .ok (.iastore, 1) := by decide +kernel
theorem dX9_becomes_13 : decode cX9_becomes 13 = .ok (.iload_n 2, 1) := by decide +kernel
theorem dX9_becomes_14 : decode cX9_becomes 14 = .ok (.ifCond .le 24, 3) := by decide +kernel
theorem dX9_becomes_17 : decode cX9_becomes 17 = .ok (.iload_n 3, 1) := by decide +kernel
theorem dX9_becomes_18 : decode cX9_becomes 18 = .ok (.ifCond .ge 20, 3) := by decide +kernel
theorem dX9_becomes_21 : decode cX9_becomes 21 = .ok (.aload_n 0, 1) := by decide +kernel
theorem dX9_becomes_22 : decode cX9_becomes 22 = .ok (.getfield 18, 3) := by decide +kernel
theorem dX9_becomes_25 : decode cX9_becomes 25 = .ok (.aload_n 0, 1) := by decide +kernel
theorem dX9_becomes_26 : decode cX9_becomes 26 = .ok (.dup, 1) := by decide +kernel
theorem dX9_becomes_27 : decode cX9_becomes 27 = .ok (.getfield 88, 3) := by decide +kernel
theorem dX9_becomes_30 : decode cX9_becomes 30 = .ok (.dup_x1, 1) := by decide +kernel
theorem dX9_becomes_31 : decode cX9_becomes 31 = .ok (.iconst 1, 1) := by decide +kernel
theorem dX9_becomes_32 : decode cX9_becomes 32 = .ok (.iadd, 1) := by decide +kernel
theorem dX9_becomes_33 : decode cX9_becomes 33 = .ok (.putfield 88, 3) := by decide +kernel
theorem dX9_becomes_36 : decode cX9_becomes 36 = .ok (.iload_n 1, 1) := by decide +kernel
theorem dX9_becomes_37 : decode cX9_becomes 37 = .ok (.iastore, 1) := by decide +kernel
theorem dX9_becomes_38 : decode cX9_becomes 38 = .ok (.iload_n 2, 1) := by decide +kernel
theorem dX9_becomes_39 : decode cX9_becomes 39 = .ok (.ifCond .gt 7, 3) := by decide +kernel
theorem dX9_becomes_42 : decode cX9_becomes 42 = .ok (.iload_n 3, 1) := by decide +kernel
theorem dX9_becomes_43 : decode cX9_becomes 43 = .ok (.ifCond .ge 4, 3) := by decide +kernel
theorem dX9_becomes_46 : decode cX9_becomes 46 = .ok (.return_, 1) := by decide +kernel
theorem dX9_becomes_47 : decode cX9_becomes 47 = .ok (.aload_n 0, 1) := by decide +kernel
theorem dX9_becomes_48 : decode cX9_becomes 48 = .ok (.dup, 1) := by decide +kernel
theorem dX9_becomes_49 : decode cX9_becomes 49 = .ok (.getfield 88, 3) := by decide +kernel
theorem dX9_becomes_52 : decode cX9_becomes 52 = .ok (.iconst 1, 1) := by decide +kernel
theorem dX9_becomes_53 : decode cX9_becomes 53 = .ok (.isub, 1) := by decide +kernel
theorem dX9_becomes_54 : decode cX9_becomes 54 = .ok (.putfield 88, 3) := by decide +kernel
theorem dX9_becomes_57 : decode cX9_becomes 57 = .ok (.iload_n 3, 1) := by decide +kernel
theorem dX9_becomes_58 : decode cX9_becomes 58 = .ok (.istore 4, 2) := by decide +kernel
theorem dX9_becomes_60 : decode cX9_becomes 60 = .ok (.iload 4, 2) := by decide +kernel
theorem dX9_becomes_62 : decode cX9_becomes 62 = .ok (.aload_n 0, 1) := by decide +kernel
theorem dX9_becomes_63 : decode cX9_becomes 63 = .ok (.getfield 88, 3) := by decide +kernel
theorem dX9_becomes_66 : decode cX9_becomes 66 = .ok (.if_icmp .ge 25, 3) := by decide +kernel
theorem dX9_becomes_69 : decode cX9_becomes 69 = .ok (.aload_n 0, 1) := by decide +kernel
theorem dX9_becomes_70 : decode cX9_becomes 70 = .ok (.getfield 18, 3) := by decide +kernel
theorem dX9_becomes_73 : decode cX9_becomes 73 = .ok (.iload 4, 2) := by decide +kernel
theorem dX9_becomes_75 : decode cX9_becomes 75 = .ok (.aload_n 0, 1) := by decide +kernel
theorem dX9_becomes_76 : decode cX9_becomes 76 = .ok (.getfield 18, 3) := by decide +kernel
theorem dX9_becomes_79 : decode cX9_becomes 79 = .ok (.iload 4, 2) := by decide +kernel
theorem dX9_becomes_81 : decode cX9_becomes 81 = .ok (.iconst 1, 1) := by decide +kernel
theorem dX9_becomes_82 : decode cX9_becomes 82 = .ok (.iadd, 1) := by decide +kernel
theorem dX9_becomes_83 : decode cX9_becomes 83 = .ok (.iaload, 1) := by decide +kernel
theorem dX9_becomes_84 : decode cX9_becomes 84 = .ok (.iastore, 1) := by decide +kernel
theorem dX9_becomes_85 : decode cX9_becomes 85 = .ok (.iinc 4 1, 3) := by decide +kernel
theorem dX9_becomes_88 : decode cX9_becomes 88 = .ok (.goto (-28), 3) := by decide +kernel
theorem dX9_becomes_91 : decode cX9_becomes 91 = .ok (.return_, 1) := by decide +kernel
def fX9_becomes_L60 (u_debts : Int32) (u_owes : (Nat → Int32)) : Nat → Int32 → (Nat → Int32) → Option (Int32 × (Nat → Int32) × (Nat → Int32))
  | 0, _, _ => none
  | n + 1, x4, u_debt => if u_debts ≤ x4 then (some (u_debts, u_owes, u_debt)) else (gA (x4 + 1) 30 (gA x4 30 (fX9_becomes_L60 u_debts u_owes n (x4 + 1) (upd u_debt (x4 : Int32).toNatClampNeg (u_debt (x4 + 1).toNatClampNeg)))))
def fX9_becomes (u_debts : Int32) (u_owes : (Nat → Int32)) (u_debt : (Nat → Int32)) (x1 : Int32) (x2 : Int32) : Option (Int32 × (Nat → Int32) × (Nat → Int32)) := (fX9_numberOf u_debts u_debt x1).bind (fun z1 => gA x1 36 (if x2 ≤ 0 then (if 0 < x2 then (some (u_debts, upd u_owes (x1 : Int32).toNatClampNeg x2, u_debt)) else (if 0 ≤ z1 then (fX9_becomes_L60 (u_debts - 1) (upd u_owes (x1 : Int32).toNatClampNeg x2) 400 z1 u_debt) else (some (u_debts, upd u_owes (x1 : Int32).toNatClampNeg x2, u_debt)))) else (if 0 ≤ z1 then (if 0 < x2 then (some (u_debts, upd u_owes (x1 : Int32).toNatClampNeg x2, u_debt)) else (if 0 ≤ z1 then (fX9_becomes_L60 (u_debts - 1) (upd u_owes (x1 : Int32).toNatClampNeg x2) 400 z1 u_debt) else (some (u_debts, upd u_owes (x1 : Int32).toNatClampNeg x2, u_debt)))) else (gA u_debts 30 (if 0 < x2 then (some (u_debts + 1, upd u_owes (x1 : Int32).toNatClampNeg x2, upd u_debt (u_debts : Int32).toNatClampNeg x1)) else (if 0 ≤ z1 then (fX9_becomes_L60 ((u_debts + 1) - 1) (upd u_owes (x1 : Int32).toNatClampNeg x2) 400 z1 (upd u_debt (u_debts : Int32).toNatClampNeg x1)) else (some (u_debts + 1, upd u_owes (x1 : Int32).toNatClampNeg x2, upd u_debt (u_debts : Int32).toNatClampNeg x1))))))))
set_option maxRecDepth 20000 in
theorem LX9_becomes_60 {p : Program} {l : Launch} {e : Env} {R : Room} {s : State} {m : MethodId} {args : Array Value} {below : List Frame} {meth : Method} {c : Code} {Q : State → Prop} {D : va_G} {C : Nat → ClassId} {A : Nat → Prop} (cx : CX p m c s args RX9 cX9_becomes 5 D C A R 2) {q_ q_owes q_denies q_debt q_cut q_sight q_event q_book q_text q_path q_ring q_balance q_left q_sum q_parts q_group q_payment q_then q_image q_tapeSort q_tapeSize q_items : Nat} {u_people : Int32} {u_debts : Int32} {u_cuts : Int32} {u_seen : Int32} {u_events : Int32} {u_inBook : Int32} {u_texted : Int32} {u_rule : Int32} {u_rings : Int32} {u_size : Int32} {u_least : Int32} {u_worth : Int64} {u_groups : Int32} {u_paid : Int32} {u_imaged : Int32} {u_owes : (Nat → Int32)} {z : (Int32 × (Nat → Int32) × (Nat → Int32))} (hret : RT p l e R s m args below meth c Q D A cX9_becomes none [(q_, .inr (9, [.int u_people, .ref q_owes, .ref q_denies, .int z.1, .ref q_debt, .int u_cuts, .ref q_cut, .int u_seen, .ref q_sight, .int u_events, .ref q_event, .int u_inBook, .ref q_book, .int u_texted, .ref q_text, .ref q_path, .int u_rule, .int u_rings, .int u_size, .int u_least, .long u_worth, .ref q_ring, .ref q_balance, .ref q_left, .ref q_sum, .ref q_parts, .int u_groups, .ref q_group, .int u_paid, .ref q_payment, .ref q_then, .int u_imaged, .ref q_image, .ref q_tapeSort, .ref q_tapeSize, .ref q_items])), (q_owes, .inl (C 0, 36, .inl z.2.1)), (q_debt, .inl (C 0, 30, .inl z.2.2))] none) :
    ∀ (n : Nat) (x4 : Int32) (u_debt : (Nat → Int32)) (H : Heap) (locs : List Loc) (ls : Array Slot), fX9_becomes_L60 u_debts u_owes n x4 u_debt = some z → HW D A s.heap H locs [(q_, .inr (9, [.int u_people, .ref q_owes, .ref q_denies, .int u_debts, .ref q_debt, .int u_cuts, .ref q_cut, .int u_seen, .ref q_sight, .int u_events, .ref q_event, .int u_inBook, .ref q_book, .int u_texted, .ref q_text, .ref q_path, .int u_rule, .int u_rings, .int u_size, .int u_least, .long u_worth, .ref q_ring, .ref q_balance, .ref q_left, .ref q_sum, .ref q_parts, .int u_groups, .ref q_group, .int u_paid, .ref q_payment, .ref q_then, .int u_imaged, .ref q_image, .ref q_tapeSort, .ref q_tapeSize, .ref q_items])), (q_owes, .inl (C 0, 36, .inl u_owes)), (q_debt, .inl (C 0, 30, .inl u_debt))] → lv_has ls 5 [(0, .ref q_), (4, .int x4)] → W p l e R s m args below meth c H locs 0 0 Q (F0 m 60 ls []) := by
  have hx := cx.1
  have hb := cx.2.1
  intro n
  induction n with
  | zero => intro x4 u_debt H locs ls hF; cases hF
  | succ n ih =>
    intro x4 u_debt H locs ls hF hw hl
    rw [fX9_becomes_L60.eq_2] at hF
    refine lv_iload hx hb dX9_becomes_60 (lv_at hl 1 rfl) ?_
    refine lv_aload_n hx hb dX9_becomes_62 rfl (lv_at hl 0 rfl) ?_
    refine r_get (ci := 9) (v := .int u_debts) cx hw iX9 0 3 rfl rfl (by decide) wf_X9_88 rfl dX9_becomes_63 ?_
    refine lv_icmp_ge (tgt := 91) hx hb dX9_becomes_66 (by decide) (fun c6 => ?_) (fun c6 => ?_)
    · replace hF := oi_t c6 hF
      obtain rfl := Option.some.inj hF
      exact rt_v hret hw rfl dX9_becomes_91
    · replace hF := oi_f c6 hF
      refine lv_aload_n hx hb dX9_becomes_69 rfl (lv_at hl 0 rfl) ?_
      refine r_get (ci := 9) (v := .ref q_debt) cx hw iX9 0 4 rfl rfl (by decide) wf_X9_18 rfl dX9_becomes_70 ?_
      refine lv_iload hx hb dX9_becomes_73 (lv_at hl 1 rfl) ?_
      refine lv_aload_n hx hb dX9_becomes_75 rfl (lv_at hl 0 rfl) ?_
      refine r_get (ci := 9) (v := .ref q_debt) cx hw iX9 0 4 rfl rfl (by decide) wf_X9_18 rfl dX9_becomes_76 ?_
      refine lv_iload hx hb dX9_becomes_79 (lv_at hl 1 rfl) ?_
      refine lv_iconst (v := 1) hx hb dX9_becomes_81 (by decide) ?_
      refine lv_iadd hx hb dX9_becomes_82 ?_
      obtain ⟨g7, hF⟩ := gA_s hF
      refine r_iald cx hw 2 rfl g7 dX9_becomes_83 ?_
      obtain ⟨g8, hF⟩ := gA_s hF
      refine r_iast (w2 := [(q_, .inr (9, [.int u_people, .ref q_owes, .ref q_denies, .int u_debts, .ref q_debt, .int u_cuts, .ref q_cut, .int u_seen, .ref q_sight, .int u_events, .ref q_event, .int u_inBook, .ref q_book, .int u_texted, .ref q_text, .ref q_path, .int u_rule, .int u_rings, .int u_size, .int u_least, .long u_worth, .ref q_ring, .ref q_balance, .ref q_left, .ref q_sum, .ref q_parts, .int u_groups, .ref q_group, .int u_paid, .ref q_payment, .ref q_then, .int u_imaged, .ref q_image, .ref q_tapeSort, .ref q_tapeSize, .ref q_items])), (q_owes, .inl (C 0, 36, .inl u_owes)), (q_debt, .inl (C 0, 30, .inl (upd u_debt (x4 : Int32).toNatClampNeg (u_debt (x4 + 1).toNatClampNeg))))]) cx hw 2 rfl g8 dX9_becomes_84 rfl (fun H locs hw => ?_)
      refine lv_iinc (v := x4 + 1) (lv' := [(4, .int (x4 + 1)), (0, .ref q_)]) hx hb dX9_becomes_85 hl (k := 1) rfl rfl (by decide) rfl (fun ls hl => ?_)
      refine lv_goto (tgt := 60) hx hb dX9_becomes_88 (by decide) ?_
      exact ih (x4 + 1) (upd u_debt (x4 : Int32).toNatClampNeg (u_debt (x4 + 1).toNatClampNeg)) H locs ls hF hw (lv_sub hl [1, 0] rfl)
set_option maxRecDepth 20000 in
theorem CX9_becomes (l : Launch) (D : va_G) (C : Nat → ClassId) (q_ q_owes q_denies q_debt q_cut q_sight q_event q_book q_text q_path q_ring q_balance q_left q_sum q_parts q_group q_payment q_then q_image q_tapeSort q_tapeSize q_items : Nat) (u_people : Int32) (u_debts : Int32) (u_cuts : Int32) (u_seen : Int32) (u_events : Int32) (u_inBook : Int32) (u_texted : Int32) (u_rule : Int32) (u_rings : Int32) (u_size : Int32) (u_least : Int32) (u_worth : Int64) (u_groups : Int32) (u_paid : Int32) (u_imaged : Int32) (u_owes : (Nat → Int32)) (u_debt : (Nat → Int32)) (x1 : Int32) (x2 : Int32) (z : (Int32 × (Nat → Int32) × (Nat → Int32))) (hF : fX9_becomes u_debts u_owes u_debt x1 x2 = some z) : Ct l yX9_becomes cX9_becomes 5 none 2 D C [.ref q_, .int x1, .int x2] [(q_, .inr (9, [.int u_people, .ref q_owes, .ref q_denies, .int u_debts, .ref q_debt, .int u_cuts, .ref q_cut, .int u_seen, .ref q_sight, .int u_events, .ref q_event, .int u_inBook, .ref q_book, .int u_texted, .ref q_text, .ref q_path, .int u_rule, .int u_rings, .int u_size, .int u_least, .long u_worth, .ref q_ring, .ref q_balance, .ref q_left, .ref q_sum, .ref q_parts, .int u_groups, .ref q_group, .int u_paid, .ref q_payment, .ref q_then, .int u_imaged, .ref q_image, .ref q_tapeSort, .ref q_tapeSize, .ref q_items])), (q_owes, .inl (C 0, 36, .inl u_owes)), (q_debt, .inl (C 0, 30, .inl u_debt))] [(q_, .inr (9, [.int u_people, .ref q_owes, .ref q_denies, .int z.1, .ref q_debt, .int u_cuts, .ref q_cut, .int u_seen, .ref q_sight, .int u_events, .ref q_event, .int u_inBook, .ref q_book, .int u_texted, .ref q_text, .ref q_path, .int u_rule, .int u_rings, .int u_size, .int u_least, .long u_worth, .ref q_ring, .ref q_balance, .ref q_left, .ref q_sum, .ref q_parts, .int u_groups, .ref q_group, .int u_paid, .ref q_payment, .ref q_then, .int u_imaged, .ref q_image, .ref q_tapeSort, .ref q_tapeSize, .ref q_items])), (q_owes, .inl (C 0, 36, .inl z.2.1)), (q_debt, .inl (C 0, 30, .inl z.2.2))] none := by
  refine Ct_of (by decide) (Nat.le_of_ble_eq_true rfl) ?_
  intro p e R s m args below meth c A Q H locs ls cx hw hl hret
  have cx : CX p m c s args RX9 cX9_becomes 5 D C A R 2 := cx
  have hx := cx.1
  have hb := cx.2.1
  have hl : lv_has ls 5 [(0, .ref q_), (1, .int x1), (2, .int x2)] := hl
  rw [fX9_becomes.eq_1] at hF
  refine lv_aload_n hx hb dX9_becomes_0 rfl (lv_at hl 0 rfl) ?_
  refine lv_iload_n hx hb dX9_becomes_1 rfl (lv_at hl 1 rfl) ?_
  obtain ⟨z1, hz1, hF⟩ := ob hF
  refine cV (wr := [(q_owes, .inl (C 0, 36, .inl u_owes))]) (w2 := [(q_, .inr (9, [.int u_people, .ref q_owes, .ref q_denies, .int u_debts, .ref q_debt, .int u_cuts, .ref q_cut, .int u_seen, .ref q_sight, .int u_events, .ref q_event, .int u_inBook, .ref q_book, .int u_texted, .ref q_text, .ref q_path, .int u_rule, .int u_rings, .int u_size, .int u_least, .long u_worth, .ref q_ring, .ref q_balance, .ref q_left, .ref q_sum, .ref q_parts, .int u_groups, .ref q_group, .int u_paid, .ref q_payment, .ref q_then, .int u_imaged, .ref q_image, .ref q_tapeSort, .ref q_tapeSize, .ref q_items])), (q_owes, .inl (C 0, 36, .inl u_owes)), (q_debt, .inl (C 0, 30, .inl u_debt))]) (st2 := [.int z1]) cx (CX9_numberOf l D C q_ q_owes q_denies q_debt q_cut q_sight q_event q_book q_text q_path q_ring q_balance q_left q_sum q_parts q_group q_payment q_then q_image q_tapeSort q_tapeSize q_items u_people u_debts u_cuts u_seen u_events u_inBook u_texted u_rule u_rings u_size u_least u_worth u_groups u_paid u_imaged u_debt x1 z1 hz1) lk_X9_91 my_X9_numberOf ml_X9_numberOf ⟨by decide, by decide⟩ hw [0, 2] [1] [1, 0, 2] rfl rfl (by decide) rfl rfl rfl rfl (Nat.le_of_ble_eq_true rfl) dX9_becomes_2 rfl (fun H locs hw => ?_) hl.1
  refine lv_istore_n (lv' := [(3, .int z1), (0, .ref q_), (1, .int x1), (2, .int x2)]) hx hb dX9_becomes_5 rfl hl (by decide) rfl (fun ls hl => ?_)
  refine lv_aload_n hx hb dX9_becomes_6 rfl (lv_at hl 1 rfl) ?_
  refine r_get (ci := 9) (v := .ref q_owes) cx hw iX9 0 1 rfl rfl (by decide) wf_X9_9 rfl dX9_becomes_7 ?_
  refine lv_iload_n hx hb dX9_becomes_10 rfl (lv_at hl 2 rfl) ?_
  refine lv_iload_n hx hb dX9_becomes_11 rfl (lv_at hl 3 rfl) ?_
  obtain ⟨g2, hF⟩ := gA_s hF
  refine r_iast (w2 := [(q_, .inr (9, [.int u_people, .ref q_owes, .ref q_denies, .int u_debts, .ref q_debt, .int u_cuts, .ref q_cut, .int u_seen, .ref q_sight, .int u_events, .ref q_event, .int u_inBook, .ref q_book, .int u_texted, .ref q_text, .ref q_path, .int u_rule, .int u_rings, .int u_size, .int u_least, .long u_worth, .ref q_ring, .ref q_balance, .ref q_left, .ref q_sum, .ref q_parts, .int u_groups, .ref q_group, .int u_paid, .ref q_payment, .ref q_then, .int u_imaged, .ref q_image, .ref q_tapeSort, .ref q_tapeSize, .ref q_items])), (q_owes, .inl (C 0, 36, .inl (upd u_owes (x1 : Int32).toNatClampNeg x2))), (q_debt, .inl (C 0, 30, .inl u_debt))]) cx hw 1 rfl g2 dX9_becomes_12 rfl (fun H locs hw => ?_)
  refine lv_iload_n hx hb dX9_becomes_13 rfl (lv_at hl 3 rfl) ?_
  refine lv_if_le (tgt := 38) hx hb dX9_becomes_14 (by decide) (fun c3 => ?_) (fun c3 => ?_)
  · replace hF := oi_t c3 hF
    refine lv_iload_n hx hb dX9_becomes_38 rfl (lv_at hl 3 rfl) ?_
    refine lv_if_gt (tgt := 46) hx hb dX9_becomes_39 (by decide) (fun c4 => ?_) (fun c4 => ?_)
    · replace hF := oi_t c4 hF
      obtain rfl := Option.some.inj hF
      exact rt_v hret hw rfl dX9_becomes_46
    · replace hF := oi_f c4 hF
      refine lv_iload_n hx hb dX9_becomes_42 rfl (lv_at hl 0 rfl) ?_
      refine lv_if_ge (tgt := 47) hx hb dX9_becomes_43 (by decide) (fun c5 => ?_) (fun c5 => ?_)
      · replace hF := oi_t c5 hF
        refine lv_aload_n hx hb dX9_becomes_47 rfl (lv_at hl 1 rfl) ?_
        refine lv_dup hx hb dX9_becomes_48 rfl ?_
        refine r_get (ci := 9) (v := .int u_debts) cx hw iX9 0 3 rfl rfl (by decide) wf_X9_88 rfl dX9_becomes_49 ?_
        refine lv_iconst (v := 1) hx hb dX9_becomes_52 (by decide) ?_
        refine lv_isub hx hb dX9_becomes_53 ?_
        refine r_put (ci := 9) (w2 := [(q_, .inr (9, [.int u_people, .ref q_owes, .ref q_denies, .int (u_debts - 1), .ref q_debt, .int u_cuts, .ref q_cut, .int u_seen, .ref q_sight, .int u_events, .ref q_event, .int u_inBook, .ref q_book, .int u_texted, .ref q_text, .ref q_path, .int u_rule, .int u_rings, .int u_size, .int u_least, .long u_worth, .ref q_ring, .ref q_balance, .ref q_left, .ref q_sum, .ref q_parts, .int u_groups, .ref q_group, .int u_paid, .ref q_payment, .ref q_then, .int u_imaged, .ref q_image, .ref q_tapeSort, .ref q_tapeSize, .ref q_items])), (q_owes, .inl (C 0, 36, .inl (upd u_owes (x1 : Int32).toNatClampNeg x2))), (q_debt, .inl (C 0, 30, .inl u_debt))]) cx hw iX9 tyX9_ok nmX9 0 3 rfl rfl (by decide) wf_X9_88 rfl rfl rfl rfl (Nat.le_of_ble_eq_true rfl) dX9_becomes_54 rfl (fun H locs hw => ?_)
        refine lv_iload_n hx hb dX9_becomes_57 rfl (lv_at hl 0 rfl) ?_
        refine lv_istore (lv' := [(4, .int z1), (3, .int z1), (0, .ref q_), (1, .int x1), (2, .int x2)]) hx hb dX9_becomes_58 hl (by decide) rfl (fun ls hl => ?_)
        refine LX9_becomes_60 cx hret 400 z1 u_debt H locs ls hF hw (lv_sub hl [2, 0] rfl)
      · replace hF := oi_f c5 hF
        obtain rfl := Option.some.inj hF
        exact rt_v hret hw rfl dX9_becomes_46
  · replace hF := oi_f c3 hF
    refine lv_iload_n hx hb dX9_becomes_17 rfl (lv_at hl 0 rfl) ?_
    refine lv_if_ge (tgt := 38) hx hb dX9_becomes_18 (by decide) (fun c9 => ?_) (fun c9 => ?_)
    · replace hF := oi_t c9 hF
      refine lv_iload_n hx hb dX9_becomes_38 rfl (lv_at hl 3 rfl) ?_
      refine lv_if_gt (tgt := 46) hx hb dX9_becomes_39 (by decide) (fun c10 => ?_) (fun c10 => ?_)
      · replace hF := oi_t c10 hF
        obtain rfl := Option.some.inj hF
        exact rt_v hret hw rfl dX9_becomes_46
      · replace hF := oi_f c10 hF
        refine lv_iload_n hx hb dX9_becomes_42 rfl (lv_at hl 0 rfl) ?_
        refine lv_if_ge (tgt := 47) hx hb dX9_becomes_43 (by decide) (fun c11 => ?_) (fun c11 => ?_)
        · replace hF := oi_t c11 hF
          refine lv_aload_n hx hb dX9_becomes_47 rfl (lv_at hl 1 rfl) ?_
          refine lv_dup hx hb dX9_becomes_48 rfl ?_
          refine r_get (ci := 9) (v := .int u_debts) cx hw iX9 0 3 rfl rfl (by decide) wf_X9_88 rfl dX9_becomes_49 ?_
          refine lv_iconst (v := 1) hx hb dX9_becomes_52 (by decide) ?_
          refine lv_isub hx hb dX9_becomes_53 ?_
          refine r_put (ci := 9) (w2 := [(q_, .inr (9, [.int u_people, .ref q_owes, .ref q_denies, .int (u_debts - 1), .ref q_debt, .int u_cuts, .ref q_cut, .int u_seen, .ref q_sight, .int u_events, .ref q_event, .int u_inBook, .ref q_book, .int u_texted, .ref q_text, .ref q_path, .int u_rule, .int u_rings, .int u_size, .int u_least, .long u_worth, .ref q_ring, .ref q_balance, .ref q_left, .ref q_sum, .ref q_parts, .int u_groups, .ref q_group, .int u_paid, .ref q_payment, .ref q_then, .int u_imaged, .ref q_image, .ref q_tapeSort, .ref q_tapeSize, .ref q_items])), (q_owes, .inl (C 0, 36, .inl (upd u_owes (x1 : Int32).toNatClampNeg x2))), (q_debt, .inl (C 0, 30, .inl u_debt))]) cx hw iX9 tyX9_ok nmX9 0 3 rfl rfl (by decide) wf_X9_88 rfl rfl rfl rfl (Nat.le_of_ble_eq_true rfl) dX9_becomes_54 rfl (fun H locs hw => ?_)
          refine lv_iload_n hx hb dX9_becomes_57 rfl (lv_at hl 0 rfl) ?_
          refine lv_istore (lv' := [(4, .int z1), (3, .int z1), (0, .ref q_), (1, .int x1), (2, .int x2)]) hx hb dX9_becomes_58 hl (by decide) rfl (fun ls hl => ?_)
          refine LX9_becomes_60 cx hret 400 z1 u_debt H locs ls hF hw (lv_sub hl [2, 0] rfl)
        · replace hF := oi_f c11 hF
          obtain rfl := Option.some.inj hF
          exact rt_v hret hw rfl dX9_becomes_46
    · replace hF := oi_f c9 hF
      refine lv_aload_n hx hb dX9_becomes_21 rfl (lv_at hl 1 rfl) ?_
      refine r_get (ci := 9) (v := .ref q_debt) cx hw iX9 0 4 rfl rfl (by decide) wf_X9_18 rfl dX9_becomes_22 ?_
      refine lv_aload_n hx hb dX9_becomes_25 rfl (lv_at hl 1 rfl) ?_
      refine lv_dup hx hb dX9_becomes_26 rfl ?_
      refine r_get (ci := 9) (v := .int u_debts) cx hw iX9 0 3 rfl rfl (by decide) wf_X9_88 rfl dX9_becomes_27 ?_
      refine lv_dup_x1 hx hb dX9_becomes_30 rfl rfl ?_
      refine lv_iconst (v := 1) hx hb dX9_becomes_31 (by decide) ?_
      refine lv_iadd hx hb dX9_becomes_32 ?_
      refine r_put (ci := 9) (w2 := [(q_, .inr (9, [.int u_people, .ref q_owes, .ref q_denies, .int (u_debts + 1), .ref q_debt, .int u_cuts, .ref q_cut, .int u_seen, .ref q_sight, .int u_events, .ref q_event, .int u_inBook, .ref q_book, .int u_texted, .ref q_text, .ref q_path, .int u_rule, .int u_rings, .int u_size, .int u_least, .long u_worth, .ref q_ring, .ref q_balance, .ref q_left, .ref q_sum, .ref q_parts, .int u_groups, .ref q_group, .int u_paid, .ref q_payment, .ref q_then, .int u_imaged, .ref q_image, .ref q_tapeSort, .ref q_tapeSize, .ref q_items])), (q_owes, .inl (C 0, 36, .inl (upd u_owes (x1 : Int32).toNatClampNeg x2))), (q_debt, .inl (C 0, 30, .inl u_debt))]) cx hw iX9 tyX9_ok nmX9 0 3 rfl rfl (by decide) wf_X9_88 rfl rfl rfl rfl (Nat.le_of_ble_eq_true rfl) dX9_becomes_33 rfl (fun H locs hw => ?_)
      refine lv_iload_n hx hb dX9_becomes_36 rfl (lv_at hl 2 rfl) ?_
      obtain ⟨g12, hF⟩ := gA_s hF
      refine r_iast (w2 := [(q_, .inr (9, [.int u_people, .ref q_owes, .ref q_denies, .int (u_debts + 1), .ref q_debt, .int u_cuts, .ref q_cut, .int u_seen, .ref q_sight, .int u_events, .ref q_event, .int u_inBook, .ref q_book, .int u_texted, .ref q_text, .ref q_path, .int u_rule, .int u_rings, .int u_size, .int u_least, .long u_worth, .ref q_ring, .ref q_balance, .ref q_left, .ref q_sum, .ref q_parts, .int u_groups, .ref q_group, .int u_paid, .ref q_payment, .ref q_then, .int u_imaged, .ref q_image, .ref q_tapeSort, .ref q_tapeSize, .ref q_items])), (q_owes, .inl (C 0, 36, .inl (upd u_owes (x1 : Int32).toNatClampNeg x2))), (q_debt, .inl (C 0, 30, .inl (upd u_debt (u_debts : Int32).toNatClampNeg x1)))]) cx hw 2 rfl g12 dX9_becomes_37 rfl (fun H locs hw => ?_)
      refine lv_iload_n hx hb dX9_becomes_38 rfl (lv_at hl 3 rfl) ?_
      refine lv_if_gt (tgt := 46) hx hb dX9_becomes_39 (by decide) (fun c13 => ?_) (fun c13 => ?_)
      · replace hF := oi_t c13 hF
        obtain rfl := Option.some.inj hF
        exact rt_v hret hw rfl dX9_becomes_46
      · replace hF := oi_f c13 hF
        refine lv_iload_n hx hb dX9_becomes_42 rfl (lv_at hl 0 rfl) ?_
        refine lv_if_ge (tgt := 47) hx hb dX9_becomes_43 (by decide) (fun c14 => ?_) (fun c14 => ?_)
        · replace hF := oi_t c14 hF
          refine lv_aload_n hx hb dX9_becomes_47 rfl (lv_at hl 1 rfl) ?_
          refine lv_dup hx hb dX9_becomes_48 rfl ?_
          refine r_get (ci := 9) (v := .int (u_debts + 1)) cx hw iX9 0 3 rfl rfl (by decide) wf_X9_88 rfl dX9_becomes_49 ?_
          refine lv_iconst (v := 1) hx hb dX9_becomes_52 (by decide) ?_
          refine lv_isub hx hb dX9_becomes_53 ?_
          refine r_put (ci := 9) (w2 := [(q_, .inr (9, [.int u_people, .ref q_owes, .ref q_denies, .int ((u_debts + 1) - 1), .ref q_debt, .int u_cuts, .ref q_cut, .int u_seen, .ref q_sight, .int u_events, .ref q_event, .int u_inBook, .ref q_book, .int u_texted, .ref q_text, .ref q_path, .int u_rule, .int u_rings, .int u_size, .int u_least, .long u_worth, .ref q_ring, .ref q_balance, .ref q_left, .ref q_sum, .ref q_parts, .int u_groups, .ref q_group, .int u_paid, .ref q_payment, .ref q_then, .int u_imaged, .ref q_image, .ref q_tapeSort, .ref q_tapeSize, .ref q_items])), (q_owes, .inl (C 0, 36, .inl (upd u_owes (x1 : Int32).toNatClampNeg x2))), (q_debt, .inl (C 0, 30, .inl (upd u_debt (u_debts : Int32).toNatClampNeg x1)))]) cx hw iX9 tyX9_ok nmX9 0 3 rfl rfl (by decide) wf_X9_88 rfl rfl rfl rfl (Nat.le_of_ble_eq_true rfl) dX9_becomes_54 rfl (fun H locs hw => ?_)
          refine lv_iload_n hx hb dX9_becomes_57 rfl (lv_at hl 0 rfl) ?_
          refine lv_istore (lv' := [(4, .int z1), (3, .int z1), (0, .ref q_), (1, .int x1), (2, .int x2)]) hx hb dX9_becomes_58 hl (by decide) rfl (fun ls hl => ?_)
          refine LX9_becomes_60 cx hret 400 z1 (upd u_debt (u_debts : Int32).toNatClampNeg x1) H locs ls hF hw (lv_sub hl [2, 0] rfl)
        · replace hF := oi_f c14 hF
          obtain rfl := Option.some.inj hF
          exact rt_v hret hw rfl dX9_becomes_46
theorem lk_X9_95 : Cond.methodLink RX9 95 yX9_areTwo ∈ gdt := gdt_of 957 (by decide +kernel) (by decide +kernel)
theorem lk_X9_99 : Cond.methodLink RX9 99 yX9_becomes ∈ gdt := gdt_of 968 (by decide +kernel) (by decide +kernel)
theorem my_X9_areTwo : (yX9_areTwo.cls ≠ "java/lang/invoke/MethodHandle" ∧ yX9_areTwo.cls ≠ "java/lang/invoke/VarHandle") ∧ Cond.instanceMethod yX9_areTwo ∈ gdt ∧ Cond.selects yX9_areTwo.cls yX9_areTwo yX9_areTwo ∈ gdt ∧ Cond.initialized yX9_areTwo.cls ∈ gdt ∧ Cond.code yX9_areTwo cX9_areTwo 3 (some .boolean) ∈ gdt := ⟨⟨by decide +kernel, by decide +kernel⟩, gdt_of 959 (by decide +kernel) (by decide +kernel), gdt_of 32 (by decide +kernel) (by decide +kernel), gdt_of 77 (by decide +kernel) (by decide +kernel), gdt_of 960 (by decide +kernel) (by decide +kernel)⟩
theorem ml_X9_areTwo : (parseMethodDescriptor yX9_areTwo.desc).map (fun d => d.parameters.length) = some 2 := by decide +kernel
theorem my_X9_becomes : (yX9_becomes.cls ≠ "java/lang/invoke/MethodHandle" ∧ yX9_becomes.cls ≠ "java/lang/invoke/VarHandle") ∧ Cond.instanceMethod yX9_becomes ∈ gdt ∧ Cond.selects yX9_becomes.cls yX9_becomes yX9_becomes ∈ gdt ∧ Cond.initialized yX9_becomes.cls ∈ gdt ∧ Cond.code yX9_becomes cX9_becomes 5 none ∈ gdt := ⟨⟨by decide +kernel, by decide +kernel⟩, gdt_of 970 (by decide +kernel) (by decide +kernel), gdt_of 34 (by decide +kernel) (by decide +kernel), gdt_of 77 (by decide +kernel) (by decide +kernel), gdt_of 971 (by decide +kernel) (by decide +kernel)⟩
theorem ml_X9_becomes : (parseMethodDescriptor yX9_becomes.desc).map (fun d => d.parameters.length) = some 2 := by decide +kernel
theorem dX9_owe_0 : decode cX9_owe 0 = .ok (.aload_n 0, 1) := by decide +kernel
theorem dX9_owe_1 : decode cX9_owe 1 = .ok (.iload_n 1, 1) := by decide +kernel
theorem dX9_owe_2 : decode cX9_owe 2 = .ok (.iload_n 2, 1) := by decide +kernel
theorem dX9_owe_3 : decode cX9_owe 3 = .ok (.invokevirtual 95, 3) := by decide +kernel
theorem dX9_owe_6 : decode cX9_owe 6 = .ok (.ifCond .ne 5, 3) := by decide +kernel
theorem dX9_owe_9 : decode cX9_owe 9 = .ok (.iconst (-1), 1) := by decide +kernel
theorem dX9_owe_10 : decode cX9_owe 10 = .ok (.ireturn, 1) := by decide +kernel
theorem dX9_owe_11 : decode cX9_owe 11 = .ok (.iload_n 3, 1) := by decide +kernel
theorem dX9_owe_12 : decode cX9_owe 12 = .ok (.iconst 1, 1) := by decide +kernel
theorem dX9_owe_13 : decode cX9_owe 13 = .ok (.bipush 99, 2) := by decide +kernel
theorem dX9_owe_15 : decode cX9_owe 15 = .ok (.invokestatic 80, 3) := by decide +kernel
theorem dX9_owe_18 : decode cX9_owe 18 = .ok (.ifCond .ne 6, 3) := by decide +kernel
theorem dX9_owe_21 : decode cX9_owe 21 = .ok (.bipush (-2), 2) := by decide +kernel
theorem dX9_owe_23 : decode cX9_owe 23 = .ok (.ireturn, 1) := by decide +kernel
theorem dX9_owe_24 : decode cX9_owe 24 = .ok (.bipush 6, 2) := by decide +kernel
theorem dX9_owe_26 : decode cX9_owe 26 = .ok (.iload_n 1, 1) := by decide +kernel
theorem dX9_owe_27 : decode cX9_owe 27 = .ok (.imul, 1) := by decide +kernel
theorem dX9_owe_28 : decode cX9_owe 28 = .ok (.iload_n 2, 1) := by decide +kernel
theorem dX9_owe_29 : decode cX9_owe 29 = .ok (.iadd, 1) := by decide +kernel
theorem dX9_owe_30 : decode cX9_owe 30 = .ok (.istore 4, 2) := by decide +kernel
theorem dX9_owe_32 : decode cX9_owe 32 = .ok (.aload_n 0, 1) := by decide +kernel
theorem dX9_owe_33 : decode cX9_owe 33 = .ok (.getfield 9, 3) := by decide +kernel
theorem dX9_owe_36 : decode cX9_owe 36 = .ok (.iload 4, 2) := by decide +kernel
theorem dX9_owe_38 : decode cX9_owe 38 = .ok (.iaload, 1) := by decide +kernel
theorem dX9_owe_39 : decode cX9_owe 39 = .ok (.iload_n 3, 1) := by decide +kernel
theorem dX9_owe_40 : decode cX9_owe 40 = .ok (.iadd, 1) := by decide +kernel
theorem dX9_owe_41 : decode cX9_owe 41 = .ok (.sipush 999, 3) := by decide +kernel
theorem dX9_owe_44 : decode cX9_owe 44 = .ok (.if_icmp .le 6, 3) := by decide +kernel
theorem dX9_owe_47 : decode cX9_owe 47 = .ok (.bipush (-4), 2) := by decide +kernel
theorem dX9_owe_49 : decode cX9_owe 49 = .ok (.ireturn, 1) := by decide +kernel
theorem dX9_owe_50 : decode cX9_owe 50 = .ok (.aload_n 0, 1) := by decide +kernel
theorem dX9_owe_51 : decode cX9_owe 51 = .ok (.iload 4, 2) := by decide +kernel
theorem dX9_owe_53 : decode cX9_owe 53 = .ok (.aload_n 0, 1) := by decide +kernel
theorem dX9_owe_54 : decode cX9_owe 54 = .ok (.getfield 9, 3) := by decide +kernel
theorem dX9_owe_57 : decode cX9_owe 57 = .ok (.iload 4, 2) := by decide +kernel
theorem dX9_owe_59 : decode cX9_owe 59 = .ok (.iaload, 1) := by decide +kernel
theorem dX9_owe_60 : decode cX9_owe 60 = .ok (.iload_n 3, 1) := by decide +kernel
theorem dX9_owe_61 : decode cX9_owe 61 = .ok (.iadd, 1) := by decide +kernel
theorem dX9_owe_62 : decode cX9_owe 62 = .ok (.invokevirtual 99, 3) := by decide +kernel
theorem dX9_owe_65 : decode cX9_owe 65 = .ok (.aload_n 0, 1) := by decide +kernel
theorem dX9_owe_66 : decode cX9_owe 66 = .ok (.getfield 9, 3) := by decide +kernel
theorem dX9_owe_69 : decode cX9_owe 69 = .ok (.iload 4, 2) := by decide +kernel
theorem dX9_owe_71 : decode cX9_owe 71 = .ok (.iaload, 1) := by decide +kernel
theorem dX9_owe_72 : decode cX9_owe 72 = .ok (.ireturn, 1) := by decide +kernel
def fX9_owe (u_people : Int32) (u_debts : Int32) (u_owes : (Nat → Int32)) (u_debt : (Nat → Int32)) (x1 : Int32) (x2 : Int32) (x3 : Int32) : Option (Int32 × Int32 × (Nat → Int32) × (Nat → Int32)) := (fX9_areTwo u_people x1 x2).bind (fun z1 => if z1 = 0 then (some ((-1), u_debts, u_owes, u_debt)) else ((fX9_within x3 1 99).bind (fun z3 => if z3 = 0 then (some ((-2), u_debts, u_owes, u_debt)) else (gA ((6 * x1) + x2) 36 (if ((u_owes ((6 * x1) + x2).toNatClampNeg) + x3) ≤ 999 then (gA ((6 * x1) + x2) 36 ((fX9_becomes u_debts u_owes u_debt ((6 * x1) + x2) ((u_owes ((6 * x1) + x2).toNatClampNeg) + x3)).bind (fun z8 => gA ((6 * x1) + x2) 36 (some (z8.2.1 ((6 * x1) + x2).toNatClampNeg, z8.1, z8.2.1, z8.2.2))))) else (some ((-4), u_debts, u_owes, u_debt)))))))
set_option maxRecDepth 20000 in
theorem CX9_owe (l : Launch) (D : va_G) (C : Nat → ClassId) (q_ q_owes q_denies q_debt q_cut q_sight q_event q_book q_text q_path q_ring q_balance q_left q_sum q_parts q_group q_payment q_then q_image q_tapeSort q_tapeSize q_items : Nat) (u_people : Int32) (u_debts : Int32) (u_cuts : Int32) (u_seen : Int32) (u_events : Int32) (u_inBook : Int32) (u_texted : Int32) (u_rule : Int32) (u_rings : Int32) (u_size : Int32) (u_least : Int32) (u_worth : Int64) (u_groups : Int32) (u_paid : Int32) (u_imaged : Int32) (u_owes : (Nat → Int32)) (u_debt : (Nat → Int32)) (x1 : Int32) (x2 : Int32) (x3 : Int32) (z : (Int32 × Int32 × (Nat → Int32) × (Nat → Int32))) (hF : fX9_owe u_people u_debts u_owes u_debt x1 x2 x3 = some z) : Ct l yX9_owe cX9_owe 5 (some .int) 4 D C [.ref q_, .int x1, .int x2, .int x3] [(q_, .inr (9, [.int u_people, .ref q_owes, .ref q_denies, .int u_debts, .ref q_debt, .int u_cuts, .ref q_cut, .int u_seen, .ref q_sight, .int u_events, .ref q_event, .int u_inBook, .ref q_book, .int u_texted, .ref q_text, .ref q_path, .int u_rule, .int u_rings, .int u_size, .int u_least, .long u_worth, .ref q_ring, .ref q_balance, .ref q_left, .ref q_sum, .ref q_parts, .int u_groups, .ref q_group, .int u_paid, .ref q_payment, .ref q_then, .int u_imaged, .ref q_image, .ref q_tapeSort, .ref q_tapeSize, .ref q_items])), (q_owes, .inl (C 0, 36, .inl u_owes)), (q_debt, .inl (C 0, 30, .inl u_debt))] [(q_, .inr (9, [.int u_people, .ref q_owes, .ref q_denies, .int z.2.1, .ref q_debt, .int u_cuts, .ref q_cut, .int u_seen, .ref q_sight, .int u_events, .ref q_event, .int u_inBook, .ref q_book, .int u_texted, .ref q_text, .ref q_path, .int u_rule, .int u_rings, .int u_size, .int u_least, .long u_worth, .ref q_ring, .ref q_balance, .ref q_left, .ref q_sum, .ref q_parts, .int u_groups, .ref q_group, .int u_paid, .ref q_payment, .ref q_then, .int u_imaged, .ref q_image, .ref q_tapeSort, .ref q_tapeSize, .ref q_items])), (q_owes, .inl (C 0, 36, .inl z.2.2.1)), (q_debt, .inl (C 0, 30, .inl z.2.2.2))] (some (.int z.1)) := by
  refine Ct_of (by decide) (Nat.le_of_ble_eq_true rfl) ?_
  intro p e R s m args below meth c A Q H locs ls cx hw hl hret
  have cx : CX p m c s args RX9 cX9_owe 5 D C A R 4 := cx
  have hx := cx.1
  have hb := cx.2.1
  have hl : lv_has ls 5 [(0, .ref q_), (1, .int x1), (2, .int x2), (3, .int x3)] := hl
  rw [fX9_owe.eq_1] at hF
  refine lv_aload_n hx hb dX9_owe_0 rfl (lv_at hl 0 rfl) ?_
  refine lv_iload_n hx hb dX9_owe_1 rfl (lv_at hl 1 rfl) ?_
  refine lv_iload_n hx hb dX9_owe_2 rfl (lv_at hl 2 rfl) ?_
  obtain ⟨z1, hz1, hF⟩ := ob hF
  refine cV (wr := [(q_owes, .inl (C 0, 36, .inl u_owes)), (q_debt, .inl (C 0, 30, .inl u_debt))]) (w2 := [(q_, .inr (9, [.int u_people, .ref q_owes, .ref q_denies, .int u_debts, .ref q_debt, .int u_cuts, .ref q_cut, .int u_seen, .ref q_sight, .int u_events, .ref q_event, .int u_inBook, .ref q_book, .int u_texted, .ref q_text, .ref q_path, .int u_rule, .int u_rings, .int u_size, .int u_least, .long u_worth, .ref q_ring, .ref q_balance, .ref q_left, .ref q_sum, .ref q_parts, .int u_groups, .ref q_group, .int u_paid, .ref q_payment, .ref q_then, .int u_imaged, .ref q_image, .ref q_tapeSort, .ref q_tapeSize, .ref q_items])), (q_owes, .inl (C 0, 36, .inl u_owes)), (q_debt, .inl (C 0, 30, .inl u_debt))]) (st2 := [.int z1]) cx (CX9_areTwo l D C q_ q_owes q_denies q_debt q_cut q_sight q_event q_book q_text q_path q_ring q_balance q_left q_sum q_parts q_group q_payment q_then q_image q_tapeSort q_tapeSize q_items u_people u_debts u_cuts u_seen u_events u_inBook u_texted u_rule u_rings u_size u_least u_worth u_groups u_paid u_imaged x1 x2 z1 hz1) lk_X9_95 my_X9_areTwo ml_X9_areTwo ⟨by decide, by decide⟩ hw [0] [1, 2] [2, 0, 1] rfl rfl (by decide) rfl rfl rfl rfl (Nat.le_of_ble_eq_true rfl) dX9_owe_3 rfl (fun H locs hw => ?_) hl.1
  refine lv_if_ne (tgt := 11) hx hb dX9_owe_6 (by decide) (fun c2 => ?_) (fun c2 => ?_)
  · replace hF := oi_f c2 hF
    refine lv_iload_n hx hb dX9_owe_11 rfl (lv_at hl 3 rfl) ?_
    refine lv_iconst (v := 1) hx hb dX9_owe_12 (by decide) ?_
    refine lv_bipush (v := 99) hx hb dX9_owe_13 (by decide) ?_
    obtain ⟨z3, hz3, hF⟩ := ob hF
    refine cS (wr := [(q_, .inr (9, [.int u_people, .ref q_owes, .ref q_denies, .int u_debts, .ref q_debt, .int u_cuts, .ref q_cut, .int u_seen, .ref q_sight, .int u_events, .ref q_event, .int u_inBook, .ref q_book, .int u_texted, .ref q_text, .ref q_path, .int u_rule, .int u_rings, .int u_size, .int u_least, .long u_worth, .ref q_ring, .ref q_balance, .ref q_left, .ref q_sum, .ref q_parts, .int u_groups, .ref q_group, .int u_paid, .ref q_payment, .ref q_then, .int u_imaged, .ref q_image, .ref q_tapeSort, .ref q_tapeSize, .ref q_items])), (q_owes, .inl (C 0, 36, .inl u_owes)), (q_debt, .inl (C 0, 30, .inl u_debt))]) (w2 := [(q_, .inr (9, [.int u_people, .ref q_owes, .ref q_denies, .int u_debts, .ref q_debt, .int u_cuts, .ref q_cut, .int u_seen, .ref q_sight, .int u_events, .ref q_event, .int u_inBook, .ref q_book, .int u_texted, .ref q_text, .ref q_path, .int u_rule, .int u_rings, .int u_size, .int u_least, .long u_worth, .ref q_ring, .ref q_balance, .ref q_left, .ref q_sum, .ref q_parts, .int u_groups, .ref q_group, .int u_paid, .ref q_payment, .ref q_then, .int u_imaged, .ref q_image, .ref q_tapeSort, .ref q_tapeSize, .ref q_items])), (q_owes, .inl (C 0, 36, .inl u_owes)), (q_debt, .inl (C 0, 30, .inl u_debt))]) (st2 := [.int z3]) cx (CX9_within l D C x3 1 99 z3 hz3) lk_X9_80 my_X9_within ml_X9_within ⟨by decide, by decide⟩ hw [] [0, 1, 2] [0, 1, 2] rfl rfl (by decide) rfl rfl (Nat.le_of_ble_eq_true rfl) dX9_owe_15 rfl (fun H locs hw => ?_) hl.1
    refine lv_if_ne (tgt := 24) hx hb dX9_owe_18 (by decide) (fun c4 => ?_) (fun c4 => ?_)
    · replace hF := oi_f c4 hF
      refine lv_bipush (v := 6) hx hb dX9_owe_24 (by decide) ?_
      refine lv_iload_n hx hb dX9_owe_26 rfl (lv_at hl 1 rfl) ?_
      refine lv_imul hx hb dX9_owe_27 ?_
      refine lv_iload_n hx hb dX9_owe_28 rfl (lv_at hl 2 rfl) ?_
      refine lv_iadd hx hb dX9_owe_29 ?_
      refine lv_istore (lv' := [(4, .int ((6 * x1) + x2)), (0, .ref q_), (1, .int x1), (2, .int x2), (3, .int x3)]) hx hb dX9_owe_30 hl (by decide) rfl (fun ls hl => ?_)
      refine lv_aload_n hx hb dX9_owe_32 rfl (lv_at hl 1 rfl) ?_
      refine r_get (ci := 9) (v := .ref q_owes) cx hw iX9 0 1 rfl rfl (by decide) wf_X9_9 rfl dX9_owe_33 ?_
      refine lv_iload hx hb dX9_owe_36 (lv_at hl 0 rfl) ?_
      obtain ⟨g5, hF⟩ := gA_s hF
      refine r_iald cx hw 1 rfl g5 dX9_owe_38 ?_
      refine lv_iload_n hx hb dX9_owe_39 rfl (lv_at hl 4 rfl) ?_
      refine lv_iadd hx hb dX9_owe_40 ?_
      refine lv_sipush (v := 999) hx hb dX9_owe_41 (by decide) ?_
      refine lv_icmp_le (tgt := 50) hx hb dX9_owe_44 (by decide) (fun c6 => ?_) (fun c6 => ?_)
      · replace hF := oi_t c6 hF
        refine lv_aload_n hx hb dX9_owe_50 rfl (lv_at hl 1 rfl) ?_
        refine lv_iload hx hb dX9_owe_51 (lv_at hl 0 rfl) ?_
        refine lv_aload_n hx hb dX9_owe_53 rfl (lv_at hl 1 rfl) ?_
        refine r_get (ci := 9) (v := .ref q_owes) cx hw iX9 0 1 rfl rfl (by decide) wf_X9_9 rfl dX9_owe_54 ?_
        refine lv_iload hx hb dX9_owe_57 (lv_at hl 0 rfl) ?_
        obtain ⟨g7, hF⟩ := gA_s hF
        refine r_iald cx hw 1 rfl g7 dX9_owe_59 ?_
        refine lv_iload_n hx hb dX9_owe_60 rfl (lv_at hl 4 rfl) ?_
        refine lv_iadd hx hb dX9_owe_61 ?_
        obtain ⟨z8, hz8, hF⟩ := ob hF
        refine cV (wr := []) (w2 := [(q_, .inr (9, [.int u_people, .ref q_owes, .ref q_denies, .int z8.1, .ref q_debt, .int u_cuts, .ref q_cut, .int u_seen, .ref q_sight, .int u_events, .ref q_event, .int u_inBook, .ref q_book, .int u_texted, .ref q_text, .ref q_path, .int u_rule, .int u_rings, .int u_size, .int u_least, .long u_worth, .ref q_ring, .ref q_balance, .ref q_left, .ref q_sum, .ref q_parts, .int u_groups, .ref q_group, .int u_paid, .ref q_payment, .ref q_then, .int u_imaged, .ref q_image, .ref q_tapeSort, .ref q_tapeSize, .ref q_items])), (q_owes, .inl (C 0, 36, .inl z8.2.1)), (q_debt, .inl (C 0, 30, .inl z8.2.2))]) (st2 := []) cx (CX9_becomes l D C q_ q_owes q_denies q_debt q_cut q_sight q_event q_book q_text q_path q_ring q_balance q_left q_sum q_parts q_group q_payment q_then q_image q_tapeSort q_tapeSize q_items u_people u_debts u_cuts u_seen u_events u_inBook u_texted u_rule u_rings u_size u_least u_worth u_groups u_paid u_imaged u_owes u_debt ((6 * x1) + x2) ((u_owes ((6 * x1) + x2).toNatClampNeg) + x3) z8 hz8) lk_X9_99 my_X9_becomes ml_X9_becomes ⟨by decide, by decide⟩ hw [0, 1, 2] [] [0, 1, 2] rfl rfl (by decide) rfl rfl rfl rfl (Nat.le_of_ble_eq_true rfl) dX9_owe_62 rfl (fun H locs hw => ?_) hl.1
        refine lv_aload_n hx hb dX9_owe_65 rfl (lv_at hl 1 rfl) ?_
        refine r_get (ci := 9) (v := .ref q_owes) cx hw iX9 0 1 rfl rfl (by decide) wf_X9_9 rfl dX9_owe_66 ?_
        refine lv_iload hx hb dX9_owe_69 (lv_at hl 0 rfl) ?_
        obtain ⟨g9, hF⟩ := gA_s hF
        refine r_iald cx hw 1 rfl g9 dX9_owe_71 ?_
        obtain rfl := Option.some.inj hF
        exact rt_i hret hw rfl dX9_owe_72
      · replace hF := oi_f c6 hF
        refine lv_bipush (v := (-4)) hx hb dX9_owe_47 (by decide) ?_
        obtain rfl := Option.some.inj hF
        exact rt_i hret hw rfl dX9_owe_49
    · replace hF := oi_t c4 hF
      refine lv_bipush (v := (-2)) hx hb dX9_owe_21 (by decide) ?_
      obtain rfl := Option.some.inj hF
      exact rt_i hret hw rfl dX9_owe_23
  · replace hF := oi_t c2 hF
    refine lv_iconst (v := (-1)) hx hb dX9_owe_9 (by decide) ?_
    obtain rfl := Option.some.inj hF
    exact rt_i hret hw rfl dX9_owe_10
theorem dX9_pay_0 : decode cX9_pay 0 = .ok (.aload_n 0, 1) := by decide +kernel
theorem dX9_pay_1 : decode cX9_pay 1 = .ok (.iload_n 1, 1) := by decide +kernel
theorem dX9_pay_2 : decode cX9_pay 2 = .ok (.iload_n 2, 1) := by decide +kernel
theorem dX9_pay_3 : decode cX9_pay 3 = .ok (.invokevirtual 95, 3) := by decide +kernel
theorem dX9_pay_6 : decode cX9_pay 6 = .ok (.ifCond .ne 5, 3) := by decide +kernel
theorem dX9_pay_9 : decode cX9_pay 9 = .ok (.iconst (-1), 1) := by decide +kernel
theorem dX9_pay_10 : decode cX9_pay 10 = .ok (.ireturn, 1) := by decide +kernel
theorem dX9_pay_11 : decode cX9_pay 11 = .ok (.iload_n 3, 1) := by decide +kernel
theorem dX9_pay_12 : decode cX9_pay 12 = .ok (.iconst 1, 1) := by decide +kernel
theorem dX9_pay_13 : decode cX9_pay 13 = .ok (.bipush 99, 2) := by decide +kernel
theorem dX9_pay_15 : decode cX9_pay 15 = .ok (.invokestatic 80, 3) := by decide +kernel
theorem dX9_pay_18 : decode cX9_pay 18 = .ok (.ifCond .ne 6, 3) := by decide +kernel
theorem dX9_pay_21 : decode cX9_pay 21 = .ok (.bipush (-2), 2) := by decide +kernel
theorem dX9_pay_23 : decode cX9_pay 23 = .ok (.ireturn, 1) := by decide +kernel
theorem dX9_pay_24 : decode cX9_pay 24 = .ok (.bipush 6, 2) := by decide +kernel
theorem dX9_pay_26 : decode cX9_pay 26 = .ok (.iload_n 1, 1) := by decide +kernel
theorem dX9_pay_27 : decode cX9_pay 27 = .ok (.imul, 1) := by decide +kernel
theorem dX9_pay_28 : decode cX9_pay 28 = .ok (.iload_n 2, 1) := by decide +kernel
theorem dX9_pay_29 : decode cX9_pay 29 = .ok (.iadd, 1) := by decide +kernel
theorem dX9_pay_30 : decode cX9_pay 30 = .ok (.istore 4, 2) := by decide +kernel
theorem dX9_pay_32 : decode cX9_pay 32 = .ok (.aload_n 0, 1) := by decide +kernel
theorem dX9_pay_33 : decode cX9_pay 33 = .ok (.getfield 9, 3) := by decide +kernel
theorem dX9_pay_36 : decode cX9_pay 36 = .ok (.iload 4, 2) := by decide +kernel
theorem dX9_pay_38 : decode cX9_pay 38 = .ok (.iaload, 1) := by decide +kernel
theorem dX9_pay_39 : decode cX9_pay 39 = .ok (.iload_n 3, 1) := by decide +kernel
theorem dX9_pay_40 : decode cX9_pay 40 = .ok (.if_icmp .ge 6, 3) := by decide +kernel
theorem dX9_pay_43 : decode cX9_pay 43 = .ok (.bipush (-3), 2) := by decide +kernel
theorem dX9_pay_45 : decode cX9_pay 45 = .ok (.ireturn, 1) := by decide +kernel
theorem dX9_pay_46 : decode cX9_pay 46 = .ok (.aload_n 0, 1) := by decide +kernel
theorem dX9_pay_47 : decode cX9_pay 47 = .ok (.iload 4, 2) := by decide +kernel
theorem dX9_pay_49 : decode cX9_pay 49 = .ok (.aload_n 0, 1) := by decide +kernel
theorem dX9_pay_50 : decode cX9_pay 50 = .ok (.getfield 9, 3) := by decide +kernel
theorem dX9_pay_53 : decode cX9_pay 53 = .ok (.iload 4, 2) := by decide +kernel
theorem dX9_pay_55 : decode cX9_pay 55 = .ok (.iaload, 1) := by decide +kernel
theorem dX9_pay_56 : decode cX9_pay 56 = .ok (.iload_n 3, 1) := by decide +kernel
theorem dX9_pay_57 : decode cX9_pay 57 = .ok (.isub, 1) := by decide +kernel
theorem dX9_pay_58 : decode cX9_pay 58 = .ok (.invokevirtual 99, 3) := by decide +kernel
theorem dX9_pay_61 : decode cX9_pay 61 = .ok (.aload_n 0, 1) := by decide +kernel
theorem dX9_pay_62 : decode cX9_pay 62 = .ok (.getfield 9, 3) := by decide +kernel
theorem dX9_pay_65 : decode cX9_pay 65 = .ok (.iload 4, 2) := by decide +kernel
theorem dX9_pay_67 : decode cX9_pay 67 = .ok (.iaload, 1) := by decide +kernel
theorem dX9_pay_68 : decode cX9_pay 68 = .ok (.ireturn, 1) := by decide +kernel
def fX9_pay (u_people : Int32) (u_debts : Int32) (u_owes : (Nat → Int32)) (u_debt : (Nat → Int32)) (x1 : Int32) (x2 : Int32) (x3 : Int32) : Option (Int32 × Int32 × (Nat → Int32) × (Nat → Int32)) := (fX9_areTwo u_people x1 x2).bind (fun z1 => if z1 = 0 then (some ((-1), u_debts, u_owes, u_debt)) else ((fX9_within x3 1 99).bind (fun z3 => if z3 = 0 then (some ((-2), u_debts, u_owes, u_debt)) else (gA ((6 * x1) + x2) 36 (if x3 ≤ (u_owes ((6 * x1) + x2).toNatClampNeg) then (gA ((6 * x1) + x2) 36 ((fX9_becomes u_debts u_owes u_debt ((6 * x1) + x2) ((u_owes ((6 * x1) + x2).toNatClampNeg) - x3)).bind (fun z8 => gA ((6 * x1) + x2) 36 (some (z8.2.1 ((6 * x1) + x2).toNatClampNeg, z8.1, z8.2.1, z8.2.2))))) else (some ((-3), u_debts, u_owes, u_debt)))))))
set_option maxRecDepth 20000 in
theorem CX9_pay (l : Launch) (D : va_G) (C : Nat → ClassId) (q_ q_owes q_denies q_debt q_cut q_sight q_event q_book q_text q_path q_ring q_balance q_left q_sum q_parts q_group q_payment q_then q_image q_tapeSort q_tapeSize q_items : Nat) (u_people : Int32) (u_debts : Int32) (u_cuts : Int32) (u_seen : Int32) (u_events : Int32) (u_inBook : Int32) (u_texted : Int32) (u_rule : Int32) (u_rings : Int32) (u_size : Int32) (u_least : Int32) (u_worth : Int64) (u_groups : Int32) (u_paid : Int32) (u_imaged : Int32) (u_owes : (Nat → Int32)) (u_debt : (Nat → Int32)) (x1 : Int32) (x2 : Int32) (x3 : Int32) (z : (Int32 × Int32 × (Nat → Int32) × (Nat → Int32))) (hF : fX9_pay u_people u_debts u_owes u_debt x1 x2 x3 = some z) : Ct l yX9_pay cX9_pay 5 (some .int) 4 D C [.ref q_, .int x1, .int x2, .int x3] [(q_, .inr (9, [.int u_people, .ref q_owes, .ref q_denies, .int u_debts, .ref q_debt, .int u_cuts, .ref q_cut, .int u_seen, .ref q_sight, .int u_events, .ref q_event, .int u_inBook, .ref q_book, .int u_texted, .ref q_text, .ref q_path, .int u_rule, .int u_rings, .int u_size, .int u_least, .long u_worth, .ref q_ring, .ref q_balance, .ref q_left, .ref q_sum, .ref q_parts, .int u_groups, .ref q_group, .int u_paid, .ref q_payment, .ref q_then, .int u_imaged, .ref q_image, .ref q_tapeSort, .ref q_tapeSize, .ref q_items])), (q_owes, .inl (C 0, 36, .inl u_owes)), (q_debt, .inl (C 0, 30, .inl u_debt))] [(q_, .inr (9, [.int u_people, .ref q_owes, .ref q_denies, .int z.2.1, .ref q_debt, .int u_cuts, .ref q_cut, .int u_seen, .ref q_sight, .int u_events, .ref q_event, .int u_inBook, .ref q_book, .int u_texted, .ref q_text, .ref q_path, .int u_rule, .int u_rings, .int u_size, .int u_least, .long u_worth, .ref q_ring, .ref q_balance, .ref q_left, .ref q_sum, .ref q_parts, .int u_groups, .ref q_group, .int u_paid, .ref q_payment, .ref q_then, .int u_imaged, .ref q_image, .ref q_tapeSort, .ref q_tapeSize, .ref q_items])), (q_owes, .inl (C 0, 36, .inl z.2.2.1)), (q_debt, .inl (C 0, 30, .inl z.2.2.2))] (some (.int z.1)) := by
  refine Ct_of (by decide) (Nat.le_of_ble_eq_true rfl) ?_
  intro p e R s m args below meth c A Q H locs ls cx hw hl hret
  have cx : CX p m c s args RX9 cX9_pay 5 D C A R 4 := cx
  have hx := cx.1
  have hb := cx.2.1
  have hl : lv_has ls 5 [(0, .ref q_), (1, .int x1), (2, .int x2), (3, .int x3)] := hl
  rw [fX9_pay.eq_1] at hF
  refine lv_aload_n hx hb dX9_pay_0 rfl (lv_at hl 0 rfl) ?_
  refine lv_iload_n hx hb dX9_pay_1 rfl (lv_at hl 1 rfl) ?_
  refine lv_iload_n hx hb dX9_pay_2 rfl (lv_at hl 2 rfl) ?_
  obtain ⟨z1, hz1, hF⟩ := ob hF
  refine cV (wr := [(q_owes, .inl (C 0, 36, .inl u_owes)), (q_debt, .inl (C 0, 30, .inl u_debt))]) (w2 := [(q_, .inr (9, [.int u_people, .ref q_owes, .ref q_denies, .int u_debts, .ref q_debt, .int u_cuts, .ref q_cut, .int u_seen, .ref q_sight, .int u_events, .ref q_event, .int u_inBook, .ref q_book, .int u_texted, .ref q_text, .ref q_path, .int u_rule, .int u_rings, .int u_size, .int u_least, .long u_worth, .ref q_ring, .ref q_balance, .ref q_left, .ref q_sum, .ref q_parts, .int u_groups, .ref q_group, .int u_paid, .ref q_payment, .ref q_then, .int u_imaged, .ref q_image, .ref q_tapeSort, .ref q_tapeSize, .ref q_items])), (q_owes, .inl (C 0, 36, .inl u_owes)), (q_debt, .inl (C 0, 30, .inl u_debt))]) (st2 := [.int z1]) cx (CX9_areTwo l D C q_ q_owes q_denies q_debt q_cut q_sight q_event q_book q_text q_path q_ring q_balance q_left q_sum q_parts q_group q_payment q_then q_image q_tapeSort q_tapeSize q_items u_people u_debts u_cuts u_seen u_events u_inBook u_texted u_rule u_rings u_size u_least u_worth u_groups u_paid u_imaged x1 x2 z1 hz1) lk_X9_95 my_X9_areTwo ml_X9_areTwo ⟨by decide, by decide⟩ hw [0] [1, 2] [2, 0, 1] rfl rfl (by decide) rfl rfl rfl rfl (Nat.le_of_ble_eq_true rfl) dX9_pay_3 rfl (fun H locs hw => ?_) hl.1
  refine lv_if_ne (tgt := 11) hx hb dX9_pay_6 (by decide) (fun c2 => ?_) (fun c2 => ?_)
  · replace hF := oi_f c2 hF
    refine lv_iload_n hx hb dX9_pay_11 rfl (lv_at hl 3 rfl) ?_
    refine lv_iconst (v := 1) hx hb dX9_pay_12 (by decide) ?_
    refine lv_bipush (v := 99) hx hb dX9_pay_13 (by decide) ?_
    obtain ⟨z3, hz3, hF⟩ := ob hF
    refine cS (wr := [(q_, .inr (9, [.int u_people, .ref q_owes, .ref q_denies, .int u_debts, .ref q_debt, .int u_cuts, .ref q_cut, .int u_seen, .ref q_sight, .int u_events, .ref q_event, .int u_inBook, .ref q_book, .int u_texted, .ref q_text, .ref q_path, .int u_rule, .int u_rings, .int u_size, .int u_least, .long u_worth, .ref q_ring, .ref q_balance, .ref q_left, .ref q_sum, .ref q_parts, .int u_groups, .ref q_group, .int u_paid, .ref q_payment, .ref q_then, .int u_imaged, .ref q_image, .ref q_tapeSort, .ref q_tapeSize, .ref q_items])), (q_owes, .inl (C 0, 36, .inl u_owes)), (q_debt, .inl (C 0, 30, .inl u_debt))]) (w2 := [(q_, .inr (9, [.int u_people, .ref q_owes, .ref q_denies, .int u_debts, .ref q_debt, .int u_cuts, .ref q_cut, .int u_seen, .ref q_sight, .int u_events, .ref q_event, .int u_inBook, .ref q_book, .int u_texted, .ref q_text, .ref q_path, .int u_rule, .int u_rings, .int u_size, .int u_least, .long u_worth, .ref q_ring, .ref q_balance, .ref q_left, .ref q_sum, .ref q_parts, .int u_groups, .ref q_group, .int u_paid, .ref q_payment, .ref q_then, .int u_imaged, .ref q_image, .ref q_tapeSort, .ref q_tapeSize, .ref q_items])), (q_owes, .inl (C 0, 36, .inl u_owes)), (q_debt, .inl (C 0, 30, .inl u_debt))]) (st2 := [.int z3]) cx (CX9_within l D C x3 1 99 z3 hz3) lk_X9_80 my_X9_within ml_X9_within ⟨by decide, by decide⟩ hw [] [0, 1, 2] [0, 1, 2] rfl rfl (by decide) rfl rfl (Nat.le_of_ble_eq_true rfl) dX9_pay_15 rfl (fun H locs hw => ?_) hl.1
    refine lv_if_ne (tgt := 24) hx hb dX9_pay_18 (by decide) (fun c4 => ?_) (fun c4 => ?_)
    · replace hF := oi_f c4 hF
      refine lv_bipush (v := 6) hx hb dX9_pay_24 (by decide) ?_
      refine lv_iload_n hx hb dX9_pay_26 rfl (lv_at hl 1 rfl) ?_
      refine lv_imul hx hb dX9_pay_27 ?_
      refine lv_iload_n hx hb dX9_pay_28 rfl (lv_at hl 2 rfl) ?_
      refine lv_iadd hx hb dX9_pay_29 ?_
      refine lv_istore (lv' := [(4, .int ((6 * x1) + x2)), (0, .ref q_), (1, .int x1), (2, .int x2), (3, .int x3)]) hx hb dX9_pay_30 hl (by decide) rfl (fun ls hl => ?_)
      refine lv_aload_n hx hb dX9_pay_32 rfl (lv_at hl 1 rfl) ?_
      refine r_get (ci := 9) (v := .ref q_owes) cx hw iX9 0 1 rfl rfl (by decide) wf_X9_9 rfl dX9_pay_33 ?_
      refine lv_iload hx hb dX9_pay_36 (lv_at hl 0 rfl) ?_
      obtain ⟨g5, hF⟩ := gA_s hF
      refine r_iald cx hw 1 rfl g5 dX9_pay_38 ?_
      refine lv_iload_n hx hb dX9_pay_39 rfl (lv_at hl 4 rfl) ?_
      refine lv_icmp_ge (tgt := 46) hx hb dX9_pay_40 (by decide) (fun c6 => ?_) (fun c6 => ?_)
      · replace hF := oi_t c6 hF
        refine lv_aload_n hx hb dX9_pay_46 rfl (lv_at hl 1 rfl) ?_
        refine lv_iload hx hb dX9_pay_47 (lv_at hl 0 rfl) ?_
        refine lv_aload_n hx hb dX9_pay_49 rfl (lv_at hl 1 rfl) ?_
        refine r_get (ci := 9) (v := .ref q_owes) cx hw iX9 0 1 rfl rfl (by decide) wf_X9_9 rfl dX9_pay_50 ?_
        refine lv_iload hx hb dX9_pay_53 (lv_at hl 0 rfl) ?_
        obtain ⟨g7, hF⟩ := gA_s hF
        refine r_iald cx hw 1 rfl g7 dX9_pay_55 ?_
        refine lv_iload_n hx hb dX9_pay_56 rfl (lv_at hl 4 rfl) ?_
        refine lv_isub hx hb dX9_pay_57 ?_
        obtain ⟨z8, hz8, hF⟩ := ob hF
        refine cV (wr := []) (w2 := [(q_, .inr (9, [.int u_people, .ref q_owes, .ref q_denies, .int z8.1, .ref q_debt, .int u_cuts, .ref q_cut, .int u_seen, .ref q_sight, .int u_events, .ref q_event, .int u_inBook, .ref q_book, .int u_texted, .ref q_text, .ref q_path, .int u_rule, .int u_rings, .int u_size, .int u_least, .long u_worth, .ref q_ring, .ref q_balance, .ref q_left, .ref q_sum, .ref q_parts, .int u_groups, .ref q_group, .int u_paid, .ref q_payment, .ref q_then, .int u_imaged, .ref q_image, .ref q_tapeSort, .ref q_tapeSize, .ref q_items])), (q_owes, .inl (C 0, 36, .inl z8.2.1)), (q_debt, .inl (C 0, 30, .inl z8.2.2))]) (st2 := []) cx (CX9_becomes l D C q_ q_owes q_denies q_debt q_cut q_sight q_event q_book q_text q_path q_ring q_balance q_left q_sum q_parts q_group q_payment q_then q_image q_tapeSort q_tapeSize q_items u_people u_debts u_cuts u_seen u_events u_inBook u_texted u_rule u_rings u_size u_least u_worth u_groups u_paid u_imaged u_owes u_debt ((6 * x1) + x2) ((u_owes ((6 * x1) + x2).toNatClampNeg) - x3) z8 hz8) lk_X9_99 my_X9_becomes ml_X9_becomes ⟨by decide, by decide⟩ hw [0, 1, 2] [] [0, 1, 2] rfl rfl (by decide) rfl rfl rfl rfl (Nat.le_of_ble_eq_true rfl) dX9_pay_58 rfl (fun H locs hw => ?_) hl.1
        refine lv_aload_n hx hb dX9_pay_61 rfl (lv_at hl 1 rfl) ?_
        refine r_get (ci := 9) (v := .ref q_owes) cx hw iX9 0 1 rfl rfl (by decide) wf_X9_9 rfl dX9_pay_62 ?_
        refine lv_iload hx hb dX9_pay_65 (lv_at hl 0 rfl) ?_
        obtain ⟨g9, hF⟩ := gA_s hF
        refine r_iald cx hw 1 rfl g9 dX9_pay_67 ?_
        obtain rfl := Option.some.inj hF
        exact rt_i hret hw rfl dX9_pay_68
      · replace hF := oi_f c6 hF
        refine lv_bipush (v := (-3)) hx hb dX9_pay_43 (by decide) ?_
        obtain rfl := Option.some.inj hF
        exact rt_i hret hw rfl dX9_pay_45
    · replace hF := oi_t c4 hF
      refine lv_bipush (v := (-2)) hx hb dX9_pay_21 (by decide) ?_
      obtain rfl := Option.some.inj hF
      exact rt_i hret hw rfl dX9_pay_23
  · replace hF := oi_t c2 hF
    refine lv_iconst (v := (-1)) hx hb dX9_pay_9 (by decide) ?_
    obtain rfl := Option.some.inj hF
    exact rt_i hret hw rfl dX9_pay_10
theorem dX9_consent_0 : decode cX9_consent 0 = .ok (.aload_n 0, 1) := by decide +kernel
theorem dX9_consent_1 : decode cX9_consent 1 = .ok (.iload_n 1, 1) := by decide +kernel
theorem dX9_consent_2 : decode cX9_consent 2 = .ok (.iload_n 2, 1) := by decide +kernel
theorem dX9_consent_3 : decode cX9_consent 3 = .ok (.invokevirtual 95, 3) := by decide +kernel
theorem dX9_consent_6 : decode cX9_consent 6 = .ok (.ifCond .ne 5, 3) := by decide +kernel
theorem dX9_consent_9 : decode cX9_consent 9 = .ok (.iconst (-1), 1) := by decide +kernel
theorem dX9_consent_10 : decode cX9_consent 10 = .ok (.ireturn, 1) := by decide +kernel
theorem dX9_consent_11 : decode cX9_consent 11 = .ok (.iconst 1, 1) := by decide +kernel
theorem dX9_consent_12 : decode cX9_consent 12 = .ok (.aload_n 0, 1) := by decide +kernel
theorem dX9_consent_13 : decode cX9_consent 13 = .ok (.getfield 15, 3) := by decide +kernel
theorem dX9_consent_16 : decode cX9_consent 16 = .ok (.bipush 6, 2) := by decide +kernel
theorem dX9_consent_18 : decode cX9_consent 18 = .ok (.iload_n 1, 1) := by decide +kernel
theorem dX9_consent_19 : decode cX9_consent 19 = .ok (.imul, 1) := by decide +kernel
theorem dX9_consent_20 : decode cX9_consent 20 = .ok (.iload_n 2, 1) := by decide +kernel
theorem dX9_consent_21 : decode cX9_consent 21 = .ok (.iadd, 1) := by decide +kernel
theorem dX9_consent_22 : decode cX9_consent 22 = .ok (.iaload, 1) := by decide +kernel
theorem dX9_consent_23 : decode cX9_consent 23 = .ok (.isub, 1) := by decide +kernel
theorem dX9_consent_24 : decode cX9_consent 24 = .ok (.istore 4, 2) := by decide +kernel
theorem dX9_consent_26 : decode cX9_consent 26 = .ok (.aload_n 0, 1) := by decide +kernel
theorem dX9_consent_27 : decode cX9_consent 27 = .ok (.getfield 15, 3) := by decide +kernel
theorem dX9_consent_30 : decode cX9_consent 30 = .ok (.bipush 6, 2) := by decide +kernel
theorem dX9_consent_32 : decode cX9_consent 32 = .ok (.iload_n 1, 1) := by decide +kernel
theorem dX9_consent_33 : decode cX9_consent 33 = .ok (.imul, 1) := by decide +kernel
theorem dX9_consent_34 : decode cX9_consent 34 = .ok (.iload_n 2, 1) := by decide +kernel
theorem dX9_consent_35 : decode cX9_consent 35 = .ok (.iadd, 1) := by decide +kernel
theorem dX9_consent_36 : decode cX9_consent 36 = .ok (.iload_n 3, 1) := by decide +kernel
theorem dX9_consent_37 : decode cX9_consent 37 = .ok (.ifCond .eq 7, 3) := by decide +kernel
theorem dX9_consent_40 : decode cX9_consent 40 = .ok (.iconst 0, 1) := by decide +kernel
theorem dX9_consent_41 : decode cX9_consent 41 = .ok (.goto 4, 3) := by decide +kernel
theorem dX9_consent_44 : decode cX9_consent 44 = .ok (.iconst 1, 1) := by decide +kernel
theorem dX9_consent_45 : decode cX9_consent 45 = .ok (.iastore, 1) := by decide +kernel
theorem dX9_consent_46 : decode cX9_consent 46 = .ok (.iload 4, 2) := by decide +kernel
theorem dX9_consent_48 : decode cX9_consent 48 = .ok (.ireturn, 1) := by decide +kernel
def fX9_consent (u_people : Int32) (u_denies : (Nat → Int32)) (x1 : Int32) (x2 : Int32) (x3 : Int32) : Option (Int32 × (Nat → Int32)) := (fX9_areTwo u_people x1 x2).bind (fun z1 => if z1 = 0 then (some ((-1), u_denies)) else (gA ((6 * x1) + x2) 36 (if x3 = 0 then (gA ((6 * x1) + x2) 36 (some (1 - (u_denies ((6 * x1) + x2).toNatClampNeg), upd u_denies ((6 * x1) + x2 : Int32).toNatClampNeg 1))) else (gA ((6 * x1) + x2) 36 (some (1 - (u_denies ((6 * x1) + x2).toNatClampNeg), upd u_denies ((6 * x1) + x2 : Int32).toNatClampNeg 0))))))
set_option maxRecDepth 20000 in
theorem CX9_consent (l : Launch) (D : va_G) (C : Nat → ClassId) (q_ q_owes q_denies q_debt q_cut q_sight q_event q_book q_text q_path q_ring q_balance q_left q_sum q_parts q_group q_payment q_then q_image q_tapeSort q_tapeSize q_items : Nat) (u_people : Int32) (u_debts : Int32) (u_cuts : Int32) (u_seen : Int32) (u_events : Int32) (u_inBook : Int32) (u_texted : Int32) (u_rule : Int32) (u_rings : Int32) (u_size : Int32) (u_least : Int32) (u_worth : Int64) (u_groups : Int32) (u_paid : Int32) (u_imaged : Int32) (u_denies : (Nat → Int32)) (x1 : Int32) (x2 : Int32) (x3 : Int32) (z : (Int32 × (Nat → Int32))) (hF : fX9_consent u_people u_denies x1 x2 x3 = some z) : Ct l yX9_consent cX9_consent 5 (some .int) 4 D C [.ref q_, .int x1, .int x2, .int x3] [(q_, .inr (9, [.int u_people, .ref q_owes, .ref q_denies, .int u_debts, .ref q_debt, .int u_cuts, .ref q_cut, .int u_seen, .ref q_sight, .int u_events, .ref q_event, .int u_inBook, .ref q_book, .int u_texted, .ref q_text, .ref q_path, .int u_rule, .int u_rings, .int u_size, .int u_least, .long u_worth, .ref q_ring, .ref q_balance, .ref q_left, .ref q_sum, .ref q_parts, .int u_groups, .ref q_group, .int u_paid, .ref q_payment, .ref q_then, .int u_imaged, .ref q_image, .ref q_tapeSort, .ref q_tapeSize, .ref q_items])), (q_denies, .inl (C 0, 36, .inl u_denies))] [(q_, .inr (9, [.int u_people, .ref q_owes, .ref q_denies, .int u_debts, .ref q_debt, .int u_cuts, .ref q_cut, .int u_seen, .ref q_sight, .int u_events, .ref q_event, .int u_inBook, .ref q_book, .int u_texted, .ref q_text, .ref q_path, .int u_rule, .int u_rings, .int u_size, .int u_least, .long u_worth, .ref q_ring, .ref q_balance, .ref q_left, .ref q_sum, .ref q_parts, .int u_groups, .ref q_group, .int u_paid, .ref q_payment, .ref q_then, .int u_imaged, .ref q_image, .ref q_tapeSort, .ref q_tapeSize, .ref q_items])), (q_denies, .inl (C 0, 36, .inl z.2))] (some (.int z.1)) := by
  refine Ct_of (by decide) (Nat.le_of_ble_eq_true rfl) ?_
  intro p e R s m args below meth c A Q H locs ls cx hw hl hret
  have cx : CX p m c s args RX9 cX9_consent 5 D C A R 4 := cx
  have hx := cx.1
  have hb := cx.2.1
  have hl : lv_has ls 5 [(0, .ref q_), (1, .int x1), (2, .int x2), (3, .int x3)] := hl
  rw [fX9_consent.eq_1] at hF
  refine lv_aload_n hx hb dX9_consent_0 rfl (lv_at hl 0 rfl) ?_
  refine lv_iload_n hx hb dX9_consent_1 rfl (lv_at hl 1 rfl) ?_
  refine lv_iload_n hx hb dX9_consent_2 rfl (lv_at hl 2 rfl) ?_
  obtain ⟨z1, hz1, hF⟩ := ob hF
  refine cV (wr := [(q_denies, .inl (C 0, 36, .inl u_denies))]) (w2 := [(q_, .inr (9, [.int u_people, .ref q_owes, .ref q_denies, .int u_debts, .ref q_debt, .int u_cuts, .ref q_cut, .int u_seen, .ref q_sight, .int u_events, .ref q_event, .int u_inBook, .ref q_book, .int u_texted, .ref q_text, .ref q_path, .int u_rule, .int u_rings, .int u_size, .int u_least, .long u_worth, .ref q_ring, .ref q_balance, .ref q_left, .ref q_sum, .ref q_parts, .int u_groups, .ref q_group, .int u_paid, .ref q_payment, .ref q_then, .int u_imaged, .ref q_image, .ref q_tapeSort, .ref q_tapeSize, .ref q_items])), (q_denies, .inl (C 0, 36, .inl u_denies))]) (st2 := [.int z1]) cx (CX9_areTwo l D C q_ q_owes q_denies q_debt q_cut q_sight q_event q_book q_text q_path q_ring q_balance q_left q_sum q_parts q_group q_payment q_then q_image q_tapeSort q_tapeSize q_items u_people u_debts u_cuts u_seen u_events u_inBook u_texted u_rule u_rings u_size u_least u_worth u_groups u_paid u_imaged x1 x2 z1 hz1) lk_X9_95 my_X9_areTwo ml_X9_areTwo ⟨by decide, by decide⟩ hw [0] [1] [1, 0] rfl rfl (by decide) rfl rfl rfl rfl (Nat.le_of_ble_eq_true rfl) dX9_consent_3 rfl (fun H locs hw => ?_) hl.1
  refine lv_if_ne (tgt := 11) hx hb dX9_consent_6 (by decide) (fun c2 => ?_) (fun c2 => ?_)
  · replace hF := oi_f c2 hF
    refine lv_iconst (v := 1) hx hb dX9_consent_11 (by decide) ?_
    refine lv_aload_n hx hb dX9_consent_12 rfl (lv_at hl 0 rfl) ?_
    refine r_get (ci := 9) (v := .ref q_denies) cx hw iX9 0 2 rfl rfl (by decide) wf_X9_15 rfl dX9_consent_13 ?_
    refine lv_bipush (v := 6) hx hb dX9_consent_16 (by decide) ?_
    refine lv_iload_n hx hb dX9_consent_18 rfl (lv_at hl 1 rfl) ?_
    refine lv_imul hx hb dX9_consent_19 ?_
    refine lv_iload_n hx hb dX9_consent_20 rfl (lv_at hl 2 rfl) ?_
    refine lv_iadd hx hb dX9_consent_21 ?_
    obtain ⟨g3, hF⟩ := gA_s hF
    refine r_iald cx hw 1 rfl g3 dX9_consent_22 ?_
    refine lv_isub hx hb dX9_consent_23 ?_
    refine lv_istore (lv' := [(4, .int (1 - (u_denies ((6 * x1) + x2).toNatClampNeg))), (0, .ref q_), (1, .int x1), (2, .int x2), (3, .int x3)]) hx hb dX9_consent_24 hl (by decide) rfl (fun ls hl => ?_)
    refine lv_aload_n hx hb dX9_consent_26 rfl (lv_at hl 1 rfl) ?_
    refine r_get (ci := 9) (v := .ref q_denies) cx hw iX9 0 2 rfl rfl (by decide) wf_X9_15 rfl dX9_consent_27 ?_
    refine lv_bipush (v := 6) hx hb dX9_consent_30 (by decide) ?_
    refine lv_iload_n hx hb dX9_consent_32 rfl (lv_at hl 2 rfl) ?_
    refine lv_imul hx hb dX9_consent_33 ?_
    refine lv_iload_n hx hb dX9_consent_34 rfl (lv_at hl 3 rfl) ?_
    refine lv_iadd hx hb dX9_consent_35 ?_
    refine lv_iload_n hx hb dX9_consent_36 rfl (lv_at hl 4 rfl) ?_
    refine lv_if_eq (tgt := 44) hx hb dX9_consent_37 (by decide) (fun c4 => ?_) (fun c4 => ?_)
    · replace hF := oi_t c4 hF
      refine lv_iconst (v := 1) hx hb dX9_consent_44 (by decide) ?_
      obtain ⟨g5, hF⟩ := gA_s hF
      refine r_iast (w2 := [(q_, .inr (9, [.int u_people, .ref q_owes, .ref q_denies, .int u_debts, .ref q_debt, .int u_cuts, .ref q_cut, .int u_seen, .ref q_sight, .int u_events, .ref q_event, .int u_inBook, .ref q_book, .int u_texted, .ref q_text, .ref q_path, .int u_rule, .int u_rings, .int u_size, .int u_least, .long u_worth, .ref q_ring, .ref q_balance, .ref q_left, .ref q_sum, .ref q_parts, .int u_groups, .ref q_group, .int u_paid, .ref q_payment, .ref q_then, .int u_imaged, .ref q_image, .ref q_tapeSort, .ref q_tapeSize, .ref q_items])), (q_denies, .inl (C 0, 36, .inl (upd u_denies ((6 * x1) + x2 : Int32).toNatClampNeg 1)))]) cx hw 1 rfl g5 dX9_consent_45 rfl (fun H locs hw => ?_)
      refine lv_iload hx hb dX9_consent_46 (lv_at hl 0 rfl) ?_
      obtain rfl := Option.some.inj hF
      exact rt_i hret hw rfl dX9_consent_48
    · replace hF := oi_f c4 hF
      refine lv_iconst (v := 0) hx hb dX9_consent_40 (by decide) ?_
      refine lv_goto (tgt := 45) hx hb dX9_consent_41 (by decide) ?_
      obtain ⟨g6, hF⟩ := gA_s hF
      refine r_iast (w2 := [(q_, .inr (9, [.int u_people, .ref q_owes, .ref q_denies, .int u_debts, .ref q_debt, .int u_cuts, .ref q_cut, .int u_seen, .ref q_sight, .int u_events, .ref q_event, .int u_inBook, .ref q_book, .int u_texted, .ref q_text, .ref q_path, .int u_rule, .int u_rings, .int u_size, .int u_least, .long u_worth, .ref q_ring, .ref q_balance, .ref q_left, .ref q_sum, .ref q_parts, .int u_groups, .ref q_group, .int u_paid, .ref q_payment, .ref q_then, .int u_imaged, .ref q_image, .ref q_tapeSort, .ref q_tapeSize, .ref q_items])), (q_denies, .inl (C 0, 36, .inl (upd u_denies ((6 * x1) + x2 : Int32).toNatClampNeg 0)))]) cx hw 1 rfl g6 dX9_consent_45 rfl (fun H locs hw => ?_)
      refine lv_iload hx hb dX9_consent_46 (lv_at hl 0 rfl) ?_
      obtain rfl := Option.some.inj hF
      exact rt_i hret hw rfl dX9_consent_48
  · replace hF := oi_t c2 hF
    refine lv_iconst (v := (-1)) hx hb dX9_consent_9 (by decide) ?_
    obtain rfl := Option.some.inj hF
    exact rt_i hret hw rfl dX9_consent_10
theorem dX9_of_0 : decode cX9_of 0 = .ok (.aload_n 0, 1) := by decide +kernel
theorem dX9_of_1 : decode cX9_of 1 = .ok (.iload_n 1, 1) := by decide +kernel
theorem dX9_of_2 : decode cX9_of 2 = .ok (.iload_n 2, 1) := by decide +kernel
theorem dX9_of_3 : decode cX9_of 3 = .ok (.invokevirtual 95, 3) := by decide +kernel
theorem dX9_of_6 : decode cX9_of 6 = .ok (.ifCond .ne 5, 3) := by decide +kernel
theorem dX9_of_9 : decode cX9_of 9 = .ok (.iconst (-1), 1) := by decide +kernel
theorem dX9_of_10 : decode cX9_of 10 = .ok (.ireturn, 1) := by decide +kernel
theorem dX9_of_11 : decode cX9_of 11 = .ok (.bipush 6, 2) := by decide +kernel
theorem dX9_of_13 : decode cX9_of 13 = .ok (.iload_n 1, 1) := by decide +kernel
theorem dX9_of_14 : decode cX9_of 14 = .ok (.imul, 1) := by decide +kernel
theorem dX9_of_15 : decode cX9_of 15 = .ok (.iload_n 2, 1) := by decide +kernel
theorem dX9_of_16 : decode cX9_of 16 = .ok (.iadd, 1) := by decide +kernel
theorem dX9_of_17 : decode cX9_of 17 = .ok (.istore 4, 2) := by decide +kernel
theorem dX9_of_19 : decode cX9_of 19 = .ok (.iload_n 3, 1) := by decide +kernel
theorem dX9_of_20 : decode cX9_of 20 = .ok (.tableswitch 53 0 2 #[28, 36, 46], 28) := by decide +kernel
theorem dX9_of_48 : decode cX9_of 48 = .ok (.aload_n 0, 1) := by decide +kernel
theorem dX9_of_49 : decode cX9_of 49 = .ok (.getfield 9, 3) := by decide +kernel
theorem dX9_of_52 : decode cX9_of 52 = .ok (.iload 4, 2) := by decide +kernel
theorem dX9_of_54 : decode cX9_of 54 = .ok (.iaload, 1) := by decide +kernel
theorem dX9_of_55 : decode cX9_of 55 = .ok (.ireturn, 1) := by decide +kernel
theorem dX9_of_56 : decode cX9_of 56 = .ok (.iconst 1, 1) := by decide +kernel
theorem dX9_of_57 : decode cX9_of 57 = .ok (.aload_n 0, 1) := by decide +kernel
theorem dX9_of_58 : decode cX9_of 58 = .ok (.getfield 15, 3) := by decide +kernel
theorem dX9_of_61 : decode cX9_of 61 = .ok (.iload 4, 2) := by decide +kernel
theorem dX9_of_63 : decode cX9_of 63 = .ok (.iaload, 1) := by decide +kernel
theorem dX9_of_64 : decode cX9_of 64 = .ok (.isub, 1) := by decide +kernel
theorem dX9_of_65 : decode cX9_of 65 = .ok (.ireturn, 1) := by decide +kernel
theorem dX9_of_66 : decode cX9_of 66 = .ok (.aload_n 0, 1) := by decide +kernel
theorem dX9_of_67 : decode cX9_of 67 = .ok (.iload 4, 2) := by decide +kernel
theorem dX9_of_69 : decode cX9_of 69 = .ok (.invokevirtual 91, 3) := by decide +kernel
theorem dX9_of_72 : decode cX9_of 72 = .ok (.ireturn, 1) := by decide +kernel
theorem dX9_of_73 : decode cX9_of 73 = .ok (.iconst (-1), 1) := by decide +kernel
theorem dX9_of_74 : decode cX9_of 74 = .ok (.ireturn, 1) := by decide +kernel
def fX9_of (u_people : Int32) (u_debts : Int32) (u_owes : (Nat → Int32)) (u_denies : (Nat → Int32)) (u_debt : (Nat → Int32)) (x1 : Int32) (x2 : Int32) (x3 : Int32) : Option Int32 := (fX9_areTwo u_people x1 x2).bind (fun z1 => if z1 = 0 then (some (-1)) else (if x3 = 0 then (gA ((6 * x1) + x2) 36 (some (u_owes ((6 * x1) + x2).toNatClampNeg))) else (if x3 = 1 then (gA ((6 * x1) + x2) 36 (some (1 - (u_denies ((6 * x1) + x2).toNatClampNeg)))) else (if x3 = 2 then ((fX9_numberOf u_debts u_debt ((6 * x1) + x2)).bind (fun z8 => some z8)) else (some (-1))))))
set_option maxRecDepth 20000 in
theorem CX9_of (l : Launch) (D : va_G) (C : Nat → ClassId) (q_ q_owes q_denies q_debt q_cut q_sight q_event q_book q_text q_path q_ring q_balance q_left q_sum q_parts q_group q_payment q_then q_image q_tapeSort q_tapeSize q_items : Nat) (u_people : Int32) (u_debts : Int32) (u_cuts : Int32) (u_seen : Int32) (u_events : Int32) (u_inBook : Int32) (u_texted : Int32) (u_rule : Int32) (u_rings : Int32) (u_size : Int32) (u_least : Int32) (u_worth : Int64) (u_groups : Int32) (u_paid : Int32) (u_imaged : Int32) (u_owes : (Nat → Int32)) (u_denies : (Nat → Int32)) (u_debt : (Nat → Int32)) (x1 : Int32) (x2 : Int32) (x3 : Int32) (z : Int32) (hF : fX9_of u_people u_debts u_owes u_denies u_debt x1 x2 x3 = some z) : Ct l yX9_of cX9_of 5 (some .int) 4 D C [.ref q_, .int x1, .int x2, .int x3] [(q_, .inr (9, [.int u_people, .ref q_owes, .ref q_denies, .int u_debts, .ref q_debt, .int u_cuts, .ref q_cut, .int u_seen, .ref q_sight, .int u_events, .ref q_event, .int u_inBook, .ref q_book, .int u_texted, .ref q_text, .ref q_path, .int u_rule, .int u_rings, .int u_size, .int u_least, .long u_worth, .ref q_ring, .ref q_balance, .ref q_left, .ref q_sum, .ref q_parts, .int u_groups, .ref q_group, .int u_paid, .ref q_payment, .ref q_then, .int u_imaged, .ref q_image, .ref q_tapeSort, .ref q_tapeSize, .ref q_items])), (q_owes, .inl (C 0, 36, .inl u_owes)), (q_denies, .inl (C 0, 36, .inl u_denies)), (q_debt, .inl (C 0, 30, .inl u_debt))] [(q_, .inr (9, [.int u_people, .ref q_owes, .ref q_denies, .int u_debts, .ref q_debt, .int u_cuts, .ref q_cut, .int u_seen, .ref q_sight, .int u_events, .ref q_event, .int u_inBook, .ref q_book, .int u_texted, .ref q_text, .ref q_path, .int u_rule, .int u_rings, .int u_size, .int u_least, .long u_worth, .ref q_ring, .ref q_balance, .ref q_left, .ref q_sum, .ref q_parts, .int u_groups, .ref q_group, .int u_paid, .ref q_payment, .ref q_then, .int u_imaged, .ref q_image, .ref q_tapeSort, .ref q_tapeSize, .ref q_items])), (q_owes, .inl (C 0, 36, .inl u_owes)), (q_denies, .inl (C 0, 36, .inl u_denies)), (q_debt, .inl (C 0, 30, .inl u_debt))] (some (.int z)) := by
  refine Ct_of (by decide) (Nat.le_of_ble_eq_true rfl) ?_
  intro p e R s m args below meth c A Q H locs ls cx hw hl hret
  have cx : CX p m c s args RX9 cX9_of 5 D C A R 4 := cx
  have hx := cx.1
  have hb := cx.2.1
  have hl : lv_has ls 5 [(0, .ref q_), (1, .int x1), (2, .int x2), (3, .int x3)] := hl
  rw [fX9_of.eq_1] at hF
  refine lv_aload_n hx hb dX9_of_0 rfl (lv_at hl 0 rfl) ?_
  refine lv_iload_n hx hb dX9_of_1 rfl (lv_at hl 1 rfl) ?_
  refine lv_iload_n hx hb dX9_of_2 rfl (lv_at hl 2 rfl) ?_
  obtain ⟨z1, hz1, hF⟩ := ob hF
  refine cV (wr := [(q_owes, .inl (C 0, 36, .inl u_owes)), (q_denies, .inl (C 0, 36, .inl u_denies)), (q_debt, .inl (C 0, 30, .inl u_debt))]) (w2 := [(q_, .inr (9, [.int u_people, .ref q_owes, .ref q_denies, .int u_debts, .ref q_debt, .int u_cuts, .ref q_cut, .int u_seen, .ref q_sight, .int u_events, .ref q_event, .int u_inBook, .ref q_book, .int u_texted, .ref q_text, .ref q_path, .int u_rule, .int u_rings, .int u_size, .int u_least, .long u_worth, .ref q_ring, .ref q_balance, .ref q_left, .ref q_sum, .ref q_parts, .int u_groups, .ref q_group, .int u_paid, .ref q_payment, .ref q_then, .int u_imaged, .ref q_image, .ref q_tapeSort, .ref q_tapeSize, .ref q_items])), (q_owes, .inl (C 0, 36, .inl u_owes)), (q_denies, .inl (C 0, 36, .inl u_denies)), (q_debt, .inl (C 0, 30, .inl u_debt))]) (st2 := [.int z1]) cx (CX9_areTwo l D C q_ q_owes q_denies q_debt q_cut q_sight q_event q_book q_text q_path q_ring q_balance q_left q_sum q_parts q_group q_payment q_then q_image q_tapeSort q_tapeSize q_items u_people u_debts u_cuts u_seen u_events u_inBook u_texted u_rule u_rings u_size u_least u_worth u_groups u_paid u_imaged x1 x2 z1 hz1) lk_X9_95 my_X9_areTwo ml_X9_areTwo ⟨by decide, by decide⟩ hw [0] [1, 2, 3] [3, 0, 1, 2] rfl rfl (by decide) rfl rfl rfl rfl (Nat.le_of_ble_eq_true rfl) dX9_of_3 rfl (fun H locs hw => ?_) hl.1
  refine lv_if_ne (tgt := 11) hx hb dX9_of_6 (by decide) (fun c2 => ?_) (fun c2 => ?_)
  · replace hF := oi_f c2 hF
    refine lv_bipush (v := 6) hx hb dX9_of_11 (by decide) ?_
    refine lv_iload_n hx hb dX9_of_13 rfl (lv_at hl 1 rfl) ?_
    refine lv_imul hx hb dX9_of_14 ?_
    refine lv_iload_n hx hb dX9_of_15 rfl (lv_at hl 2 rfl) ?_
    refine lv_iadd hx hb dX9_of_16 ?_
    refine lv_istore (lv' := [(4, .int ((6 * x1) + x2)), (0, .ref q_), (1, .int x1), (2, .int x2), (3, .int x3)]) hx hb dX9_of_17 hl (by decide) rfl (fun ls hl => ?_)
    refine lv_iload_n hx hb dX9_of_19 rfl (lv_at hl 4 rfl) ?_
    by_cases c3 : x3 = 0
    · replace hF := oi_t c3 hF
      refine lv_tableIn (tgt := 48) (off := 28) hx hb dX9_of_20 (by rw [c3]; decide) (by rw [c3]; decide) (by rw [c3]; decide +kernel) (by decide) ?_
      refine lv_aload_n hx hb dX9_of_48 rfl (lv_at hl 1 rfl) ?_
      refine r_get (ci := 9) (v := .ref q_owes) cx hw iX9 0 1 rfl rfl (by decide) wf_X9_9 rfl dX9_of_49 ?_
      refine lv_iload hx hb dX9_of_52 (lv_at hl 0 rfl) ?_
      obtain ⟨g4, hF⟩ := gA_s hF
      refine r_iald cx hw 1 rfl g4 dX9_of_54 ?_
      obtain rfl := Option.some.inj hF
      exact rt_i hret hw rfl dX9_of_55
    replace hF := oi_f c3 hF
    by_cases c5 : x3 = 1
    · replace hF := oi_t c5 hF
      refine lv_tableIn (tgt := 56) (off := 36) hx hb dX9_of_20 (by rw [c5]; decide) (by rw [c5]; decide) (by rw [c5]; decide +kernel) (by decide) ?_
      refine lv_iconst (v := 1) hx hb dX9_of_56 (by decide) ?_
      refine lv_aload_n hx hb dX9_of_57 rfl (lv_at hl 1 rfl) ?_
      refine r_get (ci := 9) (v := .ref q_denies) cx hw iX9 0 2 rfl rfl (by decide) wf_X9_15 rfl dX9_of_58 ?_
      refine lv_iload hx hb dX9_of_61 (lv_at hl 0 rfl) ?_
      obtain ⟨g6, hF⟩ := gA_s hF
      refine r_iald cx hw 2 rfl g6 dX9_of_63 ?_
      refine lv_isub hx hb dX9_of_64 ?_
      obtain rfl := Option.some.inj hF
      exact rt_i hret hw rfl dX9_of_65
    replace hF := oi_f c5 hF
    by_cases c7 : x3 = 2
    · replace hF := oi_t c7 hF
      refine lv_tableIn (tgt := 66) (off := 46) hx hb dX9_of_20 (by rw [c7]; decide) (by rw [c7]; decide) (by rw [c7]; decide +kernel) (by decide) ?_
      refine lv_aload_n hx hb dX9_of_66 rfl (lv_at hl 1 rfl) ?_
      refine lv_iload hx hb dX9_of_67 (lv_at hl 0 rfl) ?_
      obtain ⟨z8, hz8, hF⟩ := ob hF
      refine cV (wr := [(q_owes, .inl (C 0, 36, .inl u_owes)), (q_denies, .inl (C 0, 36, .inl u_denies))]) (w2 := [(q_, .inr (9, [.int u_people, .ref q_owes, .ref q_denies, .int u_debts, .ref q_debt, .int u_cuts, .ref q_cut, .int u_seen, .ref q_sight, .int u_events, .ref q_event, .int u_inBook, .ref q_book, .int u_texted, .ref q_text, .ref q_path, .int u_rule, .int u_rings, .int u_size, .int u_least, .long u_worth, .ref q_ring, .ref q_balance, .ref q_left, .ref q_sum, .ref q_parts, .int u_groups, .ref q_group, .int u_paid, .ref q_payment, .ref q_then, .int u_imaged, .ref q_image, .ref q_tapeSort, .ref q_tapeSize, .ref q_items])), (q_owes, .inl (C 0, 36, .inl u_owes)), (q_denies, .inl (C 0, 36, .inl u_denies)), (q_debt, .inl (C 0, 30, .inl u_debt))]) (st2 := [.int z8]) cx (CX9_numberOf l D C q_ q_owes q_denies q_debt q_cut q_sight q_event q_book q_text q_path q_ring q_balance q_left q_sum q_parts q_group q_payment q_then q_image q_tapeSort q_tapeSize q_items u_people u_debts u_cuts u_seen u_events u_inBook u_texted u_rule u_rings u_size u_least u_worth u_groups u_paid u_imaged u_debt ((6 * x1) + x2) z8 hz8) lk_X9_91 my_X9_numberOf ml_X9_numberOf ⟨by decide, by decide⟩ hw [0, 3] [1, 2] [2, 0, 1, 3] rfl rfl (by decide) rfl rfl rfl rfl (Nat.le_of_ble_eq_true rfl) dX9_of_69 rfl (fun H locs hw => ?_) hl.1
      obtain rfl := Option.some.inj hF
      exact rt_i hret hw rfl dX9_of_72
    replace hF := oi_f c7 hF
    have t3 := ti_ne (n := 0) (by decide) c3
    have t5 := ti_ne (n := 1) (by decide) c5
    have t7 := ti_ne (n := 2) (by decide) c7
    refine lv_tableOut (tgt := 73) hx hb dX9_of_20 (by omega) (by decide) ?_
    refine lv_iconst (v := (-1)) hx hb dX9_of_73 (by decide) ?_
    obtain rfl := Option.some.inj hF
    exact rt_i hret hw rfl dX9_of_74
  · replace hF := oi_t c2 hF
    refine lv_iconst (v := (-1)) hx hb dX9_of_9 (by decide) ?_
    obtain rfl := Option.some.inj hF
    exact rt_i hret hw rfl dX9_of_10
theorem dX9_debt_0 : decode cX9_debt 0 = .ok (.iload_n 1, 1) := by decide +kernel
theorem dX9_debt_1 : decode cX9_debt 1 = .ok (.iconst 0, 1) := by decide +kernel
theorem dX9_debt_2 : decode cX9_debt 2 = .ok (.aload_n 0, 1) := by decide +kernel
theorem dX9_debt_3 : decode cX9_debt 3 = .ok (.getfield 88, 3) := by decide +kernel
theorem dX9_debt_6 : decode cX9_debt 6 = .ok (.iconst 1, 1) := by decide +kernel
theorem dX9_debt_7 : decode cX9_debt 7 = .ok (.isub, 1) := by decide +kernel
theorem dX9_debt_8 : decode cX9_debt 8 = .ok (.invokestatic 80, 3) := by decide +kernel
theorem dX9_debt_11 : decode cX9_debt 11 = .ok (.ifCond .ne 5, 3) := by decide +kernel
theorem dX9_debt_14 : decode cX9_debt 14 = .ok (.iconst (-1), 1) := by decide +kernel
theorem dX9_debt_15 : decode cX9_debt 15 = .ok (.ireturn, 1) := by decide +kernel
theorem dX9_debt_16 : decode cX9_debt 16 = .ok (.iload_n 2, 1) := by decide +kernel
theorem dX9_debt_17 : decode cX9_debt 17 = .ok (.tableswitch 59 0 2 #[27, 37, 47], 27) := by decide +kernel
theorem dX9_debt_44 : decode cX9_debt 44 = .ok (.aload_n 0, 1) := by decide +kernel
theorem dX9_debt_45 : decode cX9_debt 45 = .ok (.getfield 18, 3) := by decide +kernel
theorem dX9_debt_48 : decode cX9_debt 48 = .ok (.iload_n 1, 1) := by decide +kernel
theorem dX9_debt_49 : decode cX9_debt 49 = .ok (.iaload, 1) := by decide +kernel
theorem dX9_debt_50 : decode cX9_debt 50 = .ok (.bipush 6, 2) := by decide +kernel
theorem dX9_debt_52 : decode cX9_debt 52 = .ok (.idiv, 1) := by decide +kernel
theorem dX9_debt_53 : decode cX9_debt 53 = .ok (.ireturn, 1) := by decide +kernel
theorem dX9_debt_54 : decode cX9_debt 54 = .ok (.aload_n 0, 1) := by decide +kernel
theorem dX9_debt_55 : decode cX9_debt 55 = .ok (.getfield 18, 3) := by decide +kernel
theorem dX9_debt_58 : decode cX9_debt 58 = .ok (.iload_n 1, 1) := by decide +kernel
theorem dX9_debt_59 : decode cX9_debt 59 = .ok (.iaload, 1) := by decide +kernel
theorem dX9_debt_60 : decode cX9_debt 60 = .ok (.bipush 6, 2) := by decide +kernel
theorem dX9_debt_62 : decode cX9_debt 62 = .ok (.irem, 1) := by decide +kernel
theorem dX9_debt_63 : decode cX9_debt 63 = .ok (.ireturn, 1) := by decide +kernel
theorem dX9_debt_64 : decode cX9_debt 64 = .ok (.aload_n 0, 1) := by decide +kernel
theorem dX9_debt_65 : decode cX9_debt 65 = .ok (.getfield 9, 3) := by decide +kernel
theorem dX9_debt_68 : decode cX9_debt 68 = .ok (.aload_n 0, 1) := by decide +kernel
theorem dX9_debt_69 : decode cX9_debt 69 = .ok (.getfield 18, 3) := by decide +kernel
theorem dX9_debt_72 : decode cX9_debt 72 = .ok (.iload_n 1, 1) := by decide +kernel
theorem dX9_debt_73 : decode cX9_debt 73 = .ok (.iaload, 1) := by decide +kernel
theorem dX9_debt_74 : decode cX9_debt 74 = .ok (.iaload, 1) := by decide +kernel
theorem dX9_debt_75 : decode cX9_debt 75 = .ok (.ireturn, 1) := by decide +kernel
theorem dX9_debt_76 : decode cX9_debt 76 = .ok (.iconst (-1), 1) := by decide +kernel
theorem dX9_debt_77 : decode cX9_debt 77 = .ok (.ireturn, 1) := by decide +kernel
def fX9_debt (u_debts : Int32) (u_owes : (Nat → Int32)) (u_debt : (Nat → Int32)) (x1 : Int32) (x2 : Int32) : Option Int32 := (fX9_within x1 0 (u_debts - 1)).bind (fun z1 => if z1 = 0 then (some (-1)) else (if x2 = 0 then (gA x1 30 (some ((u_debt (x1).toNatClampNeg) / 6))) else (if x2 = 1 then (gA x1 30 (some ((u_debt (x1).toNatClampNeg) - (u_debt (x1).toNatClampNeg) / 6 * 6))) else (if x2 = 2 then (gA x1 30 (gA (u_debt (x1).toNatClampNeg) 36 (some (u_owes (u_debt (x1).toNatClampNeg).toNatClampNeg)))) else (some (-1))))))
set_option maxRecDepth 20000 in
theorem CX9_debt (l : Launch) (D : va_G) (C : Nat → ClassId) (q_ q_owes q_denies q_debt q_cut q_sight q_event q_book q_text q_path q_ring q_balance q_left q_sum q_parts q_group q_payment q_then q_image q_tapeSort q_tapeSize q_items : Nat) (u_people : Int32) (u_debts : Int32) (u_cuts : Int32) (u_seen : Int32) (u_events : Int32) (u_inBook : Int32) (u_texted : Int32) (u_rule : Int32) (u_rings : Int32) (u_size : Int32) (u_least : Int32) (u_worth : Int64) (u_groups : Int32) (u_paid : Int32) (u_imaged : Int32) (u_owes : (Nat → Int32)) (u_debt : (Nat → Int32)) (x1 : Int32) (x2 : Int32) (z : Int32) (hF : fX9_debt u_debts u_owes u_debt x1 x2 = some z) : Ct l yX9_debt cX9_debt 3 (some .int) 2 D C [.ref q_, .int x1, .int x2] [(q_, .inr (9, [.int u_people, .ref q_owes, .ref q_denies, .int u_debts, .ref q_debt, .int u_cuts, .ref q_cut, .int u_seen, .ref q_sight, .int u_events, .ref q_event, .int u_inBook, .ref q_book, .int u_texted, .ref q_text, .ref q_path, .int u_rule, .int u_rings, .int u_size, .int u_least, .long u_worth, .ref q_ring, .ref q_balance, .ref q_left, .ref q_sum, .ref q_parts, .int u_groups, .ref q_group, .int u_paid, .ref q_payment, .ref q_then, .int u_imaged, .ref q_image, .ref q_tapeSort, .ref q_tapeSize, .ref q_items])), (q_owes, .inl (C 0, 36, .inl u_owes)), (q_debt, .inl (C 0, 30, .inl u_debt))] [(q_, .inr (9, [.int u_people, .ref q_owes, .ref q_denies, .int u_debts, .ref q_debt, .int u_cuts, .ref q_cut, .int u_seen, .ref q_sight, .int u_events, .ref q_event, .int u_inBook, .ref q_book, .int u_texted, .ref q_text, .ref q_path, .int u_rule, .int u_rings, .int u_size, .int u_least, .long u_worth, .ref q_ring, .ref q_balance, .ref q_left, .ref q_sum, .ref q_parts, .int u_groups, .ref q_group, .int u_paid, .ref q_payment, .ref q_then, .int u_imaged, .ref q_image, .ref q_tapeSort, .ref q_tapeSize, .ref q_items])), (q_owes, .inl (C 0, 36, .inl u_owes)), (q_debt, .inl (C 0, 30, .inl u_debt))] (some (.int z)) := by
  refine Ct_of (by decide) (Nat.le_of_ble_eq_true rfl) ?_
  intro p e R s m args below meth c A Q H locs ls cx hw hl hret
  have cx : CX p m c s args RX9 cX9_debt 3 D C A R 2 := cx
  have hx := cx.1
  have hb := cx.2.1
  have hl : lv_has ls 3 [(0, .ref q_), (1, .int x1), (2, .int x2)] := hl
  rw [fX9_debt.eq_1] at hF
  refine lv_iload_n hx hb dX9_debt_0 rfl (lv_at hl 1 rfl) ?_
  refine lv_iconst (v := 0) hx hb dX9_debt_1 (by decide) ?_
  refine lv_aload_n hx hb dX9_debt_2 rfl (lv_at hl 0 rfl) ?_
  refine r_get (ci := 9) (v := .int u_debts) cx hw iX9 0 3 rfl rfl (by decide) wf_X9_88 rfl dX9_debt_3 ?_
  refine lv_iconst (v := 1) hx hb dX9_debt_6 (by decide) ?_
  refine lv_isub hx hb dX9_debt_7 ?_
  obtain ⟨z1, hz1, hF⟩ := ob hF
  refine cS (wr := [(q_, .inr (9, [.int u_people, .ref q_owes, .ref q_denies, .int u_debts, .ref q_debt, .int u_cuts, .ref q_cut, .int u_seen, .ref q_sight, .int u_events, .ref q_event, .int u_inBook, .ref q_book, .int u_texted, .ref q_text, .ref q_path, .int u_rule, .int u_rings, .int u_size, .int u_least, .long u_worth, .ref q_ring, .ref q_balance, .ref q_left, .ref q_sum, .ref q_parts, .int u_groups, .ref q_group, .int u_paid, .ref q_payment, .ref q_then, .int u_imaged, .ref q_image, .ref q_tapeSort, .ref q_tapeSize, .ref q_items])), (q_owes, .inl (C 0, 36, .inl u_owes)), (q_debt, .inl (C 0, 30, .inl u_debt))]) (w2 := [(q_, .inr (9, [.int u_people, .ref q_owes, .ref q_denies, .int u_debts, .ref q_debt, .int u_cuts, .ref q_cut, .int u_seen, .ref q_sight, .int u_events, .ref q_event, .int u_inBook, .ref q_book, .int u_texted, .ref q_text, .ref q_path, .int u_rule, .int u_rings, .int u_size, .int u_least, .long u_worth, .ref q_ring, .ref q_balance, .ref q_left, .ref q_sum, .ref q_parts, .int u_groups, .ref q_group, .int u_paid, .ref q_payment, .ref q_then, .int u_imaged, .ref q_image, .ref q_tapeSort, .ref q_tapeSize, .ref q_items])), (q_owes, .inl (C 0, 36, .inl u_owes)), (q_debt, .inl (C 0, 30, .inl u_debt))]) (st2 := [.int z1]) cx (CX9_within l D C x1 0 (u_debts - 1) z1 hz1) lk_X9_80 my_X9_within ml_X9_within ⟨by decide, by decide⟩ hw [] [0, 1, 2] [0, 1, 2] rfl rfl (by decide) rfl rfl (Nat.le_of_ble_eq_true rfl) dX9_debt_8 rfl (fun H locs hw => ?_) hl.1
  refine lv_if_ne (tgt := 16) hx hb dX9_debt_11 (by decide) (fun c2 => ?_) (fun c2 => ?_)
  · replace hF := oi_f c2 hF
    refine lv_iload_n hx hb dX9_debt_16 rfl (lv_at hl 2 rfl) ?_
    by_cases c3 : x2 = 0
    · replace hF := oi_t c3 hF
      refine lv_tableIn (tgt := 44) (off := 27) hx hb dX9_debt_17 (by rw [c3]; decide) (by rw [c3]; decide) (by rw [c3]; decide +kernel) (by decide) ?_
      refine lv_aload_n hx hb dX9_debt_44 rfl (lv_at hl 0 rfl) ?_
      refine r_get (ci := 9) (v := .ref q_debt) cx hw iX9 0 4 rfl rfl (by decide) wf_X9_18 rfl dX9_debt_45 ?_
      refine lv_iload_n hx hb dX9_debt_48 rfl (lv_at hl 1 rfl) ?_
      obtain ⟨g4, hF⟩ := gA_s hF
      refine r_iald cx hw 2 rfl g4 dX9_debt_49 ?_
      refine lv_bipush (v := 6) hx hb dX9_debt_50 (by decide) ?_
      refine lv_idiv hx hb dX9_debt_52 (by decide) ?_
      obtain rfl := Option.some.inj hF
      exact rt_i hret hw rfl dX9_debt_53
    replace hF := oi_f c3 hF
    by_cases c6 : x2 = 1
    · replace hF := oi_t c6 hF
      refine lv_tableIn (tgt := 54) (off := 37) hx hb dX9_debt_17 (by rw [c6]; decide) (by rw [c6]; decide) (by rw [c6]; decide +kernel) (by decide) ?_
      refine lv_aload_n hx hb dX9_debt_54 rfl (lv_at hl 0 rfl) ?_
      refine r_get (ci := 9) (v := .ref q_debt) cx hw iX9 0 4 rfl rfl (by decide) wf_X9_18 rfl dX9_debt_55 ?_
      refine lv_iload_n hx hb dX9_debt_58 rfl (lv_at hl 1 rfl) ?_
      obtain ⟨g7, hF⟩ := gA_s hF
      refine r_iald cx hw 2 rfl g7 dX9_debt_59 ?_
      refine lv_bipush (v := 6) hx hb dX9_debt_60 (by decide) ?_
      refine lv_irem hx hb dX9_debt_62 (by decide) ?_
      obtain rfl := Option.some.inj hF
      exact rt_i hret hw rfl dX9_debt_63
    replace hF := oi_f c6 hF
    by_cases c9 : x2 = 2
    · replace hF := oi_t c9 hF
      refine lv_tableIn (tgt := 64) (off := 47) hx hb dX9_debt_17 (by rw [c9]; decide) (by rw [c9]; decide) (by rw [c9]; decide +kernel) (by decide) ?_
      refine lv_aload_n hx hb dX9_debt_64 rfl (lv_at hl 0 rfl) ?_
      refine r_get (ci := 9) (v := .ref q_owes) cx hw iX9 0 1 rfl rfl (by decide) wf_X9_9 rfl dX9_debt_65 ?_
      refine lv_aload_n hx hb dX9_debt_68 rfl (lv_at hl 0 rfl) ?_
      refine r_get (ci := 9) (v := .ref q_debt) cx hw iX9 0 4 rfl rfl (by decide) wf_X9_18 rfl dX9_debt_69 ?_
      refine lv_iload_n hx hb dX9_debt_72 rfl (lv_at hl 1 rfl) ?_
      obtain ⟨g10, hF⟩ := gA_s hF
      refine r_iald cx hw 2 rfl g10 dX9_debt_73 ?_
      obtain ⟨g11, hF⟩ := gA_s hF
      refine r_iald cx hw 1 rfl g11 dX9_debt_74 ?_
      obtain rfl := Option.some.inj hF
      exact rt_i hret hw rfl dX9_debt_75
    replace hF := oi_f c9 hF
    have t3 := ti_ne (n := 0) (by decide) c3
    have t6 := ti_ne (n := 1) (by decide) c6
    have t9 := ti_ne (n := 2) (by decide) c9
    refine lv_tableOut (tgt := 76) hx hb dX9_debt_17 (by omega) (by decide) ?_
    refine lv_iconst (v := (-1)) hx hb dX9_debt_76 (by decide) ?_
    obtain rfl := Option.some.inj hF
    exact rt_i hret hw rfl dX9_debt_77
  · replace hF := oi_t c2 hF
    refine lv_iconst (v := (-1)) hx hb dX9_debt_14 (by decide) ?_
    obtain rfl := Option.some.inj hF
    exact rt_i hret hw rfl dX9_debt_15
theorem wf_X9_103 : Cond.fieldLink RX9 103 (TX9 13).1 (TX9 13).2.1 (TX9 13).2.2.1 ∈ gdt := gdt_of 853 (by decide +kernel) (by decide +kernel)
theorem wf_X9_33 : Cond.fieldLink RX9 33 (TX9 14).1 (TX9 14).2.1 (TX9 14).2.2.1 ∈ gdt := gdt_of 854 (by decide +kernel) (by decide +kernel)
theorem dX9_feed_0 : decode cX9_feed 0 = .ok (.iload_n 1, 1) := by decide +kernel
theorem dX9_feed_1 : decode cX9_feed 1 = .ok (.iconst 0, 1) := by decide +kernel
theorem dX9_feed_2 : decode cX9_feed 2 = .ok (.bipush 127, 2) := by decide +kernel
theorem dX9_feed_4 : decode cX9_feed 4 = .ok (.invokestatic 80, 3) := by decide +kernel
theorem dX9_feed_7 : decode cX9_feed 7 = .ok (.ifCond .ne 6, 3) := by decide +kernel
theorem dX9_feed_10 : decode cX9_feed 10 = .ok (.bipush (-2), 2) := by decide +kernel
theorem dX9_feed_12 : decode cX9_feed 12 = .ok (.ireturn, 1) := by decide +kernel
theorem dX9_feed_13 : decode cX9_feed 13 = .ok (.aload_n 0, 1) := by decide +kernel
theorem dX9_feed_14 : decode cX9_feed 14 = .ok (.getfield 103, 3) := by decide +kernel
theorem dX9_feed_17 : decode cX9_feed 17 = .ok (.bipush 100, 2) := by decide +kernel
theorem dX9_feed_19 : decode cX9_feed 19 = .ok (.if_icmp .ne 6, 3) := by decide +kernel
theorem dX9_feed_22 : decode cX9_feed 22 = .ok (.bipush (-4), 2) := by decide +kernel
theorem dX9_feed_24 : decode cX9_feed 24 = .ok (.ireturn, 1) := by decide +kernel
theorem dX9_feed_25 : decode cX9_feed 25 = .ok (.aload_n 0, 1) := by decide +kernel
theorem dX9_feed_26 : decode cX9_feed 26 = .ok (.getfield 33, 3) := by decide +kernel
theorem dX9_feed_29 : decode cX9_feed 29 = .ok (.aload_n 0, 1) := by decide +kernel
theorem dX9_feed_30 : decode cX9_feed 30 = .ok (.dup, 1) := by decide +kernel
theorem dX9_feed_31 : decode cX9_feed 31 = .ok (.getfield 103, 3) := by decide +kernel
theorem dX9_feed_34 : decode cX9_feed 34 = .ok (.dup_x1, 1) := by decide +kernel
theorem dX9_feed_35 : decode cX9_feed 35 = .ok (.iconst 1, 1) := by decide +kernel
theorem dX9_feed_36 : decode cX9_feed 36 = .ok (.iadd, 1) := by decide +kernel
theorem dX9_feed_37 : decode cX9_feed 37 = .ok (.putfield 103, 3) := by decide +kernel
theorem dX9_feed_40 : decode cX9_feed 40 = .ok (.iload_n 1, 1) := by decide +kernel
theorem dX9_feed_41 : decode cX9_feed 41 = .ok (.iastore, 1) := by decide +kernel
theorem dX9_feed_42 : decode cX9_feed 42 = .ok (.aload_n 0, 1) := by decide +kernel
theorem dX9_feed_43 : decode cX9_feed 43 = .ok (.getfield 103, 3) := by decide +kernel
theorem dX9_feed_46 : decode cX9_feed 46 = .ok (.ireturn, 1) := by decide +kernel
def fX9_feed (u_texted : Int32) (u_text : (Nat → Int32)) (x1 : Int32) : Option (Int32 × Int32 × (Nat → Int32)) := (fX9_within x1 0 127).bind (fun z1 => if z1 = 0 then (some ((-2), u_texted, u_text)) else (if u_texted = 100 then (some ((-4), u_texted, u_text)) else (gA u_texted 100 (some (u_texted + 1, u_texted + 1, upd u_text (u_texted : Int32).toNatClampNeg x1)))))
set_option maxRecDepth 20000 in
theorem CX9_feed (l : Launch) (D : va_G) (C : Nat → ClassId) (q_ q_owes q_denies q_debt q_cut q_sight q_event q_book q_text q_path q_ring q_balance q_left q_sum q_parts q_group q_payment q_then q_image q_tapeSort q_tapeSize q_items : Nat) (u_people : Int32) (u_debts : Int32) (u_cuts : Int32) (u_seen : Int32) (u_events : Int32) (u_inBook : Int32) (u_texted : Int32) (u_rule : Int32) (u_rings : Int32) (u_size : Int32) (u_least : Int32) (u_worth : Int64) (u_groups : Int32) (u_paid : Int32) (u_imaged : Int32) (u_text : (Nat → Int32)) (x1 : Int32) (z : (Int32 × Int32 × (Nat → Int32))) (hF : fX9_feed u_texted u_text x1 = some z) : Ct l yX9_feed cX9_feed 2 (some .int) 2 D C [.ref q_, .int x1] [(q_, .inr (9, [.int u_people, .ref q_owes, .ref q_denies, .int u_debts, .ref q_debt, .int u_cuts, .ref q_cut, .int u_seen, .ref q_sight, .int u_events, .ref q_event, .int u_inBook, .ref q_book, .int u_texted, .ref q_text, .ref q_path, .int u_rule, .int u_rings, .int u_size, .int u_least, .long u_worth, .ref q_ring, .ref q_balance, .ref q_left, .ref q_sum, .ref q_parts, .int u_groups, .ref q_group, .int u_paid, .ref q_payment, .ref q_then, .int u_imaged, .ref q_image, .ref q_tapeSort, .ref q_tapeSize, .ref q_items])), (q_text, .inl (C 0, 100, .inl u_text))] [(q_, .inr (9, [.int u_people, .ref q_owes, .ref q_denies, .int u_debts, .ref q_debt, .int u_cuts, .ref q_cut, .int u_seen, .ref q_sight, .int u_events, .ref q_event, .int u_inBook, .ref q_book, .int z.2.1, .ref q_text, .ref q_path, .int u_rule, .int u_rings, .int u_size, .int u_least, .long u_worth, .ref q_ring, .ref q_balance, .ref q_left, .ref q_sum, .ref q_parts, .int u_groups, .ref q_group, .int u_paid, .ref q_payment, .ref q_then, .int u_imaged, .ref q_image, .ref q_tapeSort, .ref q_tapeSize, .ref q_items])), (q_text, .inl (C 0, 100, .inl z.2.2))] (some (.int z.1)) := by
  refine Ct_of (by decide) (Nat.le_of_ble_eq_true rfl) ?_
  intro p e R s m args below meth c A Q H locs ls cx hw hl hret
  have cx : CX p m c s args RX9 cX9_feed 2 D C A R 2 := cx
  have hx := cx.1
  have hb := cx.2.1
  have hl : lv_has ls 2 [(0, .ref q_), (1, .int x1)] := hl
  rw [fX9_feed.eq_1] at hF
  refine lv_iload_n hx hb dX9_feed_0 rfl (lv_at hl 1 rfl) ?_
  refine lv_iconst (v := 0) hx hb dX9_feed_1 (by decide) ?_
  refine lv_bipush (v := 127) hx hb dX9_feed_2 (by decide) ?_
  obtain ⟨z1, hz1, hF⟩ := ob hF
  refine cS (wr := [(q_, .inr (9, [.int u_people, .ref q_owes, .ref q_denies, .int u_debts, .ref q_debt, .int u_cuts, .ref q_cut, .int u_seen, .ref q_sight, .int u_events, .ref q_event, .int u_inBook, .ref q_book, .int u_texted, .ref q_text, .ref q_path, .int u_rule, .int u_rings, .int u_size, .int u_least, .long u_worth, .ref q_ring, .ref q_balance, .ref q_left, .ref q_sum, .ref q_parts, .int u_groups, .ref q_group, .int u_paid, .ref q_payment, .ref q_then, .int u_imaged, .ref q_image, .ref q_tapeSort, .ref q_tapeSize, .ref q_items])), (q_text, .inl (C 0, 100, .inl u_text))]) (w2 := [(q_, .inr (9, [.int u_people, .ref q_owes, .ref q_denies, .int u_debts, .ref q_debt, .int u_cuts, .ref q_cut, .int u_seen, .ref q_sight, .int u_events, .ref q_event, .int u_inBook, .ref q_book, .int u_texted, .ref q_text, .ref q_path, .int u_rule, .int u_rings, .int u_size, .int u_least, .long u_worth, .ref q_ring, .ref q_balance, .ref q_left, .ref q_sum, .ref q_parts, .int u_groups, .ref q_group, .int u_paid, .ref q_payment, .ref q_then, .int u_imaged, .ref q_image, .ref q_tapeSort, .ref q_tapeSize, .ref q_items])), (q_text, .inl (C 0, 100, .inl u_text))]) (st2 := [.int z1]) cx (CX9_within l D C x1 0 127 z1 hz1) lk_X9_80 my_X9_within ml_X9_within ⟨by decide, by decide⟩ hw [] [0, 1] [0, 1] rfl rfl (by decide) rfl rfl (Nat.le_of_ble_eq_true rfl) dX9_feed_4 rfl (fun H locs hw => ?_) hl.1
  refine lv_if_ne (tgt := 13) hx hb dX9_feed_7 (by decide) (fun c2 => ?_) (fun c2 => ?_)
  · replace hF := oi_f c2 hF
    refine lv_aload_n hx hb dX9_feed_13 rfl (lv_at hl 0 rfl) ?_
    refine r_get (ci := 9) (v := .int u_texted) cx hw iX9 0 13 rfl rfl (by decide) wf_X9_103 rfl dX9_feed_14 ?_
    refine lv_bipush (v := 100) hx hb dX9_feed_17 (by decide) ?_
    refine lv_icmp_ne (tgt := 25) hx hb dX9_feed_19 (by decide) (fun c3 => ?_) (fun c3 => ?_)
    · replace hF := oi_f c3 hF
      refine lv_aload_n hx hb dX9_feed_25 rfl (lv_at hl 0 rfl) ?_
      refine r_get (ci := 9) (v := .ref q_text) cx hw iX9 0 14 rfl rfl (by decide) wf_X9_33 rfl dX9_feed_26 ?_
      refine lv_aload_n hx hb dX9_feed_29 rfl (lv_at hl 0 rfl) ?_
      refine lv_dup hx hb dX9_feed_30 rfl ?_
      refine r_get (ci := 9) (v := .int u_texted) cx hw iX9 0 13 rfl rfl (by decide) wf_X9_103 rfl dX9_feed_31 ?_
      refine lv_dup_x1 hx hb dX9_feed_34 rfl rfl ?_
      refine lv_iconst (v := 1) hx hb dX9_feed_35 (by decide) ?_
      refine lv_iadd hx hb dX9_feed_36 ?_
      refine r_put (ci := 9) (w2 := [(q_, .inr (9, [.int u_people, .ref q_owes, .ref q_denies, .int u_debts, .ref q_debt, .int u_cuts, .ref q_cut, .int u_seen, .ref q_sight, .int u_events, .ref q_event, .int u_inBook, .ref q_book, .int (u_texted + 1), .ref q_text, .ref q_path, .int u_rule, .int u_rings, .int u_size, .int u_least, .long u_worth, .ref q_ring, .ref q_balance, .ref q_left, .ref q_sum, .ref q_parts, .int u_groups, .ref q_group, .int u_paid, .ref q_payment, .ref q_then, .int u_imaged, .ref q_image, .ref q_tapeSort, .ref q_tapeSize, .ref q_items])), (q_text, .inl (C 0, 100, .inl u_text))]) cx hw iX9 tyX9_ok nmX9 0 13 rfl rfl (by decide) wf_X9_103 rfl rfl rfl rfl (Nat.le_of_ble_eq_true rfl) dX9_feed_37 rfl (fun H locs hw => ?_)
      refine lv_iload_n hx hb dX9_feed_40 rfl (lv_at hl 1 rfl) ?_
      obtain ⟨g4, hF⟩ := gA_s hF
      refine r_iast (w2 := [(q_, .inr (9, [.int u_people, .ref q_owes, .ref q_denies, .int u_debts, .ref q_debt, .int u_cuts, .ref q_cut, .int u_seen, .ref q_sight, .int u_events, .ref q_event, .int u_inBook, .ref q_book, .int (u_texted + 1), .ref q_text, .ref q_path, .int u_rule, .int u_rings, .int u_size, .int u_least, .long u_worth, .ref q_ring, .ref q_balance, .ref q_left, .ref q_sum, .ref q_parts, .int u_groups, .ref q_group, .int u_paid, .ref q_payment, .ref q_then, .int u_imaged, .ref q_image, .ref q_tapeSort, .ref q_tapeSize, .ref q_items])), (q_text, .inl (C 0, 100, .inl (upd u_text (u_texted : Int32).toNatClampNeg x1)))]) cx hw 1 rfl g4 dX9_feed_41 rfl (fun H locs hw => ?_)
      refine lv_aload_n hx hb dX9_feed_42 rfl (lv_at hl 0 rfl) ?_
      refine r_get (ci := 9) (v := .int (u_texted + 1)) cx hw iX9 0 13 rfl rfl (by decide) wf_X9_103 rfl dX9_feed_43 ?_
      obtain rfl := Option.some.inj hF
      exact rt_i hret hw rfl dX9_feed_46
    · replace hF := oi_t c3 hF
      refine lv_bipush (v := (-4)) hx hb dX9_feed_22 (by decide) ?_
      obtain rfl := Option.some.inj hF
      exact rt_i hret hw rfl dX9_feed_24
  · replace hF := oi_t c2 hF
    refine lv_bipush (v := (-2)) hx hb dX9_feed_10 (by decide) ?_
    obtain rfl := Option.some.inj hF
    exact rt_i hret hw rfl dX9_feed_12
theorem dX9_isDigit_0 : decode cX9_isDigit 0 = .ok (.iload_n 1, 1) := by decide +kernel
theorem dX9_isDigit_1 : decode cX9_isDigit 1 = .ok (.aload_n 0, 1) := by decide +kernel
theorem dX9_isDigit_2 : decode cX9_isDigit 2 = .ok (.getfield 103, 3) := by decide +kernel
theorem dX9_isDigit_5 : decode cX9_isDigit 5 = .ok (.if_icmp .ge 23, 3) := by decide +kernel
theorem dX9_isDigit_8 : decode cX9_isDigit 8 = .ok (.aload_n 0, 1) := by decide +kernel
theorem dX9_isDigit_9 : decode cX9_isDigit 9 = .ok (.getfield 33, 3) := by decide +kernel
theorem dX9_isDigit_12 : decode cX9_isDigit 12 = .ok (.iload_n 1, 1) := by decide +kernel
theorem dX9_isDigit_13 : decode cX9_isDigit 13 = .ok (.iaload, 1) := by decide +kernel
theorem dX9_isDigit_14 : decode cX9_isDigit 14 = .ok (.bipush 48, 2) := by decide +kernel
theorem dX9_isDigit_16 : decode cX9_isDigit 16 = .ok (.bipush 57, 2) := by decide +kernel
theorem dX9_isDigit_18 : decode cX9_isDigit 18 = .ok (.invokestatic 80, 3) := by decide +kernel
theorem dX9_isDigit_21 : decode cX9_isDigit 21 = .ok (.ifCond .eq 7, 3) := by decide +kernel
theorem dX9_isDigit_24 : decode cX9_isDigit 24 = .ok (.iconst 1, 1) := by decide +kernel
theorem dX9_isDigit_25 : decode cX9_isDigit 25 = .ok (.goto 4, 3) := by decide +kernel
theorem dX9_isDigit_28 : decode cX9_isDigit 28 = .ok (.iconst 0, 1) := by decide +kernel
theorem dX9_isDigit_29 : decode cX9_isDigit 29 = .ok (.ireturn, 1) := by decide +kernel
def fX9_isDigit (u_texted : Int32) (u_text : (Nat → Int32)) (x1 : Int32) : Option Int32 := if u_texted ≤ x1 then (some 0) else (gA x1 100 ((fX9_within (u_text (x1).toNatClampNeg) 48 57).bind (fun z3 => if z3 = 0 then (some 0) else (some 1))))
set_option maxRecDepth 20000 in
theorem CX9_isDigit (l : Launch) (D : va_G) (C : Nat → ClassId) (q_ q_owes q_denies q_debt q_cut q_sight q_event q_book q_text q_path q_ring q_balance q_left q_sum q_parts q_group q_payment q_then q_image q_tapeSort q_tapeSize q_items : Nat) (u_people : Int32) (u_debts : Int32) (u_cuts : Int32) (u_seen : Int32) (u_events : Int32) (u_inBook : Int32) (u_texted : Int32) (u_rule : Int32) (u_rings : Int32) (u_size : Int32) (u_least : Int32) (u_worth : Int64) (u_groups : Int32) (u_paid : Int32) (u_imaged : Int32) (u_text : (Nat → Int32)) (x1 : Int32) (z : Int32) (hF : fX9_isDigit u_texted u_text x1 = some z) : Ct l yX9_isDigit cX9_isDigit 2 (some .boolean) 2 D C [.ref q_, .int x1] [(q_, .inr (9, [.int u_people, .ref q_owes, .ref q_denies, .int u_debts, .ref q_debt, .int u_cuts, .ref q_cut, .int u_seen, .ref q_sight, .int u_events, .ref q_event, .int u_inBook, .ref q_book, .int u_texted, .ref q_text, .ref q_path, .int u_rule, .int u_rings, .int u_size, .int u_least, .long u_worth, .ref q_ring, .ref q_balance, .ref q_left, .ref q_sum, .ref q_parts, .int u_groups, .ref q_group, .int u_paid, .ref q_payment, .ref q_then, .int u_imaged, .ref q_image, .ref q_tapeSort, .ref q_tapeSize, .ref q_items])), (q_text, .inl (C 0, 100, .inl u_text))] [(q_, .inr (9, [.int u_people, .ref q_owes, .ref q_denies, .int u_debts, .ref q_debt, .int u_cuts, .ref q_cut, .int u_seen, .ref q_sight, .int u_events, .ref q_event, .int u_inBook, .ref q_book, .int u_texted, .ref q_text, .ref q_path, .int u_rule, .int u_rings, .int u_size, .int u_least, .long u_worth, .ref q_ring, .ref q_balance, .ref q_left, .ref q_sum, .ref q_parts, .int u_groups, .ref q_group, .int u_paid, .ref q_payment, .ref q_then, .int u_imaged, .ref q_image, .ref q_tapeSort, .ref q_tapeSize, .ref q_items])), (q_text, .inl (C 0, 100, .inl u_text))] (some (.int z)) := by
  refine Ct_of (by decide) (Nat.le_of_ble_eq_true rfl) ?_
  intro p e R s m args below meth c A Q H locs ls cx hw hl hret
  have cx : CX p m c s args RX9 cX9_isDigit 2 D C A R 2 := cx
  have hx := cx.1
  have hb := cx.2.1
  have hl : lv_has ls 2 [(0, .ref q_), (1, .int x1)] := hl
  rw [fX9_isDigit.eq_1] at hF
  refine lv_iload_n hx hb dX9_isDigit_0 rfl (lv_at hl 1 rfl) ?_
  refine lv_aload_n hx hb dX9_isDigit_1 rfl (lv_at hl 0 rfl) ?_
  refine r_get (ci := 9) (v := .int u_texted) cx hw iX9 0 13 rfl rfl (by decide) wf_X9_103 rfl dX9_isDigit_2 ?_
  refine lv_icmp_ge (tgt := 28) hx hb dX9_isDigit_5 (by decide) (fun c1 => ?_) (fun c1 => ?_)
  · replace hF := oi_t c1 hF
    refine lv_iconst (v := 0) hx hb dX9_isDigit_28 (by decide) ?_
    obtain rfl := Option.some.inj hF
    exact rt_z hret hw rfl rfl dX9_isDigit_29
  · replace hF := oi_f c1 hF
    refine lv_aload_n hx hb dX9_isDigit_8 rfl (lv_at hl 0 rfl) ?_
    refine r_get (ci := 9) (v := .ref q_text) cx hw iX9 0 14 rfl rfl (by decide) wf_X9_33 rfl dX9_isDigit_9 ?_
    refine lv_iload_n hx hb dX9_isDigit_12 rfl (lv_at hl 1 rfl) ?_
    obtain ⟨g2, hF⟩ := gA_s hF
    refine r_iald cx hw 1 rfl g2 dX9_isDigit_13 ?_
    refine lv_bipush (v := 48) hx hb dX9_isDigit_14 (by decide) ?_
    refine lv_bipush (v := 57) hx hb dX9_isDigit_16 (by decide) ?_
    obtain ⟨z3, hz3, hF⟩ := ob hF
    refine cS (wr := [(q_, .inr (9, [.int u_people, .ref q_owes, .ref q_denies, .int u_debts, .ref q_debt, .int u_cuts, .ref q_cut, .int u_seen, .ref q_sight, .int u_events, .ref q_event, .int u_inBook, .ref q_book, .int u_texted, .ref q_text, .ref q_path, .int u_rule, .int u_rings, .int u_size, .int u_least, .long u_worth, .ref q_ring, .ref q_balance, .ref q_left, .ref q_sum, .ref q_parts, .int u_groups, .ref q_group, .int u_paid, .ref q_payment, .ref q_then, .int u_imaged, .ref q_image, .ref q_tapeSort, .ref q_tapeSize, .ref q_items])), (q_text, .inl (C 0, 100, .inl u_text))]) (w2 := [(q_, .inr (9, [.int u_people, .ref q_owes, .ref q_denies, .int u_debts, .ref q_debt, .int u_cuts, .ref q_cut, .int u_seen, .ref q_sight, .int u_events, .ref q_event, .int u_inBook, .ref q_book, .int u_texted, .ref q_text, .ref q_path, .int u_rule, .int u_rings, .int u_size, .int u_least, .long u_worth, .ref q_ring, .ref q_balance, .ref q_left, .ref q_sum, .ref q_parts, .int u_groups, .ref q_group, .int u_paid, .ref q_payment, .ref q_then, .int u_imaged, .ref q_image, .ref q_tapeSort, .ref q_tapeSize, .ref q_items])), (q_text, .inl (C 0, 100, .inl u_text))]) (st2 := [.int z3]) cx (CX9_within l D C (u_text (x1).toNatClampNeg) 48 57 z3 hz3) lk_X9_80 my_X9_within ml_X9_within ⟨by decide, by decide⟩ hw [] [0, 1] [0, 1] rfl rfl (by decide) rfl rfl (Nat.le_of_ble_eq_true rfl) dX9_isDigit_18 rfl (fun H locs hw => ?_) hl.1
    refine lv_if_eq (tgt := 28) hx hb dX9_isDigit_21 (by decide) (fun c4 => ?_) (fun c4 => ?_)
    · replace hF := oi_t c4 hF
      refine lv_iconst (v := 0) hx hb dX9_isDigit_28 (by decide) ?_
      obtain rfl := Option.some.inj hF
      exact rt_z hret hw rfl rfl dX9_isDigit_29
    · replace hF := oi_f c4 hF
      refine lv_iconst (v := 1) hx hb dX9_isDigit_24 (by decide) ?_
      refine lv_goto (tgt := 29) hx hb dX9_isDigit_25 (by decide) ?_
      obtain rfl := Option.some.inj hF
      exact rt_z hret hw rfl rfl dX9_isDigit_29
theorem dX9_digits_0 : decode cX9_digits 0 = .ok (.iload_n 0, 1) := by decide +kernel
theorem dX9_digits_1 : decode cX9_digits 1 = .ok (.lookupswitch 59 #[(99, 57), (110, 55), (111, 53), (112, 51), (121, 55)], 51) := by decide +kernel
theorem dX9_digits_52 : decode cX9_digits 52 = .ok (.iconst 0, 1) := by decide +kernel
theorem dX9_digits_53 : decode cX9_digits 53 = .ok (.ireturn, 1) := by decide +kernel
theorem dX9_digits_54 : decode cX9_digits 54 = .ok (.iconst 3, 1) := by decide +kernel
theorem dX9_digits_55 : decode cX9_digits 55 = .ok (.ireturn, 1) := by decide +kernel
theorem dX9_digits_56 : decode cX9_digits 56 = .ok (.iconst 2, 1) := by decide +kernel
theorem dX9_digits_57 : decode cX9_digits 57 = .ok (.ireturn, 1) := by decide +kernel
theorem dX9_digits_58 : decode cX9_digits 58 = .ok (.iconst 1, 1) := by decide +kernel
theorem dX9_digits_59 : decode cX9_digits 59 = .ok (.ireturn, 1) := by decide +kernel
theorem dX9_digits_60 : decode cX9_digits 60 = .ok (.iconst (-1), 1) := by decide +kernel
theorem dX9_digits_61 : decode cX9_digits 61 = .ok (.ireturn, 1) := by decide +kernel
def fX9_digits (x0 : Int32) : Option Int32 := if x0 = 99 then (some 1) else (if x0 = 110 then (some 2) else (if x0 = 111 then (some 3) else (if x0 = 112 then (some 0) else (if x0 = 121 then (some 2) else (some (-1))))))
set_option maxRecDepth 20000 in
theorem CX9_digits (l : Launch) (D : va_G) (C : Nat → ClassId)  (x0 : Int32) (z : Int32) (hF : fX9_digits x0 = some z) : Ct l yX9_digits cX9_digits 1 (some .int) 1 D C [.int x0] [] [] (some (.int z)) := by
  refine Ct_of (by decide) (Nat.le_of_ble_eq_true rfl) ?_
  intro p e R s m args below meth c A Q H locs ls cx hw hl hret
  have cx : CX p m c s args RX9 cX9_digits 1 D C A R 1 := cx
  have hx := cx.1
  have hb := cx.2.1
  have hl : lv_has ls 1 [(0, .int x0)] := hl
  rw [fX9_digits.eq_1] at hF
  refine lv_iload_n hx hb dX9_digits_0 rfl (lv_at hl 0 rfl) ?_
  by_cases c1 : x0 = 99
  · replace hF := oi_t c1 hF
    refine lv_lookup (tgt := 58) (off := 57) hx hb dX9_digits_1 (by decide) (by rw [c1]; decide +kernel) (by decide) ?_
    refine lv_iconst (v := 1) hx hb dX9_digits_58 (by decide) ?_
    obtain rfl := Option.some.inj hF
    exact rt_i hret hw rfl dX9_digits_59
  replace hF := oi_f c1 hF
  by_cases c2 : x0 = 110
  · replace hF := oi_t c2 hF
    refine lv_lookup (tgt := 56) (off := 55) hx hb dX9_digits_1 (by decide) (by rw [c2]; decide +kernel) (by decide) ?_
    refine lv_iconst (v := 2) hx hb dX9_digits_56 (by decide) ?_
    obtain rfl := Option.some.inj hF
    exact rt_i hret hw rfl dX9_digits_57
  replace hF := oi_f c2 hF
  by_cases c3 : x0 = 111
  · replace hF := oi_t c3 hF
    refine lv_lookup (tgt := 54) (off := 53) hx hb dX9_digits_1 (by decide) (by rw [c3]; decide +kernel) (by decide) ?_
    refine lv_iconst (v := 3) hx hb dX9_digits_54 (by decide) ?_
    obtain rfl := Option.some.inj hF
    exact rt_i hret hw rfl dX9_digits_55
  replace hF := oi_f c3 hF
  by_cases c4 : x0 = 112
  · replace hF := oi_t c4 hF
    refine lv_lookup (tgt := 52) (off := 51) hx hb dX9_digits_1 (by decide) (by rw [c4]; decide +kernel) (by decide) ?_
    refine lv_iconst (v := 0) hx hb dX9_digits_52 (by decide) ?_
    obtain rfl := Option.some.inj hF
    exact rt_i hret hw rfl dX9_digits_53
  replace hF := oi_f c4 hF
  by_cases c5 : x0 = 121
  · replace hF := oi_t c5 hF
    refine lv_lookup (tgt := 56) (off := 55) hx hb dX9_digits_1 (by decide) (by rw [c5]; decide +kernel) (by decide) ?_
    refine lv_iconst (v := 2) hx hb dX9_digits_56 (by decide) ?_
    obtain rfl := Option.some.inj hF
    exact rt_i hret hw rfl dX9_digits_57
  replace hF := oi_f c5 hF
  have t1 := ti_ne (n := 99) (by decide) c1
  have t2 := ti_ne (n := 110) (by decide) c2
  have t3 := ti_ne (n := 111) (by decide) c3
  have t4 := ti_ne (n := 112) (by decide) c4
  have t5 := ti_ne (n := 121) (by decide) c5
  refine lv_lookup (tgt := 60) (off := 59) hx hb dX9_digits_1 (by decide) (by simp only [Op.lookupswitch.offset]; repeat (first | rfl | rw [if_neg (fun h => by omega)])) (by decide) ?_
  refine lv_iconst (v := (-1)) hx hb dX9_digits_60 (by decide) ?_
  obtain rfl := Option.some.inj hF
  exact rt_i hret hw rfl dX9_digits_61
theorem lk_X9_109 : Cond.methodLink RX9 109 yX9_isDigit ∈ gdt := gdt_of 1011 (by decide +kernel) (by decide +kernel)
theorem lk_X9_106 : Cond.methodLink RX9 106 yX9_digits ∈ gdt := gdt_of 1008 (by decide +kernel) (by decide +kernel)
theorem my_X9_isDigit : (yX9_isDigit.cls ≠ "java/lang/invoke/MethodHandle" ∧ yX9_isDigit.cls ≠ "java/lang/invoke/VarHandle") ∧ Cond.instanceMethod yX9_isDigit ∈ gdt ∧ Cond.selects yX9_isDigit.cls yX9_isDigit yX9_isDigit ∈ gdt ∧ Cond.initialized yX9_isDigit.cls ∈ gdt ∧ Cond.code yX9_isDigit cX9_isDigit 2 (some .boolean) ∈ gdt := ⟨⟨by decide +kernel, by decide +kernel⟩, gdt_of 1013 (by decide +kernel) (by decide +kernel), gdt_of 38 (by decide +kernel) (by decide +kernel), gdt_of 77 (by decide +kernel) (by decide +kernel), gdt_of 1014 (by decide +kernel) (by decide +kernel)⟩
theorem ml_X9_isDigit : (parseMethodDescriptor yX9_isDigit.desc).map (fun d => d.parameters.length) = some 1 := by decide +kernel
theorem my_X9_digits : (yX9_digits.cls ≠ "java/lang/invoke/MethodHandle" ∧ yX9_digits.cls ≠ "java/lang/invoke/VarHandle") ∧ Cond.static yX9_digits ∈ gdt ∧ Cond.initialized yX9_digits.cls ∈ gdt ∧ Cond.code yX9_digits cX9_digits 1 (some .int) ∈ gdt := ⟨⟨by decide +kernel, by decide +kernel⟩, gdt_of 1009 (by decide +kernel) (by decide +kernel), gdt_of 77 (by decide +kernel) (by decide +kernel), gdt_of 1010 (by decide +kernel) (by decide +kernel)⟩
theorem ml_X9_digits : (parseMethodDescriptor yX9_digits.desc).map (fun d => d.parameters.length) = some 1 := by decide +kernel
theorem dX9_behind_0 : decode cX9_behind 0 = .ok (.iload_n 1, 1) := by decide +kernel
theorem dX9_behind_1 : decode cX9_behind 1 = .ok (.aload_n 0, 1) := by decide +kernel
theorem dX9_behind_2 : decode cX9_behind 2 = .ok (.getfield 103, 3) := by decide +kernel
theorem dX9_behind_5 : decode cX9_behind 5 = .ok (.if_icmp .ge 15, 3) := by decide +kernel
theorem dX9_behind_8 : decode cX9_behind 8 = .ok (.aload_n 0, 1) := by decide +kernel
theorem dX9_behind_9 : decode cX9_behind 9 = .ok (.getfield 33, 3) := by decide +kernel
theorem dX9_behind_12 : decode cX9_behind 12 = .ok (.iload_n 1, 1) := by decide +kernel
theorem dX9_behind_13 : decode cX9_behind 13 = .ok (.iaload, 1) := by decide +kernel
theorem dX9_behind_14 : decode cX9_behind 14 = .ok (.invokestatic 106, 3) := by decide +kernel
theorem dX9_behind_17 : decode cX9_behind 17 = .ok (.goto 4, 3) := by decide +kernel
theorem dX9_behind_20 : decode cX9_behind 20 = .ok (.iconst (-1), 1) := by decide +kernel
theorem dX9_behind_21 : decode cX9_behind 21 = .ok (.istore_n 2, 1) := by decide +kernel
theorem dX9_behind_22 : decode cX9_behind 22 = .ok (.iload_n 2, 1) := by decide +kernel
theorem dX9_behind_23 : decode cX9_behind 23 = .ok (.ifCond .ge 7, 3) := by decide +kernel
theorem dX9_behind_26 : decode cX9_behind 26 = .ok (.iconst (-1), 1) := by decide +kernel
theorem dX9_behind_27 : decode cX9_behind 27 = .ok (.iload_n 1, 1) := by decide +kernel
theorem dX9_behind_28 : decode cX9_behind 28 = .ok (.isub, 1) := by decide +kernel
theorem dX9_behind_29 : decode cX9_behind 29 = .ok (.ireturn, 1) := by decide +kernel
theorem dX9_behind_30 : decode cX9_behind 30 = .ok (.iload_n 1, 1) := by decide +kernel
theorem dX9_behind_31 : decode cX9_behind 31 = .ok (.iconst 1, 1) := by decide +kernel
theorem dX9_behind_32 : decode cX9_behind 32 = .ok (.iadd, 1) := by decide +kernel
theorem dX9_behind_33 : decode cX9_behind 33 = .ok (.istore_n 3, 1) := by decide +kernel
theorem dX9_behind_34 : decode cX9_behind 34 = .ok (.iconst 0, 1) := by decide +kernel
theorem dX9_behind_35 : decode cX9_behind 35 = .ok (.istore 4, 2) := by decide +kernel
theorem dX9_behind_37 : decode cX9_behind 37 = .ok (.iload 4, 2) := by decide +kernel
theorem dX9_behind_39 : decode cX9_behind 39 = .ok (.iload_n 2, 1) := by decide +kernel
theorem dX9_behind_40 : decode cX9_behind 40 = .ok (.if_icmp .ge 24, 3) := by decide +kernel
theorem dX9_behind_43 : decode cX9_behind 43 = .ok (.aload_n 0, 1) := by decide +kernel
theorem dX9_behind_44 : decode cX9_behind 44 = .ok (.iload_n 3, 1) := by decide +kernel
theorem dX9_behind_45 : decode cX9_behind 45 = .ok (.invokevirtual 109, 3) := by decide +kernel
theorem dX9_behind_48 : decode cX9_behind 48 = .ok (.ifCond .ne 7, 3) := by decide +kernel
theorem dX9_behind_51 : decode cX9_behind 51 = .ok (.iconst (-1), 1) := by decide +kernel
theorem dX9_behind_52 : decode cX9_behind 52 = .ok (.iload_n 3, 1) := by decide +kernel
theorem dX9_behind_53 : decode cX9_behind 53 = .ok (.isub, 1) := by decide +kernel
theorem dX9_behind_54 : decode cX9_behind 54 = .ok (.ireturn, 1) := by decide +kernel
theorem dX9_behind_55 : decode cX9_behind 55 = .ok (.iinc 4 1, 3) := by decide +kernel
theorem dX9_behind_58 : decode cX9_behind 58 = .ok (.iinc 3 1, 3) := by decide +kernel
theorem dX9_behind_61 : decode cX9_behind 61 = .ok (.goto (-24), 3) := by decide +kernel
theorem dX9_behind_64 : decode cX9_behind 64 = .ok (.iload_n 2, 1) := by decide +kernel
theorem dX9_behind_65 : decode cX9_behind 65 = .ok (.iconst 3, 1) := by decide +kernel
theorem dX9_behind_66 : decode cX9_behind 66 = .ok (.if_icmp .ne 17, 3) := by decide +kernel
theorem dX9_behind_69 : decode cX9_behind 69 = .ok (.aload_n 0, 1) := by decide +kernel
theorem dX9_behind_70 : decode cX9_behind 70 = .ok (.iload_n 3, 1) := by decide +kernel
theorem dX9_behind_71 : decode cX9_behind 71 = .ok (.invokevirtual 109, 3) := by decide +kernel
theorem dX9_behind_74 : decode cX9_behind 74 = .ok (.ifCond .eq 9, 3) := by decide +kernel
theorem dX9_behind_77 : decode cX9_behind 77 = .ok (.iload_n 3, 1) := by decide +kernel
theorem dX9_behind_78 : decode cX9_behind 78 = .ok (.iconst 1, 1) := by decide +kernel
theorem dX9_behind_79 : decode cX9_behind 79 = .ok (.iadd, 1) := by decide +kernel
theorem dX9_behind_80 : decode cX9_behind 80 = .ok (.goto 4, 3) := by decide +kernel
theorem dX9_behind_83 : decode cX9_behind 83 = .ok (.iload_n 3, 1) := by decide +kernel
theorem dX9_behind_84 : decode cX9_behind 84 = .ok (.ireturn, 1) := by decide +kernel
def fX9_behind_L37 (k64 : Int32 → Option Int32) (u_texted : Int32) (u_text : (Nat → Int32)) (x2 : Int32) : Nat → Int32 → Int32 → Option Int32
  | 0, _, _ => none
  | n + 1, x3, x4 => if x2 ≤ x4 then (k64 x3) else ((fX9_isDigit u_texted u_text x3).bind (fun z4 => if z4 = 0 then (some ((-1) - x3)) else (fX9_behind_L37 k64 u_texted u_text x2 n (x3 + 1) (x4 + 1))))
def fX9_behind (u_texted : Int32) (u_text : (Nat → Int32)) (x1 : Int32) : Option Int32 := if u_texted ≤ x1 then (if 0 ≤ ((-1) : Int32) then (fX9_behind_L37 (fun (x3_6 : Int32) => if ((-1) : Int32) = 3 then ((fX9_isDigit u_texted u_text x3_6).bind (fun z8 => if z8 = 0 then (some x3_6) else (some (x3_6 + 1)))) else (some x3_6)) u_texted u_text (-1) 400 (x1 + 1) 0) else (some ((-1) - x1))) else (gA x1 100 ((fX9_digits (u_text (x1).toNatClampNeg)).bind (fun z11 => if 0 ≤ z11 then (fX9_behind_L37 (fun (x3_13 : Int32) => if z11 = 3 then ((fX9_isDigit u_texted u_text x3_13).bind (fun z15 => if z15 = 0 then (some x3_13) else (some (x3_13 + 1)))) else (some x3_13)) u_texted u_text z11 400 (x1 + 1) 0) else (some ((-1) - x1)))))
set_option maxRecDepth 20000 in
theorem LX9_behind_37 {p : Program} {l : Launch} {e : Env} {R : Room} {s : State} {m : MethodId} {args : Array Value} {below : List Frame} {meth : Method} {c : Code} {Q : State → Prop} {D : va_G} {C : Nat → ClassId} {A : Nat → Prop} (cx : CX p m c s args RX9 cX9_behind 5 D C A R 3) {q_ q_owes q_denies q_debt q_cut q_sight q_event q_book q_text q_path q_ring q_balance q_left q_sum q_parts q_group q_payment q_then q_image q_tapeSort q_tapeSize q_items : Nat} {u_people : Int32} {u_debts : Int32} {u_cuts : Int32} {u_seen : Int32} {u_events : Int32} {u_inBook : Int32} {u_texted : Int32} {u_rule : Int32} {u_rings : Int32} {u_size : Int32} {u_least : Int32} {u_worth : Int64} {u_groups : Int32} {u_paid : Int32} {u_imaged : Int32} {u_text : (Nat → Int32)} {x2 : Int32} {z : Int32} (hret : RT p l e R s m args below meth c Q D A cX9_behind (some .int) [(q_, .inr (9, [.int u_people, .ref q_owes, .ref q_denies, .int u_debts, .ref q_debt, .int u_cuts, .ref q_cut, .int u_seen, .ref q_sight, .int u_events, .ref q_event, .int u_inBook, .ref q_book, .int u_texted, .ref q_text, .ref q_path, .int u_rule, .int u_rings, .int u_size, .int u_least, .long u_worth, .ref q_ring, .ref q_balance, .ref q_left, .ref q_sum, .ref q_parts, .int u_groups, .ref q_group, .int u_paid, .ref q_payment, .ref q_then, .int u_imaged, .ref q_image, .ref q_tapeSort, .ref q_tapeSize, .ref q_items])), (q_text, .inl (C 0, 100, .inl u_text))] (some (.int z))) {k64 : Int32 → Option Int32} (hk64 : ∀ (x3 : Int32) (H : Heap) (locs : List Loc) (ls : Array Slot), k64 x3 = some z → HW D A s.heap H locs [(q_, .inr (9, [.int u_people, .ref q_owes, .ref q_denies, .int u_debts, .ref q_debt, .int u_cuts, .ref q_cut, .int u_seen, .ref q_sight, .int u_events, .ref q_event, .int u_inBook, .ref q_book, .int u_texted, .ref q_text, .ref q_path, .int u_rule, .int u_rings, .int u_size, .int u_least, .long u_worth, .ref q_ring, .ref q_balance, .ref q_left, .ref q_sum, .ref q_parts, .int u_groups, .ref q_group, .int u_paid, .ref q_payment, .ref q_then, .int u_imaged, .ref q_image, .ref q_tapeSort, .ref q_tapeSize, .ref q_items])), (q_text, .inl (C 0, 100, .inl u_text))] → lv_has ls 5 [(0, .ref q_), (2, .int x2), (3, .int x3)] → W p l e R s m args below meth c H locs 0 0 Q (F0 m 64 ls [])) :
    ∀ (n : Nat) (x3 : Int32) (x4 : Int32) (H : Heap) (locs : List Loc) (ls : Array Slot), fX9_behind_L37 k64 u_texted u_text x2 n x3 x4 = some z → HW D A s.heap H locs [(q_, .inr (9, [.int u_people, .ref q_owes, .ref q_denies, .int u_debts, .ref q_debt, .int u_cuts, .ref q_cut, .int u_seen, .ref q_sight, .int u_events, .ref q_event, .int u_inBook, .ref q_book, .int u_texted, .ref q_text, .ref q_path, .int u_rule, .int u_rings, .int u_size, .int u_least, .long u_worth, .ref q_ring, .ref q_balance, .ref q_left, .ref q_sum, .ref q_parts, .int u_groups, .ref q_group, .int u_paid, .ref q_payment, .ref q_then, .int u_imaged, .ref q_image, .ref q_tapeSort, .ref q_tapeSize, .ref q_items])), (q_text, .inl (C 0, 100, .inl u_text))] → lv_has ls 5 [(0, .ref q_), (2, .int x2), (3, .int x3), (4, .int x4)] → W p l e R s m args below meth c H locs 0 0 Q (F0 m 37 ls []) := by
  have hx := cx.1
  have hb := cx.2.1
  intro n
  induction n with
  | zero => intro x3 x4 H locs ls hF; cases hF
  | succ n ih =>
    intro x3 x4 H locs ls hF hw hl
    rw [fX9_behind_L37.eq_2] at hF
    refine lv_iload hx hb dX9_behind_37 (lv_at hl 3 rfl) ?_
    refine lv_iload_n hx hb dX9_behind_39 rfl (lv_at hl 1 rfl) ?_
    refine lv_icmp_ge (tgt := 64) hx hb dX9_behind_40 (by decide) (fun c3 => ?_) (fun c3 => ?_)
    · replace hF := oi_t c3 hF
      exact hk64 x3 H locs ls hF hw (lv_sub hl [0, 1, 2] rfl)
    · replace hF := oi_f c3 hF
      refine lv_aload_n hx hb dX9_behind_43 rfl (lv_at hl 0 rfl) ?_
      refine lv_iload_n hx hb dX9_behind_44 rfl (lv_at hl 2 rfl) ?_
      obtain ⟨z4, hz4, hF⟩ := ob hF
      refine cV (wr := []) (w2 := [(q_, .inr (9, [.int u_people, .ref q_owes, .ref q_denies, .int u_debts, .ref q_debt, .int u_cuts, .ref q_cut, .int u_seen, .ref q_sight, .int u_events, .ref q_event, .int u_inBook, .ref q_book, .int u_texted, .ref q_text, .ref q_path, .int u_rule, .int u_rings, .int u_size, .int u_least, .long u_worth, .ref q_ring, .ref q_balance, .ref q_left, .ref q_sum, .ref q_parts, .int u_groups, .ref q_group, .int u_paid, .ref q_payment, .ref q_then, .int u_imaged, .ref q_image, .ref q_tapeSort, .ref q_tapeSize, .ref q_items])), (q_text, .inl (C 0, 100, .inl u_text))]) (st2 := [.int z4]) cx (CX9_isDigit l D C q_ q_owes q_denies q_debt q_cut q_sight q_event q_book q_text q_path q_ring q_balance q_left q_sum q_parts q_group q_payment q_then q_image q_tapeSort q_tapeSize q_items u_people u_debts u_cuts u_seen u_events u_inBook u_texted u_rule u_rings u_size u_least u_worth u_groups u_paid u_imaged u_text x3 z4 hz4) lk_X9_109 my_X9_isDigit ml_X9_isDigit ⟨by decide, by decide⟩ hw [0, 1] [] [0, 1] rfl rfl (by decide) rfl rfl rfl rfl (Nat.le_of_ble_eq_true rfl) dX9_behind_45 rfl (fun H locs hw => ?_) hl.1
      refine lv_if_ne (tgt := 55) hx hb dX9_behind_48 (by decide) (fun c5 => ?_) (fun c5 => ?_)
      · replace hF := oi_f c5 hF
        refine lv_iinc (v := x4 + 1) (lv' := [(4, .int (x4 + 1)), (0, .ref q_), (2, .int x2), (3, .int x3)]) hx hb dX9_behind_55 hl (k := 3) rfl rfl (by decide) rfl (fun ls hl => ?_)
        refine lv_iinc (v := x3 + 1) (lv' := [(3, .int (x3 + 1)), (4, .int (x4 + 1)), (0, .ref q_), (2, .int x2)]) hx hb dX9_behind_58 hl (k := 3) rfl rfl (by decide) rfl (fun ls hl => ?_)
        refine lv_goto (tgt := 37) hx hb dX9_behind_61 (by decide) ?_
        exact ih (x3 + 1) (x4 + 1) H locs ls hF hw (lv_sub hl [2, 3, 0, 1] rfl)
      · replace hF := oi_t c5 hF
        refine lv_iconst (v := (-1)) hx hb dX9_behind_51 (by decide) ?_
        refine lv_iload_n hx hb dX9_behind_52 rfl (lv_at hl 2 rfl) ?_
        refine lv_isub hx hb dX9_behind_53 ?_
        obtain rfl := Option.some.inj hF
        exact rt_i hret hw rfl dX9_behind_54
set_option maxRecDepth 20000 in
theorem CX9_behind (l : Launch) (D : va_G) (C : Nat → ClassId) (q_ q_owes q_denies q_debt q_cut q_sight q_event q_book q_text q_path q_ring q_balance q_left q_sum q_parts q_group q_payment q_then q_image q_tapeSort q_tapeSize q_items : Nat) (u_people : Int32) (u_debts : Int32) (u_cuts : Int32) (u_seen : Int32) (u_events : Int32) (u_inBook : Int32) (u_texted : Int32) (u_rule : Int32) (u_rings : Int32) (u_size : Int32) (u_least : Int32) (u_worth : Int64) (u_groups : Int32) (u_paid : Int32) (u_imaged : Int32) (u_text : (Nat → Int32)) (x1 : Int32) (z : Int32) (hF : fX9_behind u_texted u_text x1 = some z) : Ct l yX9_behind cX9_behind 5 (some .int) 3 D C [.ref q_, .int x1] [(q_, .inr (9, [.int u_people, .ref q_owes, .ref q_denies, .int u_debts, .ref q_debt, .int u_cuts, .ref q_cut, .int u_seen, .ref q_sight, .int u_events, .ref q_event, .int u_inBook, .ref q_book, .int u_texted, .ref q_text, .ref q_path, .int u_rule, .int u_rings, .int u_size, .int u_least, .long u_worth, .ref q_ring, .ref q_balance, .ref q_left, .ref q_sum, .ref q_parts, .int u_groups, .ref q_group, .int u_paid, .ref q_payment, .ref q_then, .int u_imaged, .ref q_image, .ref q_tapeSort, .ref q_tapeSize, .ref q_items])), (q_text, .inl (C 0, 100, .inl u_text))] [(q_, .inr (9, [.int u_people, .ref q_owes, .ref q_denies, .int u_debts, .ref q_debt, .int u_cuts, .ref q_cut, .int u_seen, .ref q_sight, .int u_events, .ref q_event, .int u_inBook, .ref q_book, .int u_texted, .ref q_text, .ref q_path, .int u_rule, .int u_rings, .int u_size, .int u_least, .long u_worth, .ref q_ring, .ref q_balance, .ref q_left, .ref q_sum, .ref q_parts, .int u_groups, .ref q_group, .int u_paid, .ref q_payment, .ref q_then, .int u_imaged, .ref q_image, .ref q_tapeSort, .ref q_tapeSize, .ref q_items])), (q_text, .inl (C 0, 100, .inl u_text))] (some (.int z)) := by
  refine Ct_of (by decide) (Nat.le_of_ble_eq_true rfl) ?_
  intro p e R s m args below meth c A Q H locs ls cx hw hl hret
  have cx : CX p m c s args RX9 cX9_behind 5 D C A R 3 := cx
  have hx := cx.1
  have hb := cx.2.1
  have hl : lv_has ls 5 [(0, .ref q_), (1, .int x1)] := hl
  rw [fX9_behind.eq_1] at hF
  refine lv_iload_n hx hb dX9_behind_0 rfl (lv_at hl 1 rfl) ?_
  refine lv_aload_n hx hb dX9_behind_1 rfl (lv_at hl 0 rfl) ?_
  refine r_get (ci := 9) (v := .int u_texted) cx hw iX9 0 13 rfl rfl (by decide) wf_X9_103 rfl dX9_behind_2 ?_
  refine lv_icmp_ge (tgt := 20) hx hb dX9_behind_5 (by decide) (fun c1 => ?_) (fun c1 => ?_)
  · replace hF := oi_t c1 hF
    refine lv_iconst (v := (-1)) hx hb dX9_behind_20 (by decide) ?_
    refine lv_istore_n (lv' := [(2, .int (-1)), (0, .ref q_), (1, .int x1)]) hx hb dX9_behind_21 rfl hl (by decide) rfl (fun ls hl => ?_)
    refine lv_iload_n hx hb dX9_behind_22 rfl (lv_at hl 0 rfl) ?_
    refine lv_if_ge (tgt := 30) hx hb dX9_behind_23 (by decide) (fun c2 => ?_) (fun c2 => ?_)
    · replace hF := oi_t c2 hF
      refine lv_iload_n hx hb dX9_behind_30 rfl (lv_at hl 2 rfl) ?_
      refine lv_iconst (v := 1) hx hb dX9_behind_31 (by decide) ?_
      refine lv_iadd hx hb dX9_behind_32 ?_
      refine lv_istore_n (lv' := [(3, .int (x1 + 1)), (2, .int (-1)), (0, .ref q_), (1, .int x1)]) hx hb dX9_behind_33 rfl hl (by decide) rfl (fun ls hl => ?_)
      refine lv_iconst (v := 0) hx hb dX9_behind_34 (by decide) ?_
      refine lv_istore (lv' := [(4, .int 0), (3, .int (x1 + 1)), (2, .int (-1)), (0, .ref q_), (1, .int x1)]) hx hb dX9_behind_35 hl (by decide) rfl (fun ls hl => ?_)
      refine LX9_behind_37 cx hret (fun x3_6 H locs ls hF hw hl => ?_) 400 (x1 + 1) 0 H locs ls hF hw (lv_sub hl [3, 2, 1, 0] rfl)
      · refine lv_iload_n hx hb dX9_behind_64 rfl (lv_at hl 1 rfl) ?_
        refine lv_iconst (v := 3) hx hb dX9_behind_65 (by decide) ?_
        refine lv_icmp_ne (tgt := 83) hx hb dX9_behind_66 (by decide) (fun c7 => ?_) (fun c7 => ?_)
        · replace hF := oi_f c7 hF
          refine lv_iload_n hx hb dX9_behind_83 rfl (lv_at hl 2 rfl) ?_
          obtain rfl := Option.some.inj hF
          exact rt_i hret hw rfl dX9_behind_84
        · replace hF := oi_t c7 hF
          refine lv_aload_n hx hb dX9_behind_69 rfl (lv_at hl 0 rfl) ?_
          refine lv_iload_n hx hb dX9_behind_70 rfl (lv_at hl 2 rfl) ?_
          obtain ⟨z8, hz8, hF⟩ := ob hF
          refine cV (wr := []) (w2 := [(q_, .inr (9, [.int u_people, .ref q_owes, .ref q_denies, .int u_debts, .ref q_debt, .int u_cuts, .ref q_cut, .int u_seen, .ref q_sight, .int u_events, .ref q_event, .int u_inBook, .ref q_book, .int u_texted, .ref q_text, .ref q_path, .int u_rule, .int u_rings, .int u_size, .int u_least, .long u_worth, .ref q_ring, .ref q_balance, .ref q_left, .ref q_sum, .ref q_parts, .int u_groups, .ref q_group, .int u_paid, .ref q_payment, .ref q_then, .int u_imaged, .ref q_image, .ref q_tapeSort, .ref q_tapeSize, .ref q_items])), (q_text, .inl (C 0, 100, .inl u_text))]) (st2 := [.int z8]) cx (CX9_isDigit l D C q_ q_owes q_denies q_debt q_cut q_sight q_event q_book q_text q_path q_ring q_balance q_left q_sum q_parts q_group q_payment q_then q_image q_tapeSort q_tapeSize q_items u_people u_debts u_cuts u_seen u_events u_inBook u_texted u_rule u_rings u_size u_least u_worth u_groups u_paid u_imaged u_text x3_6 z8 hz8) lk_X9_109 my_X9_isDigit ml_X9_isDigit ⟨by decide, by decide⟩ hw [0, 1] [] [0, 1] rfl rfl (by decide) rfl rfl rfl rfl (Nat.le_of_ble_eq_true rfl) dX9_behind_71 rfl (fun H locs hw => ?_) hl.1
          refine lv_if_eq (tgt := 83) hx hb dX9_behind_74 (by decide) (fun c9 => ?_) (fun c9 => ?_)
          · replace hF := oi_t c9 hF
            refine lv_iload_n hx hb dX9_behind_83 rfl (lv_at hl 2 rfl) ?_
            obtain rfl := Option.some.inj hF
            exact rt_i hret hw rfl dX9_behind_84
          · replace hF := oi_f c9 hF
            refine lv_iload_n hx hb dX9_behind_77 rfl (lv_at hl 2 rfl) ?_
            refine lv_iconst (v := 1) hx hb dX9_behind_78 (by decide) ?_
            refine lv_iadd hx hb dX9_behind_79 ?_
            refine lv_goto (tgt := 84) hx hb dX9_behind_80 (by decide) ?_
            obtain rfl := Option.some.inj hF
            exact rt_i hret hw rfl dX9_behind_84
    · replace hF := oi_f c2 hF
      refine lv_iconst (v := (-1)) hx hb dX9_behind_26 (by decide) ?_
      refine lv_iload_n hx hb dX9_behind_27 rfl (lv_at hl 2 rfl) ?_
      refine lv_isub hx hb dX9_behind_28 ?_
      obtain rfl := Option.some.inj hF
      exact rt_i hret hw rfl dX9_behind_29
  · replace hF := oi_f c1 hF
    refine lv_aload_n hx hb dX9_behind_8 rfl (lv_at hl 0 rfl) ?_
    refine r_get (ci := 9) (v := .ref q_text) cx hw iX9 0 14 rfl rfl (by decide) wf_X9_33 rfl dX9_behind_9 ?_
    refine lv_iload_n hx hb dX9_behind_12 rfl (lv_at hl 1 rfl) ?_
    obtain ⟨g10, hF⟩ := gA_s hF
    refine r_iald cx hw 1 rfl g10 dX9_behind_13 ?_
    obtain ⟨z11, hz11, hF⟩ := ob hF
    refine cS (wr := [(q_, .inr (9, [.int u_people, .ref q_owes, .ref q_denies, .int u_debts, .ref q_debt, .int u_cuts, .ref q_cut, .int u_seen, .ref q_sight, .int u_events, .ref q_event, .int u_inBook, .ref q_book, .int u_texted, .ref q_text, .ref q_path, .int u_rule, .int u_rings, .int u_size, .int u_least, .long u_worth, .ref q_ring, .ref q_balance, .ref q_left, .ref q_sum, .ref q_parts, .int u_groups, .ref q_group, .int u_paid, .ref q_payment, .ref q_then, .int u_imaged, .ref q_image, .ref q_tapeSort, .ref q_tapeSize, .ref q_items])), (q_text, .inl (C 0, 100, .inl u_text))]) (w2 := [(q_, .inr (9, [.int u_people, .ref q_owes, .ref q_denies, .int u_debts, .ref q_debt, .int u_cuts, .ref q_cut, .int u_seen, .ref q_sight, .int u_events, .ref q_event, .int u_inBook, .ref q_book, .int u_texted, .ref q_text, .ref q_path, .int u_rule, .int u_rings, .int u_size, .int u_least, .long u_worth, .ref q_ring, .ref q_balance, .ref q_left, .ref q_sum, .ref q_parts, .int u_groups, .ref q_group, .int u_paid, .ref q_payment, .ref q_then, .int u_imaged, .ref q_image, .ref q_tapeSort, .ref q_tapeSize, .ref q_items])), (q_text, .inl (C 0, 100, .inl u_text))]) (st2 := [.int z11]) cx (CX9_digits l D C (u_text (x1).toNatClampNeg) z11 hz11) lk_X9_106 my_X9_digits ml_X9_digits ⟨by decide, by decide⟩ hw [] [0, 1] [0, 1] rfl rfl (by decide) rfl rfl (Nat.le_of_ble_eq_true rfl) dX9_behind_14 rfl (fun H locs hw => ?_) hl.1
    refine lv_goto (tgt := 21) hx hb dX9_behind_17 (by decide) ?_
    refine lv_istore_n (lv' := [(2, .int z11), (0, .ref q_), (1, .int x1)]) hx hb dX9_behind_21 rfl hl (by decide) rfl (fun ls hl => ?_)
    refine lv_iload_n hx hb dX9_behind_22 rfl (lv_at hl 0 rfl) ?_
    refine lv_if_ge (tgt := 30) hx hb dX9_behind_23 (by decide) (fun c12 => ?_) (fun c12 => ?_)
    · replace hF := oi_t c12 hF
      refine lv_iload_n hx hb dX9_behind_30 rfl (lv_at hl 2 rfl) ?_
      refine lv_iconst (v := 1) hx hb dX9_behind_31 (by decide) ?_
      refine lv_iadd hx hb dX9_behind_32 ?_
      refine lv_istore_n (lv' := [(3, .int (x1 + 1)), (2, .int z11), (0, .ref q_), (1, .int x1)]) hx hb dX9_behind_33 rfl hl (by decide) rfl (fun ls hl => ?_)
      refine lv_iconst (v := 0) hx hb dX9_behind_34 (by decide) ?_
      refine lv_istore (lv' := [(4, .int 0), (3, .int (x1 + 1)), (2, .int z11), (0, .ref q_), (1, .int x1)]) hx hb dX9_behind_35 hl (by decide) rfl (fun ls hl => ?_)
      refine LX9_behind_37 cx hret (fun x3_13 H locs ls hF hw hl => ?_) 400 (x1 + 1) 0 H locs ls hF hw (lv_sub hl [3, 2, 1, 0] rfl)
      · refine lv_iload_n hx hb dX9_behind_64 rfl (lv_at hl 1 rfl) ?_
        refine lv_iconst (v := 3) hx hb dX9_behind_65 (by decide) ?_
        refine lv_icmp_ne (tgt := 83) hx hb dX9_behind_66 (by decide) (fun c14 => ?_) (fun c14 => ?_)
        · replace hF := oi_f c14 hF
          refine lv_iload_n hx hb dX9_behind_83 rfl (lv_at hl 2 rfl) ?_
          obtain rfl := Option.some.inj hF
          exact rt_i hret hw rfl dX9_behind_84
        · replace hF := oi_t c14 hF
          refine lv_aload_n hx hb dX9_behind_69 rfl (lv_at hl 0 rfl) ?_
          refine lv_iload_n hx hb dX9_behind_70 rfl (lv_at hl 2 rfl) ?_
          obtain ⟨z15, hz15, hF⟩ := ob hF
          refine cV (wr := []) (w2 := [(q_, .inr (9, [.int u_people, .ref q_owes, .ref q_denies, .int u_debts, .ref q_debt, .int u_cuts, .ref q_cut, .int u_seen, .ref q_sight, .int u_events, .ref q_event, .int u_inBook, .ref q_book, .int u_texted, .ref q_text, .ref q_path, .int u_rule, .int u_rings, .int u_size, .int u_least, .long u_worth, .ref q_ring, .ref q_balance, .ref q_left, .ref q_sum, .ref q_parts, .int u_groups, .ref q_group, .int u_paid, .ref q_payment, .ref q_then, .int u_imaged, .ref q_image, .ref q_tapeSort, .ref q_tapeSize, .ref q_items])), (q_text, .inl (C 0, 100, .inl u_text))]) (st2 := [.int z15]) cx (CX9_isDigit l D C q_ q_owes q_denies q_debt q_cut q_sight q_event q_book q_text q_path q_ring q_balance q_left q_sum q_parts q_group q_payment q_then q_image q_tapeSort q_tapeSize q_items u_people u_debts u_cuts u_seen u_events u_inBook u_texted u_rule u_rings u_size u_least u_worth u_groups u_paid u_imaged u_text x3_13 z15 hz15) lk_X9_109 my_X9_isDigit ml_X9_isDigit ⟨by decide, by decide⟩ hw [0, 1] [] [0, 1] rfl rfl (by decide) rfl rfl rfl rfl (Nat.le_of_ble_eq_true rfl) dX9_behind_71 rfl (fun H locs hw => ?_) hl.1
          refine lv_if_eq (tgt := 83) hx hb dX9_behind_74 (by decide) (fun c16 => ?_) (fun c16 => ?_)
          · replace hF := oi_t c16 hF
            refine lv_iload_n hx hb dX9_behind_83 rfl (lv_at hl 2 rfl) ?_
            obtain rfl := Option.some.inj hF
            exact rt_i hret hw rfl dX9_behind_84
          · replace hF := oi_f c16 hF
            refine lv_iload_n hx hb dX9_behind_77 rfl (lv_at hl 2 rfl) ?_
            refine lv_iconst (v := 1) hx hb dX9_behind_78 (by decide) ?_
            refine lv_iadd hx hb dX9_behind_79 ?_
            refine lv_goto (tgt := 84) hx hb dX9_behind_80 (by decide) ?_
            obtain rfl := Option.some.inj hF
            exact rt_i hret hw rfl dX9_behind_84
    · replace hF := oi_f c12 hF
      refine lv_iconst (v := (-1)) hx hb dX9_behind_26 (by decide) ?_
      refine lv_iload_n hx hb dX9_behind_27 rfl (lv_at hl 2 rfl) ?_
      refine lv_isub hx hb dX9_behind_28 ?_
      obtain rfl := Option.some.inj hF
      exact rt_i hret hw rfl dX9_behind_29
theorem lk_X9_112 : Cond.methodLink RX9 112 yX9_behind ∈ gdt := gdt_of 1004 (by decide +kernel) (by decide +kernel)
theorem my_X9_behind : (yX9_behind.cls ≠ "java/lang/invoke/MethodHandle" ∧ yX9_behind.cls ≠ "java/lang/invoke/VarHandle") ∧ Cond.instanceMethod yX9_behind ∈ gdt ∧ Cond.selects yX9_behind.cls yX9_behind yX9_behind ∈ gdt ∧ Cond.initialized yX9_behind.cls ∈ gdt ∧ Cond.code yX9_behind cX9_behind 5 (some .int) ∈ gdt := ⟨⟨by decide +kernel, by decide +kernel⟩, gdt_of 1006 (by decide +kernel) (by decide +kernel), gdt_of 37 (by decide +kernel) (by decide +kernel), gdt_of 77 (by decide +kernel) (by decide +kernel), gdt_of 1007 (by decide +kernel) (by decide +kernel)⟩
theorem ml_X9_behind : (parseMethodDescriptor yX9_behind.desc).map (fun d => d.parameters.length) = some 1 := by decide +kernel
theorem dX9_fault_0 : decode cX9_fault 0 = .ok (.aload_n 0, 1) := by decide +kernel
theorem dX9_fault_1 : decode cX9_fault 1 = .ok (.iconst 0, 1) := by decide +kernel
theorem dX9_fault_2 : decode cX9_fault 2 = .ok (.invokevirtual 112, 3) := by decide +kernel
theorem dX9_fault_5 : decode cX9_fault 5 = .ok (.istore_n 1, 1) := by decide +kernel
theorem dX9_fault_6 : decode cX9_fault 6 = .ok (.iconst 1, 1) := by decide +kernel
theorem dX9_fault_7 : decode cX9_fault 7 = .ok (.istore_n 2, 1) := by decide +kernel
theorem dX9_fault_8 : decode cX9_fault 8 = .ok (.iload_n 1, 1) := by decide +kernel
theorem dX9_fault_9 : decode cX9_fault 9 = .ok (.ifCond .lt 44, 3) := by decide +kernel
theorem dX9_fault_12 : decode cX9_fault 12 = .ok (.iload_n 1, 1) := by decide +kernel
theorem dX9_fault_13 : decode cX9_fault 13 = .ok (.aload_n 0, 1) := by decide +kernel
theorem dX9_fault_14 : decode cX9_fault 14 = .ok (.getfield 103, 3) := by decide +kernel
theorem dX9_fault_17 : decode cX9_fault 17 = .ok (.if_icmp .ge 36, 3) := by decide +kernel
theorem dX9_fault_20 : decode cX9_fault 20 = .ok (.aload_n 0, 1) := by decide +kernel
theorem dX9_fault_21 : decode cX9_fault 21 = .ok (.getfield 33, 3) := by decide +kernel
theorem dX9_fault_24 : decode cX9_fault 24 = .ok (.iload_n 1, 1) := by decide +kernel
theorem dX9_fault_25 : decode cX9_fault 25 = .ok (.iaload, 1) := by decide +kernel
theorem dX9_fault_26 : decode cX9_fault 26 = .ok (.bipush 59, 2) := by decide +kernel
theorem dX9_fault_28 : decode cX9_fault 28 = .ok (.if_icmp .ne 9, 3) := by decide +kernel
theorem dX9_fault_31 : decode cX9_fault 31 = .ok (.iload_n 2, 1) := by decide +kernel
theorem dX9_fault_32 : decode cX9_fault 32 = .ok (.bipush 12, 2) := by decide +kernel
theorem dX9_fault_34 : decode cX9_fault 34 = .ok (.if_icmp .ne 5, 3) := by decide +kernel
theorem dX9_fault_37 : decode cX9_fault 37 = .ok (.iload_n 1, 1) := by decide +kernel
theorem dX9_fault_38 : decode cX9_fault 38 = .ok (.ireturn, 1) := by decide +kernel
theorem dX9_fault_39 : decode cX9_fault 39 = .ok (.iinc 2 1, 3) := by decide +kernel
theorem dX9_fault_42 : decode cX9_fault 42 = .ok (.aload_n 0, 1) := by decide +kernel
theorem dX9_fault_43 : decode cX9_fault 43 = .ok (.iload_n 1, 1) := by decide +kernel
theorem dX9_fault_44 : decode cX9_fault 44 = .ok (.iconst 1, 1) := by decide +kernel
theorem dX9_fault_45 : decode cX9_fault 45 = .ok (.iadd, 1) := by decide +kernel
theorem dX9_fault_46 : decode cX9_fault 46 = .ok (.invokevirtual 112, 3) := by decide +kernel
theorem dX9_fault_49 : decode cX9_fault 49 = .ok (.istore_n 1, 1) := by decide +kernel
theorem dX9_fault_50 : decode cX9_fault 50 = .ok (.goto (-42), 3) := by decide +kernel
theorem dX9_fault_53 : decode cX9_fault 53 = .ok (.iload_n 1, 1) := by decide +kernel
theorem dX9_fault_54 : decode cX9_fault 54 = .ok (.ifCond .ge 9, 3) := by decide +kernel
theorem dX9_fault_57 : decode cX9_fault 57 = .ok (.iconst (-1), 1) := by decide +kernel
theorem dX9_fault_58 : decode cX9_fault 58 = .ok (.iload_n 1, 1) := by decide +kernel
theorem dX9_fault_59 : decode cX9_fault 59 = .ok (.isub, 1) := by decide +kernel
theorem dX9_fault_60 : decode cX9_fault 60 = .ok (.goto 4, 3) := by decide +kernel
theorem dX9_fault_63 : decode cX9_fault 63 = .ok (.iconst (-1), 1) := by decide +kernel
theorem dX9_fault_64 : decode cX9_fault 64 = .ok (.ireturn, 1) := by decide +kernel
def fX9_fault_L8 (k53 : Int32 → Option Int32) (u_texted : Int32) (u_text : (Nat → Int32)) : Nat → Int32 → Int32 → Option Int32
  | 0, _, _ => none
  | n + 1, x1, x2 => if x1 < 0 then (k53 x1) else (if u_texted ≤ x1 then (k53 x1) else (gA x1 100 (if (u_text (x1).toNatClampNeg) = 59 then (if x2 = 12 then (some x1) else ((fX9_behind u_texted u_text (x1 + 1)).bind (fun z7 => fX9_fault_L8 k53 u_texted u_text n z7 (x2 + 1)))) else (some x1))))
def fX9_fault (u_texted : Int32) (u_text : (Nat → Int32)) : Option Int32 := (fX9_behind u_texted u_text 0).bind (fun z1 => fX9_fault_L8 (fun (x1_8 : Int32) => if 0 ≤ x1_8 then (some (-1)) else (some ((-1) - x1_8))) u_texted u_text 400 z1 1)
set_option maxRecDepth 20000 in
theorem LX9_fault_8 {p : Program} {l : Launch} {e : Env} {R : Room} {s : State} {m : MethodId} {args : Array Value} {below : List Frame} {meth : Method} {c : Code} {Q : State → Prop} {D : va_G} {C : Nat → ClassId} {A : Nat → Prop} (cx : CX p m c s args RX9 cX9_fault 3 D C A R 4) {q_ q_owes q_denies q_debt q_cut q_sight q_event q_book q_text q_path q_ring q_balance q_left q_sum q_parts q_group q_payment q_then q_image q_tapeSort q_tapeSize q_items : Nat} {u_people : Int32} {u_debts : Int32} {u_cuts : Int32} {u_seen : Int32} {u_events : Int32} {u_inBook : Int32} {u_texted : Int32} {u_rule : Int32} {u_rings : Int32} {u_size : Int32} {u_least : Int32} {u_worth : Int64} {u_groups : Int32} {u_paid : Int32} {u_imaged : Int32} {u_text : (Nat → Int32)} {z : Int32} (hret : RT p l e R s m args below meth c Q D A cX9_fault (some .int) [(q_, .inr (9, [.int u_people, .ref q_owes, .ref q_denies, .int u_debts, .ref q_debt, .int u_cuts, .ref q_cut, .int u_seen, .ref q_sight, .int u_events, .ref q_event, .int u_inBook, .ref q_book, .int u_texted, .ref q_text, .ref q_path, .int u_rule, .int u_rings, .int u_size, .int u_least, .long u_worth, .ref q_ring, .ref q_balance, .ref q_left, .ref q_sum, .ref q_parts, .int u_groups, .ref q_group, .int u_paid, .ref q_payment, .ref q_then, .int u_imaged, .ref q_image, .ref q_tapeSort, .ref q_tapeSize, .ref q_items])), (q_text, .inl (C 0, 100, .inl u_text))] (some (.int z))) {k53 : Int32 → Option Int32} (hk53 : ∀ (x1 : Int32) (H : Heap) (locs : List Loc) (ls : Array Slot), k53 x1 = some z → HW D A s.heap H locs [(q_, .inr (9, [.int u_people, .ref q_owes, .ref q_denies, .int u_debts, .ref q_debt, .int u_cuts, .ref q_cut, .int u_seen, .ref q_sight, .int u_events, .ref q_event, .int u_inBook, .ref q_book, .int u_texted, .ref q_text, .ref q_path, .int u_rule, .int u_rings, .int u_size, .int u_least, .long u_worth, .ref q_ring, .ref q_balance, .ref q_left, .ref q_sum, .ref q_parts, .int u_groups, .ref q_group, .int u_paid, .ref q_payment, .ref q_then, .int u_imaged, .ref q_image, .ref q_tapeSort, .ref q_tapeSize, .ref q_items])), (q_text, .inl (C 0, 100, .inl u_text))] → lv_has ls 3 [(1, .int x1)] → W p l e R s m args below meth c H locs 0 0 Q (F0 m 53 ls [])) :
    ∀ (n : Nat) (x1 : Int32) (x2 : Int32) (H : Heap) (locs : List Loc) (ls : Array Slot), fX9_fault_L8 k53 u_texted u_text n x1 x2 = some z → HW D A s.heap H locs [(q_, .inr (9, [.int u_people, .ref q_owes, .ref q_denies, .int u_debts, .ref q_debt, .int u_cuts, .ref q_cut, .int u_seen, .ref q_sight, .int u_events, .ref q_event, .int u_inBook, .ref q_book, .int u_texted, .ref q_text, .ref q_path, .int u_rule, .int u_rings, .int u_size, .int u_least, .long u_worth, .ref q_ring, .ref q_balance, .ref q_left, .ref q_sum, .ref q_parts, .int u_groups, .ref q_group, .int u_paid, .ref q_payment, .ref q_then, .int u_imaged, .ref q_image, .ref q_tapeSort, .ref q_tapeSize, .ref q_items])), (q_text, .inl (C 0, 100, .inl u_text))] → lv_has ls 3 [(0, .ref q_), (1, .int x1), (2, .int x2)] → W p l e R s m args below meth c H locs 0 0 Q (F0 m 8 ls []) := by
  have hx := cx.1
  have hb := cx.2.1
  intro n
  induction n with
  | zero => intro x1 x2 H locs ls hF; cases hF
  | succ n ih =>
    intro x1 x2 H locs ls hF hw hl
    rw [fX9_fault_L8.eq_2] at hF
    refine lv_iload_n hx hb dX9_fault_8 rfl (lv_at hl 1 rfl) ?_
    refine lv_if_lt (tgt := 53) hx hb dX9_fault_9 (by decide) (fun c2 => ?_) (fun c2 => ?_)
    · replace hF := oi_t c2 hF
      exact hk53 x1 H locs ls hF hw (lv_sub hl [1] rfl)
    · replace hF := oi_f c2 hF
      refine lv_iload_n hx hb dX9_fault_12 rfl (lv_at hl 1 rfl) ?_
      refine lv_aload_n hx hb dX9_fault_13 rfl (lv_at hl 0 rfl) ?_
      refine r_get (ci := 9) (v := .int u_texted) cx hw iX9 0 13 rfl rfl (by decide) wf_X9_103 rfl dX9_fault_14 ?_
      refine lv_icmp_ge (tgt := 53) hx hb dX9_fault_17 (by decide) (fun c3 => ?_) (fun c3 => ?_)
      · replace hF := oi_t c3 hF
        exact hk53 x1 H locs ls hF hw (lv_sub hl [1] rfl)
      · replace hF := oi_f c3 hF
        refine lv_aload_n hx hb dX9_fault_20 rfl (lv_at hl 0 rfl) ?_
        refine r_get (ci := 9) (v := .ref q_text) cx hw iX9 0 14 rfl rfl (by decide) wf_X9_33 rfl dX9_fault_21 ?_
        refine lv_iload_n hx hb dX9_fault_24 rfl (lv_at hl 1 rfl) ?_
        obtain ⟨g4, hF⟩ := gA_s hF
        refine r_iald cx hw 1 rfl g4 dX9_fault_25 ?_
        refine lv_bipush (v := 59) hx hb dX9_fault_26 (by decide) ?_
        refine lv_icmp_ne (tgt := 37) hx hb dX9_fault_28 (by decide) (fun c5 => ?_) (fun c5 => ?_)
        · replace hF := oi_f c5 hF
          refine lv_iload_n hx hb dX9_fault_37 rfl (lv_at hl 1 rfl) ?_
          obtain rfl := Option.some.inj hF
          exact rt_i hret hw rfl dX9_fault_38
        · replace hF := oi_t c5 hF
          refine lv_iload_n hx hb dX9_fault_31 rfl (lv_at hl 2 rfl) ?_
          refine lv_bipush (v := 12) hx hb dX9_fault_32 (by decide) ?_
          refine lv_icmp_ne (tgt := 39) hx hb dX9_fault_34 (by decide) (fun c6 => ?_) (fun c6 => ?_)
          · replace hF := oi_f c6 hF
            refine lv_iinc (v := x2 + 1) (lv' := [(2, .int (x2 + 1)), (0, .ref q_), (1, .int x1)]) hx hb dX9_fault_39 hl (k := 2) rfl rfl (by decide) rfl (fun ls hl => ?_)
            refine lv_aload_n hx hb dX9_fault_42 rfl (lv_at hl 1 rfl) ?_
            refine lv_iload_n hx hb dX9_fault_43 rfl (lv_at hl 2 rfl) ?_
            refine lv_iconst (v := 1) hx hb dX9_fault_44 (by decide) ?_
            refine lv_iadd hx hb dX9_fault_45 ?_
            obtain ⟨z7, hz7, hF⟩ := ob hF
            refine cV (wr := []) (w2 := [(q_, .inr (9, [.int u_people, .ref q_owes, .ref q_denies, .int u_debts, .ref q_debt, .int u_cuts, .ref q_cut, .int u_seen, .ref q_sight, .int u_events, .ref q_event, .int u_inBook, .ref q_book, .int u_texted, .ref q_text, .ref q_path, .int u_rule, .int u_rings, .int u_size, .int u_least, .long u_worth, .ref q_ring, .ref q_balance, .ref q_left, .ref q_sum, .ref q_parts, .int u_groups, .ref q_group, .int u_paid, .ref q_payment, .ref q_then, .int u_imaged, .ref q_image, .ref q_tapeSort, .ref q_tapeSize, .ref q_items])), (q_text, .inl (C 0, 100, .inl u_text))]) (st2 := [.int z7]) cx (CX9_behind l D C q_ q_owes q_denies q_debt q_cut q_sight q_event q_book q_text q_path q_ring q_balance q_left q_sum q_parts q_group q_payment q_then q_image q_tapeSort q_tapeSize q_items u_people u_debts u_cuts u_seen u_events u_inBook u_texted u_rule u_rings u_size u_least u_worth u_groups u_paid u_imaged u_text (x1 + 1) z7 hz7) lk_X9_112 my_X9_behind ml_X9_behind ⟨by decide, by decide⟩ hw [0, 1] [] [0, 1] rfl rfl (by decide) rfl rfl rfl rfl (Nat.le_of_ble_eq_true rfl) dX9_fault_46 rfl (fun H locs hw => ?_) hl.1
            refine lv_istore_n (lv' := [(1, .int z7), (2, .int (x2 + 1)), (0, .ref q_)]) hx hb dX9_fault_49 rfl hl (by decide) rfl (fun ls hl => ?_)
            refine lv_goto (tgt := 8) hx hb dX9_fault_50 (by decide) ?_
            exact ih z7 (x2 + 1) H locs ls hF hw (lv_sub hl [2, 0, 1] rfl)
          · replace hF := oi_t c6 hF
            refine lv_iload_n hx hb dX9_fault_37 rfl (lv_at hl 1 rfl) ?_
            obtain rfl := Option.some.inj hF
            exact rt_i hret hw rfl dX9_fault_38
set_option maxRecDepth 20000 in
theorem CX9_fault (l : Launch) (D : va_G) (C : Nat → ClassId) (q_ q_owes q_denies q_debt q_cut q_sight q_event q_book q_text q_path q_ring q_balance q_left q_sum q_parts q_group q_payment q_then q_image q_tapeSort q_tapeSize q_items : Nat) (u_people : Int32) (u_debts : Int32) (u_cuts : Int32) (u_seen : Int32) (u_events : Int32) (u_inBook : Int32) (u_texted : Int32) (u_rule : Int32) (u_rings : Int32) (u_size : Int32) (u_least : Int32) (u_worth : Int64) (u_groups : Int32) (u_paid : Int32) (u_imaged : Int32) (u_text : (Nat → Int32)) (z : Int32) (hF : fX9_fault u_texted u_text = some z) : Ct l yX9_fault cX9_fault 3 (some .int) 4 D C [.ref q_] [(q_, .inr (9, [.int u_people, .ref q_owes, .ref q_denies, .int u_debts, .ref q_debt, .int u_cuts, .ref q_cut, .int u_seen, .ref q_sight, .int u_events, .ref q_event, .int u_inBook, .ref q_book, .int u_texted, .ref q_text, .ref q_path, .int u_rule, .int u_rings, .int u_size, .int u_least, .long u_worth, .ref q_ring, .ref q_balance, .ref q_left, .ref q_sum, .ref q_parts, .int u_groups, .ref q_group, .int u_paid, .ref q_payment, .ref q_then, .int u_imaged, .ref q_image, .ref q_tapeSort, .ref q_tapeSize, .ref q_items])), (q_text, .inl (C 0, 100, .inl u_text))] [(q_, .inr (9, [.int u_people, .ref q_owes, .ref q_denies, .int u_debts, .ref q_debt, .int u_cuts, .ref q_cut, .int u_seen, .ref q_sight, .int u_events, .ref q_event, .int u_inBook, .ref q_book, .int u_texted, .ref q_text, .ref q_path, .int u_rule, .int u_rings, .int u_size, .int u_least, .long u_worth, .ref q_ring, .ref q_balance, .ref q_left, .ref q_sum, .ref q_parts, .int u_groups, .ref q_group, .int u_paid, .ref q_payment, .ref q_then, .int u_imaged, .ref q_image, .ref q_tapeSort, .ref q_tapeSize, .ref q_items])), (q_text, .inl (C 0, 100, .inl u_text))] (some (.int z)) := by
  refine Ct_of (by decide) (Nat.le_of_ble_eq_true rfl) ?_
  intro p e R s m args below meth c A Q H locs ls cx hw hl hret
  have cx : CX p m c s args RX9 cX9_fault 3 D C A R 4 := cx
  have hx := cx.1
  have hb := cx.2.1
  have hl : lv_has ls 3 [(0, .ref q_)] := hl
  rw [fX9_fault.eq_1] at hF
  refine lv_aload_n hx hb dX9_fault_0 rfl (lv_at hl 0 rfl) ?_
  refine lv_iconst (v := 0) hx hb dX9_fault_1 (by decide) ?_
  obtain ⟨z1, hz1, hF⟩ := ob hF
  refine cV (wr := []) (w2 := [(q_, .inr (9, [.int u_people, .ref q_owes, .ref q_denies, .int u_debts, .ref q_debt, .int u_cuts, .ref q_cut, .int u_seen, .ref q_sight, .int u_events, .ref q_event, .int u_inBook, .ref q_book, .int u_texted, .ref q_text, .ref q_path, .int u_rule, .int u_rings, .int u_size, .int u_least, .long u_worth, .ref q_ring, .ref q_balance, .ref q_left, .ref q_sum, .ref q_parts, .int u_groups, .ref q_group, .int u_paid, .ref q_payment, .ref q_then, .int u_imaged, .ref q_image, .ref q_tapeSort, .ref q_tapeSize, .ref q_items])), (q_text, .inl (C 0, 100, .inl u_text))]) (st2 := [.int z1]) cx (CX9_behind l D C q_ q_owes q_denies q_debt q_cut q_sight q_event q_book q_text q_path q_ring q_balance q_left q_sum q_parts q_group q_payment q_then q_image q_tapeSort q_tapeSize q_items u_people u_debts u_cuts u_seen u_events u_inBook u_texted u_rule u_rings u_size u_least u_worth u_groups u_paid u_imaged u_text 0 z1 hz1) lk_X9_112 my_X9_behind ml_X9_behind ⟨by decide, by decide⟩ hw [0, 1] [] [0, 1] rfl rfl (by decide) rfl rfl rfl rfl (Nat.le_of_ble_eq_true rfl) dX9_fault_2 rfl (fun H locs hw => ?_) hl.1
  refine lv_istore_n (lv' := [(1, .int z1), (0, .ref q_)]) hx hb dX9_fault_5 rfl hl (by decide) rfl (fun ls hl => ?_)
  refine lv_iconst (v := 1) hx hb dX9_fault_6 (by decide) ?_
  refine lv_istore_n (lv' := [(2, .int 1), (1, .int z1), (0, .ref q_)]) hx hb dX9_fault_7 rfl hl (by decide) rfl (fun ls hl => ?_)
  refine LX9_fault_8 cx hret (fun x1_8 H locs ls hF hw hl => ?_) 400 z1 1 H locs ls hF hw (lv_sub hl [2, 1, 0] rfl)
  · refine lv_iload_n hx hb dX9_fault_53 rfl (lv_at hl 0 rfl) ?_
    refine lv_if_ge (tgt := 63) hx hb dX9_fault_54 (by decide) (fun c9 => ?_) (fun c9 => ?_)
    · replace hF := oi_t c9 hF
      refine lv_iconst (v := (-1)) hx hb dX9_fault_63 (by decide) ?_
      obtain rfl := Option.some.inj hF
      exact rt_i hret hw rfl dX9_fault_64
    · replace hF := oi_f c9 hF
      refine lv_iconst (v := (-1)) hx hb dX9_fault_57 (by decide) ?_
      refine lv_iload_n hx hb dX9_fault_58 rfl (lv_at hl 0 rfl) ?_
      refine lv_isub hx hb dX9_fault_59 ?_
      refine lv_goto (tgt := 64) hx hb dX9_fault_60 (by decide) ?_
      obtain rfl := Option.some.inj hF
      exact rt_i hret hw rfl dX9_fault_64
theorem wf_X9_36 : Cond.fieldLink RX9 36 (TX9 15).1 (TX9 15).2.1 (TX9 15).2.2.1 ∈ gdt := gdt_of 855 (by decide +kernel) (by decide +kernel)
theorem dX9_agreed_0 : decode cX9_agreed 0 = .ok (.iconst 0, 1) := by decide +kernel
theorem dX9_agreed_1 : decode cX9_agreed 1 = .ok (.istore_n 2, 1) := by decide +kernel
theorem dX9_agreed_2 : decode cX9_agreed 2 = .ok (.iload_n 2, 1) := by decide +kernel
theorem dX9_agreed_3 : decode cX9_agreed 3 = .ok (.iload_n 1, 1) := by decide +kernel
theorem dX9_agreed_4 : decode cX9_agreed 4 = .ok (.if_icmp .ge 40, 3) := by decide +kernel
theorem dX9_agreed_7 : decode cX9_agreed 7 = .ok (.aload_n 0, 1) := by decide +kernel
theorem dX9_agreed_8 : decode cX9_agreed 8 = .ok (.getfield 15, 3) := by decide +kernel
theorem dX9_agreed_11 : decode cX9_agreed 11 = .ok (.bipush 6, 2) := by decide +kernel
theorem dX9_agreed_13 : decode cX9_agreed 13 = .ok (.aload_n 0, 1) := by decide +kernel
theorem dX9_agreed_14 : decode cX9_agreed 14 = .ok (.getfield 36, 3) := by decide +kernel
theorem dX9_agreed_17 : decode cX9_agreed 17 = .ok (.iload_n 2, 1) := by decide +kernel
theorem dX9_agreed_18 : decode cX9_agreed 18 = .ok (.iaload, 1) := by decide +kernel
theorem dX9_agreed_19 : decode cX9_agreed 19 = .ok (.imul, 1) := by decide +kernel
theorem dX9_agreed_20 : decode cX9_agreed 20 = .ok (.aload_n 0, 1) := by decide +kernel
theorem dX9_agreed_21 : decode cX9_agreed 21 = .ok (.getfield 36, 3) := by decide +kernel
theorem dX9_agreed_24 : decode cX9_agreed 24 = .ok (.iload_n 2, 1) := by decide +kernel
theorem dX9_agreed_25 : decode cX9_agreed 25 = .ok (.iconst 1, 1) := by decide +kernel
theorem dX9_agreed_26 : decode cX9_agreed 26 = .ok (.iadd, 1) := by decide +kernel
theorem dX9_agreed_27 : decode cX9_agreed 27 = .ok (.iload_n 1, 1) := by decide +kernel
theorem dX9_agreed_28 : decode cX9_agreed 28 = .ok (.irem, 1) := by decide +kernel
theorem dX9_agreed_29 : decode cX9_agreed 29 = .ok (.iaload, 1) := by decide +kernel
theorem dX9_agreed_30 : decode cX9_agreed 30 = .ok (.iadd, 1) := by decide +kernel
theorem dX9_agreed_31 : decode cX9_agreed 31 = .ok (.iaload, 1) := by decide +kernel
theorem dX9_agreed_32 : decode cX9_agreed 32 = .ok (.iconst 1, 1) := by decide +kernel
theorem dX9_agreed_33 : decode cX9_agreed 33 = .ok (.if_icmp .ne 5, 3) := by decide +kernel
theorem dX9_agreed_36 : decode cX9_agreed 36 = .ok (.iconst 0, 1) := by decide +kernel
theorem dX9_agreed_37 : decode cX9_agreed 37 = .ok (.ireturn, 1) := by decide +kernel
theorem dX9_agreed_38 : decode cX9_agreed 38 = .ok (.iinc 2 1, 3) := by decide +kernel
theorem dX9_agreed_41 : decode cX9_agreed 41 = .ok (.goto (-39), 3) := by decide +kernel
theorem dX9_agreed_44 : decode cX9_agreed 44 = .ok (.iconst 1, 1) := by decide +kernel
theorem dX9_agreed_45 : decode cX9_agreed 45 = .ok (.ireturn, 1) := by decide +kernel
def fX9_agreed_L2 (u_denies : (Nat → Int32)) (u_path : (Nat → Int32)) (x1 : Int32) : Nat → Int32 → Option Int32
  | 0, _ => none
  | n + 1, x2 => if x1 ≤ x2 then (some 1) else (gA x2 6 (gZ x1 (gA ((x2 + 1) - (x2 + 1) / x1 * x1) 6 (gA ((6 * (u_path (x2).toNatClampNeg)) + (u_path ((x2 + 1) - (x2 + 1) / x1 * x1).toNatClampNeg)) 36 (if (u_denies ((6 * (u_path (x2).toNatClampNeg)) + (u_path ((x2 + 1) - (x2 + 1) / x1 * x1).toNatClampNeg)).toNatClampNeg) = 1 then (some 0) else (fX9_agreed_L2 u_denies u_path x1 n (x2 + 1)))))))
def fX9_agreed (u_denies : (Nat → Int32)) (u_path : (Nat → Int32)) (x1 : Int32) : Option Int32 := fX9_agreed_L2 u_denies u_path x1 400 0
set_option maxRecDepth 20000 in
theorem LX9_agreed_2 {p : Program} {l : Launch} {e : Env} {R : Room} {s : State} {m : MethodId} {args : Array Value} {below : List Frame} {meth : Method} {c : Code} {Q : State → Prop} {D : va_G} {C : Nat → ClassId} {A : Nat → Prop} (cx : CX p m c s args RX9 cX9_agreed 3 D C A R 1) {q_ q_owes q_denies q_debt q_cut q_sight q_event q_book q_text q_path q_ring q_balance q_left q_sum q_parts q_group q_payment q_then q_image q_tapeSort q_tapeSize q_items : Nat} {u_people : Int32} {u_debts : Int32} {u_cuts : Int32} {u_seen : Int32} {u_events : Int32} {u_inBook : Int32} {u_texted : Int32} {u_rule : Int32} {u_rings : Int32} {u_size : Int32} {u_least : Int32} {u_worth : Int64} {u_groups : Int32} {u_paid : Int32} {u_imaged : Int32} {u_denies : (Nat → Int32)} {u_path : (Nat → Int32)} {x1 : Int32} {z : Int32} (hret : RT p l e R s m args below meth c Q D A cX9_agreed (some .boolean) [(q_, .inr (9, [.int u_people, .ref q_owes, .ref q_denies, .int u_debts, .ref q_debt, .int u_cuts, .ref q_cut, .int u_seen, .ref q_sight, .int u_events, .ref q_event, .int u_inBook, .ref q_book, .int u_texted, .ref q_text, .ref q_path, .int u_rule, .int u_rings, .int u_size, .int u_least, .long u_worth, .ref q_ring, .ref q_balance, .ref q_left, .ref q_sum, .ref q_parts, .int u_groups, .ref q_group, .int u_paid, .ref q_payment, .ref q_then, .int u_imaged, .ref q_image, .ref q_tapeSort, .ref q_tapeSize, .ref q_items])), (q_denies, .inl (C 0, 36, .inl u_denies)), (q_path, .inl (C 0, 6, .inl u_path))] (some (.int z))) :
    ∀ (n : Nat) (x2 : Int32) (H : Heap) (locs : List Loc) (ls : Array Slot), fX9_agreed_L2 u_denies u_path x1 n x2 = some z → HW D A s.heap H locs [(q_, .inr (9, [.int u_people, .ref q_owes, .ref q_denies, .int u_debts, .ref q_debt, .int u_cuts, .ref q_cut, .int u_seen, .ref q_sight, .int u_events, .ref q_event, .int u_inBook, .ref q_book, .int u_texted, .ref q_text, .ref q_path, .int u_rule, .int u_rings, .int u_size, .int u_least, .long u_worth, .ref q_ring, .ref q_balance, .ref q_left, .ref q_sum, .ref q_parts, .int u_groups, .ref q_group, .int u_paid, .ref q_payment, .ref q_then, .int u_imaged, .ref q_image, .ref q_tapeSort, .ref q_tapeSize, .ref q_items])), (q_denies, .inl (C 0, 36, .inl u_denies)), (q_path, .inl (C 0, 6, .inl u_path))] → lv_has ls 3 [(0, .ref q_), (1, .int x1), (2, .int x2)] → W p l e R s m args below meth c H locs 0 0 Q (F0 m 2 ls []) := by
  have hx := cx.1
  have hb := cx.2.1
  intro n
  induction n with
  | zero => intro x2 H locs ls hF; cases hF
  | succ n ih =>
    intro x2 H locs ls hF hw hl
    rw [fX9_agreed_L2.eq_2] at hF
    refine lv_iload_n hx hb dX9_agreed_2 rfl (lv_at hl 2 rfl) ?_
    refine lv_iload_n hx hb dX9_agreed_3 rfl (lv_at hl 1 rfl) ?_
    refine lv_icmp_ge (tgt := 44) hx hb dX9_agreed_4 (by decide) (fun c1 => ?_) (fun c1 => ?_)
    · replace hF := oi_t c1 hF
      refine lv_iconst (v := 1) hx hb dX9_agreed_44 (by decide) ?_
      obtain rfl := Option.some.inj hF
      exact rt_z hret hw rfl rfl dX9_agreed_45
    · replace hF := oi_f c1 hF
      refine lv_aload_n hx hb dX9_agreed_7 rfl (lv_at hl 0 rfl) ?_
      refine r_get (ci := 9) (v := .ref q_denies) cx hw iX9 0 2 rfl rfl (by decide) wf_X9_15 rfl dX9_agreed_8 ?_
      refine lv_bipush (v := 6) hx hb dX9_agreed_11 (by decide) ?_
      refine lv_aload_n hx hb dX9_agreed_13 rfl (lv_at hl 0 rfl) ?_
      refine r_get (ci := 9) (v := .ref q_path) cx hw iX9 0 15 rfl rfl (by decide) wf_X9_36 rfl dX9_agreed_14 ?_
      refine lv_iload_n hx hb dX9_agreed_17 rfl (lv_at hl 2 rfl) ?_
      obtain ⟨g2, hF⟩ := gA_s hF
      refine r_iald cx hw 2 rfl g2 dX9_agreed_18 ?_
      refine lv_imul hx hb dX9_agreed_19 ?_
      refine lv_aload_n hx hb dX9_agreed_20 rfl (lv_at hl 0 rfl) ?_
      refine r_get (ci := 9) (v := .ref q_path) cx hw iX9 0 15 rfl rfl (by decide) wf_X9_36 rfl dX9_agreed_21 ?_
      refine lv_iload_n hx hb dX9_agreed_24 rfl (lv_at hl 2 rfl) ?_
      refine lv_iconst (v := 1) hx hb dX9_agreed_25 (by decide) ?_
      refine lv_iadd hx hb dX9_agreed_26 ?_
      refine lv_iload_n hx hb dX9_agreed_27 rfl (lv_at hl 1 rfl) ?_
      obtain ⟨g3, hF⟩ := gZ_s hF
      refine lv_irem hx hb dX9_agreed_28 g3 ?_
      obtain ⟨g4, hF⟩ := gA_s hF
      refine r_iald cx hw 2 rfl g4 dX9_agreed_29 ?_
      refine lv_iadd hx hb dX9_agreed_30 ?_
      obtain ⟨g5, hF⟩ := gA_s hF
      refine r_iald cx hw 1 rfl g5 dX9_agreed_31 ?_
      refine lv_iconst (v := 1) hx hb dX9_agreed_32 (by decide) ?_
      refine lv_icmp_ne (tgt := 38) hx hb dX9_agreed_33 (by decide) (fun c6 => ?_) (fun c6 => ?_)
      · replace hF := oi_f c6 hF
        refine lv_iinc (v := x2 + 1) (lv' := [(2, .int (x2 + 1)), (0, .ref q_), (1, .int x1)]) hx hb dX9_agreed_38 hl (k := 2) rfl rfl (by decide) rfl (fun ls hl => ?_)
        refine lv_goto (tgt := 2) hx hb dX9_agreed_41 (by decide) ?_
        exact ih (x2 + 1) H locs ls hF hw (lv_sub hl [1, 2, 0] rfl)
      · replace hF := oi_t c6 hF
        refine lv_iconst (v := 0) hx hb dX9_agreed_36 (by decide) ?_
        obtain rfl := Option.some.inj hF
        exact rt_z hret hw rfl rfl dX9_agreed_37
set_option maxRecDepth 20000 in
theorem CX9_agreed (l : Launch) (D : va_G) (C : Nat → ClassId) (q_ q_owes q_denies q_debt q_cut q_sight q_event q_book q_text q_path q_ring q_balance q_left q_sum q_parts q_group q_payment q_then q_image q_tapeSort q_tapeSize q_items : Nat) (u_people : Int32) (u_debts : Int32) (u_cuts : Int32) (u_seen : Int32) (u_events : Int32) (u_inBook : Int32) (u_texted : Int32) (u_rule : Int32) (u_rings : Int32) (u_size : Int32) (u_least : Int32) (u_worth : Int64) (u_groups : Int32) (u_paid : Int32) (u_imaged : Int32) (u_denies : (Nat → Int32)) (u_path : (Nat → Int32)) (x1 : Int32) (z : Int32) (hF : fX9_agreed u_denies u_path x1 = some z) : Ct l yX9_agreed cX9_agreed 3 (some .boolean) 1 D C [.ref q_, .int x1] [(q_, .inr (9, [.int u_people, .ref q_owes, .ref q_denies, .int u_debts, .ref q_debt, .int u_cuts, .ref q_cut, .int u_seen, .ref q_sight, .int u_events, .ref q_event, .int u_inBook, .ref q_book, .int u_texted, .ref q_text, .ref q_path, .int u_rule, .int u_rings, .int u_size, .int u_least, .long u_worth, .ref q_ring, .ref q_balance, .ref q_left, .ref q_sum, .ref q_parts, .int u_groups, .ref q_group, .int u_paid, .ref q_payment, .ref q_then, .int u_imaged, .ref q_image, .ref q_tapeSort, .ref q_tapeSize, .ref q_items])), (q_denies, .inl (C 0, 36, .inl u_denies)), (q_path, .inl (C 0, 6, .inl u_path))] [(q_, .inr (9, [.int u_people, .ref q_owes, .ref q_denies, .int u_debts, .ref q_debt, .int u_cuts, .ref q_cut, .int u_seen, .ref q_sight, .int u_events, .ref q_event, .int u_inBook, .ref q_book, .int u_texted, .ref q_text, .ref q_path, .int u_rule, .int u_rings, .int u_size, .int u_least, .long u_worth, .ref q_ring, .ref q_balance, .ref q_left, .ref q_sum, .ref q_parts, .int u_groups, .ref q_group, .int u_paid, .ref q_payment, .ref q_then, .int u_imaged, .ref q_image, .ref q_tapeSort, .ref q_tapeSize, .ref q_items])), (q_denies, .inl (C 0, 36, .inl u_denies)), (q_path, .inl (C 0, 6, .inl u_path))] (some (.int z)) := by
  refine Ct_of (by decide) (Nat.le_of_ble_eq_true rfl) ?_
  intro p e R s m args below meth c A Q H locs ls cx hw hl hret
  have cx : CX p m c s args RX9 cX9_agreed 3 D C A R 1 := cx
  have hx := cx.1
  have hb := cx.2.1
  have hl : lv_has ls 3 [(0, .ref q_), (1, .int x1)] := hl
  rw [fX9_agreed.eq_1] at hF
  refine lv_iconst (v := 0) hx hb dX9_agreed_0 (by decide) ?_
  refine lv_istore_n (lv' := [(2, .int 0), (0, .ref q_), (1, .int x1)]) hx hb dX9_agreed_1 rfl hl (by decide) rfl (fun ls hl => ?_)
  refine LX9_agreed_2 cx hret 400 0 H locs ls hF hw (lv_sub hl [1, 2, 0] rfl)
theorem wf_X9_136 : Cond.fieldLink RX9 136 (TX9 17).1 (TX9 17).2.1 (TX9 17).2.2.1 ∈ gdt := gdt_of 857 (by decide +kernel) (by decide +kernel)
theorem wf_X9_139 : Cond.fieldLink RX9 139 (TX9 16).1 (TX9 16).2.1 (TX9 16).2.2.1 ∈ gdt := gdt_of 856 (by decide +kernel) (by decide +kernel)
theorem wf_X9_142 : Cond.fieldLink RX9 142 (TX9 20).1 (TX9 20).2.1 (TX9 20).2.2.1 ∈ gdt := gdt_of 860 (by decide +kernel) (by decide +kernel)
theorem wf_X9_149 : Cond.fieldLink RX9 149 (TX9 18).1 (TX9 18).2.1 (TX9 18).2.2.1 ∈ gdt := gdt_of 858 (by decide +kernel) (by decide +kernel)
theorem wf_X9_152 : Cond.fieldLink RX9 152 (TX9 19).1 (TX9 19).2.1 (TX9 19).2.2.1 ∈ gdt := gdt_of 859 (by decide +kernel) (by decide +kernel)
theorem wf_X9_39 : Cond.fieldLink RX9 39 (TX9 21).1 (TX9 21).2.1 (TX9 21).2.2.1 ∈ gdt := gdt_of 861 (by decide +kernel) (by decide +kernel)
theorem lk_X9_146 : Cond.methodLink RX9 146 yX9_agreed ∈ gdt := gdt_of 1042 (by decide +kernel) (by decide +kernel)
theorem my_X9_agreed : (yX9_agreed.cls ≠ "java/lang/invoke/MethodHandle" ∧ yX9_agreed.cls ≠ "java/lang/invoke/VarHandle") ∧ Cond.instanceMethod yX9_agreed ∈ gdt ∧ Cond.selects yX9_agreed.cls yX9_agreed yX9_agreed ∈ gdt ∧ Cond.initialized yX9_agreed.cls ∈ gdt ∧ Cond.code yX9_agreed cX9_agreed 3 (some .boolean) ∈ gdt := ⟨⟨by decide +kernel, by decide +kernel⟩, gdt_of 1044 (by decide +kernel) (by decide +kernel), gdt_of 44 (by decide +kernel) (by decide +kernel), gdt_of 77 (by decide +kernel) (by decide +kernel), gdt_of 1045 (by decide +kernel) (by decide +kernel)⟩
theorem ml_X9_agreed : (parseMethodDescriptor yX9_agreed.desc).map (fun d => d.parameters.length) = some 1 := by decide +kernel
theorem dX9_meets_0 : decode cX9_meets 0 = .ok (.aload_n 0, 1) := by decide +kernel
theorem dX9_meets_1 : decode cX9_meets 1 = .ok (.dup, 1) := by decide +kernel
theorem dX9_meets_2 : decode cX9_meets 2 = .ok (.getfield 136, 3) := by decide +kernel
theorem dX9_meets_5 : decode cX9_meets 5 = .ok (.iconst 1, 1) := by decide +kernel
theorem dX9_meets_6 : decode cX9_meets 6 = .ok (.iadd, 1) := by decide +kernel
theorem dX9_meets_7 : decode cX9_meets 7 = .ok (.putfield 136, 3) := by decide +kernel
theorem dX9_meets_10 : decode cX9_meets 10 = .ok (.sipush 999, 3) := by decide +kernel
theorem dX9_meets_13 : decode cX9_meets 13 = .ok (.istore_n 2, 1) := by decide +kernel
theorem dX9_meets_14 : decode cX9_meets 14 = .ok (.iconst 0, 1) := by decide +kernel
theorem dX9_meets_15 : decode cX9_meets 15 = .ok (.istore_n 3, 1) := by decide +kernel
theorem dX9_meets_16 : decode cX9_meets 16 = .ok (.iload_n 3, 1) := by decide +kernel
theorem dX9_meets_17 : decode cX9_meets 17 = .ok (.iload_n 1, 1) := by decide +kernel
theorem dX9_meets_18 : decode cX9_meets 18 = .ok (.if_icmp .ge 45, 3) := by decide +kernel
theorem dX9_meets_21 : decode cX9_meets 21 = .ok (.aload_n 0, 1) := by decide +kernel
theorem dX9_meets_22 : decode cX9_meets 22 = .ok (.getfield 9, 3) := by decide +kernel
theorem dX9_meets_25 : decode cX9_meets 25 = .ok (.bipush 6, 2) := by decide +kernel
theorem dX9_meets_27 : decode cX9_meets 27 = .ok (.aload_n 0, 1) := by decide +kernel
theorem dX9_meets_28 : decode cX9_meets 28 = .ok (.getfield 36, 3) := by decide +kernel
theorem dX9_meets_31 : decode cX9_meets 31 = .ok (.iload_n 3, 1) := by decide +kernel
theorem dX9_meets_32 : decode cX9_meets 32 = .ok (.iaload, 1) := by decide +kernel
theorem dX9_meets_33 : decode cX9_meets 33 = .ok (.imul, 1) := by decide +kernel
theorem dX9_meets_34 : decode cX9_meets 34 = .ok (.aload_n 0, 1) := by decide +kernel
theorem dX9_meets_35 : decode cX9_meets 35 = .ok (.getfield 36, 3) := by decide +kernel
theorem dX9_meets_38 : decode cX9_meets 38 = .ok (.iload_n 3, 1) := by decide +kernel
theorem dX9_meets_39 : decode cX9_meets 39 = .ok (.iconst 1, 1) := by decide +kernel
theorem dX9_meets_40 : decode cX9_meets 40 = .ok (.iadd, 1) := by decide +kernel
theorem dX9_meets_41 : decode cX9_meets 41 = .ok (.iload_n 1, 1) := by decide +kernel
theorem dX9_meets_42 : decode cX9_meets 42 = .ok (.irem, 1) := by decide +kernel
theorem dX9_meets_43 : decode cX9_meets 43 = .ok (.iaload, 1) := by decide +kernel
theorem dX9_meets_44 : decode cX9_meets 44 = .ok (.iadd, 1) := by decide +kernel
theorem dX9_meets_45 : decode cX9_meets 45 = .ok (.iaload, 1) := by decide +kernel
theorem dX9_meets_46 : decode cX9_meets 46 = .ok (.istore 4, 2) := by decide +kernel
theorem dX9_meets_48 : decode cX9_meets 48 = .ok (.iload 4, 2) := by decide +kernel
theorem dX9_meets_50 : decode cX9_meets 50 = .ok (.iload_n 2, 1) := by decide +kernel
theorem dX9_meets_51 : decode cX9_meets 51 = .ok (.if_icmp .ge 6, 3) := by decide +kernel
theorem dX9_meets_54 : decode cX9_meets 54 = .ok (.iload 4, 2) := by decide +kernel
theorem dX9_meets_56 : decode cX9_meets 56 = .ok (.istore_n 2, 1) := by decide +kernel
theorem dX9_meets_57 : decode cX9_meets 57 = .ok (.iinc 3 1, 3) := by decide +kernel
theorem dX9_meets_60 : decode cX9_meets 60 = .ok (.goto (-44), 3) := by decide +kernel
theorem dX9_meets_63 : decode cX9_meets 63 = .ok (.aload_n 0, 1) := by decide +kernel
theorem dX9_meets_64 : decode cX9_meets 64 = .ok (.getfield 139, 3) := by decide +kernel
theorem dX9_meets_67 : decode cX9_meets 67 = .ok (.iconst 1, 1) := by decide +kernel
theorem dX9_meets_68 : decode cX9_meets 68 = .ok (.if_icmp .ne 8, 3) := by decide +kernel
theorem dX9_meets_71 : decode cX9_meets 71 = .ok (.iload_n 2, 1) := by decide +kernel
theorem dX9_meets_72 : decode cX9_meets 72 = .ok (.i2l, 1) := by decide +kernel
theorem dX9_meets_73 : decode cX9_meets 73 = .ok (.goto 20, 3) := by decide +kernel
theorem dX9_meets_76 : decode cX9_meets 76 = .ok (.aload_n 0, 1) := by decide +kernel
theorem dX9_meets_77 : decode cX9_meets 77 = .ok (.getfield 139, 3) := by decide +kernel
theorem dX9_meets_80 : decode cX9_meets 80 = .ok (.iconst 2, 1) := by decide +kernel
theorem dX9_meets_81 : decode cX9_meets 81 = .ok (.if_icmp .ne 11, 3) := by decide +kernel
theorem dX9_meets_84 : decode cX9_meets 84 = .ok (.iload_n 2, 1) := by decide +kernel
theorem dX9_meets_85 : decode cX9_meets 85 = .ok (.i2l, 1) := by decide +kernel
theorem dX9_meets_86 : decode cX9_meets 86 = .ok (.iload_n 1, 1) := by decide +kernel
theorem dX9_meets_87 : decode cX9_meets 87 = .ok (.i2l, 1) := by decide +kernel
theorem dX9_meets_88 : decode cX9_meets 88 = .ok (.lmul, 1) := by decide +kernel
theorem dX9_meets_89 : decode cX9_meets 89 = .ok (.goto 4, 3) := by decide +kernel
theorem dX9_meets_92 : decode cX9_meets 92 = .ok (.lconst 1, 1) := by decide +kernel
theorem dX9_meets_93 : decode cX9_meets 93 = .ok (.lstore_n 3, 1) := by decide +kernel
theorem dX9_meets_94 : decode cX9_meets 94 = .ok (.lload_n 3, 1) := by decide +kernel
theorem dX9_meets_95 : decode cX9_meets 95 = .ok (.aload_n 0, 1) := by decide +kernel
theorem dX9_meets_96 : decode cX9_meets 96 = .ok (.getfield 142, 3) := by decide +kernel
theorem dX9_meets_99 : decode cX9_meets 99 = .ok (.lcmp, 1) := by decide +kernel
theorem dX9_meets_100 : decode cX9_meets 100 = .ok (.ifCond .le 19, 3) := by decide +kernel
theorem dX9_meets_103 : decode cX9_meets 103 = .ok (.aload_n 0, 1) := by decide +kernel
theorem dX9_meets_104 : decode cX9_meets 104 = .ok (.getfield 139, 3) := by decide +kernel
theorem dX9_meets_107 : decode cX9_meets 107 = .ok (.iconst 3, 1) := by decide +kernel
theorem dX9_meets_108 : decode cX9_meets 108 = .ok (.if_icmp .ne 12, 3) := by decide +kernel
theorem dX9_meets_111 : decode cX9_meets 111 = .ok (.aload_n 0, 1) := by decide +kernel
theorem dX9_meets_112 : decode cX9_meets 112 = .ok (.iload_n 1, 1) := by decide +kernel
theorem dX9_meets_113 : decode cX9_meets 113 = .ok (.invokevirtual 146, 3) := by decide +kernel
theorem dX9_meets_116 : decode cX9_meets 116 = .ok (.ifCond .ne 4, 3) := by decide +kernel
theorem dX9_meets_119 : decode cX9_meets 119 = .ok (.return_, 1) := by decide +kernel
theorem dX9_meets_120 : decode cX9_meets 120 = .ok (.aload_n 0, 1) := by decide +kernel
theorem dX9_meets_121 : decode cX9_meets 121 = .ok (.lload_n 3, 1) := by decide +kernel
theorem dX9_meets_122 : decode cX9_meets 122 = .ok (.putfield 142, 3) := by decide +kernel
theorem dX9_meets_125 : decode cX9_meets 125 = .ok (.aload_n 0, 1) := by decide +kernel
theorem dX9_meets_126 : decode cX9_meets 126 = .ok (.iload_n 1, 1) := by decide +kernel
theorem dX9_meets_127 : decode cX9_meets 127 = .ok (.putfield 149, 3) := by decide +kernel
theorem dX9_meets_130 : decode cX9_meets 130 = .ok (.aload_n 0, 1) := by decide +kernel
theorem dX9_meets_131 : decode cX9_meets 131 = .ok (.iload_n 2, 1) := by decide +kernel
theorem dX9_meets_132 : decode cX9_meets 132 = .ok (.putfield 152, 3) := by decide +kernel
theorem dX9_meets_135 : decode cX9_meets 135 = .ok (.iconst 0, 1) := by decide +kernel
theorem dX9_meets_136 : decode cX9_meets 136 = .ok (.istore 5, 2) := by decide +kernel
theorem dX9_meets_138 : decode cX9_meets 138 = .ok (.iload 5, 2) := by decide +kernel
theorem dX9_meets_140 : decode cX9_meets 140 = .ok (.iload_n 1, 1) := by decide +kernel
theorem dX9_meets_141 : decode cX9_meets 141 = .ok (.if_icmp .ge 23, 3) := by decide +kernel
theorem dX9_meets_144 : decode cX9_meets 144 = .ok (.aload_n 0, 1) := by decide +kernel
theorem dX9_meets_145 : decode cX9_meets 145 = .ok (.getfield 39, 3) := by decide +kernel
theorem dX9_meets_148 : decode cX9_meets 148 = .ok (.iload 5, 2) := by decide +kernel
theorem dX9_meets_150 : decode cX9_meets 150 = .ok (.aload_n 0, 1) := by decide +kernel
theorem dX9_meets_151 : decode cX9_meets 151 = .ok (.getfield 36, 3) := by decide +kernel
theorem dX9_meets_154 : decode cX9_meets 154 = .ok (.iload 5, 2) := by decide +kernel
theorem dX9_meets_156 : decode cX9_meets 156 = .ok (.iaload, 1) := by decide +kernel
theorem dX9_meets_157 : decode cX9_meets 157 = .ok (.iastore, 1) := by decide +kernel
theorem dX9_meets_158 : decode cX9_meets 158 = .ok (.iinc 5 1, 3) := by decide +kernel
theorem dX9_meets_161 : decode cX9_meets 161 = .ok (.goto (-23), 3) := by decide +kernel
theorem dX9_meets_164 : decode cX9_meets 164 = .ok (.return_, 1) := by decide +kernel
def fX9_meets_L16 (k63 : Int32 → Option (Int32 × Int32 × Int32 × Int64 × (Nat → Int32))) (u_owes : (Nat → Int32)) (u_path : (Nat → Int32)) (x1 : Int32) : Nat → Int32 → Int32 → Option (Int32 × Int32 × Int32 × Int64 × (Nat → Int32))
  | 0, _, _ => none
  | n + 1, x2, x3 => if x1 ≤ x3 then (k63 x2) else (gA x3 6 (gZ x1 (gA ((x3 + 1) - (x3 + 1) / x1 * x1) 6 (gA ((6 * (u_path (x3).toNatClampNeg)) + (u_path ((x3 + 1) - (x3 + 1) / x1 * x1).toNatClampNeg)) 36 (if x2 ≤ (u_owes ((6 * (u_path (x3).toNatClampNeg)) + (u_path ((x3 + 1) - (x3 + 1) / x1 * x1).toNatClampNeg)).toNatClampNeg) then (fX9_meets_L16 k63 u_owes u_path x1 n x2 (x3 + 1)) else (fX9_meets_L16 k63 u_owes u_path x1 n (u_owes ((6 * (u_path (x3).toNatClampNeg)) + (u_path ((x3 + 1) - (x3 + 1) / x1 * x1).toNatClampNeg)).toNatClampNeg) (x3 + 1)))))))
def fX9_meets_L138 (u_rings : Int32) (u_size : Int32) (u_least : Int32) (u_worth : Int64) (u_path : (Nat → Int32)) (x1 : Int32) : Nat → Int32 → (Nat → Int32) → Option (Int32 × Int32 × Int32 × Int64 × (Nat → Int32))
  | 0, _, _ => none
  | n + 1, x5, u_ring => if x1 ≤ x5 then (some (u_rings, u_size, u_least, u_worth, u_ring)) else (gA x5 6 (gA x5 6 (fX9_meets_L138 u_rings u_size u_least u_worth u_path x1 n (x5 + 1) (upd u_ring (x5 : Int32).toNatClampNeg (u_path (x5).toNatClampNeg)))))
def fX9_meets (u_rule : Int32) (u_rings : Int32) (u_size : Int32) (u_least : Int32) (u_worth : Int64) (u_owes : (Nat → Int32)) (u_denies : (Nat → Int32)) (u_path : (Nat → Int32)) (u_ring : (Nat → Int32)) (x1 : Int32) : Option (Int32 × Int32 × Int32 × Int64 × (Nat → Int32)) := fX9_meets_L16 (fun (x2_7 : Int32) => jn (fun (y93_0 : Int64) => if (lg_cmp y93_0 u_worth) ≤ 0 then (some (u_rings + 1, u_size, u_least, u_worth, u_ring)) else (if u_rule = 3 then ((fX9_agreed u_denies u_path x1).bind (fun z13 => if z13 = 0 then (some (u_rings + 1, u_size, u_least, u_worth, u_ring)) else (fX9_meets_L138 (u_rings + 1) x1 x2_7 y93_0 u_path x1 400 0 u_ring))) else (fX9_meets_L138 (u_rings + 1) x1 x2_7 y93_0 u_path x1 400 0 u_ring))) (fun j93 => if u_rule = 1 then (j93 ((x2_7 : Int32).toInt64)) else (if u_rule = 2 then (j93 (((x2_7 : Int32).toInt64) * ((x1 : Int32).toInt64))) else (j93 1)))) u_owes u_path x1 400 999 0
set_option maxRecDepth 20000 in
theorem LX9_meets_16 {p : Program} {l : Launch} {e : Env} {R : Room} {s : State} {m : MethodId} {args : Array Value} {below : List Frame} {meth : Method} {c : Code} {Q : State → Prop} {D : va_G} {C : Nat → ClassId} {A : Nat → Prop} (cx : CX p m c s args RX9 cX9_meets 6 D C A R 2) {q_ q_owes q_denies q_debt q_cut q_sight q_event q_book q_text q_path q_ring q_balance q_left q_sum q_parts q_group q_payment q_then q_image q_tapeSort q_tapeSize q_items : Nat} {u_people : Int32} {u_debts : Int32} {u_cuts : Int32} {u_seen : Int32} {u_events : Int32} {u_inBook : Int32} {u_texted : Int32} {u_rule : Int32} {u_rings : Int32} {u_size : Int32} {u_least : Int32} {u_worth : Int64} {u_groups : Int32} {u_paid : Int32} {u_imaged : Int32} {u_owes : (Nat → Int32)} {u_denies : (Nat → Int32)} {u_path : (Nat → Int32)} {u_ring : (Nat → Int32)} {x1 : Int32} {z : (Int32 × Int32 × Int32 × Int64 × (Nat → Int32))} (hret : RT p l e R s m args below meth c Q D A cX9_meets none [(q_, .inr (9, [.int u_people, .ref q_owes, .ref q_denies, .int u_debts, .ref q_debt, .int u_cuts, .ref q_cut, .int u_seen, .ref q_sight, .int u_events, .ref q_event, .int u_inBook, .ref q_book, .int u_texted, .ref q_text, .ref q_path, .int u_rule, .int z.1, .int z.2.1, .int z.2.2.1, .long z.2.2.2.1, .ref q_ring, .ref q_balance, .ref q_left, .ref q_sum, .ref q_parts, .int u_groups, .ref q_group, .int u_paid, .ref q_payment, .ref q_then, .int u_imaged, .ref q_image, .ref q_tapeSort, .ref q_tapeSize, .ref q_items])), (q_owes, .inl (C 0, 36, .inl u_owes)), (q_denies, .inl (C 0, 36, .inl u_denies)), (q_path, .inl (C 0, 6, .inl u_path)), (q_ring, .inl (C 0, 6, .inl z.2.2.2.2))] none) {k63 : Int32 → Option (Int32 × Int32 × Int32 × Int64 × (Nat → Int32))} (hk63 : ∀ (x2 : Int32) (H : Heap) (locs : List Loc) (ls : Array Slot), k63 x2 = some z → HW D A s.heap H locs [(q_, .inr (9, [.int u_people, .ref q_owes, .ref q_denies, .int u_debts, .ref q_debt, .int u_cuts, .ref q_cut, .int u_seen, .ref q_sight, .int u_events, .ref q_event, .int u_inBook, .ref q_book, .int u_texted, .ref q_text, .ref q_path, .int u_rule, .int u_rings, .int u_size, .int u_least, .long u_worth, .ref q_ring, .ref q_balance, .ref q_left, .ref q_sum, .ref q_parts, .int u_groups, .ref q_group, .int u_paid, .ref q_payment, .ref q_then, .int u_imaged, .ref q_image, .ref q_tapeSort, .ref q_tapeSize, .ref q_items])), (q_owes, .inl (C 0, 36, .inl u_owes)), (q_denies, .inl (C 0, 36, .inl u_denies)), (q_path, .inl (C 0, 6, .inl u_path)), (q_ring, .inl (C 0, 6, .inl u_ring))] → lv_has ls 6 [(0, .ref q_), (1, .int x1), (2, .int x2)] → W p l e R s m args below meth c H locs 0 0 Q (F0 m 63 ls [])) :
    ∀ (n : Nat) (x2 : Int32) (x3 : Int32) (H : Heap) (locs : List Loc) (ls : Array Slot), fX9_meets_L16 k63 u_owes u_path x1 n x2 x3 = some z → HW D A s.heap H locs [(q_, .inr (9, [.int u_people, .ref q_owes, .ref q_denies, .int u_debts, .ref q_debt, .int u_cuts, .ref q_cut, .int u_seen, .ref q_sight, .int u_events, .ref q_event, .int u_inBook, .ref q_book, .int u_texted, .ref q_text, .ref q_path, .int u_rule, .int u_rings, .int u_size, .int u_least, .long u_worth, .ref q_ring, .ref q_balance, .ref q_left, .ref q_sum, .ref q_parts, .int u_groups, .ref q_group, .int u_paid, .ref q_payment, .ref q_then, .int u_imaged, .ref q_image, .ref q_tapeSort, .ref q_tapeSize, .ref q_items])), (q_owes, .inl (C 0, 36, .inl u_owes)), (q_denies, .inl (C 0, 36, .inl u_denies)), (q_path, .inl (C 0, 6, .inl u_path)), (q_ring, .inl (C 0, 6, .inl u_ring))] → lv_has ls 6 [(0, .ref q_), (1, .int x1), (2, .int x2), (3, .int x3)] → W p l e R s m args below meth c H locs 0 0 Q (F0 m 16 ls []) := by
  have hx := cx.1
  have hb := cx.2.1
  intro n
  induction n with
  | zero => intro x2 x3 H locs ls hF; cases hF
  | succ n ih =>
    intro x2 x3 H locs ls hF hw hl
    rw [fX9_meets_L16.eq_2] at hF
    refine lv_iload_n hx hb dX9_meets_16 rfl (lv_at hl 3 rfl) ?_
    refine lv_iload_n hx hb dX9_meets_17 rfl (lv_at hl 1 rfl) ?_
    refine lv_icmp_ge (tgt := 63) hx hb dX9_meets_18 (by decide) (fun c1 => ?_) (fun c1 => ?_)
    · replace hF := oi_t c1 hF
      exact hk63 x2 H locs ls hF hw (lv_sub hl [0, 1, 2] rfl)
    · replace hF := oi_f c1 hF
      refine lv_aload_n hx hb dX9_meets_21 rfl (lv_at hl 0 rfl) ?_
      refine r_get (ci := 9) (v := .ref q_owes) cx hw iX9 0 1 rfl rfl (by decide) wf_X9_9 rfl dX9_meets_22 ?_
      refine lv_bipush (v := 6) hx hb dX9_meets_25 (by decide) ?_
      refine lv_aload_n hx hb dX9_meets_27 rfl (lv_at hl 0 rfl) ?_
      refine r_get (ci := 9) (v := .ref q_path) cx hw iX9 0 15 rfl rfl (by decide) wf_X9_36 rfl dX9_meets_28 ?_
      refine lv_iload_n hx hb dX9_meets_31 rfl (lv_at hl 3 rfl) ?_
      obtain ⟨g2, hF⟩ := gA_s hF
      refine r_iald cx hw 3 rfl g2 dX9_meets_32 ?_
      refine lv_imul hx hb dX9_meets_33 ?_
      refine lv_aload_n hx hb dX9_meets_34 rfl (lv_at hl 0 rfl) ?_
      refine r_get (ci := 9) (v := .ref q_path) cx hw iX9 0 15 rfl rfl (by decide) wf_X9_36 rfl dX9_meets_35 ?_
      refine lv_iload_n hx hb dX9_meets_38 rfl (lv_at hl 3 rfl) ?_
      refine lv_iconst (v := 1) hx hb dX9_meets_39 (by decide) ?_
      refine lv_iadd hx hb dX9_meets_40 ?_
      refine lv_iload_n hx hb dX9_meets_41 rfl (lv_at hl 1 rfl) ?_
      obtain ⟨g3, hF⟩ := gZ_s hF
      refine lv_irem hx hb dX9_meets_42 g3 ?_
      obtain ⟨g4, hF⟩ := gA_s hF
      refine r_iald cx hw 3 rfl g4 dX9_meets_43 ?_
      refine lv_iadd hx hb dX9_meets_44 ?_
      obtain ⟨g5, hF⟩ := gA_s hF
      refine r_iald cx hw 1 rfl g5 dX9_meets_45 ?_
      refine lv_istore (lv' := [(4, .int (u_owes ((6 * (u_path (x3).toNatClampNeg)) + (u_path ((x3 + 1) - (x3 + 1) / x1 * x1).toNatClampNeg)).toNatClampNeg)), (0, .ref q_), (1, .int x1), (2, .int x2), (3, .int x3)]) hx hb dX9_meets_46 hl (by decide) rfl (fun ls hl => ?_)
      refine lv_iload hx hb dX9_meets_48 (lv_at hl 0 rfl) ?_
      refine lv_iload_n hx hb dX9_meets_50 rfl (lv_at hl 3 rfl) ?_
      refine lv_icmp_ge (tgt := 57) hx hb dX9_meets_51 (by decide) (fun c6 => ?_) (fun c6 => ?_)
      · replace hF := oi_t c6 hF
        refine lv_iinc (v := x3 + 1) (lv' := [(3, .int (x3 + 1)), (4, .int (u_owes ((6 * (u_path (x3).toNatClampNeg)) + (u_path ((x3 + 1) - (x3 + 1) / x1 * x1).toNatClampNeg)).toNatClampNeg)), (0, .ref q_), (1, .int x1), (2, .int x2)]) hx hb dX9_meets_57 hl (k := 4) rfl rfl (by decide) rfl (fun ls hl => ?_)
        refine lv_goto (tgt := 16) hx hb dX9_meets_60 (by decide) ?_
        exact ih x2 (x3 + 1) H locs ls hF hw (lv_sub hl [2, 3, 4, 0] rfl)
      · replace hF := oi_f c6 hF
        refine lv_iload hx hb dX9_meets_54 (lv_at hl 0 rfl) ?_
        refine lv_istore_n (lv' := [(2, .int (u_owes ((6 * (u_path (x3).toNatClampNeg)) + (u_path ((x3 + 1) - (x3 + 1) / x1 * x1).toNatClampNeg)).toNatClampNeg)), (4, .int (u_owes ((6 * (u_path (x3).toNatClampNeg)) + (u_path ((x3 + 1) - (x3 + 1) / x1 * x1).toNatClampNeg)).toNatClampNeg)), (0, .ref q_), (1, .int x1), (3, .int x3)]) hx hb dX9_meets_56 rfl hl (by decide) rfl (fun ls hl => ?_)
        refine lv_iinc (v := x3 + 1) (lv' := [(3, .int (x3 + 1)), (2, .int (u_owes ((6 * (u_path (x3).toNatClampNeg)) + (u_path ((x3 + 1) - (x3 + 1) / x1 * x1).toNatClampNeg)).toNatClampNeg)), (4, .int (u_owes ((6 * (u_path (x3).toNatClampNeg)) + (u_path ((x3 + 1) - (x3 + 1) / x1 * x1).toNatClampNeg)).toNatClampNeg)), (0, .ref q_), (1, .int x1)]) hx hb dX9_meets_57 hl (k := 4) rfl rfl (by decide) rfl (fun ls hl => ?_)
        refine lv_goto (tgt := 16) hx hb dX9_meets_60 (by decide) ?_
        exact ih (u_owes ((6 * (u_path (x3).toNatClampNeg)) + (u_path ((x3 + 1) - (x3 + 1) / x1 * x1).toNatClampNeg)).toNatClampNeg) (x3 + 1) H locs ls hF hw (lv_sub hl [3, 4, 1, 0] rfl)
set_option maxRecDepth 20000 in
theorem LX9_meets_138 {p : Program} {l : Launch} {e : Env} {R : Room} {s : State} {m : MethodId} {args : Array Value} {below : List Frame} {meth : Method} {c : Code} {Q : State → Prop} {D : va_G} {C : Nat → ClassId} {A : Nat → Prop} (cx : CX p m c s args RX9 cX9_meets 6 D C A R 2) {q_ q_owes q_denies q_debt q_cut q_sight q_event q_book q_text q_path q_ring q_balance q_left q_sum q_parts q_group q_payment q_then q_image q_tapeSort q_tapeSize q_items : Nat} {u_people : Int32} {u_debts : Int32} {u_cuts : Int32} {u_seen : Int32} {u_events : Int32} {u_inBook : Int32} {u_texted : Int32} {u_rule : Int32} {u_rings : Int32} {u_size : Int32} {u_least : Int32} {u_worth : Int64} {u_groups : Int32} {u_paid : Int32} {u_imaged : Int32} {u_owes : (Nat → Int32)} {u_denies : (Nat → Int32)} {u_path : (Nat → Int32)} {x1 : Int32} {z : (Int32 × Int32 × Int32 × Int64 × (Nat → Int32))} (hret : RT p l e R s m args below meth c Q D A cX9_meets none [(q_, .inr (9, [.int u_people, .ref q_owes, .ref q_denies, .int u_debts, .ref q_debt, .int u_cuts, .ref q_cut, .int u_seen, .ref q_sight, .int u_events, .ref q_event, .int u_inBook, .ref q_book, .int u_texted, .ref q_text, .ref q_path, .int u_rule, .int z.1, .int z.2.1, .int z.2.2.1, .long z.2.2.2.1, .ref q_ring, .ref q_balance, .ref q_left, .ref q_sum, .ref q_parts, .int u_groups, .ref q_group, .int u_paid, .ref q_payment, .ref q_then, .int u_imaged, .ref q_image, .ref q_tapeSort, .ref q_tapeSize, .ref q_items])), (q_owes, .inl (C 0, 36, .inl u_owes)), (q_denies, .inl (C 0, 36, .inl u_denies)), (q_path, .inl (C 0, 6, .inl u_path)), (q_ring, .inl (C 0, 6, .inl z.2.2.2.2))] none) :
    ∀ (n : Nat) (x5 : Int32) (u_ring : (Nat → Int32)) (H : Heap) (locs : List Loc) (ls : Array Slot), fX9_meets_L138 u_rings u_size u_least u_worth u_path x1 n x5 u_ring = some z → HW D A s.heap H locs [(q_, .inr (9, [.int u_people, .ref q_owes, .ref q_denies, .int u_debts, .ref q_debt, .int u_cuts, .ref q_cut, .int u_seen, .ref q_sight, .int u_events, .ref q_event, .int u_inBook, .ref q_book, .int u_texted, .ref q_text, .ref q_path, .int u_rule, .int u_rings, .int u_size, .int u_least, .long u_worth, .ref q_ring, .ref q_balance, .ref q_left, .ref q_sum, .ref q_parts, .int u_groups, .ref q_group, .int u_paid, .ref q_payment, .ref q_then, .int u_imaged, .ref q_image, .ref q_tapeSort, .ref q_tapeSize, .ref q_items])), (q_owes, .inl (C 0, 36, .inl u_owes)), (q_denies, .inl (C 0, 36, .inl u_denies)), (q_path, .inl (C 0, 6, .inl u_path)), (q_ring, .inl (C 0, 6, .inl u_ring))] → lv_has ls 6 [(0, .ref q_), (1, .int x1), (5, .int x5)] → W p l e R s m args below meth c H locs 0 0 Q (F0 m 138 ls []) := by
  have hx := cx.1
  have hb := cx.2.1
  intro n
  induction n with
  | zero => intro x5 u_ring H locs ls hF; cases hF
  | succ n ih =>
    intro x5 u_ring H locs ls hF hw hl
    rw [fX9_meets_L138.eq_2] at hF
    refine lv_iload hx hb dX9_meets_138 (lv_at hl 2 rfl) ?_
    refine lv_iload_n hx hb dX9_meets_140 rfl (lv_at hl 1 rfl) ?_
    refine lv_icmp_ge (tgt := 164) hx hb dX9_meets_141 (by decide) (fun c10 => ?_) (fun c10 => ?_)
    · replace hF := oi_t c10 hF
      obtain rfl := Option.some.inj hF
      exact rt_v hret hw rfl dX9_meets_164
    · replace hF := oi_f c10 hF
      refine lv_aload_n hx hb dX9_meets_144 rfl (lv_at hl 0 rfl) ?_
      refine r_get (ci := 9) (v := .ref q_ring) cx hw iX9 0 21 rfl rfl (by decide) wf_X9_39 rfl dX9_meets_145 ?_
      refine lv_iload hx hb dX9_meets_148 (lv_at hl 2 rfl) ?_
      refine lv_aload_n hx hb dX9_meets_150 rfl (lv_at hl 0 rfl) ?_
      refine r_get (ci := 9) (v := .ref q_path) cx hw iX9 0 15 rfl rfl (by decide) wf_X9_36 rfl dX9_meets_151 ?_
      refine lv_iload hx hb dX9_meets_154 (lv_at hl 2 rfl) ?_
      obtain ⟨g11, hF⟩ := gA_s hF
      refine r_iald cx hw 3 rfl g11 dX9_meets_156 ?_
      obtain ⟨g12, hF⟩ := gA_s hF
      refine r_iast (w2 := [(q_, .inr (9, [.int u_people, .ref q_owes, .ref q_denies, .int u_debts, .ref q_debt, .int u_cuts, .ref q_cut, .int u_seen, .ref q_sight, .int u_events, .ref q_event, .int u_inBook, .ref q_book, .int u_texted, .ref q_text, .ref q_path, .int u_rule, .int u_rings, .int u_size, .int u_least, .long u_worth, .ref q_ring, .ref q_balance, .ref q_left, .ref q_sum, .ref q_parts, .int u_groups, .ref q_group, .int u_paid, .ref q_payment, .ref q_then, .int u_imaged, .ref q_image, .ref q_tapeSort, .ref q_tapeSize, .ref q_items])), (q_owes, .inl (C 0, 36, .inl u_owes)), (q_denies, .inl (C 0, 36, .inl u_denies)), (q_path, .inl (C 0, 6, .inl u_path)), (q_ring, .inl (C 0, 6, .inl (upd u_ring (x5 : Int32).toNatClampNeg (u_path (x5).toNatClampNeg))))]) cx hw 4 rfl g12 dX9_meets_157 rfl (fun H locs hw => ?_)
      refine lv_iinc (v := x5 + 1) (lv' := [(5, .int (x5 + 1)), (0, .ref q_), (1, .int x1)]) hx hb dX9_meets_158 hl (k := 2) rfl rfl (by decide) rfl (fun ls hl => ?_)
      refine lv_goto (tgt := 138) hx hb dX9_meets_161 (by decide) ?_
      exact ih (x5 + 1) (upd u_ring (x5 : Int32).toNatClampNeg (u_path (x5).toNatClampNeg)) H locs ls hF hw (lv_sub hl [1, 2, 0] rfl)
set_option maxRecDepth 20000 in
theorem CX9_meets (l : Launch) (D : va_G) (C : Nat → ClassId) (q_ q_owes q_denies q_debt q_cut q_sight q_event q_book q_text q_path q_ring q_balance q_left q_sum q_parts q_group q_payment q_then q_image q_tapeSort q_tapeSize q_items : Nat) (u_people : Int32) (u_debts : Int32) (u_cuts : Int32) (u_seen : Int32) (u_events : Int32) (u_inBook : Int32) (u_texted : Int32) (u_rule : Int32) (u_rings : Int32) (u_size : Int32) (u_least : Int32) (u_worth : Int64) (u_groups : Int32) (u_paid : Int32) (u_imaged : Int32) (u_owes : (Nat → Int32)) (u_denies : (Nat → Int32)) (u_path : (Nat → Int32)) (u_ring : (Nat → Int32)) (x1 : Int32) (z : (Int32 × Int32 × Int32 × Int64 × (Nat → Int32))) (hF : fX9_meets u_rule u_rings u_size u_least u_worth u_owes u_denies u_path u_ring x1 = some z) : Ct l yX9_meets cX9_meets 6 none 2 D C [.ref q_, .int x1] [(q_, .inr (9, [.int u_people, .ref q_owes, .ref q_denies, .int u_debts, .ref q_debt, .int u_cuts, .ref q_cut, .int u_seen, .ref q_sight, .int u_events, .ref q_event, .int u_inBook, .ref q_book, .int u_texted, .ref q_text, .ref q_path, .int u_rule, .int u_rings, .int u_size, .int u_least, .long u_worth, .ref q_ring, .ref q_balance, .ref q_left, .ref q_sum, .ref q_parts, .int u_groups, .ref q_group, .int u_paid, .ref q_payment, .ref q_then, .int u_imaged, .ref q_image, .ref q_tapeSort, .ref q_tapeSize, .ref q_items])), (q_owes, .inl (C 0, 36, .inl u_owes)), (q_denies, .inl (C 0, 36, .inl u_denies)), (q_path, .inl (C 0, 6, .inl u_path)), (q_ring, .inl (C 0, 6, .inl u_ring))] [(q_, .inr (9, [.int u_people, .ref q_owes, .ref q_denies, .int u_debts, .ref q_debt, .int u_cuts, .ref q_cut, .int u_seen, .ref q_sight, .int u_events, .ref q_event, .int u_inBook, .ref q_book, .int u_texted, .ref q_text, .ref q_path, .int u_rule, .int z.1, .int z.2.1, .int z.2.2.1, .long z.2.2.2.1, .ref q_ring, .ref q_balance, .ref q_left, .ref q_sum, .ref q_parts, .int u_groups, .ref q_group, .int u_paid, .ref q_payment, .ref q_then, .int u_imaged, .ref q_image, .ref q_tapeSort, .ref q_tapeSize, .ref q_items])), (q_owes, .inl (C 0, 36, .inl u_owes)), (q_denies, .inl (C 0, 36, .inl u_denies)), (q_path, .inl (C 0, 6, .inl u_path)), (q_ring, .inl (C 0, 6, .inl z.2.2.2.2))] none := by
  refine Ct_of (by decide) (Nat.le_of_ble_eq_true rfl) ?_
  intro p e R s m args below meth c A Q H locs ls cx hw hl hret
  have cx : CX p m c s args RX9 cX9_meets 6 D C A R 2 := cx
  have hx := cx.1
  have hb := cx.2.1
  have hl : lv_has ls 6 [(0, .ref q_), (1, .int x1)] := hl
  rw [fX9_meets.eq_1] at hF
  refine lv_aload_n hx hb dX9_meets_0 rfl (lv_at hl 0 rfl) ?_
  refine lv_dup hx hb dX9_meets_1 rfl ?_
  refine r_get (ci := 9) (v := .int u_rings) cx hw iX9 0 17 rfl rfl (by decide) wf_X9_136 rfl dX9_meets_2 ?_
  refine lv_iconst (v := 1) hx hb dX9_meets_5 (by decide) ?_
  refine lv_iadd hx hb dX9_meets_6 ?_
  refine r_put (ci := 9) (w2 := [(q_, .inr (9, [.int u_people, .ref q_owes, .ref q_denies, .int u_debts, .ref q_debt, .int u_cuts, .ref q_cut, .int u_seen, .ref q_sight, .int u_events, .ref q_event, .int u_inBook, .ref q_book, .int u_texted, .ref q_text, .ref q_path, .int u_rule, .int (u_rings + 1), .int u_size, .int u_least, .long u_worth, .ref q_ring, .ref q_balance, .ref q_left, .ref q_sum, .ref q_parts, .int u_groups, .ref q_group, .int u_paid, .ref q_payment, .ref q_then, .int u_imaged, .ref q_image, .ref q_tapeSort, .ref q_tapeSize, .ref q_items])), (q_owes, .inl (C 0, 36, .inl u_owes)), (q_denies, .inl (C 0, 36, .inl u_denies)), (q_path, .inl (C 0, 6, .inl u_path)), (q_ring, .inl (C 0, 6, .inl u_ring))]) cx hw iX9 tyX9_ok nmX9 0 17 rfl rfl (by decide) wf_X9_136 rfl rfl rfl rfl (Nat.le_of_ble_eq_true rfl) dX9_meets_7 rfl (fun H locs hw => ?_)
  refine lv_sipush (v := 999) hx hb dX9_meets_10 (by decide) ?_
  refine lv_istore_n (lv' := [(2, .int 999), (0, .ref q_), (1, .int x1)]) hx hb dX9_meets_13 rfl hl (by decide) rfl (fun ls hl => ?_)
  refine lv_iconst (v := 0) hx hb dX9_meets_14 (by decide) ?_
  refine lv_istore_n (lv' := [(3, .int 0), (2, .int 999), (0, .ref q_), (1, .int x1)]) hx hb dX9_meets_15 rfl hl (by decide) rfl (fun ls hl => ?_)
  refine LX9_meets_16 cx hret (fun x2_7 H locs ls hF hw hl => ?_) 400 999 0 H locs ls hF hw (lv_sub hl [2, 3, 1, 0] rfl)
  · refine lv_aload_n hx hb dX9_meets_63 rfl (lv_at hl 0 rfl) ?_
    refine r_get (ci := 9) (v := .int u_rule) cx hw iX9 0 16 rfl rfl (by decide) wf_X9_139 rfl dX9_meets_64 ?_
    refine lv_iconst (v := 1) hx hb dX9_meets_67 (by decide) ?_
    obtain ⟨j93, ej93, hF⟩ := jn_s hF
    have J93 : ∀ (y93_0 : Int64) (H : Heap) (locs : List Loc) (ls : Array Slot), j93 y93_0 = some z → HW D A s.heap H locs [(q_, .inr (9, [.int u_people, .ref q_owes, .ref q_denies, .int u_debts, .ref q_debt, .int u_cuts, .ref q_cut, .int u_seen, .ref q_sight, .int u_events, .ref q_event, .int u_inBook, .ref q_book, .int u_texted, .ref q_text, .ref q_path, .int u_rule, .int (u_rings + 1), .int u_size, .int u_least, .long u_worth, .ref q_ring, .ref q_balance, .ref q_left, .ref q_sum, .ref q_parts, .int u_groups, .ref q_group, .int u_paid, .ref q_payment, .ref q_then, .int u_imaged, .ref q_image, .ref q_tapeSort, .ref q_tapeSize, .ref q_items])), (q_owes, .inl (C 0, 36, .inl u_owes)), (q_denies, .inl (C 0, 36, .inl u_denies)), (q_path, .inl (C 0, 6, .inl u_path)), (q_ring, .inl (C 0, 6, .inl u_ring))] → lv_has ls 6 [(0, .ref q_), (1, .int x1), (2, .int x2_7)] → W p l e R s m args below meth c H locs 0 0 Q (F0 m 93 ls [.long y93_0]) := by
      intro y93_0 H locs ls hF hw hl
      rw [ej93] at hF
      refine lv_lstore_n (lv' := [(3, .long y93_0), (0, .ref q_), (1, .int x1), (2, .int x2_7)]) hx hb dX9_meets_93 rfl hl (by decide) rfl (fun ls hl => ?_)
      refine lv_lload_n hx hb dX9_meets_94 rfl (lv_at hl 0 rfl) ?_
      refine lv_aload_n hx hb dX9_meets_95 rfl (lv_at hl 1 rfl) ?_
      refine r_get (ci := 9) (v := .long u_worth) cx hw iX9 0 20 rfl rfl (by decide) wf_X9_142 rfl dX9_meets_96 ?_
      refine W.lcmp hx hb dX9_meets_99 ?_
      refine lv_if_le (tgt := 119) hx hb dX9_meets_100 (by decide) (fun c8 => ?_) (fun c8 => ?_)
      · replace hF := oi_t c8 hF
        obtain rfl := Option.some.inj hF
        exact rt_v hret hw rfl dX9_meets_119
      · replace hF := oi_f c8 hF
        refine lv_aload_n hx hb dX9_meets_103 rfl (lv_at hl 1 rfl) ?_
        refine r_get (ci := 9) (v := .int u_rule) cx hw iX9 0 16 rfl rfl (by decide) wf_X9_139 rfl dX9_meets_104 ?_
        refine lv_iconst (v := 3) hx hb dX9_meets_107 (by decide) ?_
        refine lv_icmp_ne (tgt := 120) hx hb dX9_meets_108 (by decide) (fun c9 => ?_) (fun c9 => ?_)
        · replace hF := oi_f c9 hF
          refine lv_aload_n hx hb dX9_meets_120 rfl (lv_at hl 1 rfl) ?_
          refine lv_lload_n hx hb dX9_meets_121 rfl (lv_at hl 0 rfl) ?_
          refine r_put (ci := 9) (w2 := [(q_, .inr (9, [.int u_people, .ref q_owes, .ref q_denies, .int u_debts, .ref q_debt, .int u_cuts, .ref q_cut, .int u_seen, .ref q_sight, .int u_events, .ref q_event, .int u_inBook, .ref q_book, .int u_texted, .ref q_text, .ref q_path, .int u_rule, .int (u_rings + 1), .int u_size, .int u_least, .long y93_0, .ref q_ring, .ref q_balance, .ref q_left, .ref q_sum, .ref q_parts, .int u_groups, .ref q_group, .int u_paid, .ref q_payment, .ref q_then, .int u_imaged, .ref q_image, .ref q_tapeSort, .ref q_tapeSize, .ref q_items])), (q_owes, .inl (C 0, 36, .inl u_owes)), (q_denies, .inl (C 0, 36, .inl u_denies)), (q_path, .inl (C 0, 6, .inl u_path)), (q_ring, .inl (C 0, 6, .inl u_ring))]) cx hw iX9 tyX9_ok nmX9 0 20 rfl rfl (by decide) wf_X9_142 rfl rfl rfl rfl (Nat.le_of_ble_eq_true rfl) dX9_meets_122 rfl (fun H locs hw => ?_)
          refine lv_aload_n hx hb dX9_meets_125 rfl (lv_at hl 1 rfl) ?_
          refine lv_iload_n hx hb dX9_meets_126 rfl (lv_at hl 2 rfl) ?_
          refine r_put (ci := 9) (w2 := [(q_, .inr (9, [.int u_people, .ref q_owes, .ref q_denies, .int u_debts, .ref q_debt, .int u_cuts, .ref q_cut, .int u_seen, .ref q_sight, .int u_events, .ref q_event, .int u_inBook, .ref q_book, .int u_texted, .ref q_text, .ref q_path, .int u_rule, .int (u_rings + 1), .int x1, .int u_least, .long y93_0, .ref q_ring, .ref q_balance, .ref q_left, .ref q_sum, .ref q_parts, .int u_groups, .ref q_group, .int u_paid, .ref q_payment, .ref q_then, .int u_imaged, .ref q_image, .ref q_tapeSort, .ref q_tapeSize, .ref q_items])), (q_owes, .inl (C 0, 36, .inl u_owes)), (q_denies, .inl (C 0, 36, .inl u_denies)), (q_path, .inl (C 0, 6, .inl u_path)), (q_ring, .inl (C 0, 6, .inl u_ring))]) cx hw iX9 tyX9_ok nmX9 0 18 rfl rfl (by decide) wf_X9_149 rfl rfl rfl rfl (Nat.le_of_ble_eq_true rfl) dX9_meets_127 rfl (fun H locs hw => ?_)
          refine lv_aload_n hx hb dX9_meets_130 rfl (lv_at hl 1 rfl) ?_
          refine lv_iload_n hx hb dX9_meets_131 rfl (lv_at hl 3 rfl) ?_
          refine r_put (ci := 9) (w2 := [(q_, .inr (9, [.int u_people, .ref q_owes, .ref q_denies, .int u_debts, .ref q_debt, .int u_cuts, .ref q_cut, .int u_seen, .ref q_sight, .int u_events, .ref q_event, .int u_inBook, .ref q_book, .int u_texted, .ref q_text, .ref q_path, .int u_rule, .int (u_rings + 1), .int x1, .int x2_7, .long y93_0, .ref q_ring, .ref q_balance, .ref q_left, .ref q_sum, .ref q_parts, .int u_groups, .ref q_group, .int u_paid, .ref q_payment, .ref q_then, .int u_imaged, .ref q_image, .ref q_tapeSort, .ref q_tapeSize, .ref q_items])), (q_owes, .inl (C 0, 36, .inl u_owes)), (q_denies, .inl (C 0, 36, .inl u_denies)), (q_path, .inl (C 0, 6, .inl u_path)), (q_ring, .inl (C 0, 6, .inl u_ring))]) cx hw iX9 tyX9_ok nmX9 0 19 rfl rfl (by decide) wf_X9_152 rfl rfl rfl rfl (Nat.le_of_ble_eq_true rfl) dX9_meets_132 rfl (fun H locs hw => ?_)
          refine lv_iconst (v := 0) hx hb dX9_meets_135 (by decide) ?_
          refine lv_istore (lv' := [(5, .int 0), (3, .long y93_0), (0, .ref q_), (1, .int x1), (2, .int x2_7)]) hx hb dX9_meets_136 hl (by decide) rfl (fun ls hl => ?_)
          refine LX9_meets_138 cx hret 400 0 u_ring H locs ls hF hw (lv_sub hl [2, 3, 0] rfl)
        · replace hF := oi_t c9 hF
          refine lv_aload_n hx hb dX9_meets_111 rfl (lv_at hl 1 rfl) ?_
          refine lv_iload_n hx hb dX9_meets_112 rfl (lv_at hl 2 rfl) ?_
          obtain ⟨z13, hz13, hF⟩ := ob hF
          refine cV (wr := [(q_owes, .inl (C 0, 36, .inl u_owes)), (q_ring, .inl (C 0, 6, .inl u_ring))]) (w2 := [(q_, .inr (9, [.int u_people, .ref q_owes, .ref q_denies, .int u_debts, .ref q_debt, .int u_cuts, .ref q_cut, .int u_seen, .ref q_sight, .int u_events, .ref q_event, .int u_inBook, .ref q_book, .int u_texted, .ref q_text, .ref q_path, .int u_rule, .int (u_rings + 1), .int u_size, .int u_least, .long u_worth, .ref q_ring, .ref q_balance, .ref q_left, .ref q_sum, .ref q_parts, .int u_groups, .ref q_group, .int u_paid, .ref q_payment, .ref q_then, .int u_imaged, .ref q_image, .ref q_tapeSort, .ref q_tapeSize, .ref q_items])), (q_owes, .inl (C 0, 36, .inl u_owes)), (q_denies, .inl (C 0, 36, .inl u_denies)), (q_path, .inl (C 0, 6, .inl u_path)), (q_ring, .inl (C 0, 6, .inl u_ring))]) (st2 := [.int z13]) cx (CX9_agreed l D C q_ q_owes q_denies q_debt q_cut q_sight q_event q_book q_text q_path q_ring q_balance q_left q_sum q_parts q_group q_payment q_then q_image q_tapeSort q_tapeSize q_items u_people u_debts u_cuts u_seen u_events u_inBook u_texted u_rule (u_rings + 1) u_size u_least u_worth u_groups u_paid u_imaged u_denies u_path x1 z13 hz13) lk_X9_146 my_X9_agreed ml_X9_agreed ⟨by decide, by decide⟩ hw [0, 2, 3] [1, 4] [2, 0, 3, 4, 1] rfl rfl (by decide) rfl rfl rfl rfl (Nat.le_of_ble_eq_true rfl) dX9_meets_113 rfl (fun H locs hw => ?_) hl.1
          refine lv_if_ne (tgt := 120) hx hb dX9_meets_116 (by decide) (fun c14 => ?_) (fun c14 => ?_)
          · replace hF := oi_f c14 hF
            refine lv_aload_n hx hb dX9_meets_120 rfl (lv_at hl 1 rfl) ?_
            refine lv_lload_n hx hb dX9_meets_121 rfl (lv_at hl 0 rfl) ?_
            refine r_put (ci := 9) (w2 := [(q_, .inr (9, [.int u_people, .ref q_owes, .ref q_denies, .int u_debts, .ref q_debt, .int u_cuts, .ref q_cut, .int u_seen, .ref q_sight, .int u_events, .ref q_event, .int u_inBook, .ref q_book, .int u_texted, .ref q_text, .ref q_path, .int u_rule, .int (u_rings + 1), .int u_size, .int u_least, .long y93_0, .ref q_ring, .ref q_balance, .ref q_left, .ref q_sum, .ref q_parts, .int u_groups, .ref q_group, .int u_paid, .ref q_payment, .ref q_then, .int u_imaged, .ref q_image, .ref q_tapeSort, .ref q_tapeSize, .ref q_items])), (q_owes, .inl (C 0, 36, .inl u_owes)), (q_denies, .inl (C 0, 36, .inl u_denies)), (q_path, .inl (C 0, 6, .inl u_path)), (q_ring, .inl (C 0, 6, .inl u_ring))]) cx hw iX9 tyX9_ok nmX9 0 20 rfl rfl (by decide) wf_X9_142 rfl rfl rfl rfl (Nat.le_of_ble_eq_true rfl) dX9_meets_122 rfl (fun H locs hw => ?_)
            refine lv_aload_n hx hb dX9_meets_125 rfl (lv_at hl 1 rfl) ?_
            refine lv_iload_n hx hb dX9_meets_126 rfl (lv_at hl 2 rfl) ?_
            refine r_put (ci := 9) (w2 := [(q_, .inr (9, [.int u_people, .ref q_owes, .ref q_denies, .int u_debts, .ref q_debt, .int u_cuts, .ref q_cut, .int u_seen, .ref q_sight, .int u_events, .ref q_event, .int u_inBook, .ref q_book, .int u_texted, .ref q_text, .ref q_path, .int u_rule, .int (u_rings + 1), .int x1, .int u_least, .long y93_0, .ref q_ring, .ref q_balance, .ref q_left, .ref q_sum, .ref q_parts, .int u_groups, .ref q_group, .int u_paid, .ref q_payment, .ref q_then, .int u_imaged, .ref q_image, .ref q_tapeSort, .ref q_tapeSize, .ref q_items])), (q_owes, .inl (C 0, 36, .inl u_owes)), (q_denies, .inl (C 0, 36, .inl u_denies)), (q_path, .inl (C 0, 6, .inl u_path)), (q_ring, .inl (C 0, 6, .inl u_ring))]) cx hw iX9 tyX9_ok nmX9 0 18 rfl rfl (by decide) wf_X9_149 rfl rfl rfl rfl (Nat.le_of_ble_eq_true rfl) dX9_meets_127 rfl (fun H locs hw => ?_)
            refine lv_aload_n hx hb dX9_meets_130 rfl (lv_at hl 1 rfl) ?_
            refine lv_iload_n hx hb dX9_meets_131 rfl (lv_at hl 3 rfl) ?_
            refine r_put (ci := 9) (w2 := [(q_, .inr (9, [.int u_people, .ref q_owes, .ref q_denies, .int u_debts, .ref q_debt, .int u_cuts, .ref q_cut, .int u_seen, .ref q_sight, .int u_events, .ref q_event, .int u_inBook, .ref q_book, .int u_texted, .ref q_text, .ref q_path, .int u_rule, .int (u_rings + 1), .int x1, .int x2_7, .long y93_0, .ref q_ring, .ref q_balance, .ref q_left, .ref q_sum, .ref q_parts, .int u_groups, .ref q_group, .int u_paid, .ref q_payment, .ref q_then, .int u_imaged, .ref q_image, .ref q_tapeSort, .ref q_tapeSize, .ref q_items])), (q_owes, .inl (C 0, 36, .inl u_owes)), (q_denies, .inl (C 0, 36, .inl u_denies)), (q_path, .inl (C 0, 6, .inl u_path)), (q_ring, .inl (C 0, 6, .inl u_ring))]) cx hw iX9 tyX9_ok nmX9 0 19 rfl rfl (by decide) wf_X9_152 rfl rfl rfl rfl (Nat.le_of_ble_eq_true rfl) dX9_meets_132 rfl (fun H locs hw => ?_)
            refine lv_iconst (v := 0) hx hb dX9_meets_135 (by decide) ?_
            refine lv_istore (lv' := [(5, .int 0), (3, .long y93_0), (0, .ref q_), (1, .int x1), (2, .int x2_7)]) hx hb dX9_meets_136 hl (by decide) rfl (fun ls hl => ?_)
            refine LX9_meets_138 cx hret 400 0 u_ring H locs ls hF hw (lv_sub hl [2, 3, 0] rfl)
          · replace hF := oi_t c14 hF
            obtain rfl := Option.some.inj hF
            exact rt_v hret hw rfl dX9_meets_119
    refine lv_icmp_ne (tgt := 76) hx hb dX9_meets_68 (by decide) (fun c15 => ?_) (fun c15 => ?_)
    · replace hF := oi_f c15 hF
      refine lv_aload_n hx hb dX9_meets_76 rfl (lv_at hl 0 rfl) ?_
      refine r_get (ci := 9) (v := .int u_rule) cx hw iX9 0 16 rfl rfl (by decide) wf_X9_139 rfl dX9_meets_77 ?_
      refine lv_iconst (v := 2) hx hb dX9_meets_80 (by decide) ?_
      refine lv_icmp_ne (tgt := 92) hx hb dX9_meets_81 (by decide) (fun c16 => ?_) (fun c16 => ?_)
      · replace hF := oi_f c16 hF
        refine lv_lconst (v := 1) hx hb dX9_meets_92 (by decide) ?_
        exact J93 1 H locs ls hF hw (lv_sub hl [0, 1, 2] rfl)
      · replace hF := oi_t c16 hF
        refine lv_iload_n hx hb dX9_meets_84 rfl (lv_at hl 2 rfl) ?_
        refine lv_i2l (v := (x2_7 : Int32).toInt64) hx hb dX9_meets_85 rfl ?_
        refine lv_iload_n hx hb dX9_meets_86 rfl (lv_at hl 1 rfl) ?_
        refine lv_i2l (v := (x1 : Int32).toInt64) hx hb dX9_meets_87 rfl ?_
        refine lv_lmul hx hb dX9_meets_88 ?_
        refine lv_goto (tgt := 93) hx hb dX9_meets_89 (by decide) ?_
        exact J93 (((x2_7 : Int32).toInt64) * ((x1 : Int32).toInt64)) H locs ls hF hw (lv_sub hl [0, 1, 2] rfl)
    · replace hF := oi_t c15 hF
      refine lv_iload_n hx hb dX9_meets_71 rfl (lv_at hl 2 rfl) ?_
      refine lv_i2l (v := (x2_7 : Int32).toInt64) hx hb dX9_meets_72 rfl ?_
      refine lv_goto (tgt := 93) hx hb dX9_meets_73 (by decide) ?_
      exact J93 ((x2_7 : Int32).toInt64) H locs ls hF hw (lv_sub hl [0, 1, 2] rfl)
theorem dX9_isIn_0 : decode cX9_isIn 0 = .ok (.iconst 0, 1) := by decide +kernel
theorem dX9_isIn_1 : decode cX9_isIn 1 = .ok (.istore_n 3, 1) := by decide +kernel
theorem dX9_isIn_2 : decode cX9_isIn 2 = .ok (.iload_n 3, 1) := by decide +kernel
theorem dX9_isIn_3 : decode cX9_isIn 3 = .ok (.iload_n 2, 1) := by decide +kernel
theorem dX9_isIn_4 : decode cX9_isIn 4 = .ok (.if_icmp .ge 21, 3) := by decide +kernel
theorem dX9_isIn_7 : decode cX9_isIn 7 = .ok (.aload_n 0, 1) := by decide +kernel
theorem dX9_isIn_8 : decode cX9_isIn 8 = .ok (.getfield 36, 3) := by decide +kernel
theorem dX9_isIn_11 : decode cX9_isIn 11 = .ok (.iload_n 3, 1) := by decide +kernel
theorem dX9_isIn_12 : decode cX9_isIn 12 = .ok (.iaload, 1) := by decide +kernel
theorem dX9_isIn_13 : decode cX9_isIn 13 = .ok (.iload_n 1, 1) := by decide +kernel
theorem dX9_isIn_14 : decode cX9_isIn 14 = .ok (.if_icmp .ne 5, 3) := by decide +kernel
theorem dX9_isIn_17 : decode cX9_isIn 17 = .ok (.iconst 1, 1) := by decide +kernel
theorem dX9_isIn_18 : decode cX9_isIn 18 = .ok (.ireturn, 1) := by decide +kernel
theorem dX9_isIn_19 : decode cX9_isIn 19 = .ok (.iinc 3 1, 3) := by decide +kernel
theorem dX9_isIn_22 : decode cX9_isIn 22 = .ok (.goto (-20), 3) := by decide +kernel
theorem dX9_isIn_25 : decode cX9_isIn 25 = .ok (.iconst 0, 1) := by decide +kernel
theorem dX9_isIn_26 : decode cX9_isIn 26 = .ok (.ireturn, 1) := by decide +kernel
def fX9_isIn_L2 (u_path : (Nat → Int32)) (x1 : Int32) (x2 : Int32) : Nat → Int32 → Option Int32
  | 0, _ => none
  | n + 1, x3 => if x2 ≤ x3 then (some 0) else (gA x3 6 (if (u_path (x3).toNatClampNeg) = x1 then (some 1) else (fX9_isIn_L2 u_path x1 x2 n (x3 + 1))))
def fX9_isIn (u_path : (Nat → Int32)) (x1 : Int32) (x2 : Int32) : Option Int32 := fX9_isIn_L2 u_path x1 x2 400 0
set_option maxRecDepth 20000 in
theorem LX9_isIn_2 {p : Program} {l : Launch} {e : Env} {R : Room} {s : State} {m : MethodId} {args : Array Value} {below : List Frame} {meth : Method} {c : Code} {Q : State → Prop} {D : va_G} {C : Nat → ClassId} {A : Nat → Prop} (cx : CX p m c s args RX9 cX9_isIn 4 D C A R 1) {q_ q_owes q_denies q_debt q_cut q_sight q_event q_book q_text q_path q_ring q_balance q_left q_sum q_parts q_group q_payment q_then q_image q_tapeSort q_tapeSize q_items : Nat} {u_people : Int32} {u_debts : Int32} {u_cuts : Int32} {u_seen : Int32} {u_events : Int32} {u_inBook : Int32} {u_texted : Int32} {u_rule : Int32} {u_rings : Int32} {u_size : Int32} {u_least : Int32} {u_worth : Int64} {u_groups : Int32} {u_paid : Int32} {u_imaged : Int32} {u_path : (Nat → Int32)} {x1 : Int32} {x2 : Int32} {z : Int32} (hret : RT p l e R s m args below meth c Q D A cX9_isIn (some .boolean) [(q_, .inr (9, [.int u_people, .ref q_owes, .ref q_denies, .int u_debts, .ref q_debt, .int u_cuts, .ref q_cut, .int u_seen, .ref q_sight, .int u_events, .ref q_event, .int u_inBook, .ref q_book, .int u_texted, .ref q_text, .ref q_path, .int u_rule, .int u_rings, .int u_size, .int u_least, .long u_worth, .ref q_ring, .ref q_balance, .ref q_left, .ref q_sum, .ref q_parts, .int u_groups, .ref q_group, .int u_paid, .ref q_payment, .ref q_then, .int u_imaged, .ref q_image, .ref q_tapeSort, .ref q_tapeSize, .ref q_items])), (q_path, .inl (C 0, 6, .inl u_path))] (some (.int z))) :
    ∀ (n : Nat) (x3 : Int32) (H : Heap) (locs : List Loc) (ls : Array Slot), fX9_isIn_L2 u_path x1 x2 n x3 = some z → HW D A s.heap H locs [(q_, .inr (9, [.int u_people, .ref q_owes, .ref q_denies, .int u_debts, .ref q_debt, .int u_cuts, .ref q_cut, .int u_seen, .ref q_sight, .int u_events, .ref q_event, .int u_inBook, .ref q_book, .int u_texted, .ref q_text, .ref q_path, .int u_rule, .int u_rings, .int u_size, .int u_least, .long u_worth, .ref q_ring, .ref q_balance, .ref q_left, .ref q_sum, .ref q_parts, .int u_groups, .ref q_group, .int u_paid, .ref q_payment, .ref q_then, .int u_imaged, .ref q_image, .ref q_tapeSort, .ref q_tapeSize, .ref q_items])), (q_path, .inl (C 0, 6, .inl u_path))] → lv_has ls 4 [(0, .ref q_), (1, .int x1), (2, .int x2), (3, .int x3)] → W p l e R s m args below meth c H locs 0 0 Q (F0 m 2 ls []) := by
  have hx := cx.1
  have hb := cx.2.1
  intro n
  induction n with
  | zero => intro x3 H locs ls hF; cases hF
  | succ n ih =>
    intro x3 H locs ls hF hw hl
    rw [fX9_isIn_L2.eq_2] at hF
    refine lv_iload_n hx hb dX9_isIn_2 rfl (lv_at hl 3 rfl) ?_
    refine lv_iload_n hx hb dX9_isIn_3 rfl (lv_at hl 2 rfl) ?_
    refine lv_icmp_ge (tgt := 25) hx hb dX9_isIn_4 (by decide) (fun c1 => ?_) (fun c1 => ?_)
    · replace hF := oi_t c1 hF
      refine lv_iconst (v := 0) hx hb dX9_isIn_25 (by decide) ?_
      obtain rfl := Option.some.inj hF
      exact rt_z hret hw rfl rfl dX9_isIn_26
    · replace hF := oi_f c1 hF
      refine lv_aload_n hx hb dX9_isIn_7 rfl (lv_at hl 0 rfl) ?_
      refine r_get (ci := 9) (v := .ref q_path) cx hw iX9 0 15 rfl rfl (by decide) wf_X9_36 rfl dX9_isIn_8 ?_
      refine lv_iload_n hx hb dX9_isIn_11 rfl (lv_at hl 3 rfl) ?_
      obtain ⟨g2, hF⟩ := gA_s hF
      refine r_iald cx hw 1 rfl g2 dX9_isIn_12 ?_
      refine lv_iload_n hx hb dX9_isIn_13 rfl (lv_at hl 1 rfl) ?_
      refine lv_icmp_ne (tgt := 19) hx hb dX9_isIn_14 (by decide) (fun c3 => ?_) (fun c3 => ?_)
      · replace hF := oi_f c3 hF
        refine lv_iinc (v := x3 + 1) (lv' := [(3, .int (x3 + 1)), (0, .ref q_), (1, .int x1), (2, .int x2)]) hx hb dX9_isIn_19 hl (k := 3) rfl rfl (by decide) rfl (fun ls hl => ?_)
        refine lv_goto (tgt := 2) hx hb dX9_isIn_22 (by decide) ?_
        exact ih (x3 + 1) H locs ls hF hw (lv_sub hl [1, 2, 3, 0] rfl)
      · replace hF := oi_t c3 hF
        refine lv_iconst (v := 1) hx hb dX9_isIn_17 (by decide) ?_
        obtain rfl := Option.some.inj hF
        exact rt_z hret hw rfl rfl dX9_isIn_18
set_option maxRecDepth 20000 in
theorem CX9_isIn (l : Launch) (D : va_G) (C : Nat → ClassId) (q_ q_owes q_denies q_debt q_cut q_sight q_event q_book q_text q_path q_ring q_balance q_left q_sum q_parts q_group q_payment q_then q_image q_tapeSort q_tapeSize q_items : Nat) (u_people : Int32) (u_debts : Int32) (u_cuts : Int32) (u_seen : Int32) (u_events : Int32) (u_inBook : Int32) (u_texted : Int32) (u_rule : Int32) (u_rings : Int32) (u_size : Int32) (u_least : Int32) (u_worth : Int64) (u_groups : Int32) (u_paid : Int32) (u_imaged : Int32) (u_path : (Nat → Int32)) (x1 : Int32) (x2 : Int32) (z : Int32) (hF : fX9_isIn u_path x1 x2 = some z) : Ct l yX9_isIn cX9_isIn 4 (some .boolean) 1 D C [.ref q_, .int x1, .int x2] [(q_, .inr (9, [.int u_people, .ref q_owes, .ref q_denies, .int u_debts, .ref q_debt, .int u_cuts, .ref q_cut, .int u_seen, .ref q_sight, .int u_events, .ref q_event, .int u_inBook, .ref q_book, .int u_texted, .ref q_text, .ref q_path, .int u_rule, .int u_rings, .int u_size, .int u_least, .long u_worth, .ref q_ring, .ref q_balance, .ref q_left, .ref q_sum, .ref q_parts, .int u_groups, .ref q_group, .int u_paid, .ref q_payment, .ref q_then, .int u_imaged, .ref q_image, .ref q_tapeSort, .ref q_tapeSize, .ref q_items])), (q_path, .inl (C 0, 6, .inl u_path))] [(q_, .inr (9, [.int u_people, .ref q_owes, .ref q_denies, .int u_debts, .ref q_debt, .int u_cuts, .ref q_cut, .int u_seen, .ref q_sight, .int u_events, .ref q_event, .int u_inBook, .ref q_book, .int u_texted, .ref q_text, .ref q_path, .int u_rule, .int u_rings, .int u_size, .int u_least, .long u_worth, .ref q_ring, .ref q_balance, .ref q_left, .ref q_sum, .ref q_parts, .int u_groups, .ref q_group, .int u_paid, .ref q_payment, .ref q_then, .int u_imaged, .ref q_image, .ref q_tapeSort, .ref q_tapeSize, .ref q_items])), (q_path, .inl (C 0, 6, .inl u_path))] (some (.int z)) := by
  refine Ct_of (by decide) (Nat.le_of_ble_eq_true rfl) ?_
  intro p e R s m args below meth c A Q H locs ls cx hw hl hret
  have cx : CX p m c s args RX9 cX9_isIn 4 D C A R 1 := cx
  have hx := cx.1
  have hb := cx.2.1
  have hl : lv_has ls 4 [(0, .ref q_), (1, .int x1), (2, .int x2)] := hl
  rw [fX9_isIn.eq_1] at hF
  refine lv_iconst (v := 0) hx hb dX9_isIn_0 (by decide) ?_
  refine lv_istore_n (lv' := [(3, .int 0), (0, .ref q_), (1, .int x1), (2, .int x2)]) hx hb dX9_isIn_1 rfl hl (by decide) rfl (fun ls hl => ?_)
  refine LX9_isIn_2 cx hret 400 0 H locs ls hF hw (lv_sub hl [1, 2, 3, 0] rfl)
