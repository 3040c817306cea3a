theorem dX9_isPaid_0 : decode cX9_isPaid 0 = .ok (.iconst 0, 1) := by decide +kernel
theorem dX9_isPaid_1 : decode cX9_isPaid 1 = .ok (.istore 4, 2) := by decide +kernel
theorem dX9_isPaid_3 : decode cX9_isPaid 3 = .ok (.iload 4, 2) := by decide +kernel
theorem dX9_isPaid_5 : decode cX9_isPaid 5 = .ok (.aload_n 0, 1) := by decide +kernel
theorem dX9_isPaid_6 : decode cX9_isPaid 6 = .ok (.getfield 186, 3) := by decide +kernel
theorem dX9_isPaid_9 : decode cX9_isPaid 9 = .ok (.if_icmp .ge 54, 3) := by decide +kernel
theorem dX9_isPaid_12 : decode cX9_isPaid 12 = .ok (.aload_n 0, 1) := by decide +kernel
theorem dX9_isPaid_13 : decode cX9_isPaid 13 = .ok (.getfield 57, 3) := by decide +kernel
theorem dX9_isPaid_16 : decode cX9_isPaid 16 = .ok (.iconst 3, 1) := by decide +kernel
theorem dX9_isPaid_17 : decode cX9_isPaid 17 = .ok (.iload 4, 2) := by decide +kernel
theorem dX9_isPaid_19 : decode cX9_isPaid 19 = .ok (.imul, 1) := by decide +kernel
theorem dX9_isPaid_20 : decode cX9_isPaid 20 = .ok (.iaload, 1) := by decide +kernel
theorem dX9_isPaid_21 : decode cX9_isPaid 21 = .ok (.iload_n 1, 1) := by decide +kernel
theorem dX9_isPaid_22 : decode cX9_isPaid 22 = .ok (.if_icmp .ne 35, 3) := by decide +kernel
theorem dX9_isPaid_25 : decode cX9_isPaid 25 = .ok (.aload_n 0, 1) := by decide +kernel
theorem dX9_isPaid_26 : decode cX9_isPaid 26 = .ok (.getfield 57, 3) := by decide +kernel
theorem dX9_isPaid_29 : decode cX9_isPaid 29 = .ok (.iconst 3, 1) := by decide +kernel
theorem dX9_isPaid_30 : decode cX9_isPaid 30 = .ok (.iload 4, 2) := by decide +kernel
theorem dX9_isPaid_32 : decode cX9_isPaid 32 = .ok (.imul, 1) := by decide +kernel
theorem dX9_isPaid_33 : decode cX9_isPaid 33 = .ok (.iconst 1, 1) := by decide +kernel
theorem dX9_isPaid_34 : decode cX9_isPaid 34 = .ok (.iadd, 1) := by decide +kernel
theorem dX9_isPaid_35 : decode cX9_isPaid 35 = .ok (.iaload, 1) := by decide +kernel
theorem dX9_isPaid_36 : decode cX9_isPaid 36 = .ok (.iload_n 2, 1) := by decide +kernel
theorem dX9_isPaid_37 : decode cX9_isPaid 37 = .ok (.if_icmp .ne 20, 3) := by decide +kernel
theorem dX9_isPaid_40 : decode cX9_isPaid 40 = .ok (.aload_n 0, 1) := by decide +kernel
theorem dX9_isPaid_41 : decode cX9_isPaid 41 = .ok (.getfield 57, 3) := by decide +kernel
theorem dX9_isPaid_44 : decode cX9_isPaid 44 = .ok (.iconst 3, 1) := by decide +kernel
theorem dX9_isPaid_45 : decode cX9_isPaid 45 = .ok (.iload 4, 2) := by decide +kernel
theorem dX9_isPaid_47 : decode cX9_isPaid 47 = .ok (.imul, 1) := by decide +kernel
theorem dX9_isPaid_48 : decode cX9_isPaid 48 = .ok (.iconst 2, 1) := by decide +kernel
theorem dX9_isPaid_49 : decode cX9_isPaid 49 = .ok (.iadd, 1) := by decide +kernel
theorem dX9_isPaid_50 : decode cX9_isPaid 50 = .ok (.iaload, 1) := by decide +kernel
theorem dX9_isPaid_51 : decode cX9_isPaid 51 = .ok (.iload_n 3, 1) := by decide +kernel
theorem dX9_isPaid_52 : decode cX9_isPaid 52 = .ok (.if_icmp .ne 5, 3) := by decide +kernel
theorem dX9_isPaid_55 : decode cX9_isPaid 55 = .ok (.iconst 1, 1) := by decide +kernel
theorem dX9_isPaid_56 : decode cX9_isPaid 56 = .ok (.ireturn, 1) := by decide +kernel
theorem dX9_isPaid_57 : decode cX9_isPaid 57 = .ok (.iinc 4 1, 3) := by decide +kernel
theorem dX9_isPaid_60 : decode cX9_isPaid 60 = .ok (.goto (-57), 3) := by decide +kernel
theorem dX9_isPaid_63 : decode cX9_isPaid 63 = .ok (.iconst 0, 1) := by decide +kernel
theorem dX9_isPaid_64 : decode cX9_isPaid 64 = .ok (.ireturn, 1) := by decide +kernel
def fX9_isPaid_L3 (u_paid : Int32) (u_payment : (Nat → Int32)) (x1 : Int32) (x2 : Int32) (x3 : Int32) : Nat → Int32 → Option Int32
  | 0, _ => none
  | n + 1, x4 => if u_paid ≤ x4 then (some 0) else (gA (3 * x4) 30 (if (u_payment (3 * x4).toNatClampNeg) = x1 then (gA ((3 * x4) + 1) 30 (if (u_payment ((3 * x4) + 1).toNatClampNeg) = x2 then (gA ((3 * x4) + 2) 30 (if (u_payment ((3 * x4) + 2).toNatClampNeg) = x3 then (some 1) else (fX9_isPaid_L3 u_paid u_payment x1 x2 x3 n (x4 + 1)))) else (fX9_isPaid_L3 u_paid u_payment x1 x2 x3 n (x4 + 1)))) else (fX9_isPaid_L3 u_paid u_payment x1 x2 x3 n (x4 + 1))))
def fX9_isPaid (u_paid : Int32) (u_payment : (Nat → Int32)) (x1 : Int32) (x2 : Int32) (x3 : Int32) : Option Int32 := fX9_isPaid_L3 u_paid u_payment x1 x2 x3 400 0
set_option maxRecDepth 20000 in
theorem LX9_isPaid_3 {p : Program} {l : Launch} {e : Env} {R : Room} {s : State} {m : MethodId} {args : Array Value} {below : List Frame} {meth : Method} {c : Code} {Q : State → Prop} {D : va_G} {C : Nat → ClassId} {A : Nat → Prop} (cx : CX p m c s args RX9 cX9_isPaid 5 D C A R 1) {q_ q_owes q_denies q_debt q_cut q_sight q_event q_book q_text q_path q_ring q_balance q_left q_sum q_parts q_group q_payment q_then q_image q_tapeSort q_tapeSize q_items : Nat} {u_people : Int32} {u_debts : Int32} {u_cuts : Int32} {u_seen : Int32} {u_events : Int32} {u_inBook : Int32} {u_texted : Int32} {u_rule : Int32} {u_rings : Int32} {u_size : Int32} {u_least : Int32} {u_worth : Int64} {u_groups : Int32} {u_paid : Int32} {u_imaged : Int32} {u_payment : (Nat → Int32)} {x1 : Int32} {x2 : Int32} {x3 : Int32} {z : Int32} (hret : RT p l e R s m args below meth c Q D A cX9_isPaid (some .boolean) [(q_, .inr (9, [.int u_people, .ref q_owes, .ref q_denies, .int u_debts, .ref q_debt, .int u_cuts, .ref q_cut, .int u_seen, .ref q_sight, .int u_events, .ref q_event, .int u_inBook, .ref q_book, .int u_texted, .ref q_text, .ref q_path, .int u_rule, .int u_rings, .int u_size, .int u_least, .long u_worth, .ref q_ring, .ref q_balance, .ref q_left, .ref q_sum, .ref q_parts, .int u_groups, .ref q_group, .int u_paid, .ref q_payment, .ref q_then, .int u_imaged, .ref q_image, .ref q_tapeSort, .ref q_tapeSize, .ref q_items])), (q_payment, .inl (C 0, 30, .inl u_payment))] (some (.int z))) :
    ∀ (n : Nat) (x4 : Int32) (H : Heap) (locs : List Loc) (ls : Array Slot), fX9_isPaid_L3 u_paid u_payment x1 x2 x3 n x4 = some z → HW D A s.heap H locs [(q_, .inr (9, [.int u_people, .ref q_owes, .ref q_denies, .int u_debts, .ref q_debt, .int u_cuts, .ref q_cut, .int u_seen, .ref q_sight, .int u_events, .ref q_event, .int u_inBook, .ref q_book, .int u_texted, .ref q_text, .ref q_path, .int u_rule, .int u_rings, .int u_size, .int u_least, .long u_worth, .ref q_ring, .ref q_balance, .ref q_left, .ref q_sum, .ref q_parts, .int u_groups, .ref q_group, .int u_paid, .ref q_payment, .ref q_then, .int u_imaged, .ref q_image, .ref q_tapeSort, .ref q_tapeSize, .ref q_items])), (q_payment, .inl (C 0, 30, .inl u_payment))] → lv_has ls 5 [(0, .ref q_), (1, .int x1), (2, .int x2), (3, .int x3), (4, .int x4)] → W p l e R s m args below meth c H locs 0 0 Q (F0 m 3 ls []) := by
  have hx := cx.1
  have hb := cx.2.1
  intro n
  induction n with
  | zero => intro x4 H locs ls hF; cases hF
  | succ n ih =>
    intro x4 H locs ls hF hw hl
    rw [fX9_isPaid_L3.eq_2] at hF
    refine lv_iload hx hb dX9_isPaid_3 (lv_at hl 4 rfl) ?_
    refine lv_aload_n hx hb dX9_isPaid_5 rfl (lv_at hl 0 rfl) ?_
    refine r_get (ci := 9) (v := .int u_paid) cx hw iX9 0 28 rfl rfl (by decide) wf_X9_186 rfl dX9_isPaid_6 ?_
    refine lv_icmp_ge (tgt := 63) hx hb dX9_isPaid_9 (by decide) (fun c1 => ?_) (fun c1 => ?_)
    · replace hF := oi_t c1 hF
      refine lv_iconst (v := 0) hx hb dX9_isPaid_63 (by decide) ?_
      obtain rfl := Option.some.inj hF
      exact rt_z hret hw rfl rfl dX9_isPaid_64
    · replace hF := oi_f c1 hF
      refine lv_aload_n hx hb dX9_isPaid_12 rfl (lv_at hl 0 rfl) ?_
      refine r_get (ci := 9) (v := .ref q_payment) cx hw iX9 0 29 rfl rfl (by decide) wf_X9_57 rfl dX9_isPaid_13 ?_
      refine lv_iconst (v := 3) hx hb dX9_isPaid_16 (by decide) ?_
      refine lv_iload hx hb dX9_isPaid_17 (lv_at hl 4 rfl) ?_
      refine lv_imul hx hb dX9_isPaid_19 ?_
      obtain ⟨g2, hF⟩ := gA_s hF
      refine r_iald cx hw 1 rfl g2 dX9_isPaid_20 ?_
      refine lv_iload_n hx hb dX9_isPaid_21 rfl (lv_at hl 1 rfl) ?_
      refine lv_icmp_ne (tgt := 57) hx hb dX9_isPaid_22 (by decide) (fun c3 => ?_) (fun c3 => ?_)
      · replace hF := oi_f c3 hF
        refine lv_iinc (v := x4 + 1) (lv' := [(4, .int (x4 + 1)), (0, .ref q_), (1, .int x1), (2, .int x2), (3, .int x3)]) hx hb dX9_isPaid_57 hl (k := 4) rfl rfl (by decide) rfl (fun ls hl => ?_)
        refine lv_goto (tgt := 3) hx hb dX9_isPaid_60 (by decide) ?_
        exact ih (x4 + 1) H locs ls hF hw (lv_sub hl [1, 2, 3, 4, 0] rfl)
      · replace hF := oi_t c3 hF
        refine lv_aload_n hx hb dX9_isPaid_25 rfl (lv_at hl 0 rfl) ?_
        refine r_get (ci := 9) (v := .ref q_payment) cx hw iX9 0 29 rfl rfl (by decide) wf_X9_57 rfl dX9_isPaid_26 ?_
        refine lv_iconst (v := 3) hx hb dX9_isPaid_29 (by decide) ?_
        refine lv_iload hx hb dX9_isPaid_30 (lv_at hl 4 rfl) ?_
        refine lv_imul hx hb dX9_isPaid_32 ?_
        refine lv_iconst (v := 1) hx hb dX9_isPaid_33 (by decide) ?_
        refine lv_iadd hx hb dX9_isPaid_34 ?_
        obtain ⟨g4, hF⟩ := gA_s hF
        refine r_iald cx hw 1 rfl g4 dX9_isPaid_35 ?_
        refine lv_iload_n hx hb dX9_isPaid_36 rfl (lv_at hl 2 rfl) ?_
        refine lv_icmp_ne (tgt := 57) hx hb dX9_isPaid_37 (by decide) (fun c5 => ?_) (fun c5 => ?_)
        · replace hF := oi_f c5 hF
          refine lv_iinc (v := x4 + 1) (lv' := [(4, .int (x4 + 1)), (0, .ref q_), (1, .int x1), (2, .int x2), (3, .int x3)]) hx hb dX9_isPaid_57 hl (k := 4) rfl rfl (by decide) rfl (fun ls hl => ?_)
          refine lv_goto (tgt := 3) hx hb dX9_isPaid_60 (by decide) ?_
          exact ih (x4 + 1) H locs ls hF hw (lv_sub hl [1, 2, 3, 4, 0] rfl)
        · replace hF := oi_t c5 hF
          refine lv_aload_n hx hb dX9_isPaid_40 rfl (lv_at hl 0 rfl) ?_
          refine r_get (ci := 9) (v := .ref q_payment) cx hw iX9 0 29 rfl rfl (by decide) wf_X9_57 rfl dX9_isPaid_41 ?_
          refine lv_iconst (v := 3) hx hb dX9_isPaid_44 (by decide) ?_
          refine lv_iload hx hb dX9_isPaid_45 (lv_at hl 4 rfl) ?_
          refine lv_imul hx hb dX9_isPaid_47 ?_
          refine lv_iconst (v := 2) hx hb dX9_isPaid_48 (by decide) ?_
          refine lv_iadd hx hb dX9_isPaid_49 ?_
          obtain ⟨g6, hF⟩ := gA_s hF
          refine r_iald cx hw 1 rfl g6 dX9_isPaid_50 ?_
          refine lv_iload_n hx hb dX9_isPaid_51 rfl (lv_at hl 3 rfl) ?_
          refine lv_icmp_ne (tgt := 57) hx hb dX9_isPaid_52 (by decide) (fun c7 => ?_) (fun c7 => ?_)
          · replace hF := oi_f c7 hF
            refine lv_iinc (v := x4 + 1) (lv' := [(4, .int (x4 + 1)), (0, .ref q_), (1, .int x1), (2, .int x2), (3, .int x3)]) hx hb dX9_isPaid_57 hl (k := 4) rfl rfl (by decide) rfl (fun ls hl => ?_)
            refine lv_goto (tgt := 3) hx hb dX9_isPaid_60 (by decide) ?_
            exact ih (x4 + 1) H locs ls hF hw (lv_sub hl [1, 2, 3, 4, 0] rfl)
          · replace hF := oi_t c7 hF
            refine lv_iconst (v := 1) hx hb dX9_isPaid_55 (by decide) ?_
            obtain rfl := Option.some.inj hF
            exact rt_z hret hw rfl rfl dX9_isPaid_56
set_option maxRecDepth 20000 in
theorem CX9_isPaid (l : Launch) (D : va_G) (C : Nat → ClassId) (q_ q_owes q_denies q_debt q_cut q_sight q_event q_book q_text q_path q_ring q_balance q_left q_sum q_parts q_group q_payment q_then q_image q_tapeSort q_tapeSize q_items : Nat) (u_people : Int32) (u_debts : Int32) (u_cuts : Int32) (u_seen : Int32) (u_events : Int32) (u_inBook : Int32) (u_texted : Int32) (u_rule : Int32) (u_rings : Int32) (u_size : Int32) (u_least : Int32) (u_worth : Int64) (u_groups : Int32) (u_paid : Int32) (u_imaged : Int32) (u_payment : (Nat → Int32)) (x1 : Int32) (x2 : Int32) (x3 : Int32) (z : Int32) (hF : fX9_isPaid u_paid u_payment x1 x2 x3 = some z) : Ct l yX9_isPaid cX9_isPaid 5 (some .boolean) 1 D C [.ref q_, .int x1, .int x2, .int x3] [(q_, .inr (9, [.int u_people, .ref q_owes, .ref q_denies, .int u_debts, .ref q_debt, .int u_cuts, .ref q_cut, .int u_seen, .ref q_sight, .int u_events, .ref q_event, .int u_inBook, .ref q_book, .int u_texted, .ref q_text, .ref q_path, .int u_rule, .int u_rings, .int u_size, .int u_least, .long u_worth, .ref q_ring, .ref q_balance, .ref q_left, .ref q_sum, .ref q_parts, .int u_groups, .ref q_group, .int u_paid, .ref q_payment, .ref q_then, .int u_imaged, .ref q_image, .ref q_tapeSort, .ref q_tapeSize, .ref q_items])), (q_payment, .inl (C 0, 30, .inl u_payment))] [(q_, .inr (9, [.int u_people, .ref q_owes, .ref q_denies, .int u_debts, .ref q_debt, .int u_cuts, .ref q_cut, .int u_seen, .ref q_sight, .int u_events, .ref q_event, .int u_inBook, .ref q_book, .int u_texted, .ref q_text, .ref q_path, .int u_rule, .int u_rings, .int u_size, .int u_least, .long u_worth, .ref q_ring, .ref q_balance, .ref q_left, .ref q_sum, .ref q_parts, .int u_groups, .ref q_group, .int u_paid, .ref q_payment, .ref q_then, .int u_imaged, .ref q_image, .ref q_tapeSort, .ref q_tapeSize, .ref q_items])), (q_payment, .inl (C 0, 30, .inl u_payment))] (some (.int z)) := by
  refine Ct_of (by decide) (Nat.le_of_ble_eq_true rfl) ?_
  intro p e R s m args below meth c A Q H locs ls cx hw hl hret
  have cx : CX p m c s args RX9 cX9_isPaid 5 D C A R 1 := cx
  have hx := cx.1
  have hb := cx.2.1
  have hl : lv_has ls 5 [(0, .ref q_), (1, .int x1), (2, .int x2), (3, .int x3)] := hl
  rw [fX9_isPaid.eq_1] at hF
  refine lv_iconst (v := 0) hx hb dX9_isPaid_0 (by decide) ?_
  refine lv_istore (lv' := [(4, .int 0), (0, .ref q_), (1, .int x1), (2, .int x2), (3, .int x3)]) hx hb dX9_isPaid_1 hl (by decide) rfl (fun ls hl => ?_)
  refine LX9_isPaid_3 cx hret 400 0 H locs ls hF hw (lv_sub hl [1, 2, 3, 4, 0] rfl)
theorem lk_X9_236 : Cond.methodLink RX9 236 yX9_isPaid ∈ gdt := gdt_of 1171 (by decide +kernel) (by decide +kernel)
theorem my_X9_isPaid : (yX9_isPaid.cls ≠ "java/lang/invoke/MethodHandle" ∧ yX9_isPaid.cls ≠ "java/lang/invoke/VarHandle") ∧ Cond.instanceMethod yX9_isPaid ∈ gdt ∧ Cond.selects yX9_isPaid.cls yX9_isPaid yX9_isPaid ∈ gdt ∧ Cond.initialized yX9_isPaid.cls ∈ gdt ∧ Cond.code yX9_isPaid cX9_isPaid 5 (some .boolean) ∈ gdt := ⟨⟨by decide +kernel, by decide +kernel⟩, gdt_of 1173 (by decide +kernel) (by decide +kernel), gdt_of 63 (by decide +kernel) (by decide +kernel), gdt_of 77 (by decide +kernel) (by decide +kernel), gdt_of 1174 (by decide +kernel) (by decide +kernel)⟩
theorem ml_X9_isPaid : (parseMethodDescriptor yX9_isPaid.desc).map (fun d => d.parameters.length) = some 3 := by decide +kernel
theorem dX9_fits_0 : decode cX9_fits 0 = .ok (.aload_n 0, 1) := by decide +kernel
theorem dX9_fits_1 : decode cX9_fits 1 = .ok (.invokevirtual 192, 3) := by decide +kernel
theorem dX9_fits_4 : decode cX9_fits 4 = .ok (.iconst 0, 1) := by decide +kernel
theorem dX9_fits_5 : decode cX9_fits 5 = .ok (.istore_n 1, 1) := by decide +kernel
theorem dX9_fits_6 : decode cX9_fits 6 = .ok (.iload_n 1, 1) := by decide +kernel
theorem dX9_fits_7 : decode cX9_fits 7 = .ok (.aload_n 0, 1) := by decide +kernel
theorem dX9_fits_8 : decode cX9_fits 8 = .ok (.getfield 233, 3) := by decide +kernel
theorem dX9_fits_11 : decode cX9_fits 11 = .ok (.if_icmp .ge 46, 3) := by decide +kernel
theorem dX9_fits_14 : decode cX9_fits 14 = .ok (.aload_n 0, 1) := by decide +kernel
theorem dX9_fits_15 : decode cX9_fits 15 = .ok (.aload_n 0, 1) := by decide +kernel
theorem dX9_fits_16 : decode cX9_fits 16 = .ok (.getfield 24, 3) := by decide +kernel
theorem dX9_fits_19 : decode cX9_fits 19 = .ok (.iconst 3, 1) := by decide +kernel
theorem dX9_fits_20 : decode cX9_fits 20 = .ok (.iload_n 1, 1) := by decide +kernel
theorem dX9_fits_21 : decode cX9_fits 21 = .ok (.imul, 1) := by decide +kernel
theorem dX9_fits_22 : decode cX9_fits 22 = .ok (.iaload, 1) := by decide +kernel
theorem dX9_fits_23 : decode cX9_fits 23 = .ok (.aload_n 0, 1) := by decide +kernel
theorem dX9_fits_24 : decode cX9_fits 24 = .ok (.getfield 24, 3) := by decide +kernel
theorem dX9_fits_27 : decode cX9_fits 27 = .ok (.iconst 3, 1) := by decide +kernel
theorem dX9_fits_28 : decode cX9_fits 28 = .ok (.iload_n 1, 1) := by decide +kernel
theorem dX9_fits_29 : decode cX9_fits 29 = .ok (.imul, 1) := by decide +kernel
theorem dX9_fits_30 : decode cX9_fits 30 = .ok (.iconst 1, 1) := by decide +kernel
theorem dX9_fits_31 : decode cX9_fits 31 = .ok (.iadd, 1) := by decide +kernel
theorem dX9_fits_32 : decode cX9_fits 32 = .ok (.iaload, 1) := by decide +kernel
theorem dX9_fits_33 : decode cX9_fits 33 = .ok (.aload_n 0, 1) := by decide +kernel
theorem dX9_fits_34 : decode cX9_fits 34 = .ok (.getfield 24, 3) := by decide +kernel
theorem dX9_fits_37 : decode cX9_fits 37 = .ok (.iconst 3, 1) := by decide +kernel
theorem dX9_fits_38 : decode cX9_fits 38 = .ok (.iload_n 1, 1) := by decide +kernel
theorem dX9_fits_39 : decode cX9_fits 39 = .ok (.imul, 1) := by decide +kernel
theorem dX9_fits_40 : decode cX9_fits 40 = .ok (.iconst 2, 1) := by decide +kernel
theorem dX9_fits_41 : decode cX9_fits 41 = .ok (.iadd, 1) := by decide +kernel
theorem dX9_fits_42 : decode cX9_fits 42 = .ok (.iaload, 1) := by decide +kernel
theorem dX9_fits_43 : decode cX9_fits 43 = .ok (.invokevirtual 236, 3) := by decide +kernel
theorem dX9_fits_46 : decode cX9_fits 46 = .ok (.ifCond .ne 5, 3) := by decide +kernel
theorem dX9_fits_49 : decode cX9_fits 49 = .ok (.iconst 0, 1) := by decide +kernel
theorem dX9_fits_50 : decode cX9_fits 50 = .ok (.ireturn, 1) := by decide +kernel
theorem dX9_fits_51 : decode cX9_fits 51 = .ok (.iinc 1 1, 3) := by decide +kernel
theorem dX9_fits_54 : decode cX9_fits 54 = .ok (.goto (-48), 3) := by decide +kernel
theorem dX9_fits_57 : decode cX9_fits 57 = .ok (.iconst 1, 1) := by decide +kernel
theorem dX9_fits_58 : decode cX9_fits 58 = .ok (.ireturn, 1) := by decide +kernel
def fX9_fits_L6 (u_seen : Int32) (u_groups : Int32) (u_paid : Int32) (u_sight : (Nat → Int32)) (u_balance : (Nat → Int32)) (u_left : (Nat → Int32)) (u_sum : (Nat → Int32)) (u_parts : (Nat → Int32)) (u_group : (Nat → Int32)) (u_payment : (Nat → Int32)) : Nat → Int32 → Option (Int32 × Int32 × Int32 × (Nat → Int32) × (Nat → Int32) × (Nat → Int32) × (Nat → Int32) × (Nat → Int32) × (Nat → Int32))
  | 0, _ => none
  | n + 1, x1 => if u_seen ≤ x1 then (some (1, u_groups, u_paid, u_balance, u_left, u_sum, u_parts, u_group, u_payment)) else (gA (3 * x1) 15 (gA ((3 * x1) + 1) 15 (gA ((3 * x1) + 2) 15 ((fX9_isPaid u_paid u_payment (u_sight (3 * x1).toNatClampNeg) (u_sight ((3 * x1) + 1).toNatClampNeg) (u_sight ((3 * x1) + 2).toNatClampNeg)).bind (fun z6 => if z6 = 0 then (some (0, u_groups, u_paid, u_balance, u_left, u_sum, u_parts, u_group, u_payment)) else (fX9_fits_L6 u_seen u_groups u_paid u_sight u_balance u_left u_sum u_parts u_group u_payment n (x1 + 1)))))))
def fX9_fits (u_people : Int32) (u_seen : Int32) (u_owes : (Nat → Int32)) (u_sight : (Nat → Int32)) (u_balance : (Nat → Int32)) (u_left : (Nat → Int32)) (u_sum : (Nat → Int32)) (u_parts : (Nat → Int32)) (u_group : (Nat → Int32)) (u_payment : (Nat → Int32)) : Option (Int32 × Int32 × Int32 × (Nat → Int32) × (Nat → Int32) × (Nat → Int32) × (Nat → Int32) × (Nat → Int32) × (Nat → Int32)) := (fX9_payments u_people u_owes u_balance u_left u_sum u_parts u_group u_payment).bind (fun z1 => fX9_fits_L6 u_seen z1.1 z1.2.1 u_sight z1.2.2.1 z1.2.2.2.1 z1.2.2.2.2.1 z1.2.2.2.2.2.1 z1.2.2.2.2.2.2.1 z1.2.2.2.2.2.2.2 400 0)
set_option maxRecDepth 20000 in
theorem LX9_fits_6 {p : Program} {l : Launch} {e : Env} {R : Room} {s : State} {m : MethodId} {args : Array Value} {below : List Frame} {meth : Method} {c : Code} {Q : State → Prop} {D : va_G} {C : Nat → ClassId} {A : Nat → Prop} (cx : CX p m c s args RX9 cX9_fits 2 D C A R 4) {q_ q_owes q_denies q_debt q_cut q_sight q_event q_book q_text q_path q_ring q_balance q_left q_sum q_parts q_group q_payment q_then q_image q_tapeSort q_tapeSize q_items : Nat} {u_people : Int32} {u_debts : Int32} {u_cuts : Int32} {u_seen : Int32} {u_events : Int32} {u_inBook : Int32} {u_texted : Int32} {u_rule : Int32} {u_rings : Int32} {u_size : Int32} {u_least : Int32} {u_worth : Int64} {u_groups : Int32} {u_paid : Int32} {u_imaged : Int32} {u_owes : (Nat → Int32)} {u_sight : (Nat → Int32)} {u_balance : (Nat → Int32)} {u_left : (Nat → Int32)} {u_sum : (Nat → Int32)} {u_parts : (Nat → Int32)} {u_group : (Nat → Int32)} {u_payment : (Nat → Int32)} {z : (Int32 × Int32 × Int32 × (Nat → Int32) × (Nat → Int32) × (Nat → Int32) × (Nat → Int32) × (Nat → Int32) × (Nat → Int32))} (hret : RT p l e R s m args below meth c Q D A cX9_fits (some .boolean) [(q_, .inr (9, [.int u_people, .ref q_owes, .ref q_denies, .int u_debts, .ref q_debt, .int u_cuts, .ref q_cut, .int u_seen, .ref q_sight, .int u_events, .ref q_event, .int u_inBook, .ref q_book, .int u_texted, .ref q_text, .ref q_path, .int u_rule, .int u_rings, .int u_size, .int u_least, .long u_worth, .ref q_ring, .ref q_balance, .ref q_left, .ref q_sum, .ref q_parts, .int z.2.1, .ref q_group, .int z.2.2.1, .ref q_payment, .ref q_then, .int u_imaged, .ref q_image, .ref q_tapeSort, .ref q_tapeSize, .ref q_items])), (q_owes, .inl (C 0, 36, .inl u_owes)), (q_sight, .inl (C 0, 15, .inl u_sight)), (q_balance, .inl (C 0, 6, .inl z.2.2.2.1)), (q_left, .inl (C 0, 6, .inl z.2.2.2.2.1)), (q_sum, .inl (C 0, 64, .inl z.2.2.2.2.2.1)), (q_parts, .inl (C 0, 64, .inl z.2.2.2.2.2.2.1)), (q_group, .inl (C 0, 3, .inl z.2.2.2.2.2.2.2.1)), (q_payment, .inl (C 0, 30, .inl z.2.2.2.2.2.2.2.2))] (some (.int z.1))) :
    ∀ (n : Nat) (x1 : Int32) (H : Heap) (locs : List Loc) (ls : Array Slot), fX9_fits_L6 u_seen u_groups u_paid u_sight u_balance u_left u_sum u_parts u_group u_payment n x1 = some z → HW D A s.heap H locs [(q_, .inr (9, [.int u_people, .ref q_owes, .ref q_denies, .int u_debts, .ref q_debt, .int u_cuts, .ref q_cut, .int u_seen, .ref q_sight, .int u_events, .ref q_event, .int u_inBook, .ref q_book, .int u_texted, .ref q_text, .ref q_path, .int u_rule, .int u_rings, .int u_size, .int u_least, .long u_worth, .ref q_ring, .ref q_balance, .ref q_left, .ref q_sum, .ref q_parts, .int u_groups, .ref q_group, .int u_paid, .ref q_payment, .ref q_then, .int u_imaged, .ref q_image, .ref q_tapeSort, .ref q_tapeSize, .ref q_items])), (q_owes, .inl (C 0, 36, .inl u_owes)), (q_sight, .inl (C 0, 15, .inl u_sight)), (q_balance, .inl (C 0, 6, .inl u_balance)), (q_left, .inl (C 0, 6, .inl u_left)), (q_sum, .inl (C 0, 64, .inl u_sum)), (q_parts, .inl (C 0, 64, .inl u_parts)), (q_group, .inl (C 0, 3, .inl u_group)), (q_payment, .inl (C 0, 30, .inl u_payment))] → lv_has ls 2 [(0, .ref q_), (1, .int x1)] → W p l e R s m args below meth c H locs 0 0 Q (F0 m 6 ls []) := by
  have hx := cx.1
  have hb := cx.2.1
  intro n
  induction n with
  | zero => intro x1 H locs ls hF; cases hF
  | succ n ih =>
    intro x1 H locs ls hF hw hl
    rw [fX9_fits_L6.eq_2] at hF
    refine lv_iload_n hx hb dX9_fits_6 rfl (lv_at hl 1 rfl) ?_
    refine lv_aload_n hx hb dX9_fits_7 rfl (lv_at hl 0 rfl) ?_
    refine r_get (ci := 9) (v := .int u_seen) cx hw iX9 0 7 rfl rfl (by decide) wf_X9_233 rfl dX9_fits_8 ?_
    refine lv_icmp_ge (tgt := 57) hx hb dX9_fits_11 (by decide) (fun c2 => ?_) (fun c2 => ?_)
    · replace hF := oi_t c2 hF
      refine lv_iconst (v := 1) hx hb dX9_fits_57 (by decide) ?_
      obtain rfl := Option.some.inj hF
      exact rt_z hret hw rfl rfl dX9_fits_58
    · replace hF := oi_f c2 hF
      refine lv_aload_n hx hb dX9_fits_14 rfl (lv_at hl 0 rfl) ?_
      refine lv_aload_n hx hb dX9_fits_15 rfl (lv_at hl 0 rfl) ?_
      refine r_get (ci := 9) (v := .ref q_sight) cx hw iX9 0 8 rfl rfl (by decide) wf_X9_24 rfl dX9_fits_16 ?_
      refine lv_iconst (v := 3) hx hb dX9_fits_19 (by decide) ?_
      refine lv_iload_n hx hb dX9_fits_20 rfl (lv_at hl 1 rfl) ?_
      refine lv_imul hx hb dX9_fits_21 ?_
      obtain ⟨g3, hF⟩ := gA_s hF
      refine r_iald cx hw 2 rfl g3 dX9_fits_22 ?_
      refine lv_aload_n hx hb dX9_fits_23 rfl (lv_at hl 0 rfl) ?_
      refine r_get (ci := 9) (v := .ref q_sight) cx hw iX9 0 8 rfl rfl (by decide) wf_X9_24 rfl dX9_fits_24 ?_
      refine lv_iconst (v := 3) hx hb dX9_fits_27 (by decide) ?_
      refine lv_iload_n hx hb dX9_fits_28 rfl (lv_at hl 1 rfl) ?_
      refine lv_imul hx hb dX9_fits_29 ?_
      refine lv_iconst (v := 1) hx hb dX9_fits_30 (by decide) ?_
      refine lv_iadd hx hb dX9_fits_31 ?_
      obtain ⟨g4, hF⟩ := gA_s hF
      refine r_iald cx hw 2 rfl g4 dX9_fits_32 ?_
      refine lv_aload_n hx hb dX9_fits_33 rfl (lv_at hl 0 rfl) ?_
      refine r_get (ci := 9) (v := .ref q_sight) cx hw iX9 0 8 rfl rfl (by decide) wf_X9_24 rfl dX9_fits_34 ?_
      refine lv_iconst (v := 3) hx hb dX9_fits_37 (by decide) ?_
      refine lv_iload_n hx hb dX9_fits_38 rfl (lv_at hl 1 rfl) ?_
      refine lv_imul hx hb dX9_fits_39 ?_
      refine lv_iconst (v := 2) hx hb dX9_fits_40 (by decide) ?_
      refine lv_iadd hx hb dX9_fits_41 ?_
      obtain ⟨g5, hF⟩ := gA_s hF
      refine r_iald cx hw 2 rfl g5 dX9_fits_42 ?_
      obtain ⟨z6, hz6, hF⟩ := ob hF
      refine cV (wr := [(q_owes, .inl (C 0, 36, .inl u_owes)), (q_sight, .inl (C 0, 15, .inl u_sight)), (q_balance, .inl (C 0, 6, .inl u_balance)), (q_left, .inl (C 0, 6, .inl u_left)), (q_sum, .inl (C 0, 64, .inl u_sum)), (q_parts, .inl (C 0, 64, .inl u_parts)), (q_group, .inl (C 0, 3, .inl u_group))]) (w2 := [(q_, .inr (9, [.int u_people, .ref q_owes, .ref q_denies, .int u_debts, .ref q_debt, .int u_cuts, .ref q_cut, .int u_seen, .ref q_sight, .int u_events, .ref q_event, .int u_inBook, .ref q_book, .int u_texted, .ref q_text, .ref q_path, .int u_rule, .int u_rings, .int u_size, .int u_least, .long u_worth, .ref q_ring, .ref q_balance, .ref q_left, .ref q_sum, .ref q_parts, .int u_groups, .ref q_group, .int u_paid, .ref q_payment, .ref q_then, .int u_imaged, .ref q_image, .ref q_tapeSort, .ref q_tapeSize, .ref q_items])), (q_owes, .inl (C 0, 36, .inl u_owes)), (q_sight, .inl (C 0, 15, .inl u_sight)), (q_balance, .inl (C 0, 6, .inl u_balance)), (q_left, .inl (C 0, 6, .inl u_left)), (q_sum, .inl (C 0, 64, .inl u_sum)), (q_parts, .inl (C 0, 64, .inl u_parts)), (q_group, .inl (C 0, 3, .inl u_group)), (q_payment, .inl (C 0, 30, .inl u_payment))]) (st2 := [.int z6]) cx (CX9_isPaid l D C q_ q_owes q_denies q_debt q_cut q_sight q_event q_book q_text q_path q_ring q_balance q_left q_sum q_parts q_group q_payment q_then q_image q_tapeSort q_tapeSize q_items u_people u_debts u_cuts u_seen u_events u_inBook u_texted u_rule u_rings u_size u_least u_worth u_groups u_paid u_imaged u_payment (u_sight (3 * x1).toNatClampNeg) (u_sight ((3 * x1) + 1).toNatClampNeg) (u_sight ((3 * x1) + 2).toNatClampNeg) z6 hz6) lk_X9_236 my_X9_isPaid ml_X9_isPaid ⟨by decide, by decide⟩ hw [0, 8] [1, 2, 3, 4, 5, 6, 7] [7, 0, 1, 2, 3, 4, 5, 6, 8] rfl rfl (by decide) rfl rfl rfl rfl (Nat.le_of_ble_eq_true rfl) dX9_fits_43 rfl (fun H locs hw => ?_) hl.1
      refine lv_if_ne (tgt := 51) hx hb dX9_fits_46 (by decide) (fun c7 => ?_) (fun c7 => ?_)
      · replace hF := oi_f c7 hF
        refine lv_iinc (v := x1 + 1) (lv' := [(1, .int (x1 + 1)), (0, .ref q_)]) hx hb dX9_fits_51 hl (k := 1) rfl rfl (by decide) rfl (fun ls hl => ?_)
        refine lv_goto (tgt := 6) hx hb dX9_fits_54 (by decide) ?_
        exact ih (x1 + 1) H locs ls hF hw (lv_sub hl [1, 0] rfl)
      · replace hF := oi_t c7 hF
        refine lv_iconst (v := 0) hx hb dX9_fits_49 (by decide) ?_
        obtain rfl := Option.some.inj hF
        exact rt_z hret hw rfl rfl dX9_fits_50
set_option maxRecDepth 20000 in
theorem CX9_fits (l : Launch) (D : va_G) (C : Nat → ClassId) (q_ q_owes q_denies q_debt q_cut q_sight q_event q_book q_text q_path q_ring q_balance q_left q_sum q_parts q_group q_payment q_then q_image q_tapeSort q_tapeSize q_items : Nat) (u_people : Int32) (u_debts : Int32) (u_cuts : Int32) (u_seen : Int32) (u_events : Int32) (u_inBook : Int32) (u_texted : Int32) (u_rule : Int32) (u_rings : Int32) (u_size : Int32) (u_least : Int32) (u_worth : Int64) (u_groups : Int32) (u_paid : Int32) (u_imaged : Int32) (u_owes : (Nat → Int32)) (u_sight : (Nat → Int32)) (u_balance : (Nat → Int32)) (u_left : (Nat → Int32)) (u_sum : (Nat → Int32)) (u_parts : (Nat → Int32)) (u_group : (Nat → Int32)) (u_payment : (Nat → Int32)) (z : (Int32 × Int32 × Int32 × (Nat → Int32) × (Nat → Int32) × (Nat → Int32) × (Nat → Int32) × (Nat → Int32) × (Nat → Int32))) (hF : fX9_fits u_people u_seen u_owes u_sight u_balance u_left u_sum u_parts u_group u_payment = some z) : Ct l yX9_fits cX9_fits 2 (some .boolean) 4 D C [.ref q_] [(q_, .inr (9, [.int u_people, .ref q_owes, .ref q_denies, .int u_debts, .ref q_debt, .int u_cuts, .ref q_cut, .int u_seen, .ref q_sight, .int u_events, .ref q_event, .int u_inBook, .ref q_book, .int u_texted, .ref q_text, .ref q_path, .int u_rule, .int u_rings, .int u_size, .int u_least, .long u_worth, .ref q_ring, .ref q_balance, .ref q_left, .ref q_sum, .ref q_parts, .int u_groups, .ref q_group, .int u_paid, .ref q_payment, .ref q_then, .int u_imaged, .ref q_image, .ref q_tapeSort, .ref q_tapeSize, .ref q_items])), (q_owes, .inl (C 0, 36, .inl u_owes)), (q_sight, .inl (C 0, 15, .inl u_sight)), (q_balance, .inl (C 0, 6, .inl u_balance)), (q_left, .inl (C 0, 6, .inl u_left)), (q_sum, .inl (C 0, 64, .inl u_sum)), (q_parts, .inl (C 0, 64, .inl u_parts)), (q_group, .inl (C 0, 3, .inl u_group)), (q_payment, .inl (C 0, 30, .inl u_payment))] [(q_, .inr (9, [.int u_people, .ref q_owes, .ref q_denies, .int u_debts, .ref q_debt, .int u_cuts, .ref q_cut, .int u_seen, .ref q_sight, .int u_events, .ref q_event, .int u_inBook, .ref q_book, .int u_texted, .ref q_text, .ref q_path, .int u_rule, .int u_rings, .int u_size, .int u_least, .long u_worth, .ref q_ring, .ref q_balance, .ref q_left, .ref q_sum, .ref q_parts, .int z.2.1, .ref q_group, .int z.2.2.1, .ref q_payment, .ref q_then, .int u_imaged, .ref q_image, .ref q_tapeSort, .ref q_tapeSize, .ref q_items])), (q_owes, .inl (C 0, 36, .inl u_owes)), (q_sight, .inl (C 0, 15, .inl u_sight)), (q_balance, .inl (C 0, 6, .inl z.2.2.2.1)), (q_left, .inl (C 0, 6, .inl z.2.2.2.2.1)), (q_sum, .inl (C 0, 64, .inl z.2.2.2.2.2.1)), (q_parts, .inl (C 0, 64, .inl z.2.2.2.2.2.2.1)), (q_group, .inl (C 0, 3, .inl z.2.2.2.2.2.2.2.1)), (q_payment, .inl (C 0, 30, .inl z.2.2.2.2.2.2.2.2))] (some (.int z.1)) := by
  refine Ct_of (by decide) (Nat.le_of_ble_eq_true rfl) ?_
  intro p e R s m args below meth c A Q H locs ls cx hw hl hret
  have cx : CX p m c s args RX9 cX9_fits 2 D C A R 4 := cx
  have hx := cx.1
  have hb := cx.2.1
  have hl : lv_has ls 2 [(0, .ref q_)] := hl
  rw [fX9_fits.eq_1] at hF
  refine lv_aload_n hx hb dX9_fits_0 rfl (lv_at hl 0 rfl) ?_
  obtain ⟨z1, hz1, hF⟩ := ob hF
  refine cV (wr := [(q_sight, .inl (C 0, 15, .inl u_sight))]) (w2 := [(q_, .inr (9, [.int u_people, .ref q_owes, .ref q_denies, .int u_debts, .ref q_debt, .int u_cuts, .ref q_cut, .int u_seen, .ref q_sight, .int u_events, .ref q_event, .int u_inBook, .ref q_book, .int u_texted, .ref q_text, .ref q_path, .int u_rule, .int u_rings, .int u_size, .int u_least, .long u_worth, .ref q_ring, .ref q_balance, .ref q_left, .ref q_sum, .ref q_parts, .int z1.1, .ref q_group, .int z1.2.1, .ref q_payment, .ref q_then, .int u_imaged, .ref q_image, .ref q_tapeSort, .ref q_tapeSize, .ref q_items])), (q_owes, .inl (C 0, 36, .inl u_owes)), (q_sight, .inl (C 0, 15, .inl u_sight)), (q_balance, .inl (C 0, 6, .inl z1.2.2.1)), (q_left, .inl (C 0, 6, .inl z1.2.2.2.1)), (q_sum, .inl (C 0, 64, .inl z1.2.2.2.2.1)), (q_parts, .inl (C 0, 64, .inl z1.2.2.2.2.2.1)), (q_group, .inl (C 0, 3, .inl z1.2.2.2.2.2.2.1)), (q_payment, .inl (C 0, 30, .inl z1.2.2.2.2.2.2.2))]) (st2 := []) cx (CX9_payments l D C q_ q_owes q_denies q_debt q_cut q_sight q_event q_book q_text q_path q_ring q_balance q_left q_sum q_parts q_group q_payment q_then q_image q_tapeSort q_tapeSize q_items u_people u_debts u_cuts u_seen u_events u_inBook u_texted u_rule u_rings u_size u_least u_worth u_groups u_paid u_imaged u_owes u_balance u_left u_sum u_parts u_group u_payment z1 hz1) lk_X9_192 my_X9_payments ml_X9_payments ⟨by decide, by decide⟩ hw [0, 1, 3, 4, 5, 6, 7, 8] [2] [1, 2, 0, 3, 4, 5, 6, 7, 8] rfl rfl (by decide) rfl rfl rfl rfl (Nat.le_of_ble_eq_true rfl) dX9_fits_1 rfl (fun H locs hw => ?_) hl.1
  refine lv_iconst (v := 0) hx hb dX9_fits_4 (by decide) ?_
  refine lv_istore_n (lv' := [(1, .int 0), (0, .ref q_)]) hx hb dX9_fits_5 rfl hl (by decide) rfl (fun ls hl => ?_)
  refine LX9_fits_6 cx hret 400 0 H locs ls hF hw (lv_sub hl [1, 0] rfl)
theorem lk_X9_239 : Cond.methodLink RX9 239 yX9_fits ∈ gdt := gdt_of 1167 (by decide +kernel) (by decide +kernel)
theorem my_X9_fits : (yX9_fits.cls ≠ "java/lang/invoke/MethodHandle" ∧ yX9_fits.cls ≠ "java/lang/invoke/VarHandle") ∧ Cond.instanceMethod yX9_fits ∈ gdt ∧ Cond.selects yX9_fits.cls yX9_fits yX9_fits ∈ gdt ∧ Cond.initialized yX9_fits.cls ∈ gdt ∧ Cond.code yX9_fits cX9_fits 2 (some .boolean) ∈ gdt := ⟨⟨by decide +kernel, by decide +kernel⟩, gdt_of 1169 (by decide +kernel) (by decide +kernel), gdt_of 62 (by decide +kernel) (by decide +kernel), gdt_of 77 (by decide +kernel) (by decide +kernel), gdt_of 1170 (by decide +kernel) (by decide +kernel)⟩
theorem ml_X9_fits : (parseMethodDescriptor yX9_fits.desc).map (fun d => d.parameters.length) = some 0 := by decide +kernel
theorem dX9_fits__0 : decode cX9_fits_ 0 = .ok (.aload_n 0, 1) := by decide +kernel
theorem dX9_fits__1 : decode cX9_fits_ 1 = .ok (.iload_n 1, 1) := by decide +kernel
theorem dX9_fits__2 : decode cX9_fits_ 2 = .ok (.iload_n 2, 1) := by decide +kernel
theorem dX9_fits__3 : decode cX9_fits_ 3 = .ok (.invokevirtual 95, 3) := by decide +kernel
theorem dX9_fits__6 : decode cX9_fits_ 6 = .ok (.ifCond .eq 12, 3) := by decide +kernel
theorem dX9_fits__9 : decode cX9_fits_ 9 = .ok (.iload_n 3, 1) := by decide +kernel
theorem dX9_fits__10 : decode cX9_fits_ 10 = .ok (.iconst 0, 1) := by decide +kernel
theorem dX9_fits__11 : decode cX9_fits_ 11 = .ok (.iconst 1, 1) := by decide +kernel
theorem dX9_fits__12 : decode cX9_fits_ 12 = .ok (.invokestatic 80, 3) := by decide +kernel
theorem dX9_fits__15 : decode cX9_fits_ 15 = .ok (.ifCond .ne 5, 3) := by decide +kernel
theorem dX9_fits__18 : decode cX9_fits_ 18 = .ok (.iconst (-1), 1) := by decide +kernel
theorem dX9_fits__19 : decode cX9_fits_ 19 = .ok (.ireturn, 1) := by decide +kernel
theorem dX9_fits__20 : decode cX9_fits_ 20 = .ok (.aload_n 0, 1) := by decide +kernel
theorem dX9_fits__21 : decode cX9_fits_ 21 = .ok (.invokevirtual 223, 3) := by decide +kernel
theorem dX9_fits__24 : decode cX9_fits_ 24 = .ok (.iconst 0, 1) := by decide +kernel
theorem dX9_fits__25 : decode cX9_fits_ 25 = .ok (.istore 4, 2) := by decide +kernel
theorem dX9_fits__27 : decode cX9_fits_ 27 = .ok (.bipush (-5), 2) := by decide +kernel
theorem dX9_fits__29 : decode cX9_fits_ 29 = .ok (.istore 5, 2) := by decide +kernel
theorem dX9_fits__31 : decode cX9_fits_ 31 = .ok (.iconst 0, 1) := by decide +kernel
theorem dX9_fits__32 : decode cX9_fits_ 32 = .ok (.istore 6, 2) := by decide +kernel
theorem dX9_fits__34 : decode cX9_fits_ 34 = .ok (.iload 6, 2) := by decide +kernel
theorem dX9_fits__36 : decode cX9_fits_ 36 = .ok (.bipush 30, 2) := by decide +kernel
theorem dX9_fits__38 : decode cX9_fits_ 38 = .ok (.if_icmp .gt 43, 3) := by decide +kernel
theorem dX9_fits__41 : decode cX9_fits_ 41 = .ok (.aload_n 0, 1) := by decide +kernel
theorem dX9_fits__42 : decode cX9_fits_ 42 = .ok (.bipush 6, 2) := by decide +kernel
theorem dX9_fits__44 : decode cX9_fits_ 44 = .ok (.iload_n 1, 1) := by decide +kernel
theorem dX9_fits__45 : decode cX9_fits_ 45 = .ok (.imul, 1) := by decide +kernel
theorem dX9_fits__46 : decode cX9_fits_ 46 = .ok (.iload_n 2, 1) := by decide +kernel
theorem dX9_fits__47 : decode cX9_fits_ 47 = .ok (.iadd, 1) := by decide +kernel
theorem dX9_fits__48 : decode cX9_fits_ 48 = .ok (.iload 6, 2) := by decide +kernel
theorem dX9_fits__50 : decode cX9_fits_ 50 = .ok (.invokevirtual 99, 3) := by decide +kernel
theorem dX9_fits__53 : decode cX9_fits_ 53 = .ok (.aload_n 0, 1) := by decide +kernel
theorem dX9_fits__54 : decode cX9_fits_ 54 = .ok (.invokevirtual 239, 3) := by decide +kernel
theorem dX9_fits__57 : decode cX9_fits_ 57 = .ok (.ifCond .ne 6, 3) := by decide +kernel
theorem dX9_fits__60 : decode cX9_fits_ 60 = .ok (.goto 15, 3) := by decide +kernel
theorem dX9_fits__63 : decode cX9_fits_ 63 = .ok (.iload 4, 2) := by decide +kernel
theorem dX9_fits__65 : decode cX9_fits_ 65 = .ok (.ifCond .ne 7, 3) := by decide +kernel
theorem dX9_fits__68 : decode cX9_fits_ 68 = .ok (.iload 6, 2) := by decide +kernel
theorem dX9_fits__70 : decode cX9_fits_ 70 = .ok (.istore 5, 2) := by decide +kernel
theorem dX9_fits__72 : decode cX9_fits_ 72 = .ok (.iinc 4 1, 3) := by decide +kernel
theorem dX9_fits__75 : decode cX9_fits_ 75 = .ok (.iinc 6 1, 3) := by decide +kernel
theorem dX9_fits__78 : decode cX9_fits_ 78 = .ok (.goto (-44), 3) := by decide +kernel
theorem dX9_fits__81 : decode cX9_fits_ 81 = .ok (.aload_n 0, 1) := by decide +kernel
theorem dX9_fits__82 : decode cX9_fits_ 82 = .ok (.invokevirtual 230, 3) := by decide +kernel
theorem dX9_fits__85 : decode cX9_fits_ 85 = .ok (.iload_n 3, 1) := by decide +kernel
theorem dX9_fits__86 : decode cX9_fits_ 86 = .ok (.ifCond .ne 8, 3) := by decide +kernel
theorem dX9_fits__89 : decode cX9_fits_ 89 = .ok (.iload 4, 2) := by decide +kernel
theorem dX9_fits__91 : decode cX9_fits_ 91 = .ok (.goto 5, 3) := by decide +kernel
theorem dX9_fits__94 : decode cX9_fits_ 94 = .ok (.iload 5, 2) := by decide +kernel
theorem dX9_fits__96 : decode cX9_fits_ 96 = .ok (.ireturn, 1) := by decide +kernel
def fX9_fits__L34 (k81 : Int32 → Int32 → Int32 → Int32 → Int32 → (Nat → Int32) → (Nat → Int32) → (Nat → Int32) → (Nat → Int32) → (Nat → Int32) → (Nat → Int32) → (Nat → Int32) → (Nat → Int32) → Option (Int32 × Int32 × Int32 × Int32 × (Nat → Int32) × (Nat → Int32) × (Nat → Int32) × (Nat → Int32) × (Nat → Int32) × (Nat → Int32) × (Nat → Int32) × (Nat → Int32) × (Nat → Int32))) (u_people : Int32) (u_seen : Int32) (u_sight : (Nat → Int32)) (x1 : Int32) (x2 : Int32) : Nat → Int32 → Int32 → Int32 → Int32 → Int32 → Int32 → (Nat → Int32) → (Nat → Int32) → (Nat → Int32) → (Nat → Int32) → (Nat → Int32) → (Nat → Int32) → (Nat → Int32) → (Nat → Int32) → Option (Int32 × Int32 × Int32 × Int32 × (Nat → Int32) × (Nat → Int32) × (Nat → Int32) × (Nat → Int32) × (Nat → Int32) × (Nat → Int32) × (Nat → Int32) × (Nat → Int32) × (Nat → Int32))
  | 0, _, _, _, _, _, _, _, _, _, _, _, _, _, _ => none
  | n + 1, x4, x5, x6, u_debts, u_groups, u_paid, u_owes, u_debt, u_balance, u_left, u_sum, u_parts, u_group, u_payment => if 30 < x6 then (k81 x4 x5 u_debts u_groups u_paid u_owes u_debt u_balance u_left u_sum u_parts u_group u_payment) else ((fX9_becomes u_debts u_owes u_debt ((6 * x1) + x2) x6).bind (fun z7 => (fX9_fits u_people u_seen z7.2.1 u_sight u_balance u_left u_sum u_parts u_group u_payment).bind (fun z8 => if z8.1 = 0 then (fX9_fits__L34 k81 u_people u_seen u_sight x1 x2 n x4 x5 (x6 + 1) z7.1 z8.2.1 z8.2.2.1 z7.2.1 z7.2.2 z8.2.2.2.1 z8.2.2.2.2.1 z8.2.2.2.2.2.1 z8.2.2.2.2.2.2.1 z8.2.2.2.2.2.2.2.1 z8.2.2.2.2.2.2.2.2) else (if x4 = 0 then (fX9_fits__L34 k81 u_people u_seen u_sight x1 x2 n (x4 + 1) x6 (x6 + 1) z7.1 z8.2.1 z8.2.2.1 z7.2.1 z7.2.2 z8.2.2.2.1 z8.2.2.2.2.1 z8.2.2.2.2.2.1 z8.2.2.2.2.2.2.1 z8.2.2.2.2.2.2.2.1 z8.2.2.2.2.2.2.2.2) else (fX9_fits__L34 k81 u_people u_seen u_sight x1 x2 n (x4 + 1) x5 (x6 + 1) z7.1 z8.2.1 z8.2.2.1 z7.2.1 z7.2.2 z8.2.2.2.1 z8.2.2.2.2.1 z8.2.2.2.2.2.1 z8.2.2.2.2.2.2.1 z8.2.2.2.2.2.2.2.1 z8.2.2.2.2.2.2.2.2)))))
def fX9_fits_ (u_people : Int32) (u_debts : Int32) (u_seen : Int32) (u_groups : Int32) (u_paid : Int32) (u_owes : (Nat → Int32)) (u_debt : (Nat → Int32)) (u_sight : (Nat → Int32)) (u_balance : (Nat → Int32)) (u_left : (Nat → Int32)) (u_sum : (Nat → Int32)) (u_parts : (Nat → Int32)) (u_group : (Nat → Int32)) (u_payment : (Nat → Int32)) (u_then : (Nat → Int32)) (x1 : Int32) (x2 : Int32) (x3 : Int32) : Option (Int32 × Int32 × Int32 × Int32 × (Nat → Int32) × (Nat → Int32) × (Nat → Int32) × (Nat → Int32) × (Nat → Int32) × (Nat → Int32) × (Nat → Int32) × (Nat → Int32) × (Nat → Int32)) := (fX9_areTwo u_people x1 x2).bind (fun z1 => if z1 = 0 then (some ((-1), u_debts, u_groups, u_paid, u_owes, u_debt, u_balance, u_left, u_sum, u_parts, u_group, u_payment, u_then)) else ((fX9_within x3 0 1).bind (fun z3 => if z3 = 0 then (some ((-1), u_debts, u_groups, u_paid, u_owes, u_debt, u_balance, u_left, u_sum, u_parts, u_group, u_payment, u_then)) else ((fX9_keeps u_debts u_owes u_debt u_then).bind (fun z5 => fX9_fits__L34 (fun (x4_11 : Int32) (x5_11 : Int32) (u_debts_11 : Int32) (u_groups_11 : Int32) (u_paid_11 : Int32) (u_owes_11 : (Nat → Int32)) (u_debt_11 : (Nat → Int32)) (u_balance_11 : (Nat → Int32)) (u_left_11 : (Nat → Int32)) (u_sum_11 : (Nat → Int32)) (u_parts_11 : (Nat → Int32)) (u_group_11 : (Nat → Int32)) (u_payment_11 : (Nat → Int32)) => (fX9_returns u_owes_11 u_debt_11 z5).bind (fun z12 => if x3 = 0 then (some (x4_11, z12.1, u_groups_11, u_paid_11, z12.2.1, z12.2.2, u_balance_11, u_left_11, u_sum_11, u_parts_11, u_group_11, u_payment_11, z5)) else (some (x5_11, z12.1, u_groups_11, u_paid_11, z12.2.1, z12.2.2, u_balance_11, u_left_11, u_sum_11, u_parts_11, u_group_11, u_payment_11, z5)))) u_people u_seen u_sight x1 x2 400 0 (-5) 0 u_debts u_groups u_paid u_owes u_debt u_balance u_left u_sum u_parts u_group u_payment)))))
set_option maxRecDepth 20000 in
theorem LX9_fits__34 {p : Program} {l : Launch} {e : Env} {R : Room} {s : State} {m : MethodId} {args : Array Value} {below : List Frame} {meth : Method} {c : Code} {Q : State → Prop} {D : va_G} {C : Nat → ClassId} {A : Nat → Prop} (cx : CX p m c s args RX9 cX9_fits_ 7 D C A R 5) {q_ q_owes q_denies q_debt q_cut q_sight q_event q_book q_text q_path q_ring q_balance q_left q_sum q_parts q_group q_payment q_then q_image q_tapeSort q_tapeSize q_items : Nat} {u_people : Int32} {u_cuts : Int32} {u_seen : Int32} {u_events : Int32} {u_inBook : Int32} {u_texted : Int32} {u_rule : Int32} {u_rings : Int32} {u_size : Int32} {u_least : Int32} {u_worth : Int64} {u_imaged : Int32} {u_sight : (Nat → Int32)} {u_then : (Nat → Int32)} {x1 : Int32} {x2 : Int32} {x3 : Int32} {z : (Int32 × Int32 × Int32 × Int32 × (Nat → Int32) × (Nat → Int32) × (Nat → Int32) × (Nat → Int32) × (Nat → Int32) × (Nat → Int32) × (Nat → Int32) × (Nat → Int32) × (Nat → Int32))} (hret : RT p l e R s m args below meth c Q D A cX9_fits_ (some .int) [(q_, .inr (9, [.int u_people, .ref q_owes, .ref q_denies, .int z.2.1, .ref q_debt, .int u_cuts, .ref q_cut, .int u_seen, .ref q_sight, .int u_events, .ref q_event, .int u_inBook, .ref q_book, .int u_texted, .ref q_text, .ref q_path, .int u_rule, .int u_rings, .int u_size, .int u_least, .long u_worth, .ref q_ring, .ref q_balance, .ref q_left, .ref q_sum, .ref q_parts, .int z.2.2.1, .ref q_group, .int z.2.2.2.1, .ref q_payment, .ref q_then, .int u_imaged, .ref q_image, .ref q_tapeSort, .ref q_tapeSize, .ref q_items])), (q_owes, .inl (C 0, 36, .inl z.2.2.2.2.1)), (q_debt, .inl (C 0, 30, .inl z.2.2.2.2.2.1)), (q_sight, .inl (C 0, 15, .inl u_sight)), (q_balance, .inl (C 0, 6, .inl z.2.2.2.2.2.2.1)), (q_left, .inl (C 0, 6, .inl z.2.2.2.2.2.2.2.1)), (q_sum, .inl (C 0, 64, .inl z.2.2.2.2.2.2.2.2.1)), (q_parts, .inl (C 0, 64, .inl z.2.2.2.2.2.2.2.2.2.1)), (q_group, .inl (C 0, 3, .inl z.2.2.2.2.2.2.2.2.2.2.1)), (q_payment, .inl (C 0, 30, .inl z.2.2.2.2.2.2.2.2.2.2.2.1)), (q_then, .inl (C 0, 67, .inl z.2.2.2.2.2.2.2.2.2.2.2.2))] (some (.int z.1))) {k81 : Int32 → Int32 → Int32 → Int32 → Int32 → (Nat → Int32) → (Nat → Int32) → (Nat → Int32) → (Nat → Int32) → (Nat → Int32) → (Nat → Int32) → (Nat → Int32) → (Nat → Int32) → Option (Int32 × Int32 × Int32 × Int32 × (Nat → Int32) × (Nat → Int32) × (Nat → Int32) × (Nat → Int32) × (Nat → Int32) × (Nat → Int32) × (Nat → Int32) × (Nat → Int32) × (Nat → Int32))} (hk81 : ∀ (x4 : Int32) (x5 : Int32) (u_debts : Int32) (u_groups : Int32) (u_paid : Int32) (u_owes : (Nat → Int32)) (u_debt : (Nat → Int32)) (u_balance : (Nat → Int32)) (u_left : (Nat → Int32)) (u_sum : (Nat → Int32)) (u_parts : (Nat → Int32)) (u_group : (Nat → Int32)) (u_payment : (Nat → Int32)) (H : Heap) (locs : List Loc) (ls : Array Slot), k81 x4 x5 u_debts u_groups u_paid u_owes u_debt u_balance u_left u_sum u_parts u_group u_payment = some z → HW D A s.heap H locs [(q_, .inr (9, [.int u_people, .ref q_owes, .ref q_denies, .int u_debts, .ref q_debt, .int u_cuts, .ref q_cut, .int u_seen, .ref q_sight, .int u_events, .ref q_event, .int u_inBook, .ref q_book, .int u_texted, .ref q_text, .ref q_path, .int u_rule, .int u_rings, .int u_size, .int u_least, .long u_worth, .ref q_ring, .ref q_balance, .ref q_left, .ref q_sum, .ref q_parts, .int u_groups, .ref q_group, .int u_paid, .ref q_payment, .ref q_then, .int u_imaged, .ref q_image, .ref q_tapeSort, .ref q_tapeSize, .ref q_items])), (q_owes, .inl (C 0, 36, .inl u_owes)), (q_debt, .inl (C 0, 30, .inl u_debt)), (q_sight, .inl (C 0, 15, .inl u_sight)), (q_balance, .inl (C 0, 6, .inl u_balance)), (q_left, .inl (C 0, 6, .inl u_left)), (q_sum, .inl (C 0, 64, .inl u_sum)), (q_parts, .inl (C 0, 64, .inl u_parts)), (q_group, .inl (C 0, 3, .inl u_group)), (q_payment, .inl (C 0, 30, .inl u_payment)), (q_then, .inl (C 0, 67, .inl u_then))] → lv_has ls 7 [(0, .ref q_), (3, .int x3), (4, .int x4), (5, .int x5)] → W p l e R s m args below meth c H locs 0 0 Q (F0 m 81 ls [])) :
    ∀ (n : Nat) (x4 : Int32) (x5 : Int32) (x6 : Int32) (u_debts : Int32) (u_groups : Int32) (u_paid : Int32) (u_owes : (Nat → Int32)) (u_debt : (Nat → Int32)) (u_balance : (Nat → Int32)) (u_left : (Nat → Int32)) (u_sum : (Nat → Int32)) (u_parts : (Nat → Int32)) (u_group : (Nat → Int32)) (u_payment : (Nat → Int32)) (H : Heap) (locs : List Loc) (ls : Array Slot), fX9_fits__L34 k81 u_people u_seen u_sight x1 x2 n x4 x5 x6 u_debts u_groups u_paid u_owes u_debt u_balance u_left u_sum u_parts u_group u_payment = some z → HW D A s.heap H locs [(q_, .inr (9, [.int u_people, .ref q_owes, .ref q_denies, .int u_debts, .ref q_debt, .int u_cuts, .ref q_cut, .int u_seen, .ref q_sight, .int u_events, .ref q_event, .int u_inBook, .ref q_book, .int u_texted, .ref q_text, .ref q_path, .int u_rule, .int u_rings, .int u_size, .int u_least, .long u_worth, .ref q_ring, .ref q_balance, .ref q_left, .ref q_sum, .ref q_parts, .int u_groups, .ref q_group, .int u_paid, .ref q_payment, .ref q_then, .int u_imaged, .ref q_image, .ref q_tapeSort, .ref q_tapeSize, .ref q_items])), (q_owes, .inl (C 0, 36, .inl u_owes)), (q_debt, .inl (C 0, 30, .inl u_debt)), (q_sight, .inl (C 0, 15, .inl u_sight)), (q_balance, .inl (C 0, 6, .inl u_balance)), (q_left, .inl (C 0, 6, .inl u_left)), (q_sum, .inl (C 0, 64, .inl u_sum)), (q_parts, .inl (C 0, 64, .inl u_parts)), (q_group, .inl (C 0, 3, .inl u_group)), (q_payment, .inl (C 0, 30, .inl u_payment)), (q_then, .inl (C 0, 67, .inl u_then))] → lv_has ls 7 [(0, .ref q_), (1, .int x1), (2, .int x2), (3, .int x3), (4, .int x4), (5, .int x5), (6, .int x6)] → W p l e R s m args below meth c H locs 0 0 Q (F0 m 34 ls []) := by
  have hx := cx.1
  have hb := cx.2.1
  intro n
  induction n with
  | zero => intro x4 x5 x6 u_debts u_groups u_paid u_owes u_debt u_balance u_left u_sum u_parts u_group u_payment H locs ls hF; cases hF
  | succ n ih =>
    intro x4 x5 x6 u_debts u_groups u_paid u_owes u_debt u_balance u_left u_sum u_parts u_group u_payment H locs ls hF hw hl
    rw [fX9_fits__L34.eq_2] at hF
    refine lv_iload hx hb dX9_fits__34 (lv_at hl 6 rfl) ?_
    refine lv_bipush (v := 30) hx hb dX9_fits__36 (by decide) ?_
    refine lv_icmp_gt (tgt := 81) hx hb dX9_fits__38 (by decide) (fun c6 => ?_) (fun c6 => ?_)
    · replace hF := oi_t c6 hF
      exact hk81 x4 x5 u_debts u_groups u_paid u_owes u_debt u_balance u_left u_sum u_parts u_group u_payment H locs ls hF hw (lv_sub hl [0, 3, 4, 5] rfl)
    · replace hF := oi_f c6 hF
      refine lv_aload_n hx hb dX9_fits__41 rfl (lv_at hl 0 rfl) ?_
      refine lv_bipush (v := 6) hx hb dX9_fits__42 (by decide) ?_
      refine lv_iload_n hx hb dX9_fits__44 rfl (lv_at hl 1 rfl) ?_
      refine lv_imul hx hb dX9_fits__45 ?_
      refine lv_iload_n hx hb dX9_fits__46 rfl (lv_at hl 2 rfl) ?_
      refine lv_iadd hx hb dX9_fits__47 ?_
      refine lv_iload hx hb dX9_fits__48 (lv_at hl 6 rfl) ?_
      obtain ⟨z7, hz7, hF⟩ := ob hF
      refine cV (wr := [(q_sight, .inl (C 0, 15, .inl u_sight)), (q_balance, .inl (C 0, 6, .inl u_balance)), (q_left, .inl (C 0, 6, .inl u_left)), (q_sum, .inl (C 0, 64, .inl u_sum)), (q_parts, .inl (C 0, 64, .inl u_parts)), (q_group, .inl (C 0, 3, .inl u_group)), (q_payment, .inl (C 0, 30, .inl u_payment)), (q_then, .inl (C 0, 67, .inl u_then))]) (w2 := [(q_, .inr (9, [.int u_people, .ref q_owes, .ref q_denies, .int z7.1, .ref q_debt, .int u_cuts, .ref q_cut, .int u_seen, .ref q_sight, .int u_events, .ref q_event, .int u_inBook, .ref q_book, .int u_texted, .ref q_text, .ref q_path, .int u_rule, .int u_rings, .int u_size, .int u_least, .long u_worth, .ref q_ring, .ref q_balance, .ref q_left, .ref q_sum, .ref q_parts, .int u_groups, .ref q_group, .int u_paid, .ref q_payment, .ref q_then, .int u_imaged, .ref q_image, .ref q_tapeSort, .ref q_tapeSize, .ref q_items])), (q_owes, .inl (C 0, 36, .inl z7.2.1)), (q_debt, .inl (C 0, 30, .inl z7.2.2)), (q_sight, .inl (C 0, 15, .inl u_sight)), (q_balance, .inl (C 0, 6, .inl u_balance)), (q_left, .inl (C 0, 6, .inl u_left)), (q_sum, .inl (C 0, 64, .inl u_sum)), (q_parts, .inl (C 0, 64, .inl u_parts)), (q_group, .inl (C 0, 3, .inl u_group)), (q_payment, .inl (C 0, 30, .inl u_payment)), (q_then, .inl (C 0, 67, .inl u_then))]) (st2 := []) cx (CX9_becomes l D C q_ q_owes q_denies q_debt q_cut q_sight q_event q_book q_text q_path q_ring q_balance q_left q_sum q_parts q_group q_payment q_then q_image q_tapeSort q_tapeSize q_items u_people u_debts u_cuts u_seen u_events u_inBook u_texted u_rule u_rings u_size u_least u_worth u_groups u_paid u_imaged u_owes u_debt ((6 * x1) + x2) x6 z7 hz7) lk_X9_99 my_X9_becomes ml_X9_becomes ⟨by decide, by decide⟩ hw [0, 1, 2] [3, 4, 5, 6, 7, 8, 9, 10] [8, 9, 10, 0, 1, 2, 3, 4, 5, 6, 7] rfl rfl (by decide) rfl rfl rfl rfl (Nat.le_of_ble_eq_true rfl) dX9_fits__50 rfl (fun H locs hw => ?_) hl.1
      refine lv_aload_n hx hb dX9_fits__53 rfl (lv_at hl 0 rfl) ?_
      obtain ⟨z8, hz8, hF⟩ := ob hF
      refine cV (wr := [(q_debt, .inl (C 0, 30, .inl z7.2.2)), (q_then, .inl (C 0, 67, .inl u_then))]) (w2 := [(q_, .inr (9, [.int u_people, .ref q_owes, .ref q_denies, .int z7.1, .ref q_debt, .int u_cuts, .ref q_cut, .int u_seen, .ref q_sight, .int u_events, .ref q_event, .int u_inBook, .ref q_book, .int u_texted, .ref q_text, .ref q_path, .int u_rule, .int u_rings, .int u_size, .int u_least, .long u_worth, .ref q_ring, .ref q_balance, .ref q_left, .ref q_sum, .ref q_parts, .int z8.2.1, .ref q_group, .int z8.2.2.1, .ref q_payment, .ref q_then, .int u_imaged, .ref q_image, .ref q_tapeSort, .ref q_tapeSize, .ref q_items])), (q_owes, .inl (C 0, 36, .inl z7.2.1)), (q_debt, .inl (C 0, 30, .inl z7.2.2)), (q_sight, .inl (C 0, 15, .inl u_sight)), (q_balance, .inl (C 0, 6, .inl z8.2.2.2.1)), (q_left, .inl (C 0, 6, .inl z8.2.2.2.2.1)), (q_sum, .inl (C 0, 64, .inl z8.2.2.2.2.2.1)), (q_parts, .inl (C 0, 64, .inl z8.2.2.2.2.2.2.1)), (q_group, .inl (C 0, 3, .inl z8.2.2.2.2.2.2.2.1)), (q_payment, .inl (C 0, 30, .inl z8.2.2.2.2.2.2.2.2)), (q_then, .inl (C 0, 67, .inl u_then))]) (st2 := [.int z8.1]) cx (CX9_fits l D C q_ q_owes q_denies q_debt q_cut q_sight q_event q_book q_text q_path q_ring q_balance q_left q_sum q_parts q_group q_payment q_then q_image q_tapeSort q_tapeSize q_items u_people z7.1 u_cuts u_seen u_events u_inBook u_texted u_rule u_rings u_size u_least u_worth u_groups u_paid u_imaged z7.2.1 u_sight u_balance u_left u_sum u_parts u_group u_payment z8 hz8) lk_X9_239 my_X9_fits ml_X9_fits ⟨by decide, by decide⟩ hw [0, 1, 3, 4, 5, 6, 7, 8, 9] [2, 10] [2, 3, 0, 4, 5, 6, 7, 8, 9, 10, 1] rfl rfl (by decide) rfl rfl rfl rfl (Nat.le_of_ble_eq_true rfl) dX9_fits__54 rfl (fun H locs hw => ?_) hl.1
      refine lv_if_ne (tgt := 63) hx hb dX9_fits__57 (by decide) (fun c9 => ?_) (fun c9 => ?_)
      · replace hF := oi_f c9 hF
        refine lv_iload hx hb dX9_fits__63 (lv_at hl 4 rfl) ?_
        refine lv_if_ne (tgt := 72) hx hb dX9_fits__65 (by decide) (fun c10 => ?_) (fun c10 => ?_)
        · replace hF := oi_f c10 hF
          refine lv_iinc (v := x4 + 1) (lv' := [(4, .int (x4 + 1)), (0, .ref q_), (1, .int x1), (2, .int x2), (3, .int x3), (5, .int x5), (6, .int x6)]) hx hb dX9_fits__72 hl (k := 4) rfl rfl (by decide) rfl (fun ls hl => ?_)
          refine lv_iinc (v := x6 + 1) (lv' := [(6, .int (x6 + 1)), (4, .int (x4 + 1)), (0, .ref q_), (1, .int x1), (2, .int x2), (3, .int x3), (5, .int x5)]) hx hb dX9_fits__75 hl (k := 6) rfl rfl (by decide) rfl (fun ls hl => ?_)
          refine lv_goto (tgt := 34) hx hb dX9_fits__78 (by decide) ?_
          exact ih (x4 + 1) x5 (x6 + 1) z7.1 z8.2.1 z8.2.2.1 z7.2.1 z7.2.2 z8.2.2.2.1 z8.2.2.2.2.1 z8.2.2.2.2.2.1 z8.2.2.2.2.2.2.1 z8.2.2.2.2.2.2.2.1 z8.2.2.2.2.2.2.2.2 H locs ls hF hw (lv_sub hl [2, 3, 4, 5, 1, 6, 0] rfl)
        · replace hF := oi_t c10 hF
          refine lv_iload hx hb dX9_fits__68 (lv_at hl 6 rfl) ?_
          refine lv_istore (lv' := [(5, .int x6), (0, .ref q_), (1, .int x1), (2, .int x2), (3, .int x3), (4, .int x4), (6, .int x6)]) hx hb dX9_fits__70 hl (by decide) rfl (fun ls hl => ?_)
          refine lv_iinc (v := x4 + 1) (lv' := [(4, .int (x4 + 1)), (5, .int x6), (0, .ref q_), (1, .int x1), (2, .int x2), (3, .int x3), (6, .int x6)]) hx hb dX9_fits__72 hl (k := 5) rfl rfl (by decide) rfl (fun ls hl => ?_)
          refine lv_iinc (v := x6 + 1) (lv' := [(6, .int (x6 + 1)), (4, .int (x4 + 1)), (5, .int x6), (0, .ref q_), (1, .int x1), (2, .int x2), (3, .int x3)]) hx hb dX9_fits__75 hl (k := 6) rfl rfl (by decide) rfl (fun ls hl => ?_)
          refine lv_goto (tgt := 34) hx hb dX9_fits__78 (by decide) ?_
          exact ih (x4 + 1) x6 (x6 + 1) z7.1 z8.2.1 z8.2.2.1 z7.2.1 z7.2.2 z8.2.2.2.1 z8.2.2.2.2.1 z8.2.2.2.2.2.1 z8.2.2.2.2.2.2.1 z8.2.2.2.2.2.2.2.1 z8.2.2.2.2.2.2.2.2 H locs ls hF hw (lv_sub hl [3, 4, 5, 6, 1, 2, 0] rfl)
      · replace hF := oi_t c9 hF
        refine lv_goto (tgt := 75) hx hb dX9_fits__60 (by decide) ?_
        refine lv_iinc (v := x6 + 1) (lv' := [(6, .int (x6 + 1)), (0, .ref q_), (1, .int x1), (2, .int x2), (3, .int x3), (4, .int x4), (5, .int x5)]) hx hb dX9_fits__75 hl (k := 6) rfl rfl (by decide) rfl (fun ls hl => ?_)
        refine lv_goto (tgt := 34) hx hb dX9_fits__78 (by decide) ?_
        exact ih x4 x5 (x6 + 1) z7.1 z8.2.1 z8.2.2.1 z7.2.1 z7.2.2 z8.2.2.2.1 z8.2.2.2.2.1 z8.2.2.2.2.2.1 z8.2.2.2.2.2.2.1 z8.2.2.2.2.2.2.2.1 z8.2.2.2.2.2.2.2.2 H locs ls hF hw (lv_sub hl [1, 2, 3, 4, 5, 6, 0] rfl)
set_option maxRecDepth 20000 in
theorem CX9_fits_ (l : Launch) (D : va_G) (C : Nat → ClassId) (q_ q_owes q_denies q_debt q_cut q_sight q_event q_book q_text q_path q_ring q_balance q_left q_sum q_parts q_group q_payment q_then q_image q_tapeSort q_tapeSize q_items : Nat) (u_people : Int32) (u_debts : Int32) (u_cuts : Int32) (u_seen : Int32) (u_events : Int32) (u_inBook : Int32) (u_texted : Int32) (u_rule : Int32) (u_rings : Int32) (u_size : Int32) (u_least : Int32) (u_worth : Int64) (u_groups : Int32) (u_paid : Int32) (u_imaged : Int32) (u_owes : (Nat → Int32)) (u_debt : (Nat → Int32)) (u_sight : (Nat → Int32)) (u_balance : (Nat → Int32)) (u_left : (Nat → Int32)) (u_sum : (Nat → Int32)) (u_parts : (Nat → Int32)) (u_group : (Nat → Int32)) (u_payment : (Nat → Int32)) (u_then : (Nat → Int32)) (x1 : Int32) (x2 : Int32) (x3 : Int32) (z : (Int32 × Int32 × Int32 × Int32 × (Nat → Int32) × (Nat → Int32) × (Nat → Int32) × (Nat → Int32) × (Nat → Int32) × (Nat → Int32) × (Nat → Int32) × (Nat → Int32) × (Nat → Int32))) (hF : fX9_fits_ u_people u_debts u_seen u_groups u_paid u_owes u_debt u_sight u_balance u_left u_sum u_parts u_group u_payment u_then x1 x2 x3 = some z) : Ct l yX9_fits_ cX9_fits_ 7 (some .int) 5 D C [.ref q_, .int x1, .int x2, .int x3] [(q_, .inr (9, [.int u_people, .ref q_owes, .ref q_denies, .int u_debts, .ref q_debt, .int u_cuts, .ref q_cut, .int u_seen, .ref q_sight, .int u_events, .ref q_event, .int u_inBook, .ref q_book, .int u_texted, .ref q_text, .ref q_path, .int u_rule, .int u_rings, .int u_size, .int u_least, .long u_worth, .ref q_ring, .ref q_balance, .ref q_left, .ref q_sum, .ref q_parts, .int u_groups, .ref q_group, .int u_paid, .ref q_payment, .ref q_then, .int u_imaged, .ref q_image, .ref q_tapeSort, .ref q_tapeSize, .ref q_items])), (q_owes, .inl (C 0, 36, .inl u_owes)), (q_debt, .inl (C 0, 30, .inl u_debt)), (q_sight, .inl (C 0, 15, .inl u_sight)), (q_balance, .inl (C 0, 6, .inl u_balance)), (q_left, .inl (C 0, 6, .inl u_left)), (q_sum, .inl (C 0, 64, .inl u_sum)), (q_parts, .inl (C 0, 64, .inl u_parts)), (q_group, .inl (C 0, 3, .inl u_group)), (q_payment, .inl (C 0, 30, .inl u_payment)), (q_then, .inl (C 0, 67, .inl u_then))] [(q_, .inr (9, [.int u_people, .ref q_owes, .ref q_denies, .int z.2.1, .ref q_debt, .int u_cuts, .ref q_cut, .int u_seen, .ref q_sight, .int u_events, .ref q_event, .int u_inBook, .ref q_book, .int u_texted, .ref q_text, .ref q_path, .int u_rule, .int u_rings, .int u_size, .int u_least, .long u_worth, .ref q_ring, .ref q_balance, .ref q_left, .ref q_sum, .ref q_parts, .int z.2.2.1, .ref q_group, .int z.2.2.2.1, .ref q_payment, .ref q_then, .int u_imaged, .ref q_image, .ref q_tapeSort, .ref q_tapeSize, .ref q_items])), (q_owes, .inl (C 0, 36, .inl z.2.2.2.2.1)), (q_debt, .inl (C 0, 30, .inl z.2.2.2.2.2.1)), (q_sight, .inl (C 0, 15, .inl u_sight)), (q_balance, .inl (C 0, 6, .inl z.2.2.2.2.2.2.1)), (q_left, .inl (C 0, 6, .inl z.2.2.2.2.2.2.2.1)), (q_sum, .inl (C 0, 64, .inl z.2.2.2.2.2.2.2.2.1)), (q_parts, .inl (C 0, 64, .inl z.2.2.2.2.2.2.2.2.2.1)), (q_group, .inl (C 0, 3, .inl z.2.2.2.2.2.2.2.2.2.2.1)), (q_payment, .inl (C 0, 30, .inl z.2.2.2.2.2.2.2.2.2.2.2.1)), (q_then, .inl (C 0, 67, .inl z.2.2.2.2.2.2.2.2.2.2.2.2))] (some (.int z.1)) := by
  refine Ct_of (by decide) (Nat.le_of_ble_eq_true rfl) ?_
  intro p e R s m args below meth c A Q H locs ls cx hw hl hret
  have cx : CX p m c s args RX9 cX9_fits_ 7 D C A R 5 := cx
  have hx := cx.1
  have hb := cx.2.1
  have hl : lv_has ls 7 [(0, .ref q_), (1, .int x1), (2, .int x2), (3, .int x3)] := hl
  rw [fX9_fits_.eq_1] at hF
  refine lv_aload_n hx hb dX9_fits__0 rfl (lv_at hl 0 rfl) ?_
  refine lv_iload_n hx hb dX9_fits__1 rfl (lv_at hl 1 rfl) ?_
  refine lv_iload_n hx hb dX9_fits__2 rfl (lv_at hl 2 rfl) ?_
  obtain ⟨z1, hz1, hF⟩ := ob hF
  refine cV (wr := [(q_owes, .inl (C 0, 36, .inl u_owes)), (q_debt, .inl (C 0, 30, .inl u_debt)), (q_sight, .inl (C 0, 15, .inl u_sight)), (q_balance, .inl (C 0, 6, .inl u_balance)), (q_left, .inl (C 0, 6, .inl u_left)), (q_sum, .inl (C 0, 64, .inl u_sum)), (q_parts, .inl (C 0, 64, .inl u_parts)), (q_group, .inl (C 0, 3, .inl u_group)), (q_payment, .inl (C 0, 30, .inl u_payment)), (q_then, .inl (C 0, 67, .inl u_then))]) (w2 := [(q_, .inr (9, [.int u_people, .ref q_owes, .ref q_denies, .int u_debts, .ref q_debt, .int u_cuts, .ref q_cut, .int u_seen, .ref q_sight, .int u_events, .ref q_event, .int u_inBook, .ref q_book, .int u_texted, .ref q_text, .ref q_path, .int u_rule, .int u_rings, .int u_size, .int u_least, .long u_worth, .ref q_ring, .ref q_balance, .ref q_left, .ref q_sum, .ref q_parts, .int u_groups, .ref q_group, .int u_paid, .ref q_payment, .ref q_then, .int u_imaged, .ref q_image, .ref q_tapeSort, .ref q_tapeSize, .ref q_items])), (q_owes, .inl (C 0, 36, .inl u_owes)), (q_debt, .inl (C 0, 30, .inl u_debt)), (q_sight, .inl (C 0, 15, .inl u_sight)), (q_balance, .inl (C 0, 6, .inl u_balance)), (q_left, .inl (C 0, 6, .inl u_left)), (q_sum, .inl (C 0, 64, .inl u_sum)), (q_parts, .inl (C 0, 64, .inl u_parts)), (q_group, .inl (C 0, 3, .inl u_group)), (q_payment, .inl (C 0, 30, .inl u_payment)), (q_then, .inl (C 0, 67, .inl u_then))]) (st2 := [.int z1]) cx (CX9_areTwo l D C q_ q_owes q_denies q_debt q_cut q_sight q_event q_book q_text q_path q_ring q_balance q_left q_sum q_parts q_group q_payment q_then q_image q_tapeSort q_tapeSize q_items u_people u_debts u_cuts u_seen u_events u_inBook u_texted u_rule u_rings u_size u_least u_worth u_groups u_paid u_imaged x1 x2 z1 hz1) lk_X9_95 my_X9_areTwo ml_X9_areTwo ⟨by decide, by decide⟩ hw [0] [1, 2, 3, 4, 5, 6, 7, 8, 9, 10] [10, 0, 1, 2, 3, 4, 5, 6, 7, 8, 9] rfl rfl (by decide) rfl rfl rfl rfl (Nat.le_of_ble_eq_true rfl) dX9_fits__3 rfl (fun H locs hw => ?_) hl.1
  refine lv_if_eq (tgt := 18) hx hb dX9_fits__6 (by decide) (fun c2 => ?_) (fun c2 => ?_)
  · replace hF := oi_t c2 hF
    refine lv_iconst (v := (-1)) hx hb dX9_fits__18 (by decide) ?_
    obtain rfl := Option.some.inj hF
    exact rt_i hret hw rfl dX9_fits__19
  · replace hF := oi_f c2 hF
    refine lv_iload_n hx hb dX9_fits__9 rfl (lv_at hl 3 rfl) ?_
    refine lv_iconst (v := 0) hx hb dX9_fits__10 (by decide) ?_
    refine lv_iconst (v := 1) hx hb dX9_fits__11 (by decide) ?_
    obtain ⟨z3, hz3, hF⟩ := ob hF
    refine cS (wr := [(q_, .inr (9, [.int u_people, .ref q_owes, .ref q_denies, .int u_debts, .ref q_debt, .int u_cuts, .ref q_cut, .int u_seen, .ref q_sight, .int u_events, .ref q_event, .int u_inBook, .ref q_book, .int u_texted, .ref q_text, .ref q_path, .int u_rule, .int u_rings, .int u_size, .int u_least, .long u_worth, .ref q_ring, .ref q_balance, .ref q_left, .ref q_sum, .ref q_parts, .int u_groups, .ref q_group, .int u_paid, .ref q_payment, .ref q_then, .int u_imaged, .ref q_image, .ref q_tapeSort, .ref q_tapeSize, .ref q_items])), (q_owes, .inl (C 0, 36, .inl u_owes)), (q_debt, .inl (C 0, 30, .inl u_debt)), (q_sight, .inl (C 0, 15, .inl u_sight)), (q_balance, .inl (C 0, 6, .inl u_balance)), (q_left, .inl (C 0, 6, .inl u_left)), (q_sum, .inl (C 0, 64, .inl u_sum)), (q_parts, .inl (C 0, 64, .inl u_parts)), (q_group, .inl (C 0, 3, .inl u_group)), (q_payment, .inl (C 0, 30, .inl u_payment)), (q_then, .inl (C 0, 67, .inl u_then))]) (w2 := [(q_, .inr (9, [.int u_people, .ref q_owes, .ref q_denies, .int u_debts, .ref q_debt, .int u_cuts, .ref q_cut, .int u_seen, .ref q_sight, .int u_events, .ref q_event, .int u_inBook, .ref q_book, .int u_texted, .ref q_text, .ref q_path, .int u_rule, .int u_rings, .int u_size, .int u_least, .long u_worth, .ref q_ring, .ref q_balance, .ref q_left, .ref q_sum, .ref q_parts, .int u_groups, .ref q_group, .int u_paid, .ref q_payment, .ref q_then, .int u_imaged, .ref q_image, .ref q_tapeSort, .ref q_tapeSize, .ref q_items])), (q_owes, .inl (C 0, 36, .inl u_owes)), (q_debt, .inl (C 0, 30, .inl u_debt)), (q_sight, .inl (C 0, 15, .inl u_sight)), (q_balance, .inl (C 0, 6, .inl u_balance)), (q_left, .inl (C 0, 6, .inl u_left)), (q_sum, .inl (C 0, 64, .inl u_sum)), (q_parts, .inl (C 0, 64, .inl u_parts)), (q_group, .inl (C 0, 3, .inl u_group)), (q_payment, .inl (C 0, 30, .inl u_payment)), (q_then, .inl (C 0, 67, .inl u_then))]) (st2 := [.int z3]) cx (CX9_within l D C x3 0 1 z3 hz3) lk_X9_80 my_X9_within ml_X9_within ⟨by decide, by decide⟩ hw [] [0, 1, 2, 3, 4, 5, 6, 7, 8, 9, 10] [0, 1, 2, 3, 4, 5, 6, 7, 8, 9, 10] rfl rfl (by decide) rfl rfl (Nat.le_of_ble_eq_true rfl) dX9_fits__12 rfl (fun H locs hw => ?_) hl.1
    refine lv_if_ne (tgt := 20) hx hb dX9_fits__15 (by decide) (fun c4 => ?_) (fun c4 => ?_)
    · replace hF := oi_f c4 hF
      refine lv_aload_n hx hb dX9_fits__20 rfl (lv_at hl 0 rfl) ?_
      obtain ⟨z5, hz5, hF⟩ := ob hF
      refine cV (wr := [(q_sight, .inl (C 0, 15, .inl u_sight)), (q_balance, .inl (C 0, 6, .inl u_balance)), (q_left, .inl (C 0, 6, .inl u_left)), (q_sum, .inl (C 0, 64, .inl u_sum)), (q_parts, .inl (C 0, 64, .inl u_parts)), (q_group, .inl (C 0, 3, .inl u_group)), (q_payment, .inl (C 0, 30, .inl u_payment))]) (w2 := [(q_, .inr (9, [.int u_people, .ref q_owes, .ref q_denies, .int u_debts, .ref q_debt, .int u_cuts, .ref q_cut, .int u_seen, .ref q_sight, .int u_events, .ref q_event, .int u_inBook, .ref q_book, .int u_texted, .ref q_text, .ref q_path, .int u_rule, .int u_rings, .int u_size, .int u_least, .long u_worth, .ref q_ring, .ref q_balance, .ref q_left, .ref q_sum, .ref q_parts, .int u_groups, .ref q_group, .int u_paid, .ref q_payment, .ref q_then, .int u_imaged, .ref q_image, .ref q_tapeSort, .ref q_tapeSize, .ref q_items])), (q_owes, .inl (C 0, 36, .inl u_owes)), (q_debt, .inl (C 0, 30, .inl u_debt)), (q_sight, .inl (C 0, 15, .inl u_sight)), (q_balance, .inl (C 0, 6, .inl u_balance)), (q_left, .inl (C 0, 6, .inl u_left)), (q_sum, .inl (C 0, 64, .inl u_sum)), (q_parts, .inl (C 0, 64, .inl u_parts)), (q_group, .inl (C 0, 3, .inl u_group)), (q_payment, .inl (C 0, 30, .inl u_payment)), (q_then, .inl (C 0, 67, .inl z5))]) (st2 := []) cx (CX9_keeps l D C q_ q_owes q_denies q_debt q_cut q_sight q_event q_book q_text q_path q_ring q_balance q_left q_sum q_parts q_group q_payment q_then q_image q_tapeSort q_tapeSize q_items u_people u_debts u_cuts u_seen u_events u_inBook u_texted u_rule u_rings u_size u_least u_worth u_groups u_paid u_imaged u_owes u_debt u_then z5 hz5) lk_X9_223 my_X9_keeps ml_X9_keeps ⟨by decide, by decide⟩ hw [0, 1, 2, 10] [3, 4, 5, 6, 7, 8, 9] [7, 8, 9, 0, 1, 2, 3, 4, 5, 6, 10] rfl rfl (by decide) rfl rfl rfl rfl (Nat.le_of_ble_eq_true rfl) dX9_fits__21 rfl (fun H locs hw => ?_) hl.1
      refine lv_iconst (v := 0) hx hb dX9_fits__24 (by decide) ?_
      refine lv_istore (lv' := [(4, .int 0), (0, .ref q_), (1, .int x1), (2, .int x2), (3, .int x3)]) hx hb dX9_fits__25 hl (by decide) rfl (fun ls hl => ?_)
      refine lv_bipush (v := (-5)) hx hb dX9_fits__27 (by decide) ?_
      refine lv_istore (lv' := [(5, .int (-5)), (4, .int 0), (0, .ref q_), (1, .int x1), (2, .int x2), (3, .int x3)]) hx hb dX9_fits__29 hl (by decide) rfl (fun ls hl => ?_)
      refine lv_iconst (v := 0) hx hb dX9_fits__31 (by decide) ?_
      refine lv_istore (lv' := [(6, .int 0), (5, .int (-5)), (4, .int 0), (0, .ref q_), (1, .int x1), (2, .int x2), (3, .int x3)]) hx hb dX9_fits__32 hl (by decide) rfl (fun ls hl => ?_)
      refine LX9_fits__34 cx hret (fun x4_11 x5_11 u_debts_11 u_groups_11 u_paid_11 u_owes_11 u_debt_11 u_balance_11 u_left_11 u_sum_11 u_parts_11 u_group_11 u_payment_11 H locs ls hF hw hl => ?_) 400 0 (-5) 0 u_debts u_groups u_paid u_owes u_debt u_balance u_left u_sum u_parts u_group u_payment H locs ls hF hw (lv_sub hl [3, 4, 5, 6, 2, 1, 0] rfl)
      · refine lv_aload_n hx hb dX9_fits__81 rfl (lv_at hl 0 rfl) ?_
        obtain ⟨z12, hz12, hF⟩ := ob hF
        refine cV (wr := [(q_sight, .inl (C 0, 15, .inl u_sight)), (q_balance, .inl (C 0, 6, .inl u_balance_11)), (q_left, .inl (C 0, 6, .inl u_left_11)), (q_sum, .inl (C 0, 64, .inl u_sum_11)), (q_parts, .inl (C 0, 64, .inl u_parts_11)), (q_group, .inl (C 0, 3, .inl u_group_11)), (q_payment, .inl (C 0, 30, .inl u_payment_11))]) (w2 := [(q_, .inr (9, [.int u_people, .ref q_owes, .ref q_denies, .int z12.1, .ref q_debt, .int u_cuts, .ref q_cut, .int u_seen, .ref q_sight, .int u_events, .ref q_event, .int u_inBook, .ref q_book, .int u_texted, .ref q_text, .ref q_path, .int u_rule, .int u_rings, .int u_size, .int u_least, .long u_worth, .ref q_ring, .ref q_balance, .ref q_left, .ref q_sum, .ref q_parts, .int u_groups_11, .ref q_group, .int u_paid_11, .ref q_payment, .ref q_then, .int u_imaged, .ref q_image, .ref q_tapeSort, .ref q_tapeSize, .ref q_items])), (q_owes, .inl (C 0, 36, .inl z12.2.1)), (q_debt, .inl (C 0, 30, .inl z12.2.2)), (q_sight, .inl (C 0, 15, .inl u_sight)), (q_balance, .inl (C 0, 6, .inl u_balance_11)), (q_left, .inl (C 0, 6, .inl u_left_11)), (q_sum, .inl (C 0, 64, .inl u_sum_11)), (q_parts, .inl (C 0, 64, .inl u_parts_11)), (q_group, .inl (C 0, 3, .inl u_group_11)), (q_payment, .inl (C 0, 30, .inl u_payment_11)), (q_then, .inl (C 0, 67, .inl z5))]) (st2 := []) cx (CX9_returns l D C q_ q_owes q_denies q_debt q_cut q_sight q_event q_book q_text q_path q_ring q_balance q_left q_sum q_parts q_group q_payment q_then q_image q_tapeSort q_tapeSize q_items u_people u_debts_11 u_cuts u_seen u_events u_inBook u_texted u_rule u_rings u_size u_least u_worth u_groups_11 u_paid_11 u_imaged u_owes_11 u_debt_11 z5 z12 hz12) lk_X9_230 my_X9_returns ml_X9_returns ⟨by decide, by decide⟩ hw [0, 1, 2, 10] [3, 4, 5, 6, 7, 8, 9] [7, 8, 9, 0, 1, 2, 3, 4, 5, 6, 10] rfl rfl (by decide) rfl rfl rfl rfl (Nat.le_of_ble_eq_true rfl) dX9_fits__82 rfl (fun H locs hw => ?_) hl.1
        refine lv_iload_n hx hb dX9_fits__85 rfl (lv_at hl 1 rfl) ?_
        refine lv_if_ne (tgt := 94) hx hb dX9_fits__86 (by decide) (fun c13 => ?_) (fun c13 => ?_)
        · replace hF := oi_f c13 hF
          refine lv_iload hx hb dX9_fits__94 (lv_at hl 3 rfl) ?_
          obtain rfl := Option.some.inj hF
          exact rt_i hret hw rfl dX9_fits__96
        · replace hF := oi_t c13 hF
          refine lv_iload hx hb dX9_fits__89 (lv_at hl 2 rfl) ?_
          refine lv_goto (tgt := 96) hx hb dX9_fits__91 (by decide) ?_
          obtain rfl := Option.some.inj hF
          exact rt_i hret hw rfl dX9_fits__96
    · replace hF := oi_t c4 hF
      refine lv_iconst (v := (-1)) hx hb dX9_fits__18 (by decide) ?_
      obtain rfl := Option.some.inj hF
      exact rt_i hret hw rfl dX9_fits__19
theorem lk_X9_242 : Cond.methodLink RX9 242 yX9_common ∈ gdt := gdt_of 1187 (by decide +kernel) (by decide +kernel)
theorem my_X9_common : (yX9_common.cls ≠ "java/lang/invoke/MethodHandle" ∧ yX9_common.cls ≠ "java/lang/invoke/VarHandle") ∧ Cond.static yX9_common ∈ gdt ∧ Cond.initialized yX9_common.cls ∈ gdt ∧ Cond.code yX9_common cX9_common 4 (some .long) ∈ gdt := ⟨⟨by decide +kernel, by decide +kernel⟩, gdt_of 1188 (by decide +kernel) (by decide +kernel), gdt_of 77 (by decide +kernel) (by decide +kernel), gdt_of 1189 (by decide +kernel) (by decide +kernel)⟩
theorem ml_X9_common : (parseMethodDescriptor yX9_common.desc).map (fun d => d.parameters.length) = some 2 := by decide +kernel
theorem dX9_common_0 : decode cX9_common 0 = .ok (.lload_n 2, 1) := by decide +kernel
theorem dX9_common_1 : decode cX9_common 1 = .ok (.lconst 0, 1) := by decide +kernel
theorem dX9_common_2 : decode cX9_common 2 = .ok (.lcmp, 1) := by decide +kernel
theorem dX9_common_3 : decode cX9_common 3 = .ok (.ifCond .ne 7, 3) := by decide +kernel
theorem dX9_common_6 : decode cX9_common 6 = .ok (.lload_n 0, 1) := by decide +kernel
theorem dX9_common_7 : decode cX9_common 7 = .ok (.goto 10, 3) := by decide +kernel
theorem dX9_common_10 : decode cX9_common 10 = .ok (.lload_n 2, 1) := by decide +kernel
theorem dX9_common_11 : decode cX9_common 11 = .ok (.lload_n 0, 1) := by decide +kernel
theorem dX9_common_12 : decode cX9_common 12 = .ok (.lload_n 2, 1) := by decide +kernel
theorem dX9_common_13 : decode cX9_common 13 = .ok (.lrem, 1) := by decide +kernel
theorem dX9_common_14 : decode cX9_common 14 = .ok (.invokestatic 242, 3) := by decide +kernel
theorem dX9_common_17 : decode cX9_common 17 = .ok (.lreturn, 1) := by decide +kernel
def fX9_common : Nat → Int64 → Int64 → Option Int64
  | 0, _, _ => none
  | n + 1, x0, x2 => if (lg_cmp x2 0) = 0 then (some x0) else (gL x2 ((fX9_common n x2 (x0 - x0 / x2 * x2)).bind (fun z3 => some z3)))
set_option maxRecDepth 20000 in
theorem CX9_common : ∀ (n : Nat) (l : Launch) (D : va_G) (C : Nat → ClassId)  (x0 : Int64) (x2 : Int64) (z : Int64) (hF : fX9_common n x0 x2 = some z), Ct l yX9_common cX9_common 4 (some .long) (n + 1) D C [.long x0, .long x2] [] [] (some (.long z)) := by
  intro n
  induction n with
  | zero => intro l D C x0 x2 z hF; cases hF
  | succ n ih =>
    intro l D C x0 x2 z hF
    have hrec := ih l D C
    refine Ct_of (by decide) (Nat.le_of_ble_eq_true rfl) ?_
    intro p e R s m args below meth c A Q H locs ls cx hw hl hret
    have cx : CX p m c s args RX9 cX9_common 4 D C A R ((n + 1) + 1) := cx
    have hx := cx.1
    have hb := cx.2.1
    have hl : lv_has ls 4 [(0, .long x0), (2, .long x2)] := hl
    rw [fX9_common.eq_2] at hF
    refine lv_lload_n hx hb dX9_common_0 rfl (lv_at hl 1 rfl) ?_
    refine lv_lconst (v := 0) hx hb dX9_common_1 (by decide) ?_
    refine W.lcmp hx hb dX9_common_2 ?_
    refine lv_if_ne (tgt := 10) hx hb dX9_common_3 (by decide) (fun c1 => ?_) (fun c1 => ?_)
    · replace hF := oi_f c1 hF
      refine lv_lload_n hx hb dX9_common_10 rfl (lv_at hl 1 rfl) ?_
      refine lv_lload_n hx hb dX9_common_11 rfl (lv_at hl 0 rfl) ?_
      refine lv_lload_n hx hb dX9_common_12 rfl (lv_at hl 1 rfl) ?_
      obtain ⟨g2, hF⟩ := gL_s hF
      refine lv_lrem hx hb dX9_common_13 g2 ?_
      obtain ⟨z3, hz3, hF⟩ := ob hF
      refine cS (wr := []) (w2 := []) (st2 := [.long z3]) cx (hrec x2 (x0 - x0 / x2 * x2) z3 hz3) lk_X9_242 my_X9_common ml_X9_common ⟨by omega, by decide⟩ hw [] [] [] rfl rfl (by decide) rfl rfl (Nat.le_of_ble_eq_true rfl) dX9_common_14 rfl (fun H locs hw => ?_) hl.1
      obtain rfl := Option.some.inj hF
      exact rt_l hret hw rfl dX9_common_17
    · replace hF := oi_t c1 hF
      refine lv_lload_n hx hb dX9_common_6 rfl (lv_at hl 0 rfl) ?_
      refine lv_goto (tgt := 17) hx hb dX9_common_7 (by decide) ?_
      obtain rfl := Option.some.inj hF
      exact rt_l hret hw rfl dX9_common_17
theorem dX9_isBehind_0 : decode cX9_isBehind 0 = .ok (.iconst 0, 1) := by decide +kernel
theorem dX9_isBehind_1 : decode cX9_isBehind 1 = .ok (.istore_n 3, 1) := by decide +kernel
theorem dX9_isBehind_2 : decode cX9_isBehind 2 = .ok (.iload_n 3, 1) := by decide +kernel
theorem dX9_isBehind_3 : decode cX9_isBehind 3 = .ok (.aload_n 0, 1) := by decide +kernel
theorem dX9_isBehind_4 : decode cX9_isBehind 4 = .ok (.getfield 149, 3) := by decide +kernel
theorem dX9_isBehind_7 : decode cX9_isBehind 7 = .ok (.if_icmp .ge 38, 3) := by decide +kernel
theorem dX9_isBehind_10 : decode cX9_isBehind 10 = .ok (.aload_n 0, 1) := by decide +kernel
theorem dX9_isBehind_11 : decode cX9_isBehind 11 = .ok (.getfield 39, 3) := by decide +kernel
theorem dX9_isBehind_14 : decode cX9_isBehind 14 = .ok (.iload_n 3, 1) := by decide +kernel
theorem dX9_isBehind_15 : decode cX9_isBehind 15 = .ok (.iaload, 1) := by decide +kernel
theorem dX9_isBehind_16 : decode cX9_isBehind 16 = .ok (.iload_n 1, 1) := by decide +kernel
theorem dX9_isBehind_17 : decode cX9_isBehind 17 = .ok (.if_icmp .ne 22, 3) := by decide +kernel
theorem dX9_isBehind_20 : decode cX9_isBehind 20 = .ok (.aload_n 0, 1) := by decide +kernel
theorem dX9_isBehind_21 : decode cX9_isBehind 21 = .ok (.getfield 39, 3) := by decide +kernel
theorem dX9_isBehind_24 : decode cX9_isBehind 24 = .ok (.iload_n 3, 1) := by decide +kernel
theorem dX9_isBehind_25 : decode cX9_isBehind 25 = .ok (.iconst 1, 1) := by decide +kernel
theorem dX9_isBehind_26 : decode cX9_isBehind 26 = .ok (.iadd, 1) := by decide +kernel
theorem dX9_isBehind_27 : decode cX9_isBehind 27 = .ok (.aload_n 0, 1) := by decide +kernel
theorem dX9_isBehind_28 : decode cX9_isBehind 28 = .ok (.getfield 149, 3) := by decide +kernel
theorem dX9_isBehind_31 : decode cX9_isBehind 31 = .ok (.irem, 1) := by decide +kernel
theorem dX9_isBehind_32 : decode cX9_isBehind 32 = .ok (.iaload, 1) := by decide +kernel
theorem dX9_isBehind_33 : decode cX9_isBehind 33 = .ok (.iload_n 2, 1) := by decide +kernel
theorem dX9_isBehind_34 : decode cX9_isBehind 34 = .ok (.if_icmp .ne 5, 3) := by decide +kernel
theorem dX9_isBehind_37 : decode cX9_isBehind 37 = .ok (.iconst 1, 1) := by decide +kernel
theorem dX9_isBehind_38 : decode cX9_isBehind 38 = .ok (.ireturn, 1) := by decide +kernel
theorem dX9_isBehind_39 : decode cX9_isBehind 39 = .ok (.iinc 3 1, 3) := by decide +kernel
theorem dX9_isBehind_42 : decode cX9_isBehind 42 = .ok (.goto (-40), 3) := by decide +kernel
theorem dX9_isBehind_45 : decode cX9_isBehind 45 = .ok (.iconst 0, 1) := by decide +kernel
theorem dX9_isBehind_46 : decode cX9_isBehind 46 = .ok (.ireturn, 1) := by decide +kernel
def fX9_isBehind_L2 (u_size : Int32) (u_ring : (Nat → Int32)) (x1 : Int32) (x2 : Int32) : Nat → Int32 → Option Int32
  | 0, _ => none
  | n + 1, x3 => if u_size ≤ x3 then (some 0) else (gA x3 6 (if (u_ring (x3).toNatClampNeg) = x1 then (gZ u_size (gA ((x3 + 1) - (x3 + 1) / u_size * u_size) 6 (if (u_ring ((x3 + 1) - (x3 + 1) / u_size * u_size).toNatClampNeg) = x2 then (some 1) else (fX9_isBehind_L2 u_size u_ring x1 x2 n (x3 + 1))))) else (fX9_isBehind_L2 u_size u_ring x1 x2 n (x3 + 1))))
def fX9_isBehind (u_size : Int32) (u_ring : (Nat → Int32)) (x1 : Int32) (x2 : Int32) : Option Int32 := fX9_isBehind_L2 u_size u_ring x1 x2 400 0
set_option maxRecDepth 20000 in
theorem LX9_isBehind_2 {p : Program} {l : Launch} {e : Env} {R : Room} {s : State} {m : MethodId} {args : Array Value} {below : List Frame} {meth : Method} {c : Code} {Q : State → Prop} {D : va_G} {C : Nat → ClassId} {A : Nat → Prop} (cx : CX p m c s args RX9 cX9_isBehind 4 D C A R 1) {q_ q_owes q_denies q_debt q_cut q_sight q_event q_book q_text q_path q_ring q_balance q_left q_sum q_parts q_group q_payment q_then q_image q_tapeSort q_tapeSize q_items : Nat} {u_people : Int32} {u_debts : Int32} {u_cuts : Int32} {u_seen : Int32} {u_events : Int32} {u_inBook : Int32} {u_texted : Int32} {u_rule : Int32} {u_rings : Int32} {u_size : Int32} {u_least : Int32} {u_worth : Int64} {u_groups : Int32} {u_paid : Int32} {u_imaged : Int32} {u_ring : (Nat → Int32)} {x1 : Int32} {x2 : Int32} {z : Int32} (hret : RT p l e R s m args below meth c Q D A cX9_isBehind (some .boolean) [(q_, .inr (9, [.int u_people, .ref q_owes, .ref q_denies, .int u_debts, .ref q_debt, .int u_cuts, .ref q_cut, .int u_seen, .ref q_sight, .int u_events, .ref q_event, .int u_inBook, .ref q_book, .int u_texted, .ref q_text, .ref q_path, .int u_rule, .int u_rings, .int u_size, .int u_least, .long u_worth, .ref q_ring, .ref q_balance, .ref q_left, .ref q_sum, .ref q_parts, .int u_groups, .ref q_group, .int u_paid, .ref q_payment, .ref q_then, .int u_imaged, .ref q_image, .ref q_tapeSort, .ref q_tapeSize, .ref q_items])), (q_ring, .inl (C 0, 6, .inl u_ring))] (some (.int z))) :
    ∀ (n : Nat) (x3 : Int32) (H : Heap) (locs : List Loc) (ls : Array Slot), fX9_isBehind_L2 u_size u_ring x1 x2 n x3 = some z → HW D A s.heap H locs [(q_, .inr (9, [.int u_people, .ref q_owes, .ref q_denies, .int u_debts, .ref q_debt, .int u_cuts, .ref q_cut, .int u_seen, .ref q_sight, .int u_events, .ref q_event, .int u_inBook, .ref q_book, .int u_texted, .ref q_text, .ref q_path, .int u_rule, .int u_rings, .int u_size, .int u_least, .long u_worth, .ref q_ring, .ref q_balance, .ref q_left, .ref q_sum, .ref q_parts, .int u_groups, .ref q_group, .int u_paid, .ref q_payment, .ref q_then, .int u_imaged, .ref q_image, .ref q_tapeSort, .ref q_tapeSize, .ref q_items])), (q_ring, .inl (C 0, 6, .inl u_ring))] → lv_has ls 4 [(0, .ref q_), (1, .int x1), (2, .int x2), (3, .int x3)] → W p l e R s m args below meth c H locs 0 0 Q (F0 m 2 ls []) := by
  have hx := cx.1
  have hb := cx.2.1
  intro n
  induction n with
  | zero => intro x3 H locs ls hF; cases hF
  | succ n ih =>
    intro x3 H locs ls hF hw hl
    rw [fX9_isBehind_L2.eq_2] at hF
    refine lv_iload_n hx hb dX9_isBehind_2 rfl (lv_at hl 3 rfl) ?_
    refine lv_aload_n hx hb dX9_isBehind_3 rfl (lv_at hl 0 rfl) ?_
    refine r_get (ci := 9) (v := .int u_size) cx hw iX9 0 18 rfl rfl (by decide) wf_X9_149 rfl dX9_isBehind_4 ?_
    refine lv_icmp_ge (tgt := 45) hx hb dX9_isBehind_7 (by decide) (fun c1 => ?_) (fun c1 => ?_)
    · replace hF := oi_t c1 hF
      refine lv_iconst (v := 0) hx hb dX9_isBehind_45 (by decide) ?_
      obtain rfl := Option.some.inj hF
      exact rt_z hret hw rfl rfl dX9_isBehind_46
    · replace hF := oi_f c1 hF
      refine lv_aload_n hx hb dX9_isBehind_10 rfl (lv_at hl 0 rfl) ?_
      refine r_get (ci := 9) (v := .ref q_ring) cx hw iX9 0 21 rfl rfl (by decide) wf_X9_39 rfl dX9_isBehind_11 ?_
      refine lv_iload_n hx hb dX9_isBehind_14 rfl (lv_at hl 3 rfl) ?_
      obtain ⟨g2, hF⟩ := gA_s hF
      refine r_iald cx hw 1 rfl g2 dX9_isBehind_15 ?_
      refine lv_iload_n hx hb dX9_isBehind_16 rfl (lv_at hl 1 rfl) ?_
      refine lv_icmp_ne (tgt := 39) hx hb dX9_isBehind_17 (by decide) (fun c3 => ?_) (fun c3 => ?_)
      · replace hF := oi_f c3 hF
        refine lv_iinc (v := x3 + 1) (lv' := [(3, .int (x3 + 1)), (0, .ref q_), (1, .int x1), (2, .int x2)]) hx hb dX9_isBehind_39 hl (k := 3) rfl rfl (by decide) rfl (fun ls hl => ?_)
        refine lv_goto (tgt := 2) hx hb dX9_isBehind_42 (by decide) ?_
        exact ih (x3 + 1) H locs ls hF hw (lv_sub hl [1, 2, 3, 0] rfl)
      · replace hF := oi_t c3 hF
        refine lv_aload_n hx hb dX9_isBehind_20 rfl (lv_at hl 0 rfl) ?_
        refine r_get (ci := 9) (v := .ref q_ring) cx hw iX9 0 21 rfl rfl (by decide) wf_X9_39 rfl dX9_isBehind_21 ?_
        refine lv_iload_n hx hb dX9_isBehind_24 rfl (lv_at hl 3 rfl) ?_
        refine lv_iconst (v := 1) hx hb dX9_isBehind_25 (by decide) ?_
        refine lv_iadd hx hb dX9_isBehind_26 ?_
        refine lv_aload_n hx hb dX9_isBehind_27 rfl (lv_at hl 0 rfl) ?_
        refine r_get (ci := 9) (v := .int u_size) cx hw iX9 0 18 rfl rfl (by decide) wf_X9_149 rfl dX9_isBehind_28 ?_
        obtain ⟨g4, hF⟩ := gZ_s hF
        refine lv_irem hx hb dX9_isBehind_31 g4 ?_
        obtain ⟨g5, hF⟩ := gA_s hF
        refine r_iald cx hw 1 rfl g5 dX9_isBehind_32 ?_
        refine lv_iload_n hx hb dX9_isBehind_33 rfl (lv_at hl 2 rfl) ?_
        refine lv_icmp_ne (tgt := 39) hx hb dX9_isBehind_34 (by decide) (fun c6 => ?_) (fun c6 => ?_)
        · replace hF := oi_f c6 hF
          refine lv_iinc (v := x3 + 1) (lv' := [(3, .int (x3 + 1)), (0, .ref q_), (1, .int x1), (2, .int x2)]) hx hb dX9_isBehind_39 hl (k := 3) rfl rfl (by decide) rfl (fun ls hl => ?_)
          refine lv_goto (tgt := 2) hx hb dX9_isBehind_42 (by decide) ?_
          exact ih (x3 + 1) H locs ls hF hw (lv_sub hl [1, 2, 3, 0] rfl)
        · replace hF := oi_t c6 hF
          refine lv_iconst (v := 1) hx hb dX9_isBehind_37 (by decide) ?_
          obtain rfl := Option.some.inj hF
          exact rt_z hret hw rfl rfl dX9_isBehind_38
set_option maxRecDepth 20000 in
theorem CX9_isBehind (l : Launch) (D : va_G) (C : Nat → ClassId) (q_ q_owes q_denies q_debt q_cut q_sight q_event q_book q_text q_path q_ring q_balance q_left q_sum q_parts q_group q_payment q_then q_image q_tapeSort q_tapeSize q_items : Nat) (u_people : Int32) (u_debts : Int32) (u_cuts : Int32) (u_seen : Int32) (u_events : Int32) (u_inBook : Int32) (u_texted : Int32) (u_rule : Int32) (u_rings : Int32) (u_size : Int32) (u_least : Int32) (u_worth : Int64) (u_groups : Int32) (u_paid : Int32) (u_imaged : Int32) (u_ring : (Nat → Int32)) (x1 : Int32) (x2 : Int32) (z : Int32) (hF : fX9_isBehind u_size u_ring x1 x2 = some z) : Ct l yX9_isBehind cX9_isBehind 4 (some .boolean) 1 D C [.ref q_, .int x1, .int x2] [(q_, .inr (9, [.int u_people, .ref q_owes, .ref q_denies, .int u_debts, .ref q_debt, .int u_cuts, .ref q_cut, .int u_seen, .ref q_sight, .int u_events, .ref q_event, .int u_inBook, .ref q_book, .int u_texted, .ref q_text, .ref q_path, .int u_rule, .int u_rings, .int u_size, .int u_least, .long u_worth, .ref q_ring, .ref q_balance, .ref q_left, .ref q_sum, .ref q_parts, .int u_groups, .ref q_group, .int u_paid, .ref q_payment, .ref q_then, .int u_imaged, .ref q_image, .ref q_tapeSort, .ref q_tapeSize, .ref q_items])), (q_ring, .inl (C 0, 6, .inl u_ring))] [(q_, .inr (9, [.int u_people, .ref q_owes, .ref q_denies, .int u_debts, .ref q_debt, .int u_cuts, .ref q_cut, .int u_seen, .ref q_sight, .int u_events, .ref q_event, .int u_inBook, .ref q_book, .int u_texted, .ref q_text, .ref q_path, .int u_rule, .int u_rings, .int u_size, .int u_least, .long u_worth, .ref q_ring, .ref q_balance, .ref q_left, .ref q_sum, .ref q_parts, .int u_groups, .ref q_group, .int u_paid, .ref q_payment, .ref q_then, .int u_imaged, .ref q_image, .ref q_tapeSort, .ref q_tapeSize, .ref q_items])), (q_ring, .inl (C 0, 6, .inl u_ring))] (some (.int z)) := by
  refine Ct_of (by decide) (Nat.le_of_ble_eq_true rfl) ?_
  intro p e R s m args below meth c A Q H locs ls cx hw hl hret
  have cx : CX p m c s args RX9 cX9_isBehind 4 D C A R 1 := cx
  have hx := cx.1
  have hb := cx.2.1
  have hl : lv_has ls 4 [(0, .ref q_), (1, .int x1), (2, .int x2)] := hl
  rw [fX9_isBehind.eq_1] at hF
  refine lv_iconst (v := 0) hx hb dX9_isBehind_0 (by decide) ?_
  refine lv_istore_n (lv' := [(3, .int 0), (0, .ref q_), (1, .int x1), (2, .int x2)]) hx hb dX9_isBehind_1 rfl hl (by decide) rfl (fun ls hl => ?_)
  refine LX9_isBehind_2 cx hret 400 0 H locs ls hF hw (lv_sub hl [1, 2, 3, 0] rfl)
theorem dX9_part_0 : decode cX9_part 0 = .ok (.lload_n 0, 1) := by decide +kernel
theorem dX9_part_1 : decode cX9_part 1 = .ok (.lload_n 2, 1) := by decide +kernel
theorem dX9_part_2 : decode cX9_part 2 = .ok (.invokestatic 242, 3) := by decide +kernel
theorem dX9_part_5 : decode cX9_part 5 = .ok (.lstore 5, 2) := by decide +kernel
theorem dX9_part_7 : decode cX9_part 7 = .ok (.iload 4, 2) := by decide +kernel
theorem dX9_part_9 : decode cX9_part 9 = .ok (.ifCond .ne 10, 3) := by decide +kernel
theorem dX9_part_12 : decode cX9_part 12 = .ok (.lload_n 0, 1) := by decide +kernel
theorem dX9_part_13 : decode cX9_part 13 = .ok (.lload 5, 2) := by decide +kernel
theorem dX9_part_15 : decode cX9_part 15 = .ok (.ldiv, 1) := by decide +kernel
theorem dX9_part_16 : decode cX9_part 16 = .ok (.goto 7, 3) := by decide +kernel
theorem dX9_part_19 : decode cX9_part 19 = .ok (.lload_n 2, 1) := by decide +kernel
theorem dX9_part_20 : decode cX9_part 20 = .ok (.lload 5, 2) := by decide +kernel
theorem dX9_part_22 : decode cX9_part 22 = .ok (.ldiv, 1) := by decide +kernel
theorem dX9_part_23 : decode cX9_part 23 = .ok (.lreturn, 1) := by decide +kernel
def fX9_part (x0 : Int64) (x2 : Int64) (x4 : Int32) : Option Int64 := (fX9_common 60 x0 x2).bind (fun z1 => if x4 = 0 then (gL z1 (some (x0 / z1))) else (gL z1 (some (x2 / z1))))
set_option maxRecDepth 20000 in
theorem CX9_part (l : Launch) (D : va_G) (C : Nat → ClassId)  (x0 : Int64) (x2 : Int64) (x4 : Int32) (z : Int64) (hF : fX9_part x0 x2 x4 = some z) : Ct l yX9_part cX9_part 7 (some .long) 62 D C [.long x0, .long x2, .int x4] [] [] (some (.long z)) := by
  refine Ct_of (by decide) (Nat.le_of_ble_eq_true rfl) ?_
  intro p e R s m args below meth c A Q H locs ls cx hw hl hret
  have cx : CX p m c s args RX9 cX9_part 7 D C A R 62 := cx
  have hx := cx.1
  have hb := cx.2.1
  have hl : lv_has ls 7 [(0, .long x0), (2, .long x2), (4, .int x4)] := hl
  rw [fX9_part.eq_1] at hF
  refine lv_lload_n hx hb dX9_part_0 rfl (lv_at hl 0 rfl) ?_
  refine lv_lload_n hx hb dX9_part_1 rfl (lv_at hl 1 rfl) ?_
  obtain ⟨z1, hz1, hF⟩ := ob hF
  refine cS (wr := []) (w2 := []) (st2 := [.long z1]) cx (CX9_common 60 l D C x0 x2 z1 hz1) lk_X9_242 my_X9_common ml_X9_common ⟨by decide, by decide⟩ hw [] [] [] rfl rfl (by decide) rfl rfl (Nat.le_of_ble_eq_true rfl) dX9_part_2 rfl (fun H locs hw => ?_) hl.1
  refine lv_lstore (lv' := [(5, .long z1), (0, .long x0), (2, .long x2), (4, .int x4)]) hx hb dX9_part_5 hl (by decide) rfl (fun ls hl => ?_)
  refine lv_iload hx hb dX9_part_7 (lv_at hl 3 rfl) ?_
  refine lv_if_ne (tgt := 19) hx hb dX9_part_9 (by decide) (fun c2 => ?_) (fun c2 => ?_)
  · replace hF := oi_f c2 hF
    refine lv_lload_n hx hb dX9_part_19 rfl (lv_at hl 2 rfl) ?_
    refine lv_lload hx hb dX9_part_20 (lv_at hl 0 rfl) ?_
    obtain ⟨g3, hF⟩ := gL_s hF
    refine lv_ldiv hx hb dX9_part_22 g3 ?_
    obtain rfl := Option.some.inj hF
    exact rt_l hret hw rfl dX9_part_23
  · replace hF := oi_t c2 hF
    refine lv_lload_n hx hb dX9_part_12 rfl (lv_at hl 1 rfl) ?_
    refine lv_lload hx hb dX9_part_13 (lv_at hl 0 rfl) ?_
    obtain ⟨g4, hF⟩ := gL_s hF
    refine lv_ldiv hx hb dX9_part_15 g4 ?_
    refine lv_goto (tgt := 23) hx hb dX9_part_16 (by decide) ?_
    obtain rfl := Option.some.inj hF
    exact rt_l hret hw rfl dX9_part_23
theorem lk_X9_246 : Cond.methodLink RX9 246 yX9_isBehind ∈ gdt := gdt_of 1179 (by decide +kernel) (by decide +kernel)
theorem cl_X9_249 : Cond.constantLong RX9 249 10 ∈ gdt := gdt_of 1183 (by decide +kernel) (by decide +kernel)
theorem lk_X9_251 : Cond.methodLink RX9 251 yX9_part ∈ gdt := gdt_of 1184 (by decide +kernel) (by decide +kernel)
theorem my_X9_isBehind : (yX9_isBehind.cls ≠ "java/lang/invoke/MethodHandle" ∧ yX9_isBehind.cls ≠ "java/lang/invoke/VarHandle") ∧ Cond.instanceMethod yX9_isBehind ∈ gdt ∧ Cond.selects yX9_isBehind.cls yX9_isBehind yX9_isBehind ∈ gdt ∧ Cond.initialized yX9_isBehind.cls ∈ gdt ∧ Cond.code yX9_isBehind cX9_isBehind 4 (some .boolean) ∈ gdt := ⟨⟨by decide +kernel, by decide +kernel⟩, gdt_of 1181 (by decide +kernel) (by decide +kernel), gdt_of 64 (by decide +kernel) (by decide +kernel), gdt_of 77 (by decide +kernel) (by decide +kernel), gdt_of 1182 (by decide +kernel) (by decide +kernel)⟩
theorem ml_X9_isBehind : (parseMethodDescriptor yX9_isBehind.desc).map (fun d => d.parameters.length) = some 2 := by decide +kernel
theorem my_X9_part : (yX9_part.cls ≠ "java/lang/invoke/MethodHandle" ∧ yX9_part.cls ≠ "java/lang/invoke/VarHandle") ∧ Cond.static yX9_part ∈ gdt ∧ Cond.initialized yX9_part.cls ∈ gdt ∧ Cond.code yX9_part cX9_part 7 (some .long) ∈ gdt := ⟨⟨by decide +kernel, by decide +kernel⟩, gdt_of 1185 (by decide +kernel) (by decide +kernel), gdt_of 77 (by decide +kernel) (by decide +kernel), gdt_of 1186 (by decide +kernel) (by decide +kernel)⟩
theorem ml_X9_part : (parseMethodDescriptor yX9_part.desc).map (fun d => d.parameters.length) = some 3 := by decide +kernel
theorem dX9_odds_0 : decode cX9_odds 0 = .ok (.aload_n 0, 1) := by decide +kernel
theorem dX9_odds_1 : decode cX9_odds 1 = .ok (.iload_n 1, 1) := by decide +kernel
theorem dX9_odds_2 : decode cX9_odds 2 = .ok (.iload_n 2, 1) := by decide +kernel
theorem dX9_odds_3 : decode cX9_odds 3 = .ok (.invokevirtual 95, 3) := by decide +kernel
theorem dX9_odds_6 : decode cX9_odds 6 = .ok (.ifCond .eq 12, 3) := by decide +kernel
theorem dX9_odds_9 : decode cX9_odds 9 = .ok (.iload_n 3, 1) := by decide +kernel
theorem dX9_odds_10 : decode cX9_odds 10 = .ok (.iconst 0, 1) := by decide +kernel
theorem dX9_odds_11 : decode cX9_odds 11 = .ok (.iconst 1, 1) := by decide +kernel
theorem dX9_odds_12 : decode cX9_odds 12 = .ok (.invokestatic 80, 3) := by decide +kernel
theorem dX9_odds_15 : decode cX9_odds 15 = .ok (.ifCond .ne 7, 3) := by decide +kernel
theorem dX9_odds_18 : decode cX9_odds 18 = .ok (.ldc2_w 173, 3) := by decide +kernel
theorem dX9_odds_21 : decode cX9_odds 21 = .ok (.lreturn, 1) := by decide +kernel
theorem dX9_odds_22 : decode cX9_odds 22 = .ok (.aload_n 0, 1) := by decide +kernel
theorem dX9_odds_23 : decode cX9_odds 23 = .ok (.invokevirtual 223, 3) := by decide +kernel
theorem dX9_odds_26 : decode cX9_odds 26 = .ok (.lconst 0, 1) := by decide +kernel
theorem dX9_odds_27 : decode cX9_odds 27 = .ok (.lstore 4, 2) := by decide +kernel
theorem dX9_odds_29 : decode cX9_odds 29 = .ok (.iconst 0, 1) := by decide +kernel
theorem dX9_odds_30 : decode cX9_odds 30 = .ok (.istore 6, 2) := by decide +kernel
theorem dX9_odds_32 : decode cX9_odds 32 = .ok (.iload 6, 2) := by decide +kernel
theorem dX9_odds_34 : decode cX9_odds 34 = .ok (.bipush 10, 2) := by decide +kernel
theorem dX9_odds_36 : decode cX9_odds 36 = .ok (.if_icmp .ge 44, 3) := by decide +kernel
theorem dX9_odds_39 : decode cX9_odds 39 = .ok (.aload_n 0, 1) := by decide +kernel
theorem dX9_odds_40 : decode cX9_odds 40 = .ok (.bipush 6, 2) := by decide +kernel
theorem dX9_odds_42 : decode cX9_odds 42 = .ok (.iload_n 1, 1) := by decide +kernel
theorem dX9_odds_43 : decode cX9_odds 43 = .ok (.imul, 1) := by decide +kernel
theorem dX9_odds_44 : decode cX9_odds 44 = .ok (.iload_n 2, 1) := by decide +kernel
theorem dX9_odds_45 : decode cX9_odds 45 = .ok (.iadd, 1) := by decide +kernel
theorem dX9_odds_46 : decode cX9_odds 46 = .ok (.iload 6, 2) := by decide +kernel
theorem dX9_odds_48 : decode cX9_odds 48 = .ok (.invokevirtual 99, 3) := by decide +kernel
theorem dX9_odds_51 : decode cX9_odds 51 = .ok (.aload_n 0, 1) := by decide +kernel
theorem dX9_odds_52 : decode cX9_odds 52 = .ok (.iconst 1, 1) := by decide +kernel
theorem dX9_odds_53 : decode cX9_odds 53 = .ok (.invokevirtual 165, 3) := by decide +kernel
theorem dX9_odds_56 : decode cX9_odds 56 = .ok (.ifCond .eq 18, 3) := by decide +kernel
theorem dX9_odds_59 : decode cX9_odds 59 = .ok (.aload_n 0, 1) := by decide +kernel
theorem dX9_odds_60 : decode cX9_odds 60 = .ok (.iload_n 1, 1) := by decide +kernel
theorem dX9_odds_61 : decode cX9_odds 61 = .ok (.iload_n 2, 1) := by decide +kernel
theorem dX9_odds_62 : decode cX9_odds 62 = .ok (.invokevirtual 246, 3) := by decide +kernel
theorem dX9_odds_65 : decode cX9_odds 65 = .ok (.ifCond .eq 9, 3) := by decide +kernel
theorem dX9_odds_68 : decode cX9_odds 68 = .ok (.lload 4, 2) := by decide +kernel
theorem dX9_odds_70 : decode cX9_odds 70 = .ok (.lconst 1, 1) := by decide +kernel
theorem dX9_odds_71 : decode cX9_odds 71 = .ok (.ladd, 1) := by decide +kernel
theorem dX9_odds_72 : decode cX9_odds 72 = .ok (.lstore 4, 2) := by decide +kernel
theorem dX9_odds_74 : decode cX9_odds 74 = .ok (.iinc 6 1, 3) := by decide +kernel
theorem dX9_odds_77 : decode cX9_odds 77 = .ok (.goto (-45), 3) := by decide +kernel
theorem dX9_odds_80 : decode cX9_odds 80 = .ok (.aload_n 0, 1) := by decide +kernel
theorem dX9_odds_81 : decode cX9_odds 81 = .ok (.invokevirtual 230, 3) := by decide +kernel
theorem dX9_odds_84 : decode cX9_odds 84 = .ok (.lload 4, 2) := by decide +kernel
theorem dX9_odds_86 : decode cX9_odds 86 = .ok (.ldc2_w 249, 3) := by decide +kernel
theorem dX9_odds_89 : decode cX9_odds 89 = .ok (.iload_n 3, 1) := by decide +kernel
theorem dX9_odds_90 : decode cX9_odds 90 = .ok (.invokestatic 251, 3) := by decide +kernel
theorem dX9_odds_93 : decode cX9_odds 93 = .ok (.lreturn, 1) := by decide +kernel
def fX9_odds_L32 (k80 : Int64 → Int32 → Int32 → Int32 → Int32 → Int32 → Int64 → (Nat → Int32) → (Nat → Int32) → (Nat → Int32) → (Nat → Int32) → Option (Int64 × Int32 × Int32 × Int32 × Int32 × Int32 × Int64 × (Nat → Int32) × (Nat → Int32) × (Nat → Int32) × (Nat → Int32) × (Nat → Int32))) (u_people : Int32) (u_cuts : Int32) (u_seen : Int32) (u_events : Int32) (u_inBook : Int32) (u_texted : Int32) (u_groups : Int32) (u_paid : Int32) (u_imaged : Int32) (u_denies : (Nat → Int32)) (x1 : Int32) (x2 : Int32) : Nat → Int64 → Int32 → Int32 → Int32 → Int32 → Int32 → Int32 → Int64 → (Nat → Int32) → (Nat → Int32) → (Nat → Int32) → (Nat → Int32) → Option (Int64 × Int32 × Int32 × Int32 × Int32 × Int32 × Int64 × (Nat → Int32) × (Nat → Int32) × (Nat → Int32) × (Nat → Int32) × (Nat → Int32))
  | 0, _, _, _, _, _, _, _, _, _, _, _, _ => none
  | n + 1, x4, x6, u_debts, u_rule, u_rings, u_size, u_least, u_worth, u_owes, u_debt, u_path, u_ring => if 10 ≤ x6 then (k80 x4 u_debts u_rule u_rings u_size u_least u_worth u_owes u_debt u_path u_ring) else ((fX9_becomes u_debts u_owes u_debt ((6 * x1) + x2) x6).bind (fun z7 => (fX9_takes u_people z7.1 u_cuts u_seen u_events u_inBook u_texted u_least u_groups u_paid u_imaged z7.2.1 u_denies u_path u_ring 1).bind (fun z8 => if z8.1 = 0 then (fX9_odds_L32 k80 u_people u_cuts u_seen u_events u_inBook u_texted u_groups u_paid u_imaged u_denies x1 x2 n x4 (x6 + 1) z7.1 z8.2.1 z8.2.2.1 z8.2.2.2.1 z8.2.2.2.2.1 z8.2.2.2.2.2.1 z7.2.1 z7.2.2 z8.2.2.2.2.2.2.1 z8.2.2.2.2.2.2.2) else ((fX9_isBehind z8.2.2.2.1 z8.2.2.2.2.2.2.2 x1 x2).bind (fun z10 => if z10 = 0 then (fX9_odds_L32 k80 u_people u_cuts u_seen u_events u_inBook u_texted u_groups u_paid u_imaged u_denies x1 x2 n x4 (x6 + 1) z7.1 z8.2.1 z8.2.2.1 z8.2.2.2.1 z8.2.2.2.2.1 z8.2.2.2.2.2.1 z7.2.1 z7.2.2 z8.2.2.2.2.2.2.1 z8.2.2.2.2.2.2.2) else (fX9_odds_L32 k80 u_people u_cuts u_seen u_events u_inBook u_texted u_groups u_paid u_imaged u_denies x1 x2 n (x4 + 1) (x6 + 1) z7.1 z8.2.1 z8.2.2.1 z8.2.2.2.1 z8.2.2.2.2.1 z8.2.2.2.2.2.1 z7.2.1 z7.2.2 z8.2.2.2.2.2.2.1 z8.2.2.2.2.2.2.2))))))
def fX9_odds (u_people : Int32) (u_debts : Int32) (u_cuts : Int32) (u_seen : Int32) (u_events : Int32) (u_inBook : Int32) (u_texted : Int32) (u_rule : Int32) (u_rings : Int32) (u_size : Int32) (u_least : Int32) (u_worth : Int64) (u_groups : Int32) (u_paid : Int32) (u_imaged : Int32) (u_owes : (Nat → Int32)) (u_denies : (Nat → Int32)) (u_debt : (Nat → Int32)) (u_path : (Nat → Int32)) (u_ring : (Nat → Int32)) (u_then : (Nat → Int32)) (x1 : Int32) (x2 : Int32) (x3 : Int32) : Option (Int64 × Int32 × Int32 × Int32 × Int32 × Int32 × Int64 × (Nat → Int32) × (Nat → Int32) × (Nat → Int32) × (Nat → Int32) × (Nat → Int32)) := (fX9_areTwo u_people x1 x2).bind (fun z1 => if z1 = 0 then (some ((-9223372036854775808), u_debts, u_rule, u_rings, u_size, u_least, u_worth, u_owes, u_debt, u_path, u_ring, u_then)) else ((fX9_within x3 0 1).bind (fun z3 => if z3 = 0 then (some ((-9223372036854775808), u_debts, u_rule, u_rings, u_size, u_least, u_worth, u_owes, u_debt, u_path, u_ring, u_then)) else ((fX9_keeps u_debts u_owes u_debt u_then).bind (fun z5 => fX9_odds_L32 (fun (x4_12 : Int64) (u_debts_12 : Int32) (u_rule_12 : Int32) (u_rings_12 : Int32) (u_size_12 : Int32) (u_least_12 : Int32) (u_worth_12 : Int64) (u_owes_12 : (Nat → Int32)) (u_debt_12 : (Nat → Int32)) (u_path_12 : (Nat → Int32)) (u_ring_12 : (Nat → Int32)) => (fX9_returns u_owes_12 u_debt_12 z5).bind (fun z13 => (fX9_part x4_12 10 x3).bind (fun z14 => some (z14, z13.1, u_rule_12, u_rings_12, u_size_12, u_least_12, u_worth_12, z13.2.1, z13.2.2, u_path_12, u_ring_12, z5)))) u_people u_cuts u_seen u_events u_inBook u_texted u_groups u_paid u_imaged u_denies x1 x2 400 0 0 u_debts u_rule u_rings u_size u_least u_worth u_owes u_debt u_path u_ring)))))
set_option maxRecDepth 20000 in
theorem LX9_odds_32 {p : Program} {l : Launch} {e : Env} {R : Room} {s : State} {m : MethodId} {args : Array Value} {below : List Frame} {meth : Method} {c : Code} {Q : State → Prop} {D : va_G} {C : Nat → ClassId} {A : Nat → Prop} (cx : CX p m c s args RX9 cX9_odds 7 D C A R 63) {q_ q_owes q_denies q_debt q_cut q_sight q_event q_book q_text q_path q_ring q_balance q_left q_sum q_parts q_group q_payment q_then q_image q_tapeSort q_tapeSize q_items : Nat} {u_people : Int32} {u_cuts : Int32} {u_seen : Int32} {u_events : Int32} {u_inBook : Int32} {u_texted : Int32} {u_groups : Int32} {u_paid : Int32} {u_imaged : Int32} {u_denies : (Nat → Int32)} {u_then : (Nat → Int32)} {x1 : Int32} {x2 : Int32} {x3 : Int32} {z : (Int64 × Int32 × Int32 × Int32 × Int32 × Int32 × Int64 × (Nat → Int32) × (Nat → Int32) × (Nat → Int32) × (Nat → Int32) × (Nat → Int32))} (hret : RT p l e R s m args below meth c Q D A cX9_odds (some .long) [(q_, .inr (9, [.int u_people, .ref q_owes, .ref q_denies, .int z.2.1, .ref q_debt, .int u_cuts, .ref q_cut, .int u_seen, .ref q_sight, .int u_events, .ref q_event, .int u_inBook, .ref q_book, .int u_texted, .ref q_text, .ref q_path, .int z.2.2.1, .int z.2.2.2.1, .int z.2.2.2.2.1, .int z.2.2.2.2.2.1, .long z.2.2.2.2.2.2.1, .ref q_ring, .ref q_balance, .ref q_left, .ref q_sum, .ref q_parts, .int u_groups, .ref q_group, .int u_paid, .ref q_payment, .ref q_then, .int u_imaged, .ref q_image, .ref q_tapeSort, .ref q_tapeSize, .ref q_items])), (q_owes, .inl (C 0, 36, .inl z.2.2.2.2.2.2.2.1)), (q_denies, .inl (C 0, 36, .inl u_denies)), (q_debt, .inl (C 0, 30, .inl z.2.2.2.2.2.2.2.2.1)), (q_path, .inl (C 0, 6, .inl z.2.2.2.2.2.2.2.2.2.1)), (q_ring, .inl (C 0, 6, .inl z.2.2.2.2.2.2.2.2.2.2.1)), (q_then, .inl (C 0, 67, .inl z.2.2.2.2.2.2.2.2.2.2.2))] (some (.long z.1))) {k80 : Int64 → Int32 → Int32 → Int32 → Int32 → Int32 → Int64 → (Nat → Int32) → (Nat → Int32) → (Nat → Int32) → (Nat → Int32) → Option (Int64 × Int32 × Int32 × Int32 × Int32 × Int32 × Int64 × (Nat → Int32) × (Nat → Int32) × (Nat → Int32) × (Nat → Int32) × (Nat → Int32))} (hk80 : ∀ (x4 : Int64) (u_debts : Int32) (u_rule : Int32) (u_rings : Int32) (u_size : Int32) (u_least : Int32) (u_worth : Int64) (u_owes : (Nat → Int32)) (u_debt : (Nat → Int32)) (u_path : (Nat → Int32)) (u_ring : (Nat → Int32)) (H : Heap) (locs : List Loc) (ls : Array Slot), k80 x4 u_debts u_rule u_rings u_size u_least u_worth u_owes u_debt u_path u_ring = some z → HW D A s.heap H locs [(q_, .inr (9, [.int u_people, .ref q_owes, .ref q_denies, .int u_debts, .ref q_debt, .int u_cuts, .ref q_cut, .int u_seen, .ref q_sight, .int u_events, .ref q_event, .int u_inBook, .ref q_book, .int u_texted, .ref q_text, .ref q_path, .int u_rule, .int u_rings, .int u_size, .int u_least, .long u_worth, .ref q_ring, .ref q_balance, .ref q_left, .ref q_sum, .ref q_parts, .int u_groups, .ref q_group, .int u_paid, .ref q_payment, .ref q_then, .int u_imaged, .ref q_image, .ref q_tapeSort, .ref q_tapeSize, .ref q_items])), (q_owes, .inl (C 0, 36, .inl u_owes)), (q_denies, .inl (C 0, 36, .inl u_denies)), (q_debt, .inl (C 0, 30, .inl u_debt)), (q_path, .inl (C 0, 6, .inl u_path)), (q_ring, .inl (C 0, 6, .inl u_ring)), (q_then, .inl (C 0, 67, .inl u_then))] → lv_has ls 7 [(0, .ref q_), (3, .int x3), (4, .long x4)] → W p l e R s m args below meth c H locs 0 0 Q (F0 m 80 ls [])) :
    ∀ (n : Nat) (x4 : Int64) (x6 : Int32) (u_debts : Int32) (u_rule : Int32) (u_rings : Int32) (u_size : Int32) (u_least : Int32) (u_worth : Int64) (u_owes : (Nat → Int32)) (u_debt : (Nat → Int32)) (u_path : (Nat → Int32)) (u_ring : (Nat → Int32)) (H : Heap) (locs : List Loc) (ls : Array Slot), fX9_odds_L32 k80 u_people u_cuts u_seen u_events u_inBook u_texted u_groups u_paid u_imaged u_denies x1 x2 n x4 x6 u_debts u_rule u_rings u_size u_least u_worth u_owes u_debt u_path u_ring = some z → HW D A s.heap H locs [(q_, .inr (9, [.int u_people, .ref q_owes, .ref q_denies, .int u_debts, .ref q_debt, .int u_cuts, .ref q_cut, .int u_seen, .ref q_sight, .int u_events, .ref q_event, .int u_inBook, .ref q_book, .int u_texted, .ref q_text, .ref q_path, .int u_rule, .int u_rings, .int u_size, .int u_least, .long u_worth, .ref q_ring, .ref q_balance, .ref q_left, .ref q_sum, .ref q_parts, .int u_groups, .ref q_group, .int u_paid, .ref q_payment, .ref q_then, .int u_imaged, .ref q_image, .ref q_tapeSort, .ref q_tapeSize, .ref q_items])), (q_owes, .inl (C 0, 36, .inl u_owes)), (q_denies, .inl (C 0, 36, .inl u_denies)), (q_debt, .inl (C 0, 30, .inl u_debt)), (q_path, .inl (C 0, 6, .inl u_path)), (q_ring, .inl (C 0, 6, .inl u_ring)), (q_then, .inl (C 0, 67, .inl u_then))] → lv_has ls 7 [(0, .ref q_), (1, .int x1), (2, .int x2), (3, .int x3), (4, .long x4), (6, .int x6)] → W p l e R s m args below meth c H locs 0 0 Q (F0 m 32 ls []) := by
  have hx := cx.1
  have hb := cx.2.1
  intro n
  induction n with
  | zero => intro x4 x6 u_debts u_rule u_rings u_size u_least u_worth u_owes u_debt u_path u_ring H locs ls hF; cases hF
  | succ n ih =>
    intro x4 x6 u_debts u_rule u_rings u_size u_least u_worth u_owes u_debt u_path u_ring H locs ls hF hw hl
    rw [fX9_odds_L32.eq_2] at hF
    refine lv_iload hx hb dX9_odds_32 (lv_at hl 5 rfl) ?_
    refine lv_bipush (v := 10) hx hb dX9_odds_34 (by decide) ?_
    refine lv_icmp_ge (tgt := 80) hx hb dX9_odds_36 (by decide) (fun c6 => ?_) (fun c6 => ?_)
    · replace hF := oi_t c6 hF
      exact hk80 x4 u_debts u_rule u_rings u_size u_least u_worth u_owes u_debt u_path u_ring H locs ls hF hw (lv_sub hl [0, 3, 4] rfl)
    · replace hF := oi_f c6 hF
      refine lv_aload_n hx hb dX9_odds_39 rfl (lv_at hl 0 rfl) ?_
      refine lv_bipush (v := 6) hx hb dX9_odds_40 (by decide) ?_
      refine lv_iload_n hx hb dX9_odds_42 rfl (lv_at hl 1 rfl) ?_
      refine lv_imul hx hb dX9_odds_43 ?_
      refine lv_iload_n hx hb dX9_odds_44 rfl (lv_at hl 2 rfl) ?_
      refine lv_iadd hx hb dX9_odds_45 ?_
      refine lv_iload hx hb dX9_odds_46 (lv_at hl 5 rfl) ?_
      obtain ⟨z7, hz7, hF⟩ := ob hF
      refine cV (wr := [(q_denies, .inl (C 0, 36, .inl u_denies)), (q_path, .inl (C 0, 6, .inl u_path)), (q_ring, .inl (C 0, 6, .inl u_ring)), (q_then, .inl (C 0, 67, .inl u_then))]) (w2 := [(q_, .inr (9, [.int u_people, .ref q_owes, .ref q_denies, .int z7.1, .ref q_debt, .int u_cuts, .ref q_cut, .int u_seen, .ref q_sight, .int u_events, .ref q_event, .int u_inBook, .ref q_book, .int u_texted, .ref q_text, .ref q_path, .int u_rule, .int u_rings, .int u_size, .int u_least, .long u_worth, .ref q_ring, .ref q_balance, .ref q_left, .ref q_sum, .ref q_parts, .int u_groups, .ref q_group, .int u_paid, .ref q_payment, .ref q_then, .int u_imaged, .ref q_image, .ref q_tapeSort, .ref q_tapeSize, .ref q_items])), (q_owes, .inl (C 0, 36, .inl z7.2.1)), (q_denies, .inl (C 0, 36, .inl u_denies)), (q_debt, .inl (C 0, 30, .inl z7.2.2)), (q_path, .inl (C 0, 6, .inl u_path)), (q_ring, .inl (C 0, 6, .inl u_ring)), (q_then, .inl (C 0, 67, .inl u_then))]) (st2 := []) cx (CX9_becomes l D C q_ q_owes q_denies q_debt q_cut q_sight q_event q_book q_text q_path q_ring q_balance q_left q_sum q_parts q_group q_payment q_then q_image q_tapeSort q_tapeSize q_items u_people u_debts u_cuts u_seen u_events u_inBook u_texted u_rule u_rings u_size u_least u_worth u_groups u_paid u_imaged u_owes u_debt ((6 * x1) + x2) x6 z7 hz7) lk_X9_99 my_X9_becomes ml_X9_becomes ⟨by decide, by decide⟩ hw [0, 1, 3] [2, 4, 5, 6] [4, 5, 0, 6, 1, 2, 3] rfl rfl (by decide) rfl rfl rfl rfl (Nat.le_of_ble_eq_true rfl) dX9_odds_48 rfl (fun H locs hw => ?_) hl.1
      refine lv_aload_n hx hb dX9_odds_51 rfl (lv_at hl 0 rfl) ?_
      refine lv_iconst (v := 1) hx hb dX9_odds_52 (by decide) ?_
      obtain ⟨z8, hz8, hF⟩ := ob hF
      refine cV (wr := [(q_debt, .inl (C 0, 30, .inl z7.2.2)), (q_then, .inl (C 0, 67, .inl u_then))]) (w2 := [(q_, .inr (9, [.int u_people, .ref q_owes, .ref q_denies, .int z7.1, .ref q_debt, .int u_cuts, .ref q_cut, .int u_seen, .ref q_sight, .int u_events, .ref q_event, .int u_inBook, .ref q_book, .int u_texted, .ref q_text, .ref q_path, .int z8.2.1, .int z8.2.2.1, .int z8.2.2.2.1, .int z8.2.2.2.2.1, .long z8.2.2.2.2.2.1, .ref q_ring, .ref q_balance, .ref q_left, .ref q_sum, .ref q_parts, .int u_groups, .ref q_group, .int u_paid, .ref q_payment, .ref q_then, .int u_imaged, .ref q_image, .ref q_tapeSort, .ref q_tapeSize, .ref q_items])), (q_owes, .inl (C 0, 36, .inl z7.2.1)), (q_denies, .inl (C 0, 36, .inl u_denies)), (q_debt, .inl (C 0, 30, .inl z7.2.2)), (q_path, .inl (C 0, 6, .inl z8.2.2.2.2.2.2.1)), (q_ring, .inl (C 0, 6, .inl z8.2.2.2.2.2.2.2)), (q_then, .inl (C 0, 67, .inl u_then))]) (st2 := [.int z8.1]) cx (CX9_takes l D C q_ q_owes q_denies q_debt q_cut q_sight q_event q_book q_text q_path q_ring q_balance q_left q_sum q_parts q_group q_payment q_then q_image q_tapeSort q_tapeSize q_items u_people z7.1 u_cuts u_seen u_events u_inBook u_texted u_rule u_rings u_size u_least u_worth u_groups u_paid u_imaged z7.2.1 u_denies u_path u_ring 1 z8 hz8) lk_X9_165 my_X9_takes ml_X9_takes ⟨by decide, by decide⟩ hw [0, 1, 2, 4, 5] [3, 6] [2, 3, 4, 0, 5, 6, 1] rfl rfl (by decide) rfl rfl rfl rfl (Nat.le_of_ble_eq_true rfl) dX9_odds_53 rfl (fun H locs hw => ?_) hl.1
      refine lv_if_eq (tgt := 74) hx hb dX9_odds_56 (by decide) (fun c9 => ?_) (fun c9 => ?_)
      · replace hF := oi_t c9 hF
        refine lv_iinc (v := x6 + 1) (lv' := [(6, .int (x6 + 1)), (0, .ref q_), (1, .int x1), (2, .int x2), (3, .int x3), (4, .long x4)]) hx hb dX9_odds_74 hl (k := 5) rfl rfl (by decide) rfl (fun ls hl => ?_)
        refine lv_goto (tgt := 32) hx hb dX9_odds_77 (by decide) ?_
        exact ih x4 (x6 + 1) z7.1 z8.2.1 z8.2.2.1 z8.2.2.2.1 z8.2.2.2.2.1 z8.2.2.2.2.2.1 z7.2.1 z7.2.2 z8.2.2.2.2.2.2.1 z8.2.2.2.2.2.2.2 H locs ls hF hw (lv_sub hl [1, 2, 3, 4, 5, 0] rfl)
      · replace hF := oi_f c9 hF
        refine lv_aload_n hx hb dX9_odds_59 rfl (lv_at hl 0 rfl) ?_
        refine lv_iload_n hx hb dX9_odds_60 rfl (lv_at hl 1 rfl) ?_
        refine lv_iload_n hx hb dX9_odds_61 rfl (lv_at hl 2 rfl) ?_
        obtain ⟨z10, hz10, hF⟩ := ob hF
        refine cV (wr := [(q_owes, .inl (C 0, 36, .inl z7.2.1)), (q_denies, .inl (C 0, 36, .inl u_denies)), (q_debt, .inl (C 0, 30, .inl z7.2.2)), (q_path, .inl (C 0, 6, .inl z8.2.2.2.2.2.2.1)), (q_then, .inl (C 0, 67, .inl u_then))]) (w2 := [(q_, .inr (9, [.int u_people, .ref q_owes, .ref q_denies, .int z7.1, .ref q_debt, .int u_cuts, .ref q_cut, .int u_seen, .ref q_sight, .int u_events, .ref q_event, .int u_inBook, .ref q_book, .int u_texted, .ref q_text, .ref q_path, .int z8.2.1, .int z8.2.2.1, .int z8.2.2.2.1, .int z8.2.2.2.2.1, .long z8.2.2.2.2.2.1, .ref q_ring, .ref q_balance, .ref q_left, .ref q_sum, .ref q_parts, .int u_groups, .ref q_group, .int u_paid, .ref q_payment, .ref q_then, .int u_imaged, .ref q_image, .ref q_tapeSort, .ref q_tapeSize, .ref q_items])), (q_owes, .inl (C 0, 36, .inl z7.2.1)), (q_denies, .inl (C 0, 36, .inl u_denies)), (q_debt, .inl (C 0, 30, .inl z7.2.2)), (q_path, .inl (C 0, 6, .inl z8.2.2.2.2.2.2.1)), (q_ring, .inl (C 0, 6, .inl z8.2.2.2.2.2.2.2)), (q_then, .inl (C 0, 67, .inl u_then))]) (st2 := [.int z10]) cx (CX9_isBehind l D C q_ q_owes q_denies q_debt q_cut q_sight q_event q_book q_text q_path q_ring q_balance q_left q_sum q_parts q_group q_payment q_then q_image q_tapeSort q_tapeSize q_items u_people z7.1 u_cuts u_seen u_events u_inBook u_texted z8.2.1 z8.2.2.1 z8.2.2.2.1 z8.2.2.2.2.1 z8.2.2.2.2.2.1 u_groups u_paid u_imaged z8.2.2.2.2.2.2.2 x1 x2 z10 hz10) lk_X9_246 my_X9_isBehind ml_X9_isBehind ⟨by decide, by decide⟩ hw [0, 5] [1, 2, 3, 4, 6] [5, 0, 1, 2, 3, 6, 4] rfl rfl (by decide) rfl rfl rfl rfl (Nat.le_of_ble_eq_true rfl) dX9_odds_62 rfl (fun H locs hw => ?_) hl.1
        refine lv_if_eq (tgt := 74) hx hb dX9_odds_65 (by decide) (fun c11 => ?_) (fun c11 => ?_)
        · replace hF := oi_t c11 hF
          refine lv_iinc (v := x6 + 1) (lv' := [(6, .int (x6 + 1)), (0, .ref q_), (1, .int x1), (2, .int x2), (3, .int x3), (4, .long x4)]) hx hb dX9_odds_74 hl (k := 5) rfl rfl (by decide) rfl (fun ls hl => ?_)
          refine lv_goto (tgt := 32) hx hb dX9_odds_77 (by decide) ?_
          exact ih x4 (x6 + 1) z7.1 z8.2.1 z8.2.2.1 z8.2.2.2.1 z8.2.2.2.2.1 z8.2.2.2.2.2.1 z7.2.1 z7.2.2 z8.2.2.2.2.2.2.1 z8.2.2.2.2.2.2.2 H locs ls hF hw (lv_sub hl [1, 2, 3, 4, 5, 0] rfl)
        · replace hF := oi_f c11 hF
          refine lv_lload hx hb dX9_odds_68 (lv_at hl 4 rfl) ?_
          refine lv_lconst (v := 1) hx hb dX9_odds_70 (by decide) ?_
          refine lv_ladd hx hb dX9_odds_71 ?_
          refine lv_lstore (lv' := [(4, .long (x4 + 1)), (0, .ref q_), (1, .int x1), (2, .int x2), (3, .int x3), (6, .int x6)]) hx hb dX9_odds_72 hl (by decide) rfl (fun ls hl => ?_)
          refine lv_iinc (v := x6 + 1) (lv' := [(6, .int (x6 + 1)), (4, .long (x4 + 1)), (0, .ref q_), (1, .int x1), (2, .int x2), (3, .int x3)]) hx hb dX9_odds_74 hl (k := 5) rfl rfl (by decide) rfl (fun ls hl => ?_)
          refine lv_goto (tgt := 32) hx hb dX9_odds_77 (by decide) ?_
          exact ih (x4 + 1) (x6 + 1) z7.1 z8.2.1 z8.2.2.1 z8.2.2.2.1 z8.2.2.2.2.1 z8.2.2.2.2.2.1 z7.2.1 z7.2.2 z8.2.2.2.2.2.2.1 z8.2.2.2.2.2.2.2 H locs ls hF hw (lv_sub hl [2, 3, 4, 5, 1, 0] rfl)
set_option maxRecDepth 20000 in
theorem CX9_odds (l : Launch) (D : va_G) (C : Nat → ClassId) (q_ q_owes q_denies q_debt q_cut q_sight q_event q_book q_text q_path q_ring q_balance q_left q_sum q_parts q_group q_payment q_then q_image q_tapeSort q_tapeSize q_items : Nat) (u_people : Int32) (u_debts : Int32) (u_cuts : Int32) (u_seen : Int32) (u_events : Int32) (u_inBook : Int32) (u_texted : Int32) (u_rule : Int32) (u_rings : Int32) (u_size : Int32) (u_least : Int32) (u_worth : Int64) (u_groups : Int32) (u_paid : Int32) (u_imaged : Int32) (u_owes : (Nat → Int32)) (u_denies : (Nat → Int32)) (u_debt : (Nat → Int32)) (u_path : (Nat → Int32)) (u_ring : (Nat → Int32)) (u_then : (Nat → Int32)) (x1 : Int32) (x2 : Int32) (x3 : Int32) (z : (Int64 × Int32 × Int32 × Int32 × Int32 × Int32 × Int64 × (Nat → Int32) × (Nat → Int32) × (Nat → Int32) × (Nat → Int32) × (Nat → Int32))) (hF : fX9_odds u_people u_debts u_cuts u_seen u_events u_inBook u_texted u_rule u_rings u_size u_least u_worth u_groups u_paid u_imaged u_owes u_denies u_debt u_path u_ring u_then x1 x2 x3 = some z) : Ct l yX9_odds cX9_odds 7 (some .long) 63 D C [.ref q_, .int x1, .int x2, .int x3] [(q_, .inr (9, [.int u_people, .ref q_owes, .ref q_denies, .int u_debts, .ref q_debt, .int u_cuts, .ref q_cut, .int u_seen, .ref q_sight, .int u_events, .ref q_event, .int u_inBook, .ref q_book, .int u_texted, .ref q_text, .ref q_path, .int u_rule, .int u_rings, .int u_size, .int u_least, .long u_worth, .ref q_ring, .ref q_balance, .ref q_left, .ref q_sum, .ref q_parts, .int u_groups, .ref q_group, .int u_paid, .ref q_payment, .ref q_then, .int u_imaged, .ref q_image, .ref q_tapeSort, .ref q_tapeSize, .ref q_items])), (q_owes, .inl (C 0, 36, .inl u_owes)), (q_denies, .inl (C 0, 36, .inl u_denies)), (q_debt, .inl (C 0, 30, .inl u_debt)), (q_path, .inl (C 0, 6, .inl u_path)), (q_ring, .inl (C 0, 6, .inl u_ring)), (q_then, .inl (C 0, 67, .inl u_then))] [(q_, .inr (9, [.int u_people, .ref q_owes, .ref q_denies, .int z.2.1, .ref q_debt, .int u_cuts, .ref q_cut, .int u_seen, .ref q_sight, .int u_events, .ref q_event, .int u_inBook, .ref q_book, .int u_texted, .ref q_text, .ref q_path, .int z.2.2.1, .int z.2.2.2.1, .int z.2.2.2.2.1, .int z.2.2.2.2.2.1, .long z.2.2.2.2.2.2.1, .ref q_ring, .ref q_balance, .ref q_left, .ref q_sum, .ref q_parts, .int u_groups, .ref q_group, .int u_paid, .ref q_payment, .ref q_then, .int u_imaged, .ref q_image, .ref q_tapeSort, .ref q_tapeSize, .ref q_items])), (q_owes, .inl (C 0, 36, .inl z.2.2.2.2.2.2.2.1)), (q_denies, .inl (C 0, 36, .inl u_denies)), (q_debt, .inl (C 0, 30, .inl z.2.2.2.2.2.2.2.2.1)), (q_path, .inl (C 0, 6, .inl z.2.2.2.2.2.2.2.2.2.1)), (q_ring, .inl (C 0, 6, .inl z.2.2.2.2.2.2.2.2.2.2.1)), (q_then, .inl (C 0, 67, .inl z.2.2.2.2.2.2.2.2.2.2.2))] (some (.long z.1)) := by
  refine Ct_of (by decide) (Nat.le_of_ble_eq_true rfl) ?_
  intro p e R s m args below meth c A Q H locs ls cx hw hl hret
  have cx : CX p m c s args RX9 cX9_odds 7 D C A R 63 := cx
  have hx := cx.1
  have hb := cx.2.1
  have hl : lv_has ls 7 [(0, .ref q_), (1, .int x1), (2, .int x2), (3, .int x3)] := hl
  rw [fX9_odds.eq_1] at hF
  refine lv_aload_n hx hb dX9_odds_0 rfl (lv_at hl 0 rfl) ?_
  refine lv_iload_n hx hb dX9_odds_1 rfl (lv_at hl 1 rfl) ?_
  refine lv_iload_n hx hb dX9_odds_2 rfl (lv_at hl 2 rfl) ?_
  obtain ⟨z1, hz1, hF⟩ := ob hF
  refine cV (wr := [(q_owes, .inl (C 0, 36, .inl u_owes)), (q_denies, .inl (C 0, 36, .inl u_denies)), (q_debt, .inl (C 0, 30, .inl u_debt)), (q_path, .inl (C 0, 6, .inl u_path)), (q_ring, .inl (C 0, 6, .inl u_ring)), (q_then, .inl (C 0, 67, .inl u_then))]) (w2 := [(q_, .inr (9, [.int u_people, .ref q_owes, .ref q_denies, .int u_debts, .ref q_debt, .int u_cuts, .ref q_cut, .int u_seen, .ref q_sight, .int u_events, .ref q_event, .int u_inBook, .ref q_book, .int u_texted, .ref q_text, .ref q_path, .int u_rule, .int u_rings, .int u_size, .int u_least, .long u_worth, .ref q_ring, .ref q_balance, .ref q_left, .ref q_sum, .ref q_parts, .int u_groups, .ref q_group, .int u_paid, .ref q_payment, .ref q_then, .int u_imaged, .ref q_image, .ref q_tapeSort, .ref q_tapeSize, .ref q_items])), (q_owes, .inl (C 0, 36, .inl u_owes)), (q_denies, .inl (C 0, 36, .inl u_denies)), (q_debt, .inl (C 0, 30, .inl u_debt)), (q_path, .inl (C 0, 6, .inl u_path)), (q_ring, .inl (C 0, 6, .inl u_ring)), (q_then, .inl (C 0, 67, .inl u_then))]) (st2 := [.int z1]) cx (CX9_areTwo l D C q_ q_owes q_denies q_debt q_cut q_sight q_event q_book q_text q_path q_ring q_balance q_left q_sum q_parts q_group q_payment q_then q_image q_tapeSort q_tapeSize q_items u_people u_debts u_cuts u_seen u_events u_inBook u_texted u_rule u_rings u_size u_least u_worth u_groups u_paid u_imaged x1 x2 z1 hz1) lk_X9_95 my_X9_areTwo ml_X9_areTwo ⟨by decide, by decide⟩ hw [0] [1, 2, 3, 4, 5, 6] [6, 0, 1, 2, 3, 4, 5] rfl rfl (by decide) rfl rfl rfl rfl (Nat.le_of_ble_eq_true rfl) dX9_odds_3 rfl (fun H locs hw => ?_) hl.1
  refine lv_if_eq (tgt := 18) hx hb dX9_odds_6 (by decide) (fun c2 => ?_) (fun c2 => ?_)
  · replace hF := oi_t c2 hF
    refine lv_ldc2 (v := (-9223372036854775808)) hx hb cx.2.2.2.1 (cx.2.2.2.2.1 _ cl_X9_173) dX9_odds_18 ?_
    obtain rfl := Option.some.inj hF
    exact rt_l hret hw rfl dX9_odds_21
  · replace hF := oi_f c2 hF
    refine lv_iload_n hx hb dX9_odds_9 rfl (lv_at hl 3 rfl) ?_
    refine lv_iconst (v := 0) hx hb dX9_odds_10 (by decide) ?_
    refine lv_iconst (v := 1) hx hb dX9_odds_11 (by decide) ?_
    obtain ⟨z3, hz3, hF⟩ := ob hF
    refine cS (wr := [(q_, .inr (9, [.int u_people, .ref q_owes, .ref q_denies, .int u_debts, .ref q_debt, .int u_cuts, .ref q_cut, .int u_seen, .ref q_sight, .int u_events, .ref q_event, .int u_inBook, .ref q_book, .int u_texted, .ref q_text, .ref q_path, .int u_rule, .int u_rings, .int u_size, .int u_least, .long u_worth, .ref q_ring, .ref q_balance, .ref q_left, .ref q_sum, .ref q_parts, .int u_groups, .ref q_group, .int u_paid, .ref q_payment, .ref q_then, .int u_imaged, .ref q_image, .ref q_tapeSort, .ref q_tapeSize, .ref q_items])), (q_owes, .inl (C 0, 36, .inl u_owes)), (q_denies, .inl (C 0, 36, .inl u_denies)), (q_debt, .inl (C 0, 30, .inl u_debt)), (q_path, .inl (C 0, 6, .inl u_path)), (q_ring, .inl (C 0, 6, .inl u_ring)), (q_then, .inl (C 0, 67, .inl u_then))]) (w2 := [(q_, .inr (9, [.int u_people, .ref q_owes, .ref q_denies, .int u_debts, .ref q_debt, .int u_cuts, .ref q_cut, .int u_seen, .ref q_sight, .int u_events, .ref q_event, .int u_inBook, .ref q_book, .int u_texted, .ref q_text, .ref q_path, .int u_rule, .int u_rings, .int u_size, .int u_least, .long u_worth, .ref q_ring, .ref q_balance, .ref q_left, .ref q_sum, .ref q_parts, .int u_groups, .ref q_group, .int u_paid, .ref q_payment, .ref q_then, .int u_imaged, .ref q_image, .ref q_tapeSort, .ref q_tapeSize, .ref q_items])), (q_owes, .inl (C 0, 36, .inl u_owes)), (q_denies, .inl (C 0, 36, .inl u_denies)), (q_debt, .inl (C 0, 30, .inl u_debt)), (q_path, .inl (C 0, 6, .inl u_path)), (q_ring, .inl (C 0, 6, .inl u_ring)), (q_then, .inl (C 0, 67, .inl u_then))]) (st2 := [.int z3]) cx (CX9_within l D C x3 0 1 z3 hz3) lk_X9_80 my_X9_within ml_X9_within ⟨by decide, by decide⟩ hw [] [0, 1, 2, 3, 4, 5, 6] [0, 1, 2, 3, 4, 5, 6] rfl rfl (by decide) rfl rfl (Nat.le_of_ble_eq_true rfl) dX9_odds_12 rfl (fun H locs hw => ?_) hl.1
    refine lv_if_ne (tgt := 22) hx hb dX9_odds_15 (by decide) (fun c4 => ?_) (fun c4 => ?_)
    · replace hF := oi_f c4 hF
      refine lv_aload_n hx hb dX9_odds_22 rfl (lv_at hl 0 rfl) ?_
      obtain ⟨z5, hz5, hF⟩ := ob hF
      refine cV (wr := [(q_denies, .inl (C 0, 36, .inl u_denies)), (q_path, .inl (C 0, 6, .inl u_path)), (q_ring, .inl (C 0, 6, .inl u_ring))]) (w2 := [(q_, .inr (9, [.int u_people, .ref q_owes, .ref q_denies, .int u_debts, .ref q_debt, .int u_cuts, .ref q_cut, .int u_seen, .ref q_sight, .int u_events, .ref q_event, .int u_inBook, .ref q_book, .int u_texted, .ref q_text, .ref q_path, .int u_rule, .int u_rings, .int u_size, .int u_least, .long u_worth, .ref q_ring, .ref q_balance, .ref q_left, .ref q_sum, .ref q_parts, .int u_groups, .ref q_group, .int u_paid, .ref q_payment, .ref q_then, .int u_imaged, .ref q_image, .ref q_tapeSort, .ref q_tapeSize, .ref q_items])), (q_owes, .inl (C 0, 36, .inl u_owes)), (q_denies, .inl (C 0, 36, .inl u_denies)), (q_debt, .inl (C 0, 30, .inl u_debt)), (q_path, .inl (C 0, 6, .inl u_path)), (q_ring, .inl (C 0, 6, .inl u_ring)), (q_then, .inl (C 0, 67, .inl z5))]) (st2 := []) cx (CX9_keeps l D C q_ q_owes q_denies q_debt q_cut q_sight q_event q_book q_text q_path q_ring q_balance q_left q_sum q_parts q_group q_payment q_then q_image q_tapeSort q_tapeSize q_items u_people u_debts u_cuts u_seen u_events u_inBook u_texted u_rule u_rings u_size u_least u_worth u_groups u_paid u_imaged u_owes u_debt u_then z5 hz5) lk_X9_223 my_X9_keeps ml_X9_keeps ⟨by decide, by decide⟩ hw [0, 1, 3, 6] [2, 4, 5] [3, 4, 0, 5, 1, 2, 6] rfl rfl (by decide) rfl rfl rfl rfl (Nat.le_of_ble_eq_true rfl) dX9_odds_23 rfl (fun H locs hw => ?_) hl.1
      refine lv_lconst (v := 0) hx hb dX9_odds_26 (by decide) ?_
      refine lv_lstore (lv' := [(4, .long 0), (0, .ref q_), (1, .int x1), (2, .int x2), (3, .int x3)]) hx hb dX9_odds_27 hl (by decide) rfl (fun ls hl => ?_)
      refine lv_iconst (v := 0) hx hb dX9_odds_29 (by decide) ?_
      refine lv_istore (lv' := [(6, .int 0), (4, .long 0), (0, .ref q_), (1, .int x1), (2, .int x2), (3, .int x3)]) hx hb dX9_odds_30 hl (by decide) rfl (fun ls hl => ?_)
      refine LX9_odds_32 cx hret (fun x4_12 u_debts_12 u_rule_12 u_rings_12 u_size_12 u_least_12 u_worth_12 u_owes_12 u_debt_12 u_path_12 u_ring_12 H locs ls hF hw hl => ?_) 400 0 0 u_debts u_rule u_rings u_size u_least u_worth u_owes u_debt u_path u_ring H locs ls hF hw (lv_sub hl [2, 3, 4, 5, 1, 0] rfl)
      · refine lv_aload_n hx hb dX9_odds_80 rfl (lv_at hl 0 rfl) ?_
        obtain ⟨z13, hz13, hF⟩ := ob hF
        refine cV (wr := [(q_denies, .inl (C 0, 36, .inl u_denies)), (q_path, .inl (C 0, 6, .inl u_path_12)), (q_ring, .inl (C 0, 6, .inl u_ring_12))]) (w2 := [(q_, .inr (9, [.int u_people, .ref q_owes, .ref q_denies, .int z13.1, .ref q_debt, .int u_cuts, .ref q_cut, .int u_seen, .ref q_sight, .int u_events, .ref q_event, .int u_inBook, .ref q_book, .int u_texted, .ref q_text, .ref q_path, .int u_rule_12, .int u_rings_12, .int u_size_12, .int u_least_12, .long u_worth_12, .ref q_ring, .ref q_balance, .ref q_left, .ref q_sum, .ref q_parts, .int u_groups, .ref q_group, .int u_paid, .ref q_payment, .ref q_then, .int u_imaged, .ref q_image, .ref q_tapeSort, .ref q_tapeSize, .ref q_items])), (q_owes, .inl (C 0, 36, .inl z13.2.1)), (q_denies, .inl (C 0, 36, .inl u_denies)), (q_debt, .inl (C 0, 30, .inl z13.2.2)), (q_path, .inl (C 0, 6, .inl u_path_12)), (q_ring, .inl (C 0, 6, .inl u_ring_12)), (q_then, .inl (C 0, 67, .inl z5))]) (st2 := []) cx (CX9_returns l D C q_ q_owes q_denies q_debt q_cut q_sight q_event q_book q_text q_path q_ring q_balance q_left q_sum q_parts q_group q_payment q_then q_image q_tapeSort q_tapeSize q_items u_people u_debts_12 u_cuts u_seen u_events u_inBook u_texted u_rule_12 u_rings_12 u_size_12 u_least_12 u_worth_12 u_groups u_paid u_imaged u_owes_12 u_debt_12 z5 z13 hz13) lk_X9_230 my_X9_returns ml_X9_returns ⟨by decide, by decide⟩ hw [0, 1, 3, 6] [2, 4, 5] [3, 4, 0, 5, 1, 2, 6] rfl rfl (by decide) rfl rfl rfl rfl (Nat.le_of_ble_eq_true rfl) dX9_odds_81 rfl (fun H locs hw => ?_) hl.1
        refine lv_lload hx hb dX9_odds_84 (lv_at hl 2 rfl) ?_
        refine lv_ldc2 (v := 10) hx hb cx.2.2.2.1 (cx.2.2.2.2.1 _ cl_X9_249) dX9_odds_86 ?_
        refine lv_iload_n hx hb dX9_odds_89 rfl (lv_at hl 1 rfl) ?_
        obtain ⟨z14, hz14, hF⟩ := ob hF
        refine cS (wr := [(q_, .inr (9, [.int u_people, .ref q_owes, .ref q_denies, .int z13.1, .ref q_debt, .int u_cuts, .ref q_cut, .int u_seen, .ref q_sight, .int u_events, .ref q_event, .int u_inBook, .ref q_book, .int u_texted, .ref q_text, .ref q_path, .int u_rule_12, .int u_rings_12, .int u_size_12, .int u_least_12, .long u_worth_12, .ref q_ring, .ref q_balance, .ref q_left, .ref q_sum, .ref q_parts, .int u_groups, .ref q_group, .int u_paid, .ref q_payment, .ref q_then, .int u_imaged, .ref q_image, .ref q_tapeSort, .ref q_tapeSize, .ref q_items])), (q_owes, .inl (C 0, 36, .inl z13.2.1)), (q_denies, .inl (C 0, 36, .inl u_denies)), (q_debt, .inl (C 0, 30, .inl z13.2.2)), (q_path, .inl (C 0, 6, .inl u_path_12)), (q_ring, .inl (C 0, 6, .inl u_ring_12)), (q_then, .inl (C 0, 67, .inl z5))]) (w2 := [(q_, .inr (9, [.int u_people, .ref q_owes, .ref q_denies, .int z13.1, .ref q_debt, .int u_cuts, .ref q_cut, .int u_seen, .ref q_sight, .int u_events, .ref q_event, .int u_inBook, .ref q_book, .int u_texted, .ref q_text, .ref q_path, .int u_rule_12, .int u_rings_12, .int u_size_12, .int u_least_12, .long u_worth_12, .ref q_ring, .ref q_balance, .ref q_left, .ref q_sum, .ref q_parts, .int u_groups, .ref q_group, .int u_paid, .ref q_payment, .ref q_then, .int u_imaged, .ref q_image, .ref q_tapeSort, .ref q_tapeSize, .ref q_items])), (q_owes, .inl (C 0, 36, .inl z13.2.1)), (q_denies, .inl (C 0, 36, .inl u_denies)), (q_debt, .inl (C 0, 30, .inl z13.2.2)), (q_path, .inl (C 0, 6, .inl u_path_12)), (q_ring, .inl (C 0, 6, .inl u_ring_12)), (q_then, .inl (C 0, 67, .inl z5))]) (st2 := [.long z14]) cx (CX9_part l D C x4_12 10 x3 z14 hz14) lk_X9_251 my_X9_part ml_X9_part ⟨by decide, by decide⟩ hw [] [0, 1, 2, 3, 4, 5, 6] [0, 1, 2, 3, 4, 5, 6] rfl rfl (by decide) rfl rfl (Nat.le_of_ble_eq_true rfl) dX9_odds_90 rfl (fun H locs hw => ?_) hl.1
        obtain rfl := Option.some.inj hF
        exact rt_l hret hw rfl dX9_odds_93
    · replace hF := oi_t c4 hF
      refine lv_ldc2 (v := (-9223372036854775808)) hx hb cx.2.2.2.1 (cx.2.2.2.2.1 _ cl_X9_173) dX9_odds_18 ?_
      obtain rfl := Option.some.inj hF
      exact rt_l hret hw rfl dX9_odds_21
theorem dX9_mean_0 : decode cX9_mean 0 = .ok (.aload_n 0, 1) := by decide +kernel
theorem dX9_mean_1 : decode cX9_mean 1 = .ok (.getfield 88, 3) := by decide +kernel
theorem dX9_mean_4 : decode cX9_mean 4 = .ok (.ifCond .eq 12, 3) := by decide +kernel
theorem dX9_mean_7 : decode cX9_mean 7 = .ok (.iload_n 1, 1) := by decide +kernel
theorem dX9_mean_8 : decode cX9_mean 8 = .ok (.iconst 0, 1) := by decide +kernel
theorem dX9_mean_9 : decode cX9_mean 9 = .ok (.iconst 1, 1) := by decide +kernel
theorem dX9_mean_10 : decode cX9_mean 10 = .ok (.invokestatic 80, 3) := by decide +kernel
theorem dX9_mean_13 : decode cX9_mean 13 = .ok (.ifCond .ne 9, 3) := by decide +kernel
theorem dX9_mean_16 : decode cX9_mean 16 = .ok (.ldc2_w 173, 3) := by decide +kernel
theorem dX9_mean_19 : decode cX9_mean 19 = .ok (.goto 17, 3) := by decide +kernel
theorem dX9_mean_22 : decode cX9_mean 22 = .ok (.aload_n 0, 1) := by decide +kernel
theorem dX9_mean_23 : decode cX9_mean 23 = .ok (.invokevirtual 208, 3) := by decide +kernel
theorem dX9_mean_26 : decode cX9_mean 26 = .ok (.i2l, 1) := by decide +kernel
theorem dX9_mean_27 : decode cX9_mean 27 = .ok (.aload_n 0, 1) := by decide +kernel
theorem dX9_mean_28 : decode cX9_mean 28 = .ok (.getfield 88, 3) := by decide +kernel
theorem dX9_mean_31 : decode cX9_mean 31 = .ok (.i2l, 1) := by decide +kernel
theorem dX9_mean_32 : decode cX9_mean 32 = .ok (.iload_n 1, 1) := by decide +kernel
theorem dX9_mean_33 : decode cX9_mean 33 = .ok (.invokestatic 251, 3) := by decide +kernel
theorem dX9_mean_36 : decode cX9_mean 36 = .ok (.lreturn, 1) := by decide +kernel
def fX9_mean (u_debts : Int32) (u_owes : (Nat → Int32)) (u_debt : (Nat → Int32)) (x1 : Int32) : Option Int64 := if u_debts = 0 then (some (-9223372036854775808)) else ((fX9_within x1 0 1).bind (fun z2 => if z2 = 0 then (some (-9223372036854775808)) else ((fX9_total u_debts u_owes u_debt).bind (fun z4 => (fX9_part ((z4 : Int32).toInt64) ((u_debts : Int32).toInt64) x1).bind (fun z5 => some z5)))))
set_option maxRecDepth 20000 in
theorem CX9_mean (l : Launch) (D : va_G) (C : Nat → ClassId) (q_ q_owes q_denies q_debt q_cut q_sight q_event q_book q_text q_path q_ring q_balance q_left q_sum q_parts q_group q_payment q_then q_image q_tapeSort q_tapeSize q_items : Nat) (u_people : Int32) (u_debts : Int32) (u_cuts : Int32) (u_seen : Int32) (u_events : Int32) (u_inBook : Int32) (u_texted : Int32) (u_rule : Int32) (u_rings : Int32) (u_size : Int32) (u_least : Int32) (u_worth : Int64) (u_groups : Int32) (u_paid : Int32) (u_imaged : Int32) (u_owes : (Nat → Int32)) (u_debt : (Nat → Int32)) (x1 : Int32) (z : Int64) (hF : fX9_mean u_debts u_owes u_debt x1 = some z) : Ct l yX9_mean cX9_mean 2 (some .long) 63 D C [.ref q_, .int x1] [(q_, .inr (9, [.int u_people, .ref q_owes, .ref q_denies, .int u_debts, .ref q_debt, .int u_cuts, .ref q_cut, .int u_seen, .ref q_sight, .int u_events, .ref q_event, .int u_inBook, .ref q_book, .int u_texted, .ref q_text, .ref q_path, .int u_rule, .int u_rings, .int u_size, .int u_least, .long u_worth, .ref q_ring, .ref q_balance, .ref q_left, .ref q_sum, .ref q_parts, .int u_groups, .ref q_group, .int u_paid, .ref q_payment, .ref q_then, .int u_imaged, .ref q_image, .ref q_tapeSort, .ref q_tapeSize, .ref q_items])), (q_owes, .inl (C 0, 36, .inl u_owes)), (q_debt, .inl (C 0, 30, .inl u_debt))] [(q_, .inr (9, [.int u_people, .ref q_owes, .ref q_denies, .int u_debts, .ref q_debt, .int u_cuts, .ref q_cut, .int u_seen, .ref q_sight, .int u_events, .ref q_event, .int u_inBook, .ref q_book, .int u_texted, .ref q_text, .ref q_path, .int u_rule, .int u_rings, .int u_size, .int u_least, .long u_worth, .ref q_ring, .ref q_balance, .ref q_left, .ref q_sum, .ref q_parts, .int u_groups, .ref q_group, .int u_paid, .ref q_payment, .ref q_then, .int u_imaged, .ref q_image, .ref q_tapeSort, .ref q_tapeSize, .ref q_items])), (q_owes, .inl (C 0, 36, .inl u_owes)), (q_debt, .inl (C 0, 30, .inl u_debt))] (some (.long z)) := by
  refine Ct_of (by decide) (Nat.le_of_ble_eq_true rfl) ?_
  intro p e R s m args below meth c A Q H locs ls cx hw hl hret
  have cx : CX p m c s args RX9 cX9_mean 2 D C A R 63 := cx
  have hx := cx.1
  have hb := cx.2.1
  have hl : lv_has ls 2 [(0, .ref q_), (1, .int x1)] := hl
  rw [fX9_mean.eq_1] at hF
  refine lv_aload_n hx hb dX9_mean_0 rfl (lv_at hl 0 rfl) ?_
  refine r_get (ci := 9) (v := .int u_debts) cx hw iX9 0 3 rfl rfl (by decide) wf_X9_88 rfl dX9_mean_1 ?_
  refine lv_if_eq (tgt := 16) hx hb dX9_mean_4 (by decide) (fun c1 => ?_) (fun c1 => ?_)
  · replace hF := oi_t c1 hF
    refine lv_ldc2 (v := (-9223372036854775808)) hx hb cx.2.2.2.1 (cx.2.2.2.2.1 _ cl_X9_173) dX9_mean_16 ?_
    refine lv_goto (tgt := 36) hx hb dX9_mean_19 (by decide) ?_
    obtain rfl := Option.some.inj hF
    exact rt_l hret hw rfl dX9_mean_36
  · replace hF := oi_f c1 hF
    refine lv_iload_n hx hb dX9_mean_7 rfl (lv_at hl 1 rfl) ?_
    refine lv_iconst (v := 0) hx hb dX9_mean_8 (by decide) ?_
    refine lv_iconst (v := 1) hx hb dX9_mean_9 (by decide) ?_
    obtain ⟨z2, hz2, hF⟩ := ob hF
    refine cS (wr := [(q_, .inr (9, [.int u_people, .ref q_owes, .ref q_denies, .int u_debts, .ref q_debt, .int u_cuts, .ref q_cut, .int u_seen, .ref q_sight, .int u_events, .ref q_event, .int u_inBook, .ref q_book, .int u_texted, .ref q_text, .ref q_path, .int u_rule, .int u_rings, .int u_size, .int u_least, .long u_worth, .ref q_ring, .ref q_balance, .ref q_left, .ref q_sum, .ref q_parts, .int u_groups, .ref q_group, .int u_paid, .ref q_payment, .ref q_then, .int u_imaged, .ref q_image, .ref q_tapeSort, .ref q_tapeSize, .ref q_items])), (q_owes, .inl (C 0, 36, .inl u_owes)), (q_debt, .inl (C 0, 30, .inl u_debt))]) (w2 := [(q_, .inr (9, [.int u_people, .ref q_owes, .ref q_denies, .int u_debts, .ref q_debt, .int u_cuts, .ref q_cut, .int u_seen, .ref q_sight, .int u_events, .ref q_event, .int u_inBook, .ref q_book, .int u_texted, .ref q_text, .ref q_path, .int u_rule, .int u_rings, .int u_size, .int u_least, .long u_worth, .ref q_ring, .ref q_balance, .ref q_left, .ref q_sum, .ref q_parts, .int u_groups, .ref q_group, .int u_paid, .ref q_payment, .ref q_then, .int u_imaged, .ref q_image, .ref q_tapeSort, .ref q_tapeSize, .ref q_items])), (q_owes, .inl (C 0, 36, .inl u_owes)), (q_debt, .inl (C 0, 30, .inl u_debt))]) (st2 := [.int z2]) cx (CX9_within l D C x1 0 1 z2 hz2) lk_X9_80 my_X9_within ml_X9_within ⟨by decide, by decide⟩ hw [] [0, 1, 2] [0, 1, 2] rfl rfl (by decide) rfl rfl (Nat.le_of_ble_eq_true rfl) dX9_mean_10 rfl (fun H locs hw => ?_) hl.1
    refine lv_if_ne (tgt := 22) hx hb dX9_mean_13 (by decide) (fun c3 => ?_) (fun c3 => ?_)
    · replace hF := oi_f c3 hF
      refine lv_aload_n hx hb dX9_mean_22 rfl (lv_at hl 0 rfl) ?_
      obtain ⟨z4, hz4, hF⟩ := ob hF
      refine cV (wr := []) (w2 := [(q_, .inr (9, [.int u_people, .ref q_owes, .ref q_denies, .int u_debts, .ref q_debt, .int u_cuts, .ref q_cut, .int u_seen, .ref q_sight, .int u_events, .ref q_event, .int u_inBook, .ref q_book, .int u_texted, .ref q_text, .ref q_path, .int u_rule, .int u_rings, .int u_size, .int u_least, .long u_worth, .ref q_ring, .ref q_balance, .ref q_left, .ref q_sum, .ref q_parts, .int u_groups, .ref q_group, .int u_paid, .ref q_payment, .ref q_then, .int u_imaged, .ref q_image, .ref q_tapeSort, .ref q_tapeSize, .ref q_items])), (q_owes, .inl (C 0, 36, .inl u_owes)), (q_debt, .inl (C 0, 30, .inl u_debt))]) (st2 := [.int z4]) cx (CX9_total l D C q_ q_owes q_denies q_debt q_cut q_sight q_event q_book q_text q_path q_ring q_balance q_left q_sum q_parts q_group q_payment q_then q_image q_tapeSort q_tapeSize q_items u_people u_debts u_cuts u_seen u_events u_inBook u_texted u_rule u_rings u_size u_least u_worth u_groups u_paid u_imaged u_owes u_debt z4 hz4) lk_X9_208 my_X9_total ml_X9_total ⟨by decide, by decide⟩ hw [0, 1, 2] [] [0, 1, 2] rfl rfl (by decide) rfl rfl rfl rfl (Nat.le_of_ble_eq_true rfl) dX9_mean_23 rfl (fun H locs hw => ?_) hl.1
      refine lv_i2l (v := (z4 : Int32).toInt64) hx hb dX9_mean_26 rfl ?_
      refine lv_aload_n hx hb dX9_mean_27 rfl (lv_at hl 0 rfl) ?_
      refine r_get (ci := 9) (v := .int u_debts) cx hw iX9 0 3 rfl rfl (by decide) wf_X9_88 rfl dX9_mean_28 ?_
      refine lv_i2l (v := (u_debts : Int32).toInt64) hx hb dX9_mean_31 rfl ?_
      refine lv_iload_n hx hb dX9_mean_32 rfl (lv_at hl 1 rfl) ?_
      obtain ⟨z5, hz5, hF⟩ := ob hF
      refine cS (wr := [(q_, .inr (9, [.int u_people, .ref q_owes, .ref q_denies, .int u_debts, .ref q_debt, .int u_cuts, .ref q_cut, .int u_seen, .ref q_sight, .int u_events, .ref q_event, .int u_inBook, .ref q_book, .int u_texted, .ref q_text, .ref q_path, .int u_rule, .int u_rings, .int u_size, .int u_least, .long u_worth, .ref q_ring, .ref q_balance, .ref q_left, .ref q_sum, .ref q_parts, .int u_groups, .ref q_group, .int u_paid, .ref q_payment, .ref q_then, .int u_imaged, .ref q_image, .ref q_tapeSort, .ref q_tapeSize, .ref q_items])), (q_owes, .inl (C 0, 36, .inl u_owes)), (q_debt, .inl (C 0, 30, .inl u_debt))]) (w2 := [(q_, .inr (9, [.int u_people, .ref q_owes, .ref q_denies, .int u_debts, .ref q_debt, .int u_cuts, .ref q_cut, .int u_seen, .ref q_sight, .int u_events, .ref q_event, .int u_inBook, .ref q_book, .int u_texted, .ref q_text, .ref q_path, .int u_rule, .int u_rings, .int u_size, .int u_least, .long u_worth, .ref q_ring, .ref q_balance, .ref q_left, .ref q_sum, .ref q_parts, .int u_groups, .ref q_group, .int u_paid, .ref q_payment, .ref q_then, .int u_imaged, .ref q_image, .ref q_tapeSort, .ref q_tapeSize, .ref q_items])), (q_owes, .inl (C 0, 36, .inl u_owes)), (q_debt, .inl (C 0, 30, .inl u_debt))]) (st2 := [.long z5]) cx (CX9_part l D C ((z4 : Int32).toInt64) ((u_debts : Int32).toInt64) x1 z5 hz5) lk_X9_251 my_X9_part ml_X9_part ⟨by decide, by decide⟩ hw [] [0, 1, 2] [0, 1, 2] rfl rfl (by decide) rfl rfl (Nat.le_of_ble_eq_true rfl) dX9_mean_33 rfl (fun H locs hw => ?_) hl.1
      obtain rfl := Option.some.inj hF
      exact rt_l hret hw rfl dX9_mean_36
    · replace hF := oi_t c3 hF
      refine lv_ldc2 (v := (-9223372036854775808)) hx hb cx.2.2.2.1 (cx.2.2.2.2.1 _ cl_X9_173) dX9_mean_16 ?_
      refine lv_goto (tgt := 36) hx hb dX9_mean_19 (by decide) ?_
      obtain rfl := Option.some.inj hF
      exact rt_l hret hw rfl dX9_mean_36
theorem wf_X9_255 : Cond.fieldLink RX9 255 (TX9 9).1 (TX9 9).2.1 (TX9 9).2.2.1 ∈ gdt := gdt_of 849 (by decide +kernel) (by decide +kernel)
theorem wf_X9_27 : Cond.fieldLink RX9 27 (TX9 10).1 (TX9 10).2.1 (TX9 10).2.2.1 ∈ gdt := gdt_of 850 (by decide +kernel) (by decide +kernel)
theorem dX9_event_0 : decode cX9_event 0 = .ok (.iload_n 1, 1) := by decide +kernel
theorem dX9_event_1 : decode cX9_event 1 = .ok (.iconst (-1), 1) := by decide +kernel
theorem dX9_event_2 : decode cX9_event 2 = .ok (.if_icmp .ne 10, 3) := by decide +kernel
theorem dX9_event_5 : decode cX9_event 5 = .ok (.aload_n 0, 1) := by decide +kernel
theorem dX9_event_6 : decode cX9_event 6 = .ok (.iconst 0, 1) := by decide +kernel
theorem dX9_event_7 : decode cX9_event 7 = .ok (.putfield 255, 3) := by decide +kernel
theorem dX9_event_10 : decode cX9_event 10 = .ok (.iconst 0, 1) := by decide +kernel
theorem dX9_event_11 : decode cX9_event 11 = .ok (.ireturn, 1) := by decide +kernel
theorem dX9_event_12 : decode cX9_event 12 = .ok (.iload_n 1, 1) := by decide +kernel
theorem dX9_event_13 : decode cX9_event 13 = .ok (.iconst 0, 1) := by decide +kernel
theorem dX9_event_14 : decode cX9_event 14 = .ok (.iconst 3, 1) := by decide +kernel
theorem dX9_event_15 : decode cX9_event 15 = .ok (.invokestatic 80, 3) := by decide +kernel
theorem dX9_event_18 : decode cX9_event 18 = .ok (.ifCond .eq 16, 3) := by decide +kernel
theorem dX9_event_21 : decode cX9_event 21 = .ok (.iload_n 1, 1) := by decide +kernel
theorem dX9_event_22 : decode cX9_event 22 = .ok (.iconst 2, 1) := by decide +kernel
theorem dX9_event_23 : decode cX9_event 23 = .ok (.if_icmp .ge 13, 3) := by decide +kernel
theorem dX9_event_26 : decode cX9_event 26 = .ok (.aload_n 0, 1) := by decide +kernel
theorem dX9_event_27 : decode cX9_event 27 = .ok (.iload_n 2, 1) := by decide +kernel
theorem dX9_event_28 : decode cX9_event 28 = .ok (.invokevirtual 84, 3) := by decide +kernel
theorem dX9_event_31 : decode cX9_event 31 = .ok (.ifCond .ne 5, 3) := by decide +kernel
theorem dX9_event_34 : decode cX9_event 34 = .ok (.iconst (-1), 1) := by decide +kernel
theorem dX9_event_35 : decode cX9_event 35 = .ok (.ireturn, 1) := by decide +kernel
theorem dX9_event_36 : decode cX9_event 36 = .ok (.iload_n 1, 1) := by decide +kernel
theorem dX9_event_37 : decode cX9_event 37 = .ok (.iconst 2, 1) := by decide +kernel
theorem dX9_event_38 : decode cX9_event 38 = .ok (.if_icmp .ne 15, 3) := by decide +kernel
theorem dX9_event_41 : decode cX9_event 41 = .ok (.iload_n 2, 1) := by decide +kernel
theorem dX9_event_42 : decode cX9_event 42 = .ok (.iconst 0, 1) := by decide +kernel
theorem dX9_event_43 : decode cX9_event 43 = .ok (.iconst 3, 1) := by decide +kernel
theorem dX9_event_44 : decode cX9_event 44 = .ok (.invokestatic 80, 3) := by decide +kernel
theorem dX9_event_47 : decode cX9_event 47 = .ok (.ifCond .ne 6, 3) := by decide +kernel
theorem dX9_event_50 : decode cX9_event 50 = .ok (.bipush (-2), 2) := by decide +kernel
theorem dX9_event_52 : decode cX9_event 52 = .ok (.ireturn, 1) := by decide +kernel
theorem dX9_event_53 : decode cX9_event 53 = .ok (.aload_n 0, 1) := by decide +kernel
theorem dX9_event_54 : decode cX9_event 54 = .ok (.getfield 255, 3) := by decide +kernel
theorem dX9_event_57 : decode cX9_event 57 = .ok (.bipush 8, 2) := by decide +kernel
theorem dX9_event_59 : decode cX9_event 59 = .ok (.if_icmp .ne 6, 3) := by decide +kernel
theorem dX9_event_62 : decode cX9_event 62 = .ok (.bipush (-4), 2) := by decide +kernel
theorem dX9_event_64 : decode cX9_event 64 = .ok (.ireturn, 1) := by decide +kernel
theorem dX9_event_65 : decode cX9_event 65 = .ok (.aload_n 0, 1) := by decide +kernel
theorem dX9_event_66 : decode cX9_event 66 = .ok (.getfield 27, 3) := by decide +kernel
theorem dX9_event_69 : decode cX9_event 69 = .ok (.iconst 2, 1) := by decide +kernel
theorem dX9_event_70 : decode cX9_event 70 = .ok (.aload_n 0, 1) := by decide +kernel
theorem dX9_event_71 : decode cX9_event 71 = .ok (.getfield 255, 3) := by decide +kernel
theorem dX9_event_74 : decode cX9_event 74 = .ok (.imul, 1) := by decide +kernel
theorem dX9_event_75 : decode cX9_event 75 = .ok (.iload_n 1, 1) := by decide +kernel
theorem dX9_event_76 : decode cX9_event 76 = .ok (.iastore, 1) := by decide +kernel
theorem dX9_event_77 : decode cX9_event 77 = .ok (.aload_n 0, 1) := by decide +kernel
theorem dX9_event_78 : decode cX9_event 78 = .ok (.getfield 27, 3) := by decide +kernel
theorem dX9_event_81 : decode cX9_event 81 = .ok (.iconst 2, 1) := by decide +kernel
theorem dX9_event_82 : decode cX9_event 82 = .ok (.aload_n 0, 1) := by decide +kernel
theorem dX9_event_83 : decode cX9_event 83 = .ok (.getfield 255, 3) := by decide +kernel
theorem dX9_event_86 : decode cX9_event 86 = .ok (.imul, 1) := by decide +kernel
theorem dX9_event_87 : decode cX9_event 87 = .ok (.iconst 1, 1) := by decide +kernel
theorem dX9_event_88 : decode cX9_event 88 = .ok (.iadd, 1) := by decide +kernel
theorem dX9_event_89 : decode cX9_event 89 = .ok (.iload_n 2, 1) := by decide +kernel
theorem dX9_event_90 : decode cX9_event 90 = .ok (.iastore, 1) := by decide +kernel
theorem dX9_event_91 : decode cX9_event 91 = .ok (.aload_n 0, 1) := by decide +kernel
theorem dX9_event_92 : decode cX9_event 92 = .ok (.dup, 1) := by decide +kernel
theorem dX9_event_93 : decode cX9_event 93 = .ok (.getfield 255, 3) := by decide +kernel
theorem dX9_event_96 : decode cX9_event 96 = .ok (.iconst 1, 1) := by decide +kernel
theorem dX9_event_97 : decode cX9_event 97 = .ok (.iadd, 1) := by decide +kernel
theorem dX9_event_98 : decode cX9_event 98 = .ok (.putfield 255, 3) := by decide +kernel
theorem dX9_event_101 : decode cX9_event 101 = .ok (.aload_n 0, 1) := by decide +kernel
theorem dX9_event_102 : decode cX9_event 102 = .ok (.getfield 255, 3) := by decide +kernel
theorem dX9_event_105 : decode cX9_event 105 = .ok (.ireturn, 1) := by decide +kernel
def fX9_event (u_people : Int32) (u_events : Int32) (u_event : (Nat → Int32)) (x1 : Int32) (x2 : Int32) : Option (Int32 × Int32 × (Nat → Int32)) := if x1 = (-1) then (some (0, 0, u_event)) else ((fX9_within x1 0 3).bind (fun z2 => if z2 = 0 then (some ((-1), u_events, u_event)) else (if 2 ≤ x1 then (if x1 = 2 then ((fX9_within x2 0 3).bind (fun z24 => if z24 = 0 then (some ((-2), u_events, u_event)) else (if u_events = 8 then (some ((-4), u_events, u_event)) else (gA (2 * u_events) 16 (gA ((2 * u_events) + 1) 16 (some (u_events + 1, u_events + 1, upd (upd u_event (2 * u_events : Int32).toNatClampNeg x1) ((2 * u_events) + 1 : Int32).toNatClampNeg x2))))))) else (if u_events = 8 then (some ((-4), u_events, u_event)) else (gA (2 * u_events) 16 (gA ((2 * u_events) + 1) 16 (some (u_events + 1, u_events + 1, upd (upd u_event (2 * u_events : Int32).toNatClampNeg x1) ((2 * u_events) + 1 : Int32).toNatClampNeg x2)))))) else ((fX9_isPerson u_people x2).bind (fun z29 => if z29 = 0 then (some ((-1), u_events, u_event)) else (if x1 = 2 then ((fX9_within x2 0 3).bind (fun z38 => if z38 = 0 then (some ((-2), u_events, u_event)) else (if u_events = 8 then (some ((-4), u_events, u_event)) else (gA (2 * u_events) 16 (gA ((2 * u_events) + 1) 16 (some (u_events + 1, u_events + 1, upd (upd u_event (2 * u_events : Int32).toNatClampNeg x1) ((2 * u_events) + 1 : Int32).toNatClampNeg x2))))))) else (if u_events = 8 then (some ((-4), u_events, u_event)) else (gA (2 * u_events) 16 (gA ((2 * u_events) + 1) 16 (some (u_events + 1, u_events + 1, upd (upd u_event (2 * u_events : Int32).toNatClampNeg x1) ((2 * u_events) + 1 : Int32).toNatClampNeg x2)))))))))))
set_option maxRecDepth 20000 in
theorem CX9_event (l : Launch) (D : va_G) (C : Nat → ClassId) (q_ q_owes q_denies q_debt q_cut q_sight q_event q_book q_text q_path q_ring q_balance q_left q_sum q_parts q_group q_payment q_then q_image q_tapeSort q_tapeSize q_items : Nat) (u_people : Int32) (u_debts : Int32) (u_cuts : Int32) (u_seen : Int32) (u_events : Int32) (u_inBook : Int32) (u_texted : Int32) (u_rule : Int32) (u_rings : Int32) (u_size : Int32) (u_least : Int32) (u_worth : Int64) (u_groups : Int32) (u_paid : Int32) (u_imaged : Int32) (u_event : (Nat → Int32)) (x1 : Int32) (x2 : Int32) (z : (Int32 × Int32 × (Nat → Int32))) (hF : fX9_event u_people u_events u_event x1 x2 = some z) : Ct l yX9_event cX9_event 3 (some .int) 3 D C [.ref q_, .int x1, .int x2] [(q_, .inr (9, [.int u_people, .ref q_owes, .ref q_denies, .int u_debts, .ref q_debt, .int u_cuts, .ref q_cut, .int u_seen, .ref q_sight, .int u_events, .ref q_event, .int u_inBook, .ref q_book, .int u_texted, .ref q_text, .ref q_path, .int u_rule, .int u_rings, .int u_size, .int u_least, .long u_worth, .ref q_ring, .ref q_balance, .ref q_left, .ref q_sum, .ref q_parts, .int u_groups, .ref q_group, .int u_paid, .ref q_payment, .ref q_then, .int u_imaged, .ref q_image, .ref q_tapeSort, .ref q_tapeSize, .ref q_items])), (q_event, .inl (C 0, 16, .inl u_event))] [(q_, .inr (9, [.int u_people, .ref q_owes, .ref q_denies, .int u_debts, .ref q_debt, .int u_cuts, .ref q_cut, .int u_seen, .ref q_sight, .int z.2.1, .ref q_event, .int u_inBook, .ref q_book, .int u_texted, .ref q_text, .ref q_path, .int u_rule, .int u_rings, .int u_size, .int u_least, .long u_worth, .ref q_ring, .ref q_balance, .ref q_left, .ref q_sum, .ref q_parts, .int u_groups, .ref q_group, .int u_paid, .ref q_payment, .ref q_then, .int u_imaged, .ref q_image, .ref q_tapeSort, .ref q_tapeSize, .ref q_items])), (q_event, .inl (C 0, 16, .inl z.2.2))] (some (.int z.1)) := by
  refine Ct_of (by decide) (Nat.le_of_ble_eq_true rfl) ?_
  intro p e R s m args below meth c A Q H locs ls cx hw hl hret
  have cx : CX p m c s args RX9 cX9_event 3 D C A R 3 := cx
  have hx := cx.1
  have hb := cx.2.1
  have hl : lv_has ls 3 [(0, .ref q_), (1, .int x1), (2, .int x2)] := hl
  rw [fX9_event.eq_1] at hF
  refine lv_iload_n hx hb dX9_event_0 rfl (lv_at hl 1 rfl) ?_
  refine lv_iconst (v := (-1)) hx hb dX9_event_1 (by decide) ?_
  refine lv_icmp_ne (tgt := 12) hx hb dX9_event_2 (by decide) (fun c1 => ?_) (fun c1 => ?_)
  · replace hF := oi_f c1 hF
    refine lv_iload_n hx hb dX9_event_12 rfl (lv_at hl 1 rfl) ?_
    refine lv_iconst (v := 0) hx hb dX9_event_13 (by decide) ?_
    refine lv_iconst (v := 3) hx hb dX9_event_14 (by decide) ?_
    obtain ⟨z2, hz2, hF⟩ := ob hF
    refine cS (wr := [(q_, .inr (9, [.int u_people, .ref q_owes, .ref q_denies, .int u_debts, .ref q_debt, .int u_cuts, .ref q_cut, .int u_seen, .ref q_sight, .int u_events, .ref q_event, .int u_inBook, .ref q_book, .int u_texted, .ref q_text, .ref q_path, .int u_rule, .int u_rings, .int u_size, .int u_least, .long u_worth, .ref q_ring, .ref q_balance, .ref q_left, .ref q_sum, .ref q_parts, .int u_groups, .ref q_group, .int u_paid, .ref q_payment, .ref q_then, .int u_imaged, .ref q_image, .ref q_tapeSort, .ref q_tapeSize, .ref q_items])), (q_event, .inl (C 0, 16, .inl u_event))]) (w2 := [(q_, .inr (9, [.int u_people, .ref q_owes, .ref q_denies, .int u_debts, .ref q_debt, .int u_cuts, .ref q_cut, .int u_seen, .ref q_sight, .int u_events, .ref q_event, .int u_inBook, .ref q_book, .int u_texted, .ref q_text, .ref q_path, .int u_rule, .int u_rings, .int u_size, .int u_least, .long u_worth, .ref q_ring, .ref q_balance, .ref q_left, .ref q_sum, .ref q_parts, .int u_groups, .ref q_group, .int u_paid, .ref q_payment, .ref q_then, .int u_imaged, .ref q_image, .ref q_tapeSort, .ref q_tapeSize, .ref q_items])), (q_event, .inl (C 0, 16, .inl u_event))]) (st2 := [.int z2]) cx (CX9_within l D C x1 0 3 z2 hz2) lk_X9_80 my_X9_within ml_X9_within ⟨by decide, by decide⟩ hw [] [0, 1] [0, 1] rfl rfl (by decide) rfl rfl (Nat.le_of_ble_eq_true rfl) dX9_event_15 rfl (fun H locs hw => ?_) hl.1
    refine lv_if_eq (tgt := 34) hx hb dX9_event_18 (by decide) (fun c3 => ?_) (fun c3 => ?_)
    · replace hF := oi_t c3 hF
      refine lv_iconst (v := (-1)) hx hb dX9_event_34 (by decide) ?_
      obtain rfl := Option.some.inj hF
      exact rt_i hret hw rfl dX9_event_35
    · replace hF := oi_f c3 hF
      refine lv_iload_n hx hb dX9_event_21 rfl (lv_at hl 1 rfl) ?_
      refine lv_iconst (v := 2) hx hb dX9_event_22 (by decide) ?_
      refine lv_icmp_ge (tgt := 36) hx hb dX9_event_23 (by decide) (fun c16 => ?_) (fun c16 => ?_)
      · replace hF := oi_t c16 hF
        refine lv_iload_n hx hb dX9_event_36 rfl (lv_at hl 1 rfl) ?_
        refine lv_iconst (v := 2) hx hb dX9_event_37 (by decide) ?_
        refine lv_icmp_ne (tgt := 53) hx hb dX9_event_38 (by decide) (fun c20 => ?_) (fun c20 => ?_)
        · replace hF := oi_f c20 hF
          refine lv_aload_n hx hb dX9_event_53 rfl (lv_at hl 0 rfl) ?_
          refine r_get (ci := 9) (v := .int u_events) cx hw iX9 0 9 rfl rfl (by decide) wf_X9_255 rfl dX9_event_54 ?_
          refine lv_bipush (v := 8) hx hb dX9_event_57 (by decide) ?_
          refine lv_icmp_ne (tgt := 65) hx hb dX9_event_59 (by decide) (fun c21 => ?_) (fun c21 => ?_)
          · replace hF := oi_f c21 hF
            refine lv_aload_n hx hb dX9_event_65 rfl (lv_at hl 0 rfl) ?_
            refine r_get (ci := 9) (v := .ref q_event) cx hw iX9 0 10 rfl rfl (by decide) wf_X9_27 rfl dX9_event_66 ?_
            refine lv_iconst (v := 2) hx hb dX9_event_69 (by decide) ?_
            refine lv_aload_n hx hb dX9_event_70 rfl (lv_at hl 0 rfl) ?_
            refine r_get (ci := 9) (v := .int u_events) cx hw iX9 0 9 rfl rfl (by decide) wf_X9_255 rfl dX9_event_71 ?_
            refine lv_imul hx hb dX9_event_74 ?_
            refine lv_iload_n hx hb dX9_event_75 rfl (lv_at hl 1 rfl) ?_
            obtain ⟨g22, hF⟩ := gA_s hF
            refine r_iast (w2 := [(q_, .inr (9, [.int u_people, .ref q_owes, .ref q_denies, .int u_debts, .ref q_debt, .int u_cuts, .ref q_cut, .int u_seen, .ref q_sight, .int u_events, .ref q_event, .int u_inBook, .ref q_book, .int u_texted, .ref q_text, .ref q_path, .int u_rule, .int u_rings, .int u_size, .int u_least, .long u_worth, .ref q_ring, .ref q_balance, .ref q_left, .ref q_sum, .ref q_parts, .int u_groups, .ref q_group, .int u_paid, .ref q_payment, .ref q_then, .int u_imaged, .ref q_image, .ref q_tapeSort, .ref q_tapeSize, .ref q_items])), (q_event, .inl (C 0, 16, .inl (upd u_event (2 * u_events : Int32).toNatClampNeg x1)))]) cx hw 1 rfl g22 dX9_event_76 rfl (fun H locs hw => ?_)
            refine lv_aload_n hx hb dX9_event_77 rfl (lv_at hl 0 rfl) ?_
            refine r_get (ci := 9) (v := .ref q_event) cx hw iX9 0 10 rfl rfl (by decide) wf_X9_27 rfl dX9_event_78 ?_
            refine lv_iconst (v := 2) hx hb dX9_event_81 (by decide) ?_
            refine lv_aload_n hx hb dX9_event_82 rfl (lv_at hl 0 rfl) ?_
            refine r_get (ci := 9) (v := .int u_events) cx hw iX9 0 9 rfl rfl (by decide) wf_X9_255 rfl dX9_event_83 ?_
            refine lv_imul hx hb dX9_event_86 ?_
            refine lv_iconst (v := 1) hx hb dX9_event_87 (by decide) ?_
            refine lv_iadd hx hb dX9_event_88 ?_
            refine lv_iload_n hx hb dX9_event_89 rfl (lv_at hl 2 rfl) ?_
            obtain ⟨g23, hF⟩ := gA_s hF
            refine r_iast (w2 := [(q_, .inr (9, [.int u_people, .ref q_owes, .ref q_denies, .int u_debts, .ref q_debt, .int u_cuts, .ref q_cut, .int u_seen, .ref q_sight, .int u_events, .ref q_event, .int u_inBook, .ref q_book, .int u_texted, .ref q_text, .ref q_path, .int u_rule, .int u_rings, .int u_size, .int u_least, .long u_worth, .ref q_ring, .ref q_balance, .ref q_left, .ref q_sum, .ref q_parts, .int u_groups, .ref q_group, .int u_paid, .ref q_payment, .ref q_then, .int u_imaged, .ref q_image, .ref q_tapeSort, .ref q_tapeSize, .ref q_items])), (q_event, .inl (C 0, 16, .inl (upd (upd u_event (2 * u_events : Int32).toNatClampNeg x1) ((2 * u_events) + 1 : Int32).toNatClampNeg x2)))]) cx hw 1 rfl g23 dX9_event_90 rfl (fun H locs hw => ?_)
            refine lv_aload_n hx hb dX9_event_91 rfl (lv_at hl 0 rfl) ?_
            refine lv_dup hx hb dX9_event_92 rfl ?_
            refine r_get (ci := 9) (v := .int u_events) cx hw iX9 0 9 rfl rfl (by decide) wf_X9_255 rfl dX9_event_93 ?_
            refine lv_iconst (v := 1) hx hb dX9_event_96 (by decide) ?_
            refine lv_iadd hx hb dX9_event_97 ?_
            refine r_put (ci := 9) (w2 := [(q_, .inr (9, [.int u_people, .ref q_owes, .ref q_denies, .int u_debts, .ref q_debt, .int u_cuts, .ref q_cut, .int u_seen, .ref q_sight, .int (u_events + 1), .ref q_event, .int u_inBook, .ref q_book, .int u_texted, .ref q_text, .ref q_path, .int u_rule, .int u_rings, .int u_size, .int u_least, .long u_worth, .ref q_ring, .ref q_balance, .ref q_left, .ref q_sum, .ref q_parts, .int u_groups, .ref q_group, .int u_paid, .ref q_payment, .ref q_then, .int u_imaged, .ref q_image, .ref q_tapeSort, .ref q_tapeSize, .ref q_items])), (q_event, .inl (C 0, 16, .inl (upd (upd u_event (2 * u_events : Int32).toNatClampNeg x1) ((2 * u_events) + 1 : Int32).toNatClampNeg x2)))]) cx hw iX9 tyX9_ok nmX9 0 9 rfl rfl (by decide) wf_X9_255 rfl rfl rfl rfl (Nat.le_of_ble_eq_true rfl) dX9_event_98 rfl (fun H locs hw => ?_)
            refine lv_aload_n hx hb dX9_event_101 rfl (lv_at hl 0 rfl) ?_
            refine r_get (ci := 9) (v := .int (u_events + 1)) cx hw iX9 0 9 rfl rfl (by decide) wf_X9_255 rfl dX9_event_102 ?_
            obtain rfl := Option.some.inj hF
            exact rt_i hret hw rfl dX9_event_105
          · replace hF := oi_t c21 hF
            refine lv_bipush (v := (-4)) hx hb dX9_event_62 (by decide) ?_
            obtain rfl := Option.some.inj hF
            exact rt_i hret hw rfl dX9_event_64
        · replace hF := oi_t c20 hF
          refine lv_iload_n hx hb dX9_event_41 rfl (lv_at hl 2 rfl) ?_
          refine lv_iconst (v := 0) hx hb dX9_event_42 (by decide) ?_
          refine lv_iconst (v := 3) hx hb dX9_event_43 (by decide) ?_
          obtain ⟨z24, hz24, hF⟩ := ob hF
          refine cS (wr := [(q_, .inr (9, [.int u_people, .ref q_owes, .ref q_denies, .int u_debts, .ref q_debt, .int u_cuts, .ref q_cut, .int u_seen, .ref q_sight, .int u_events, .ref q_event, .int u_inBook, .ref q_book, .int u_texted, .ref q_text, .ref q_path, .int u_rule, .int u_rings, .int u_size, .int u_least, .long u_worth, .ref q_ring, .ref q_balance, .ref q_left, .ref q_sum, .ref q_parts, .int u_groups, .ref q_group, .int u_paid, .ref q_payment, .ref q_then, .int u_imaged, .ref q_image, .ref q_tapeSort, .ref q_tapeSize, .ref q_items])), (q_event, .inl (C 0, 16, .inl u_event))]) (w2 := [(q_, .inr (9, [.int u_people, .ref q_owes, .ref q_denies, .int u_debts, .ref q_debt, .int u_cuts, .ref q_cut, .int u_seen, .ref q_sight, .int u_events, .ref q_event, .int u_inBook, .ref q_book, .int u_texted, .ref q_text, .ref q_path, .int u_rule, .int u_rings, .int u_size, .int u_least, .long u_worth, .ref q_ring, .ref q_balance, .ref q_left, .ref q_sum, .ref q_parts, .int u_groups, .ref q_group, .int u_paid, .ref q_payment, .ref q_then, .int u_imaged, .ref q_image, .ref q_tapeSort, .ref q_tapeSize, .ref q_items])), (q_event, .inl (C 0, 16, .inl u_event))]) (st2 := [.int z24]) cx (CX9_within l D C x2 0 3 z24 hz24) lk_X9_80 my_X9_within ml_X9_within ⟨by decide, by decide⟩ hw [] [0, 1] [0, 1] rfl rfl (by decide) rfl rfl (Nat.le_of_ble_eq_true rfl) dX9_event_44 rfl (fun H locs hw => ?_) hl.1
          refine lv_if_ne (tgt := 53) hx hb dX9_event_47 (by decide) (fun c25 => ?_) (fun c25 => ?_)
          · replace hF := oi_f c25 hF
            refine lv_aload_n hx hb dX9_event_53 rfl (lv_at hl 0 rfl) ?_
            refine r_get (ci := 9) (v := .int u_events) cx hw iX9 0 9 rfl rfl (by decide) wf_X9_255 rfl dX9_event_54 ?_
            refine lv_bipush (v := 8) hx hb dX9_event_57 (by decide) ?_
            refine lv_icmp_ne (tgt := 65) hx hb dX9_event_59 (by decide) (fun c26 => ?_) (fun c26 => ?_)
            · replace hF := oi_f c26 hF
              refine lv_aload_n hx hb dX9_event_65 rfl (lv_at hl 0 rfl) ?_
              refine r_get (ci := 9) (v := .ref q_event) cx hw iX9 0 10 rfl rfl (by decide) wf_X9_27 rfl dX9_event_66 ?_
              refine lv_iconst (v := 2) hx hb dX9_event_69 (by decide) ?_
              refine lv_aload_n hx hb dX9_event_70 rfl (lv_at hl 0 rfl) ?_
              refine r_get (ci := 9) (v := .int u_events) cx hw iX9 0 9 rfl rfl (by decide) wf_X9_255 rfl dX9_event_71 ?_
              refine lv_imul hx hb dX9_event_74 ?_
              refine lv_iload_n hx hb dX9_event_75 rfl (lv_at hl 1 rfl) ?_
              obtain ⟨g27, hF⟩ := gA_s hF
              refine r_iast (w2 := [(q_, .inr (9, [.int u_people, .ref q_owes, .ref q_denies, .int u_debts, .ref q_debt, .int u_cuts, .ref q_cut, .int u_seen, .ref q_sight, .int u_events, .ref q_event, .int u_inBook, .ref q_book, .int u_texted, .ref q_text, .ref q_path, .int u_rule, .int u_rings, .int u_size, .int u_least, .long u_worth, .ref q_ring, .ref q_balance, .ref q_left, .ref q_sum, .ref q_parts, .int u_groups, .ref q_group, .int u_paid, .ref q_payment, .ref q_then, .int u_imaged, .ref q_image, .ref q_tapeSort, .ref q_tapeSize, .ref q_items])), (q_event, .inl (C 0, 16, .inl (upd u_event (2 * u_events : Int32).toNatClampNeg x1)))]) cx hw 1 rfl g27 dX9_event_76 rfl (fun H locs hw => ?_)
              refine lv_aload_n hx hb dX9_event_77 rfl (lv_at hl 0 rfl) ?_
              refine r_get (ci := 9) (v := .ref q_event) cx hw iX9 0 10 rfl rfl (by decide) wf_X9_27 rfl dX9_event_78 ?_
              refine lv_iconst (v := 2) hx hb dX9_event_81 (by decide) ?_
              refine lv_aload_n hx hb dX9_event_82 rfl (lv_at hl 0 rfl) ?_
              refine r_get (ci := 9) (v := .int u_events) cx hw iX9 0 9 rfl rfl (by decide) wf_X9_255 rfl dX9_event_83 ?_
              refine lv_imul hx hb dX9_event_86 ?_
              refine lv_iconst (v := 1) hx hb dX9_event_87 (by decide) ?_
              refine lv_iadd hx hb dX9_event_88 ?_
              refine lv_iload_n hx hb dX9_event_89 rfl (lv_at hl 2 rfl) ?_
              obtain ⟨g28, hF⟩ := gA_s hF
              refine r_iast (w2 := [(q_, .inr (9, [.int u_people, .ref q_owes, .ref q_denies, .int u_debts, .ref q_debt, .int u_cuts, .ref q_cut, .int u_seen, .ref q_sight, .int u_events, .ref q_event, .int u_inBook, .ref q_book, .int u_texted, .ref q_text, .ref q_path, .int u_rule, .int u_rings, .int u_size, .int u_least, .long u_worth, .ref q_ring, .ref q_balance, .ref q_left, .ref q_sum, .ref q_parts, .int u_groups, .ref q_group, .int u_paid, .ref q_payment, .ref q_then, .int u_imaged, .ref q_image, .ref q_tapeSort, .ref q_tapeSize, .ref q_items])), (q_event, .inl (C 0, 16, .inl (upd (upd u_event (2 * u_events : Int32).toNatClampNeg x1) ((2 * u_events) + 1 : Int32).toNatClampNeg x2)))]) cx hw 1 rfl g28 dX9_event_90 rfl (fun H locs hw => ?_)
              refine lv_aload_n hx hb dX9_event_91 rfl (lv_at hl 0 rfl) ?_
              refine lv_dup hx hb dX9_event_92 rfl ?_
              refine r_get (ci := 9) (v := .int u_events) cx hw iX9 0 9 rfl rfl (by decide) wf_X9_255 rfl dX9_event_93 ?_
              refine lv_iconst (v := 1) hx hb dX9_event_96 (by decide) ?_
              refine lv_iadd hx hb dX9_event_97 ?_
              refine r_put (ci := 9) (w2 := [(q_, .inr (9, [.int u_people, .ref q_owes, .ref q_denies, .int u_debts, .ref q_debt, .int u_cuts, .ref q_cut, .int u_seen, .ref q_sight, .int (u_events + 1), .ref q_event, .int u_inBook, .ref q_book, .int u_texted, .ref q_text, .ref q_path, .int u_rule, .int u_rings, .int u_size, .int u_least, .long u_worth, .ref q_ring, .ref q_balance, .ref q_left, .ref q_sum, .ref q_parts, .int u_groups, .ref q_group, .int u_paid, .ref q_payment, .ref q_then, .int u_imaged, .ref q_image, .ref q_tapeSort, .ref q_tapeSize, .ref q_items])), (q_event, .inl (C 0, 16, .inl (upd (upd u_event (2 * u_events : Int32).toNatClampNeg x1) ((2 * u_events) + 1 : Int32).toNatClampNeg x2)))]) cx hw iX9 tyX9_ok nmX9 0 9 rfl rfl (by decide) wf_X9_255 rfl rfl rfl rfl (Nat.le_of_ble_eq_true rfl) dX9_event_98 rfl (fun H locs hw => ?_)
              refine lv_aload_n hx hb dX9_event_101 rfl (lv_at hl 0 rfl) ?_
              refine r_get (ci := 9) (v := .int (u_events + 1)) cx hw iX9 0 9 rfl rfl (by decide) wf_X9_255 rfl dX9_event_102 ?_
              obtain rfl := Option.some.inj hF
              exact rt_i hret hw rfl dX9_event_105
            · replace hF := oi_t c26 hF
              refine lv_bipush (v := (-4)) hx hb dX9_event_62 (by decide) ?_
              obtain rfl := Option.some.inj hF
              exact rt_i hret hw rfl dX9_event_64
          · replace hF := oi_t c25 hF
            refine lv_bipush (v := (-2)) hx hb dX9_event_50 (by decide) ?_
            obtain rfl := Option.some.inj hF
            exact rt_i hret hw rfl dX9_event_52
      · replace hF := oi_f c16 hF
        refine lv_aload_n hx hb dX9_event_26 rfl (lv_at hl 0 rfl) ?_
        refine lv_iload_n hx hb dX9_event_27 rfl (lv_at hl 2 rfl) ?_
        obtain ⟨z29, hz29, hF⟩ := ob hF
        refine cV (wr := [(q_event, .inl (C 0, 16, .inl u_event))]) (w2 := [(q_, .inr (9, [.int u_people, .ref q_owes, .ref q_denies, .int u_debts, .ref q_debt, .int u_cuts, .ref q_cut, .int u_seen, .ref q_sight, .int u_events, .ref q_event, .int u_inBook, .ref q_book, .int u_texted, .ref q_text, .ref q_path, .int u_rule, .int u_rings, .int u_size, .int u_least, .long u_worth, .ref q_ring, .ref q_balance, .ref q_left, .ref q_sum, .ref q_parts, .int u_groups, .ref q_group, .int u_paid, .ref q_payment, .ref q_then, .int u_imaged, .ref q_image, .ref q_tapeSort, .ref q_tapeSize, .ref q_items])), (q_event, .inl (C 0, 16, .inl u_event))]) (st2 := [.int z29]) cx (CX9_isPerson l D C q_ q_owes q_denies q_debt q_cut q_sight q_event q_book q_text q_path q_ring q_balance q_left q_sum q_parts q_group q_payment q_then q_image q_tapeSort q_tapeSize q_items u_people u_debts u_cuts u_seen u_events u_inBook u_texted u_rule u_rings u_size u_least u_worth u_groups u_paid u_imaged x2 z29 hz29) lk_X9_84 my_X9_isPerson ml_X9_isPerson ⟨by decide, by decide⟩ hw [0] [1] [1, 0] rfl rfl (by decide) rfl rfl rfl rfl (Nat.le_of_ble_eq_true rfl) dX9_event_28 rfl (fun H locs hw => ?_) hl.1
        refine lv_if_ne (tgt := 36) hx hb dX9_event_31 (by decide) (fun c30 => ?_) (fun c30 => ?_)
        · replace hF := oi_f c30 hF
          refine lv_iload_n hx hb dX9_event_36 rfl (lv_at hl 1 rfl) ?_
          refine lv_iconst (v := 2) hx hb dX9_event_37 (by decide) ?_
          refine lv_icmp_ne (tgt := 53) hx hb dX9_event_38 (by decide) (fun c34 => ?_) (fun c34 => ?_)
          · replace hF := oi_f c34 hF
            refine lv_aload_n hx hb dX9_event_53 rfl (lv_at hl 0 rfl) ?_
            refine r_get (ci := 9) (v := .int u_events) cx hw iX9 0 9 rfl rfl (by decide) wf_X9_255 rfl dX9_event_54 ?_
            refine lv_bipush (v := 8) hx hb dX9_event_57 (by decide) ?_
            refine lv_icmp_ne (tgt := 65) hx hb dX9_event_59 (by decide) (fun c35 => ?_) (fun c35 => ?_)
            · replace hF := oi_f c35 hF
              refine lv_aload_n hx hb dX9_event_65 rfl (lv_at hl 0 rfl) ?_
              refine r_get (ci := 9) (v := .ref q_event) cx hw iX9 0 10 rfl rfl (by decide) wf_X9_27 rfl dX9_event_66 ?_
              refine lv_iconst (v := 2) hx hb dX9_event_69 (by decide) ?_
              refine lv_aload_n hx hb dX9_event_70 rfl (lv_at hl 0 rfl) ?_
              refine r_get (ci := 9) (v := .int u_events) cx hw iX9 0 9 rfl rfl (by decide) wf_X9_255 rfl dX9_event_71 ?_
              refine lv_imul hx hb dX9_event_74 ?_
              refine lv_iload_n hx hb dX9_event_75 rfl (lv_at hl 1 rfl) ?_
              obtain ⟨g36, hF⟩ := gA_s hF
              refine r_iast (w2 := [(q_, .inr (9, [.int u_people, .ref q_owes, .ref q_denies, .int u_debts, .ref q_debt, .int u_cuts, .ref q_cut, .int u_seen, .ref q_sight, .int u_events, .ref q_event, .int u_inBook, .ref q_book, .int u_texted, .ref q_text, .ref q_path, .int u_rule, .int u_rings, .int u_size, .int u_least, .long u_worth, .ref q_ring, .ref q_balance, .ref q_left, .ref q_sum, .ref q_parts, .int u_groups, .ref q_group, .int u_paid, .ref q_payment, .ref q_then, .int u_imaged, .ref q_image, .ref q_tapeSort, .ref q_tapeSize, .ref q_items])), (q_event, .inl (C 0, 16, .inl (upd u_event (2 * u_events : Int32).toNatClampNeg x1)))]) cx hw 1 rfl g36 dX9_event_76 rfl (fun H locs hw => ?_)
              refine lv_aload_n hx hb dX9_event_77 rfl (lv_at hl 0 rfl) ?_
              refine r_get (ci := 9) (v := .ref q_event) cx hw iX9 0 10 rfl rfl (by decide) wf_X9_27 rfl dX9_event_78 ?_
              refine lv_iconst (v := 2) hx hb dX9_event_81 (by decide) ?_
              refine lv_aload_n hx hb dX9_event_82 rfl (lv_at hl 0 rfl) ?_
              refine r_get (ci := 9) (v := .int u_events) cx hw iX9 0 9 rfl rfl (by decide) wf_X9_255 rfl dX9_event_83 ?_
              refine lv_imul hx hb dX9_event_86 ?_
              refine lv_iconst (v := 1) hx hb dX9_event_87 (by decide) ?_
              refine lv_iadd hx hb dX9_event_88 ?_
              refine lv_iload_n hx hb dX9_event_89 rfl (lv_at hl 2 rfl) ?_
              obtain ⟨g37, hF⟩ := gA_s hF
              refine r_iast (w2 := [(q_, .inr (9, [.int u_people, .ref q_owes, .ref q_denies, .int u_debts, .ref q_debt, .int u_cuts, .ref q_cut, .int u_seen, .ref q_sight, .int u_events, .ref q_event, .int u_inBook, .ref q_book, .int u_texted, .ref q_text, .ref q_path, .int u_rule, .int u_rings, .int u_size, .int u_least, .long u_worth, .ref q_ring, .ref q_balance, .ref q_left, .ref q_sum, .ref q_parts, .int u_groups, .ref q_group, .int u_paid, .ref q_payment, .ref q_then, .int u_imaged, .ref q_image, .ref q_tapeSort, .ref q_tapeSize, .ref q_items])), (q_event, .inl (C 0, 16, .inl (upd (upd u_event (2 * u_events : Int32).toNatClampNeg x1) ((2 * u_events) + 1 : Int32).toNatClampNeg x2)))]) cx hw 1 rfl g37 dX9_event_90 rfl (fun H locs hw => ?_)
              refine lv_aload_n hx hb dX9_event_91 rfl (lv_at hl 0 rfl) ?_
              refine lv_dup hx hb dX9_event_92 rfl ?_
              refine r_get (ci := 9) (v := .int u_events) cx hw iX9 0 9 rfl rfl (by decide) wf_X9_255 rfl dX9_event_93 ?_
              refine lv_iconst (v := 1) hx hb dX9_event_96 (by decide) ?_
              refine lv_iadd hx hb dX9_event_97 ?_
              refine r_put (ci := 9) (w2 := [(q_, .inr (9, [.int u_people, .ref q_owes, .ref q_denies, .int u_debts, .ref q_debt, .int u_cuts, .ref q_cut, .int u_seen, .ref q_sight, .int (u_events + 1), .ref q_event, .int u_inBook, .ref q_book, .int u_texted, .ref q_text, .ref q_path, .int u_rule, .int u_rings, .int u_size, .int u_least, .long u_worth, .ref q_ring, .ref q_balance, .ref q_left, .ref q_sum, .ref q_parts, .int u_groups, .ref q_group, .int u_paid, .ref q_payment, .ref q_then, .int u_imaged, .ref q_image, .ref q_tapeSort, .ref q_tapeSize, .ref q_items])), (q_event, .inl (C 0, 16, .inl (upd (upd u_event (2 * u_events : Int32).toNatClampNeg x1) ((2 * u_events) + 1 : Int32).toNatClampNeg x2)))]) cx hw iX9 tyX9_ok nmX9 0 9 rfl rfl (by decide) wf_X9_255 rfl rfl rfl rfl (Nat.le_of_ble_eq_true rfl) dX9_event_98 rfl (fun H locs hw => ?_)
              refine lv_aload_n hx hb dX9_event_101 rfl (lv_at hl 0 rfl) ?_
              refine r_get (ci := 9) (v := .int (u_events + 1)) cx hw iX9 0 9 rfl rfl (by decide) wf_X9_255 rfl dX9_event_102 ?_
              obtain rfl := Option.some.inj hF
              exact rt_i hret hw rfl dX9_event_105
            · replace hF := oi_t c35 hF
              refine lv_bipush (v := (-4)) hx hb dX9_event_62 (by decide) ?_
              obtain rfl := Option.some.inj hF
              exact rt_i hret hw rfl dX9_event_64
          · replace hF := oi_t c34 hF
            refine lv_iload_n hx hb dX9_event_41 rfl (lv_at hl 2 rfl) ?_
            refine lv_iconst (v := 0) hx hb dX9_event_42 (by decide) ?_
            refine lv_iconst (v := 3) hx hb dX9_event_43 (by decide) ?_
            obtain ⟨z38, hz38, hF⟩ := ob hF
            refine cS (wr := [(q_, .inr (9, [.int u_people, .ref q_owes, .ref q_denies, .int u_debts, .ref q_debt, .int u_cuts, .ref q_cut, .int u_seen, .ref q_sight, .int u_events, .ref q_event, .int u_inBook, .ref q_book, .int u_texted, .ref q_text, .ref q_path, .int u_rule, .int u_rings, .int u_size, .int u_least, .long u_worth, .ref q_ring, .ref q_balance, .ref q_left, .ref q_sum, .ref q_parts, .int u_groups, .ref q_group, .int u_paid, .ref q_payment, .ref q_then, .int u_imaged, .ref q_image, .ref q_tapeSort, .ref q_tapeSize, .ref q_items])), (q_event, .inl (C 0, 16, .inl u_event))]) (w2 := [(q_, .inr (9, [.int u_people, .ref q_owes, .ref q_denies, .int u_debts, .ref q_debt, .int u_cuts, .ref q_cut, .int u_seen, .ref q_sight, .int u_events, .ref q_event, .int u_inBook, .ref q_book, .int u_texted, .ref q_text, .ref q_path, .int u_rule, .int u_rings, .int u_size, .int u_least, .long u_worth, .ref q_ring, .ref q_balance, .ref q_left, .ref q_sum, .ref q_parts, .int u_groups, .ref q_group, .int u_paid, .ref q_payment, .ref q_then, .int u_imaged, .ref q_image, .ref q_tapeSort, .ref q_tapeSize, .ref q_items])), (q_event, .inl (C 0, 16, .inl u_event))]) (st2 := [.int z38]) cx (CX9_within l D C x2 0 3 z38 hz38) lk_X9_80 my_X9_within ml_X9_within ⟨by decide, by decide⟩ hw [] [0, 1] [0, 1] rfl rfl (by decide) rfl rfl (Nat.le_of_ble_eq_true rfl) dX9_event_44 rfl (fun H locs hw => ?_) hl.1
            refine lv_if_ne (tgt := 53) hx hb dX9_event_47 (by decide) (fun c39 => ?_) (fun c39 => ?_)
            · replace hF := oi_f c39 hF
              refine lv_aload_n hx hb dX9_event_53 rfl (lv_at hl 0 rfl) ?_
              refine r_get (ci := 9) (v := .int u_events) cx hw iX9 0 9 rfl rfl (by decide) wf_X9_255 rfl dX9_event_54 ?_
              refine lv_bipush (v := 8) hx hb dX9_event_57 (by decide) ?_
              refine lv_icmp_ne (tgt := 65) hx hb dX9_event_59 (by decide) (fun c40 => ?_) (fun c40 => ?_)
              · replace hF := oi_f c40 hF
                refine lv_aload_n hx hb dX9_event_65 rfl (lv_at hl 0 rfl) ?_
                refine r_get (ci := 9) (v := .ref q_event) cx hw iX9 0 10 rfl rfl (by decide) wf_X9_27 rfl dX9_event_66 ?_
                refine lv_iconst (v := 2) hx hb dX9_event_69 (by decide) ?_
                refine lv_aload_n hx hb dX9_event_70 rfl (lv_at hl 0 rfl) ?_
                refine r_get (ci := 9) (v := .int u_events) cx hw iX9 0 9 rfl rfl (by decide) wf_X9_255 rfl dX9_event_71 ?_
                refine lv_imul hx hb dX9_event_74 ?_
                refine lv_iload_n hx hb dX9_event_75 rfl (lv_at hl 1 rfl) ?_
                obtain ⟨g41, hF⟩ := gA_s hF
                refine r_iast (w2 := [(q_, .inr (9, [.int u_people, .ref q_owes, .ref q_denies, .int u_debts, .ref q_debt, .int u_cuts, .ref q_cut, .int u_seen, .ref q_sight, .int u_events, .ref q_event, .int u_inBook, .ref q_book, .int u_texted, .ref q_text, .ref q_path, .int u_rule, .int u_rings, .int u_size, .int u_least, .long u_worth, .ref q_ring, .ref q_balance, .ref q_left, .ref q_sum, .ref q_parts, .int u_groups, .ref q_group, .int u_paid, .ref q_payment, .ref q_then, .int u_imaged, .ref q_image, .ref q_tapeSort, .ref q_tapeSize, .ref q_items])), (q_event, .inl (C 0, 16, .inl (upd u_event (2 * u_events : Int32).toNatClampNeg x1)))]) cx hw 1 rfl g41 dX9_event_76 rfl (fun H locs hw => ?_)
                refine lv_aload_n hx hb dX9_event_77 rfl (lv_at hl 0 rfl) ?_
                refine r_get (ci := 9) (v := .ref q_event) cx hw iX9 0 10 rfl rfl (by decide) wf_X9_27 rfl dX9_event_78 ?_
                refine lv_iconst (v := 2) hx hb dX9_event_81 (by decide) ?_
                refine lv_aload_n hx hb dX9_event_82 rfl (lv_at hl 0 rfl) ?_
                refine r_get (ci := 9) (v := .int u_events) cx hw iX9 0 9 rfl rfl (by decide) wf_X9_255 rfl dX9_event_83 ?_
                refine lv_imul hx hb dX9_event_86 ?_
                refine lv_iconst (v := 1) hx hb dX9_event_87 (by decide) ?_
                refine lv_iadd hx hb dX9_event_88 ?_
                refine lv_iload_n hx hb dX9_event_89 rfl (lv_at hl 2 rfl) ?_
                obtain ⟨g42, hF⟩ := gA_s hF
                refine r_iast (w2 := [(q_, .inr (9, [.int u_people, .ref q_owes, .ref q_denies, .int u_debts, .ref q_debt, .int u_cuts, .ref q_cut, .int u_seen, .ref q_sight, .int u_events, .ref q_event, .int u_inBook, .ref q_book, .int u_texted, .ref q_text, .ref q_path, .int u_rule, .int u_rings, .int u_size, .int u_least, .long u_worth, .ref q_ring, .ref q_balance, .ref q_left, .ref q_sum, .ref q_parts, .int u_groups, .ref q_group, .int u_paid, .ref q_payment, .ref q_then, .int u_imaged, .ref q_image, .ref q_tapeSort, .ref q_tapeSize, .ref q_items])), (q_event, .inl (C 0, 16, .inl (upd (upd u_event (2 * u_events : Int32).toNatClampNeg x1) ((2 * u_events) + 1 : Int32).toNatClampNeg x2)))]) cx hw 1 rfl g42 dX9_event_90 rfl (fun H locs hw => ?_)
                refine lv_aload_n hx hb dX9_event_91 rfl (lv_at hl 0 rfl) ?_
                refine lv_dup hx hb dX9_event_92 rfl ?_
                refine r_get (ci := 9) (v := .int u_events) cx hw iX9 0 9 rfl rfl (by decide) wf_X9_255 rfl dX9_event_93 ?_
                refine lv_iconst (v := 1) hx hb dX9_event_96 (by decide) ?_
                refine lv_iadd hx hb dX9_event_97 ?_
                refine r_put (ci := 9) (w2 := [(q_, .inr (9, [.int u_people, .ref q_owes, .ref q_denies, .int u_debts, .ref q_debt, .int u_cuts, .ref q_cut, .int u_seen, .ref q_sight, .int (u_events + 1), .ref q_event, .int u_inBook, .ref q_book, .int u_texted, .ref q_text, .ref q_path, .int u_rule, .int u_rings, .int u_size, .int u_least, .long u_worth, .ref q_ring, .ref q_balance, .ref q_left, .ref q_sum, .ref q_parts, .int u_groups, .ref q_group, .int u_paid, .ref q_payment, .ref q_then, .int u_imaged, .ref q_image, .ref q_tapeSort, .ref q_tapeSize, .ref q_items])), (q_event, .inl (C 0, 16, .inl (upd (upd u_event (2 * u_events : Int32).toNatClampNeg x1) ((2 * u_events) + 1 : Int32).toNatClampNeg x2)))]) cx hw iX9 tyX9_ok nmX9 0 9 rfl rfl (by decide) wf_X9_255 rfl rfl rfl rfl (Nat.le_of_ble_eq_true rfl) dX9_event_98 rfl (fun H locs hw => ?_)
                refine lv_aload_n hx hb dX9_event_101 rfl (lv_at hl 0 rfl) ?_
                refine r_get (ci := 9) (v := .int (u_events + 1)) cx hw iX9 0 9 rfl rfl (by decide) wf_X9_255 rfl dX9_event_102 ?_
                obtain rfl := Option.some.inj hF
                exact rt_i hret hw rfl dX9_event_105
              · replace hF := oi_t c40 hF
                refine lv_bipush (v := (-4)) hx hb dX9_event_62 (by decide) ?_
                obtain rfl := Option.some.inj hF
                exact rt_i hret hw rfl dX9_event_64
            · replace hF := oi_t c39 hF
              refine lv_bipush (v := (-2)) hx hb dX9_event_50 (by decide) ?_
              obtain rfl := Option.some.inj hF
              exact rt_i hret hw rfl dX9_event_52
        · replace hF := oi_t c30 hF
          refine lv_iconst (v := (-1)) hx hb dX9_event_34 (by decide) ?_
          obtain rfl := Option.some.inj hF
          exact rt_i hret hw rfl dX9_event_35
  · replace hF := oi_t c1 hF
    refine lv_aload_n hx hb dX9_event_5 rfl (lv_at hl 0 rfl) ?_
    refine lv_iconst (v := 0) hx hb dX9_event_6 (by decide) ?_
    refine r_put (ci := 9) (w2 := [(q_, .inr (9, [.int u_people, .ref q_owes, .ref q_denies, .int u_debts, .ref q_debt, .int u_cuts, .ref q_cut, .int u_seen, .ref q_sight, .int 0, .ref q_event, .int u_inBook, .ref q_book, .int u_texted, .ref q_text, .ref q_path, .int u_rule, .int u_rings, .int u_size, .int u_least, .long u_worth, .ref q_ring, .ref q_balance, .ref q_left, .ref q_sum, .ref q_parts, .int u_groups, .ref q_group, .int u_paid, .ref q_payment, .ref q_then, .int u_imaged, .ref q_image, .ref q_tapeSort, .ref q_tapeSize, .ref q_items])), (q_event, .inl (C 0, 16, .inl u_event))]) cx hw iX9 tyX9_ok nmX9 0 9 rfl rfl (by decide) wf_X9_255 rfl rfl rfl rfl (Nat.le_of_ble_eq_true rfl) dX9_event_7 rfl (fun H locs hw => ?_)
    refine lv_iconst (v := 0) hx hb dX9_event_10 (by decide) ?_
    obtain rfl := Option.some.inj hF
    exact rt_i hret hw rfl dX9_event_11
theorem dX9_happens_0 : decode cX9_happens 0 = .ok (.iload_n 1, 1) := by decide +kernel
theorem dX9_happens_1 : decode cX9_happens 1 = .ok (.tableswitch 54 0 2 #[27, 36, 45], 27) := by decide +kernel
theorem dX9_happens_28 : decode cX9_happens 28 = .ok (.aload_n 0, 1) := by decide +kernel
theorem dX9_happens_29 : decode cX9_happens 29 = .ok (.iload_n 2, 1) := by decide +kernel
theorem dX9_happens_30 : decode cX9_happens 30 = .ok (.iconst 0, 1) := by decide +kernel
theorem dX9_happens_31 : decode cX9_happens 31 = .ok (.invokevirtual 226, 3) := by decide +kernel
theorem dX9_happens_34 : decode cX9_happens 34 = .ok (.goto 26, 3) := by decide +kernel
theorem dX9_happens_37 : decode cX9_happens 37 = .ok (.aload_n 0, 1) := by decide +kernel
theorem dX9_happens_38 : decode cX9_happens 38 = .ok (.iload_n 2, 1) := by decide +kernel
theorem dX9_happens_39 : decode cX9_happens 39 = .ok (.iconst 1, 1) := by decide +kernel
theorem dX9_happens_40 : decode cX9_happens 40 = .ok (.invokevirtual 226, 3) := by decide +kernel
theorem dX9_happens_43 : decode cX9_happens 43 = .ok (.goto 17, 3) := by decide +kernel
theorem dX9_happens_46 : decode cX9_happens 46 = .ok (.aload_n 0, 1) := by decide +kernel
theorem dX9_happens_47 : decode cX9_happens 47 = .ok (.iload_n 2, 1) := by decide +kernel
theorem dX9_happens_48 : decode cX9_happens 48 = .ok (.invokevirtual 171, 3) := by decide +kernel
theorem dX9_happens_51 : decode cX9_happens 51 = .ok (.pop, 1) := by decide +kernel
theorem dX9_happens_52 : decode cX9_happens 52 = .ok (.goto 8, 3) := by decide +kernel
theorem dX9_happens_55 : decode cX9_happens 55 = .ok (.aload_n 0, 1) := by decide +kernel
theorem dX9_happens_56 : decode cX9_happens 56 = .ok (.invokevirtual 201, 3) := by decide +kernel
theorem dX9_happens_59 : decode cX9_happens 59 = .ok (.pop, 1) := by decide +kernel
theorem dX9_happens_60 : decode cX9_happens 60 = .ok (.return_, 1) := by decide +kernel
def fX9_happens (u_people : Int32) (u_debts : Int32) (u_cuts : Int32) (u_seen : Int32) (u_events : Int32) (u_inBook : Int32) (u_texted : Int32) (u_rule : Int32) (u_rings : Int32) (u_size : Int32) (u_least : Int32) (u_worth : Int64) (u_groups : Int32) (u_paid : Int32) (u_imaged : Int32) (u_owes : (Nat → Int32)) (u_denies : (Nat → Int32)) (u_debt : (Nat → Int32)) (u_path : (Nat → Int32)) (u_ring : (Nat → Int32)) (u_balance : (Nat → Int32)) (u_left : (Nat → Int32)) (u_sum : (Nat → Int32)) (u_parts : (Nat → Int32)) (u_group : (Nat → Int32)) (u_payment : (Nat → Int32)) (x1 : Int32) (x2 : Int32) : Option (Int32 × Int32 × Int32 × Int32 × Int32 × Int64 × Int32 × Int32 × (Nat → Int32) × (Nat → Int32) × (Nat → Int32) × (Nat → Int32) × (Nat → Int32) × (Nat → Int32) × (Nat → Int32) × (Nat → Int32) × (Nat → Int32) × (Nat → Int32)) := if x1 = 0 then ((fX9_clears u_people u_debts u_owes u_debt x2 0).bind (fun z2 => some (z2.1, u_rule, u_rings, u_size, u_least, u_worth, u_groups, u_paid, z2.2.1, z2.2.2, u_path, u_ring, u_balance, u_left, u_sum, u_parts, u_group, u_payment))) else (if x1 = 1 then ((fX9_clears u_people u_debts u_owes u_debt x2 1).bind (fun z4 => some (z4.1, u_rule, u_rings, u_size, u_least, u_worth, u_groups, u_paid, z4.2.1, z4.2.2, u_path, u_ring, u_balance, u_left, u_sum, u_parts, u_group, u_payment))) else (if x1 = 2 then ((fX9_cuts u_people u_debts u_cuts u_seen u_events u_inBook u_texted u_least u_groups u_paid u_imaged u_owes u_denies u_debt u_path u_ring x2).bind (fun z6 => some (z6.2.1, z6.2.2.1, z6.2.2.2.1, z6.2.2.2.2.1, z6.2.2.2.2.2.1, z6.2.2.2.2.2.2.1, u_groups, u_paid, z6.2.2.2.2.2.2.2.1, z6.2.2.2.2.2.2.2.2.1, z6.2.2.2.2.2.2.2.2.2.1, z6.2.2.2.2.2.2.2.2.2.2, u_balance, u_left, u_sum, u_parts, u_group, u_payment))) else ((fX9_settles u_people u_debts u_owes u_debt u_balance u_left u_sum u_parts u_group u_payment).bind (fun z7 => some (z7.2.1, u_rule, u_rings, u_size, u_least, u_worth, z7.2.2.1, z7.2.2.2.1, z7.2.2.2.2.1, z7.2.2.2.2.2.1, u_path, u_ring, z7.2.2.2.2.2.2.1, z7.2.2.2.2.2.2.2.1, z7.2.2.2.2.2.2.2.2.1, z7.2.2.2.2.2.2.2.2.2.1, z7.2.2.2.2.2.2.2.2.2.2.1, z7.2.2.2.2.2.2.2.2.2.2.2)))))
set_option maxRecDepth 20000 in
theorem CX9_happens (l : Launch) (D : va_G) (C : Nat → ClassId) (q_ q_owes q_denies q_debt q_cut q_sight q_event q_book q_text q_path q_ring q_balance q_left q_sum q_parts q_group q_payment q_then q_image q_tapeSort q_tapeSize q_items : Nat) (u_people : Int32) (u_debts : Int32) (u_cuts : Int32) (u_seen : Int32) (u_events : Int32) (u_inBook : Int32) (u_texted : Int32) (u_rule : Int32) (u_rings : Int32) (u_size : Int32) (u_least : Int32) (u_worth : Int64) (u_groups : Int32) (u_paid : Int32) (u_imaged : Int32) (u_owes : (Nat → Int32)) (u_denies : (Nat → Int32)) (u_debt : (Nat → Int32)) (u_path : (Nat → Int32)) (u_ring : (Nat → Int32)) (u_balance : (Nat → Int32)) (u_left : (Nat → Int32)) (u_sum : (Nat → Int32)) (u_parts : (Nat → Int32)) (u_group : (Nat → Int32)) (u_payment : (Nat → Int32)) (x1 : Int32) (x2 : Int32) (z : (Int32 × Int32 × Int32 × Int32 × Int32 × Int64 × Int32 × Int32 × (Nat → Int32) × (Nat → Int32) × (Nat → Int32) × (Nat → Int32) × (Nat → Int32) × (Nat → Int32) × (Nat → Int32) × (Nat → Int32) × (Nat → Int32) × (Nat → Int32))) (hF : fX9_happens u_people u_debts u_cuts u_seen u_events u_inBook u_texted u_rule u_rings u_size u_least u_worth u_groups u_paid u_imaged u_owes u_denies u_debt u_path u_ring u_balance u_left u_sum u_parts u_group u_payment x1 x2 = some z) : Ct l yX9_happens cX9_happens 3 none 14 D C [.ref q_, .int x1, .int x2] [(q_, .inr (9, [.int u_people, .ref q_owes, .ref q_denies, .int u_debts, .ref q_debt, .int u_cuts, .ref q_cut, .int u_seen, .ref q_sight, .int u_events, .ref q_event, .int u_inBook, .ref q_book, .int u_texted, .ref q_text, .ref q_path, .int u_rule, .int u_rings, .int u_size, .int u_least, .long u_worth, .ref q_ring, .ref q_balance, .ref q_left, .ref q_sum, .ref q_parts, .int u_groups, .ref q_group, .int u_paid, .ref q_payment, .ref q_then, .int u_imaged, .ref q_image, .ref q_tapeSort, .ref q_tapeSize, .ref q_items])), (q_owes, .inl (C 0, 36, .inl u_owes)), (q_denies, .inl (C 0, 36, .inl u_denies)), (q_debt, .inl (C 0, 30, .inl u_debt)), (q_path, .inl (C 0, 6, .inl u_path)), (q_ring, .inl (C 0, 6, .inl u_ring)), (q_balance, .inl (C 0, 6, .inl u_balance)), (q_left, .inl (C 0, 6, .inl u_left)), (q_sum, .inl (C 0, 64, .inl u_sum)), (q_parts, .inl (C 0, 64, .inl u_parts)), (q_group, .inl (C 0, 3, .inl u_group)), (q_payment, .inl (C 0, 30, .inl u_payment))] [(q_, .inr (9, [.int u_people, .ref q_owes, .ref q_denies, .int z.1, .ref q_debt, .int u_cuts, .ref q_cut, .int u_seen, .ref q_sight, .int u_events, .ref q_event, .int u_inBook, .ref q_book, .int u_texted, .ref q_text, .ref q_path, .int z.2.1, .int z.2.2.1, .int z.2.2.2.1, .int z.2.2.2.2.1, .long z.2.2.2.2.2.1, .ref q_ring, .ref q_balance, .ref q_left, .ref q_sum, .ref q_parts, .int z.2.2.2.2.2.2.1, .ref q_group, .int z.2.2.2.2.2.2.2.1, .ref q_payment, .ref q_then, .int u_imaged, .ref q_image, .ref q_tapeSort, .ref q_tapeSize, .ref q_items])), (q_owes, .inl (C 0, 36, .inl z.2.2.2.2.2.2.2.2.1)), (q_denies, .inl (C 0, 36, .inl u_denies)), (q_debt, .inl (C 0, 30, .inl z.2.2.2.2.2.2.2.2.2.1)), (q_path, .inl (C 0, 6, .inl z.2.2.2.2.2.2.2.2.2.2.1)), (q_ring, .inl (C 0, 6, .inl z.2.2.2.2.2.2.2.2.2.2.2.1)), (q_balance, .inl (C 0, 6, .inl z.2.2.2.2.2.2.2.2.2.2.2.2.1)), (q_left, .inl (C 0, 6, .inl z.2.2.2.2.2.2.2.2.2.2.2.2.2.1)), (q_sum, .inl (C 0, 64, .inl z.2.2.2.2.2.2.2.2.2.2.2.2.2.2.1)), (q_parts, .inl (C 0, 64, .inl z.2.2.2.2.2.2.2.2.2.2.2.2.2.2.2.1)), (q_group, .inl (C 0, 3, .inl z.2.2.2.2.2.2.2.2.2.2.2.2.2.2.2.2.1)), (q_payment, .inl (C 0, 30, .inl z.2.2.2.2.2.2.2.2.2.2.2.2.2.2.2.2.2))] none := by
  refine Ct_of (by decide) (Nat.le_of_ble_eq_true rfl) ?_
  intro p e R s m args below meth c A Q H locs ls cx hw hl hret
  have cx : CX p m c s args RX9 cX9_happens 3 D C A R 14 := cx
  have hx := cx.1
  have hb := cx.2.1
  have hl : lv_has ls 3 [(0, .ref q_), (1, .int x1), (2, .int x2)] := hl
  rw [fX9_happens.eq_1] at hF
  refine lv_iload_n hx hb dX9_happens_0 rfl (lv_at hl 1 rfl) ?_
  by_cases c1 : x1 = 0
  · replace hF := oi_t c1 hF
    refine lv_tableIn (tgt := 28) (off := 27) hx hb dX9_happens_1 (by rw [c1]; decide) (by rw [c1]; decide) (by rw [c1]; decide +kernel) (by decide) ?_
    refine lv_aload_n hx hb dX9_happens_28 rfl (lv_at hl 0 rfl) ?_
    refine lv_iload_n hx hb dX9_happens_29 rfl (lv_at hl 2 rfl) ?_
    refine lv_iconst (v := 0) hx hb dX9_happens_30 (by decide) ?_
    obtain ⟨z2, hz2, hF⟩ := ob hF
    refine cV (wr := [(q_denies, .inl (C 0, 36, .inl u_denies)), (q_path, .inl (C 0, 6, .inl u_path)), (q_ring, .inl (C 0, 6, .inl u_ring)), (q_balance, .inl (C 0, 6, .inl u_balance)), (q_left, .inl (C 0, 6, .inl u_left)), (q_sum, .inl (C 0, 64, .inl u_sum)), (q_parts, .inl (C 0, 64, .inl u_parts)), (q_group, .inl (C 0, 3, .inl u_group)), (q_payment, .inl (C 0, 30, .inl u_payment))]) (w2 := [(q_, .inr (9, [.int u_people, .ref q_owes, .ref q_denies, .int z2.1, .ref q_debt, .int u_cuts, .ref q_cut, .int u_seen, .ref q_sight, .int u_events, .ref q_event, .int u_inBook, .ref q_book, .int u_texted, .ref q_text, .ref q_path, .int u_rule, .int u_rings, .int u_size, .int u_least, .long u_worth, .ref q_ring, .ref q_balance, .ref q_left, .ref q_sum, .ref q_parts, .int u_groups, .ref q_group, .int u_paid, .ref q_payment, .ref q_then, .int u_imaged, .ref q_image, .ref q_tapeSort, .ref q_tapeSize, .ref q_items])), (q_owes, .inl (C 0, 36, .inl z2.2.1)), (q_denies, .inl (C 0, 36, .inl u_denies)), (q_debt, .inl (C 0, 30, .inl z2.2.2)), (q_path, .inl (C 0, 6, .inl u_path)), (q_ring, .inl (C 0, 6, .inl u_ring)), (q_balance, .inl (C 0, 6, .inl u_balance)), (q_left, .inl (C 0, 6, .inl u_left)), (q_sum, .inl (C 0, 64, .inl u_sum)), (q_parts, .inl (C 0, 64, .inl u_parts)), (q_group, .inl (C 0, 3, .inl u_group)), (q_payment, .inl (C 0, 30, .inl u_payment))]) (st2 := []) cx (CX9_clears l D C q_ q_owes q_denies q_debt q_cut q_sight q_event q_book q_text q_path q_ring q_balance q_left q_sum q_parts q_group q_payment q_then q_image q_tapeSort q_tapeSize q_items u_people u_debts u_cuts u_seen u_events u_inBook u_texted u_rule u_rings u_size u_least u_worth u_groups u_paid u_imaged u_owes u_debt x2 0 z2 hz2) lk_X9_226 my_X9_clears ml_X9_clears ⟨by decide, by decide⟩ hw [0, 1, 3] [2, 4, 5, 6, 7, 8, 9, 10, 11] [9, 10, 0, 11, 1, 2, 3, 4, 5, 6, 7, 8] rfl rfl (by decide) rfl rfl rfl rfl (Nat.le_of_ble_eq_true rfl) dX9_happens_31 rfl (fun H locs hw => ?_) hl.1
    refine lv_goto (tgt := 60) hx hb dX9_happens_34 (by decide) ?_
    obtain rfl := Option.some.inj hF
    exact rt_v hret hw rfl dX9_happens_60
  replace hF := oi_f c1 hF
  by_cases c3 : x1 = 1
  · replace hF := oi_t c3 hF
    refine lv_tableIn (tgt := 37) (off := 36) hx hb dX9_happens_1 (by rw [c3]; decide) (by rw [c3]; decide) (by rw [c3]; decide +kernel) (by decide) ?_
    refine lv_aload_n hx hb dX9_happens_37 rfl (lv_at hl 0 rfl) ?_
    refine lv_iload_n hx hb dX9_happens_38 rfl (lv_at hl 2 rfl) ?_
    refine lv_iconst (v := 1) hx hb dX9_happens_39 (by decide) ?_
    obtain ⟨z4, hz4, hF⟩ := ob hF
    refine cV (wr := [(q_denies, .inl (C 0, 36, .inl u_denies)), (q_path, .inl (C 0, 6, .inl u_path)), (q_ring, .inl (C 0, 6, .inl u_ring)), (q_balance, .inl (C 0, 6, .inl u_balance)), (q_left, .inl (C 0, 6, .inl u_left)), (q_sum, .inl (C 0, 64, .inl u_sum)), (q_parts, .inl (C 0, 64, .inl u_parts)), (q_group, .inl (C 0, 3, .inl u_group)), (q_payment, .inl (C 0, 30, .inl u_payment))]) (w2 := [(q_, .inr (9, [.int u_people, .ref q_owes, .ref q_denies, .int z4.1, .ref q_debt, .int u_cuts, .ref q_cut, .int u_seen, .ref q_sight, .int u_events, .ref q_event, .int u_inBook, .ref q_book, .int u_texted, .ref q_text, .ref q_path, .int u_rule, .int u_rings, .int u_size, .int u_least, .long u_worth, .ref q_ring, .ref q_balance, .ref q_left, .ref q_sum, .ref q_parts, .int u_groups, .ref q_group, .int u_paid, .ref q_payment, .ref q_then, .int u_imaged, .ref q_image, .ref q_tapeSort, .ref q_tapeSize, .ref q_items])), (q_owes, .inl (C 0, 36, .inl z4.2.1)), (q_denies, .inl (C 0, 36, .inl u_denies)), (q_debt, .inl (C 0, 30, .inl z4.2.2)), (q_path, .inl (C 0, 6, .inl u_path)), (q_ring, .inl (C 0, 6, .inl u_ring)), (q_balance, .inl (C 0, 6, .inl u_balance)), (q_left, .inl (C 0, 6, .inl u_left)), (q_sum, .inl (C 0, 64, .inl u_sum)), (q_parts, .inl (C 0, 64, .inl u_parts)), (q_group, .inl (C 0, 3, .inl u_group)), (q_payment, .inl (C 0, 30, .inl u_payment))]) (st2 := []) cx (CX9_clears l D C q_ q_owes q_denies q_debt q_cut q_sight q_event q_book q_text q_path q_ring q_balance q_left q_sum q_parts q_group q_payment q_then q_image q_tapeSort q_tapeSize q_items u_people u_debts u_cuts u_seen u_events u_inBook u_texted u_rule u_rings u_size u_least u_worth u_groups u_paid u_imaged u_owes u_debt x2 1 z4 hz4) lk_X9_226 my_X9_clears ml_X9_clears ⟨by decide, by decide⟩ hw [0, 1, 3] [2, 4, 5, 6, 7, 8, 9, 10, 11] [9, 10, 0, 11, 1, 2, 3, 4, 5, 6, 7, 8] rfl rfl (by decide) rfl rfl rfl rfl (Nat.le_of_ble_eq_true rfl) dX9_happens_40 rfl (fun H locs hw => ?_) hl.1
    refine lv_goto (tgt := 60) hx hb dX9_happens_43 (by decide) ?_
    obtain rfl := Option.some.inj hF
    exact rt_v hret hw rfl dX9_happens_60
  replace hF := oi_f c3 hF
  by_cases c5 : x1 = 2
  · replace hF := oi_t c5 hF
    refine lv_tableIn (tgt := 46) (off := 45) hx hb dX9_happens_1 (by rw [c5]; decide) (by rw [c5]; decide) (by rw [c5]; decide +kernel) (by decide) ?_
    refine lv_aload_n hx hb dX9_happens_46 rfl (lv_at hl 0 rfl) ?_
    refine lv_iload_n hx hb dX9_happens_47 rfl (lv_at hl 2 rfl) ?_
    obtain ⟨z6, hz6, hF⟩ := ob hF
    refine cV (wr := [(q_balance, .inl (C 0, 6, .inl u_balance)), (q_left, .inl (C 0, 6, .inl u_left)), (q_sum, .inl (C 0, 64, .inl u_sum)), (q_parts, .inl (C 0, 64, .inl u_parts)), (q_group, .inl (C 0, 3, .inl u_group)), (q_payment, .inl (C 0, 30, .inl u_payment))]) (w2 := [(q_, .inr (9, [.int u_people, .ref q_owes, .ref q_denies, .int z6.2.1, .ref q_debt, .int u_cuts, .ref q_cut, .int u_seen, .ref q_sight, .int u_events, .ref q_event, .int u_inBook, .ref q_book, .int u_texted, .ref q_text, .ref q_path, .int z6.2.2.1, .int z6.2.2.2.1, .int z6.2.2.2.2.1, .int z6.2.2.2.2.2.1, .long z6.2.2.2.2.2.2.1, .ref q_ring, .ref q_balance, .ref q_left, .ref q_sum, .ref q_parts, .int u_groups, .ref q_group, .int u_paid, .ref q_payment, .ref q_then, .int u_imaged, .ref q_image, .ref q_tapeSort, .ref q_tapeSize, .ref q_items])), (q_owes, .inl (C 0, 36, .inl z6.2.2.2.2.2.2.2.1)), (q_denies, .inl (C 0, 36, .inl u_denies)), (q_debt, .inl (C 0, 30, .inl z6.2.2.2.2.2.2.2.2.1)), (q_path, .inl (C 0, 6, .inl z6.2.2.2.2.2.2.2.2.2.1)), (q_ring, .inl (C 0, 6, .inl z6.2.2.2.2.2.2.2.2.2.2)), (q_balance, .inl (C 0, 6, .inl u_balance)), (q_left, .inl (C 0, 6, .inl u_left)), (q_sum, .inl (C 0, 64, .inl u_sum)), (q_parts, .inl (C 0, 64, .inl u_parts)), (q_group, .inl (C 0, 3, .inl u_group)), (q_payment, .inl (C 0, 30, .inl u_payment))]) (st2 := [.int z6.1]) cx (CX9_cuts l D C q_ q_owes q_denies q_debt q_cut q_sight q_event q_book q_text q_path q_ring q_balance q_left q_sum q_parts q_group q_payment q_then q_image q_tapeSort q_tapeSize q_items u_people u_debts u_cuts u_seen u_events u_inBook u_texted u_rule u_rings u_size u_least u_worth u_groups u_paid u_imaged u_owes u_denies u_debt u_path u_ring x2 z6 hz6) lk_X9_171 my_X9_cuts ml_X9_cuts ⟨by decide, by decide⟩ hw [0, 1, 2, 3, 4, 5] [6, 7, 8, 9, 10, 11] [6, 7, 8, 9, 10, 11, 0, 1, 2, 3, 4, 5] rfl rfl (by decide) rfl rfl rfl rfl (Nat.le_of_ble_eq_true rfl) dX9_happens_48 rfl (fun H locs hw => ?_) hl.1
    refine lv_pop hx hb dX9_happens_51 rfl ?_
    refine lv_goto (tgt := 60) hx hb dX9_happens_52 (by decide) ?_
    obtain rfl := Option.some.inj hF
    exact rt_v hret hw rfl dX9_happens_60
  replace hF := oi_f c5 hF
  have t1 := ti_ne (n := 0) (by decide) c1
  have t3 := ti_ne (n := 1) (by decide) c3
  have t5 := ti_ne (n := 2) (by decide) c5
  refine lv_tableOut (tgt := 55) hx hb dX9_happens_1 (by omega) (by decide) ?_
  refine lv_aload_n hx hb dX9_happens_55 rfl (lv_at hl 0 rfl) ?_
  obtain ⟨z7, hz7, hF⟩ := ob hF
  refine cV (wr := [(q_denies, .inl (C 0, 36, .inl u_denies)), (q_path, .inl (C 0, 6, .inl u_path)), (q_ring, .inl (C 0, 6, .inl u_ring))]) (w2 := [(q_, .inr (9, [.int u_people, .ref q_owes, .ref q_denies, .int z7.2.1, .ref q_debt, .int u_cuts, .ref q_cut, .int u_seen, .ref q_sight, .int u_events, .ref q_event, .int u_inBook, .ref q_book, .int u_texted, .ref q_text, .ref q_path, .int u_rule, .int u_rings, .int u_size, .int u_least, .long u_worth, .ref q_ring, .ref q_balance, .ref q_left, .ref q_sum, .ref q_parts, .int z7.2.2.1, .ref q_group, .int z7.2.2.2.1, .ref q_payment, .ref q_then, .int u_imaged, .ref q_image, .ref q_tapeSort, .ref q_tapeSize, .ref q_items])), (q_owes, .inl (C 0, 36, .inl z7.2.2.2.2.1)), (q_denies, .inl (C 0, 36, .inl u_denies)), (q_debt, .inl (C 0, 30, .inl z7.2.2.2.2.2.1)), (q_path, .inl (C 0, 6, .inl u_path)), (q_ring, .inl (C 0, 6, .inl u_ring)), (q_balance, .inl (C 0, 6, .inl z7.2.2.2.2.2.2.1)), (q_left, .inl (C 0, 6, .inl z7.2.2.2.2.2.2.2.1)), (q_sum, .inl (C 0, 64, .inl z7.2.2.2.2.2.2.2.2.1)), (q_parts, .inl (C 0, 64, .inl z7.2.2.2.2.2.2.2.2.2.1)), (q_group, .inl (C 0, 3, .inl z7.2.2.2.2.2.2.2.2.2.2.1)), (q_payment, .inl (C 0, 30, .inl z7.2.2.2.2.2.2.2.2.2.2.2))]) (st2 := [.int z7.1]) cx (CX9_settles l D C q_ q_owes q_denies q_debt q_cut q_sight q_event q_book q_text q_path q_ring q_balance q_left q_sum q_parts q_group q_payment q_then q_image q_tapeSort q_tapeSize q_items u_people u_debts u_cuts u_seen u_events u_inBook u_texted u_rule u_rings u_size u_least u_worth u_groups u_paid u_imaged u_owes u_debt u_balance u_left u_sum u_parts u_group u_payment z7 hz7) lk_X9_201 my_X9_settles ml_X9_settles ⟨by decide, by decide⟩ hw [0, 1, 3, 6, 7, 8, 9, 10, 11] [2, 4, 5] [3, 4, 0, 5, 1, 2, 6, 7, 8, 9, 10, 11] rfl rfl (by decide) rfl rfl rfl rfl (Nat.le_of_ble_eq_true rfl) dX9_happens_56 rfl (fun H locs hw => ?_) hl.1
  refine lv_pop hx hb dX9_happens_59 rfl ?_
  obtain rfl := Option.some.inj hF
  exact rt_v hret hw rfl dX9_happens_60
theorem lk_X9_258 : Cond.methodLink RX9 258 yX9_happens ∈ gdt := gdt_of 1202 (by decide +kernel) (by decide +kernel)
theorem my_X9_happens : (yX9_happens.cls ≠ "java/lang/invoke/MethodHandle" ∧ yX9_happens.cls ≠ "java/lang/invoke/VarHandle") ∧ Cond.instanceMethod yX9_happens ∈ gdt ∧ Cond.selects yX9_happens.cls yX9_happens yX9_happens ∈ gdt ∧ Cond.initialized yX9_happens.cls ∈ gdt ∧ Cond.code yX9_happens cX9_happens 3 none ∈ gdt := ⟨⟨by decide +kernel, by decide +kernel⟩, gdt_of 1204 (by decide +kernel) (by decide +kernel), gdt_of 65 (by decide +kernel) (by decide +kernel), gdt_of 77 (by decide +kernel) (by decide +kernel), gdt_of 1205 (by decide +kernel) (by decide +kernel)⟩
theorem ml_X9_happens : (parseMethodDescriptor yX9_happens.desc).map (fun d => d.parameters.length) = some 2 := by decide +kernel
theorem dX9_after_0 : decode cX9_after 0 = .ok (.iload_n 1, 1) := by decide +kernel
theorem dX9_after_1 : decode cX9_after 1 = .ok (.iconst 0, 1) := by decide +kernel
theorem dX9_after_2 : decode cX9_after 2 = .ok (.iconst 2, 1) := by decide +kernel
theorem dX9_after_3 : decode cX9_after 3 = .ok (.invokestatic 80, 3) := by decide +kernel
theorem dX9_after_6 : decode cX9_after 6 = .ok (.ifCond .ne 5, 3) := by decide +kernel
theorem dX9_after_9 : decode cX9_after 9 = .ok (.iconst (-1), 1) := by decide +kernel
theorem dX9_after_10 : decode cX9_after 10 = .ok (.ireturn, 1) := by decide +kernel
theorem dX9_after_11 : decode cX9_after 11 = .ok (.aload_n 0, 1) := by decide +kernel
theorem dX9_after_12 : decode cX9_after 12 = .ok (.invokevirtual 223, 3) := by decide +kernel
theorem dX9_after_15 : decode cX9_after 15 = .ok (.iconst 0, 1) := by decide +kernel
theorem dX9_after_16 : decode cX9_after 16 = .ok (.istore_n 2, 1) := by decide +kernel
theorem dX9_after_17 : decode cX9_after 17 = .ok (.iload_n 2, 1) := by decide +kernel
theorem dX9_after_18 : decode cX9_after 18 = .ok (.aload_n 0, 1) := by decide +kernel
theorem dX9_after_19 : decode cX9_after 19 = .ok (.getfield 255, 3) := by decide +kernel
theorem dX9_after_22 : decode cX9_after 22 = .ok (.if_icmp .ge 31, 3) := by decide +kernel
theorem dX9_after_25 : decode cX9_after 25 = .ok (.aload_n 0, 1) := by decide +kernel
theorem dX9_after_26 : decode cX9_after 26 = .ok (.aload_n 0, 1) := by decide +kernel
theorem dX9_after_27 : decode cX9_after 27 = .ok (.getfield 27, 3) := by decide +kernel
theorem dX9_after_30 : decode cX9_after 30 = .ok (.iconst 2, 1) := by decide +kernel
theorem dX9_after_31 : decode cX9_after 31 = .ok (.iload_n 2, 1) := by decide +kernel
theorem dX9_after_32 : decode cX9_after 32 = .ok (.imul, 1) := by decide +kernel
theorem dX9_after_33 : decode cX9_after 33 = .ok (.iaload, 1) := by decide +kernel
theorem dX9_after_34 : decode cX9_after 34 = .ok (.aload_n 0, 1) := by decide +kernel
theorem dX9_after_35 : decode cX9_after 35 = .ok (.getfield 27, 3) := by decide +kernel
theorem dX9_after_38 : decode cX9_after 38 = .ok (.iconst 2, 1) := by decide +kernel
theorem dX9_after_39 : decode cX9_after 39 = .ok (.iload_n 2, 1) := by decide +kernel
theorem dX9_after_40 : decode cX9_after 40 = .ok (.imul, 1) := by decide +kernel
theorem dX9_after_41 : decode cX9_after 41 = .ok (.iconst 1, 1) := by decide +kernel
theorem dX9_after_42 : decode cX9_after 42 = .ok (.iadd, 1) := by decide +kernel
theorem dX9_after_43 : decode cX9_after 43 = .ok (.iaload, 1) := by decide +kernel
theorem dX9_after_44 : decode cX9_after 44 = .ok (.invokevirtual 258, 3) := by decide +kernel
theorem dX9_after_47 : decode cX9_after 47 = .ok (.iinc 2 1, 3) := by decide +kernel
theorem dX9_after_50 : decode cX9_after 50 = .ok (.goto (-33), 3) := by decide +kernel
theorem dX9_after_53 : decode cX9_after 53 = .ok (.iload_n 1, 1) := by decide +kernel
theorem dX9_after_54 : decode cX9_after 54 = .ok (.ifCond .ne 10, 3) := by decide +kernel
theorem dX9_after_57 : decode cX9_after 57 = .ok (.aload_n 0, 1) := by decide +kernel
theorem dX9_after_58 : decode cX9_after 58 = .ok (.invokevirtual 208, 3) := by decide +kernel
theorem dX9_after_61 : decode cX9_after 61 = .ok (.goto 19, 3) := by decide +kernel
theorem dX9_after_64 : decode cX9_after 64 = .ok (.iload_n 1, 1) := by decide +kernel
theorem dX9_after_65 : decode cX9_after 65 = .ok (.iconst 1, 1) := by decide +kernel
theorem dX9_after_66 : decode cX9_after 66 = .ok (.if_icmp .ne 10, 3) := by decide +kernel
theorem dX9_after_69 : decode cX9_after 69 = .ok (.aload_n 0, 1) := by decide +kernel
theorem dX9_after_70 : decode cX9_after 70 = .ok (.getfield 88, 3) := by decide +kernel
theorem dX9_after_73 : decode cX9_after 73 = .ok (.goto 7, 3) := by decide +kernel
theorem dX9_after_76 : decode cX9_after 76 = .ok (.aload_n 0, 1) := by decide +kernel
theorem dX9_after_77 : decode cX9_after 77 = .ok (.invokevirtual 217, 3) := by decide +kernel
theorem dX9_after_80 : decode cX9_after 80 = .ok (.istore_n 2, 1) := by decide +kernel
theorem dX9_after_81 : decode cX9_after 81 = .ok (.aload_n 0, 1) := by decide +kernel
theorem dX9_after_82 : decode cX9_after 82 = .ok (.invokevirtual 230, 3) := by decide +kernel
theorem dX9_after_85 : decode cX9_after 85 = .ok (.iload_n 2, 1) := by decide +kernel
theorem dX9_after_86 : decode cX9_after 86 = .ok (.ireturn, 1) := by decide +kernel
def fX9_after_L17 (k53 : Int32 → Int32 → Int32 → Int32 → Int32 → Int64 → Int32 → Int32 → (Nat → Int32) → (Nat → Int32) → (Nat → Int32) → (Nat → Int32) → (Nat → Int32) → (Nat → Int32) → (Nat → Int32) → (Nat → Int32) → (Nat → Int32) → (Nat → Int32) → Option (Int32 × Int32 × Int32 × Int32 × Int32 × Int32 × Int64 × Int32 × Int32 × (Nat → Int32) × (Nat → Int32) × (Nat → Int32) × (Nat → Int32) × (Nat → Int32) × (Nat → Int32) × (Nat → Int32) × (Nat → Int32) × (Nat → Int32) × (Nat → Int32) × (Nat → Int32))) (u_people : Int32) (u_cuts : Int32) (u_seen : Int32) (u_events : Int32) (u_inBook : Int32) (u_texted : Int32) (u_imaged : Int32) (u_denies : (Nat → Int32)) (u_event : (Nat → Int32)) : Nat → Int32 → Int32 → Int32 → Int32 → Int32 → Int32 → Int64 → Int32 → Int32 → (Nat → Int32) → (Nat → Int32) → (Nat → Int32) → (Nat → Int32) → (Nat → Int32) → (Nat → Int32) → (Nat → Int32) → (Nat → Int32) → (Nat → Int32) → (Nat → Int32) → Option (Int32 × Int32 × Int32 × Int32 × Int32 × Int32 × Int64 × Int32 × Int32 × (Nat → Int32) × (Nat → Int32) × (Nat → Int32) × (Nat → Int32) × (Nat → Int32) × (Nat → Int32) × (Nat → Int32) × (Nat → Int32) × (Nat → Int32) × (Nat → Int32) × (Nat → Int32))
  | 0, _, _, _, _, _, _, _, _, _, _, _, _, _, _, _, _, _, _, _ => none
  | n + 1, x2, u_debts, u_rule, u_rings, u_size, u_least, u_worth, u_groups, u_paid, u_owes, u_debt, u_path, u_ring, u_balance, u_left, u_sum, u_parts, u_group, u_payment => if u_events ≤ x2 then (k53 u_debts u_rule u_rings u_size u_least u_worth u_groups u_paid u_owes u_debt u_path u_ring u_balance u_left u_sum u_parts u_group u_payment) else (gA (2 * x2) 16 (gA ((2 * x2) + 1) 16 ((fX9_happens u_people u_debts u_cuts u_seen u_events u_inBook u_texted u_rule u_rings u_size u_least u_worth u_groups u_paid u_imaged u_owes u_denies u_debt u_path u_ring u_balance u_left u_sum u_parts u_group u_payment (u_event (2 * x2).toNatClampNeg) (u_event ((2 * x2) + 1).toNatClampNeg)).bind (fun z7 => fX9_after_L17 k53 u_people u_cuts u_seen u_events u_inBook u_texted u_imaged u_denies u_event n (x2 + 1) z7.1 z7.2.1 z7.2.2.1 z7.2.2.2.1 z7.2.2.2.2.1 z7.2.2.2.2.2.1 z7.2.2.2.2.2.2.1 z7.2.2.2.2.2.2.2.1 z7.2.2.2.2.2.2.2.2.1 z7.2.2.2.2.2.2.2.2.2.1 z7.2.2.2.2.2.2.2.2.2.2.1 z7.2.2.2.2.2.2.2.2.2.2.2.1 z7.2.2.2.2.2.2.2.2.2.2.2.2.1 z7.2.2.2.2.2.2.2.2.2.2.2.2.2.1 z7.2.2.2.2.2.2.2.2.2.2.2.2.2.2.1 z7.2.2.2.2.2.2.2.2.2.2.2.2.2.2.2.1 z7.2.2.2.2.2.2.2.2.2.2.2.2.2.2.2.2.1 z7.2.2.2.2.2.2.2.2.2.2.2.2.2.2.2.2.2))))
def fX9_after (u_people : Int32) (u_debts : Int32) (u_cuts : Int32) (u_seen : Int32) (u_events : Int32) (u_inBook : Int32) (u_texted : Int32) (u_rule : Int32) (u_rings : Int32) (u_size : Int32) (u_least : Int32) (u_worth : Int64) (u_groups : Int32) (u_paid : Int32) (u_imaged : Int32) (u_owes : (Nat → Int32)) (u_denies : (Nat → Int32)) (u_debt : (Nat → Int32)) (u_event : (Nat → Int32)) (u_path : (Nat → Int32)) (u_ring : (Nat → Int32)) (u_balance : (Nat → Int32)) (u_left : (Nat → Int32)) (u_sum : (Nat → Int32)) (u_parts : (Nat → Int32)) (u_group : (Nat → Int32)) (u_payment : (Nat → Int32)) (u_then : (Nat → Int32)) (x1 : Int32) : Option (Int32 × Int32 × Int32 × Int32 × Int32 × Int32 × Int64 × Int32 × Int32 × (Nat → Int32) × (Nat → Int32) × (Nat → Int32) × (Nat → Int32) × (Nat → Int32) × (Nat → Int32) × (Nat → Int32) × (Nat → Int32) × (Nat → Int32) × (Nat → Int32) × (Nat → Int32)) := (fX9_within x1 0 2).bind (fun z1 => if z1 = 0 then (some ((-1), u_debts, u_rule, u_rings, u_size, u_least, u_worth, u_groups, u_paid, u_owes, u_debt, u_path, u_ring, u_balance, u_left, u_sum, u_parts, u_group, u_payment, u_then)) else ((fX9_keeps u_debts u_owes u_debt u_then).bind (fun z3 => fX9_after_L17 (fun (u_debts_8 : Int32) (u_rule_8 : Int32) (u_rings_8 : Int32) (u_size_8 : Int32) (u_least_8 : Int32) (u_worth_8 : Int64) (u_groups_8 : Int32) (u_paid_8 : Int32) (u_owes_8 : (Nat → Int32)) (u_debt_8 : (Nat → Int32)) (u_path_8 : (Nat → Int32)) (u_ring_8 : (Nat → Int32)) (u_balance_8 : (Nat → Int32)) (u_left_8 : (Nat → Int32)) (u_sum_8 : (Nat → Int32)) (u_parts_8 : (Nat → Int32)) (u_group_8 : (Nat → Int32)) (u_payment_8 : (Nat → Int32)) => if x1 = 0 then ((fX9_total u_debts_8 u_owes_8 u_debt_8).bind (fun z14 => (fX9_returns u_owes_8 u_debt_8 z3).bind (fun z15 => some (z14, z15.1, u_rule_8, u_rings_8, u_size_8, u_least_8, u_worth_8, u_groups_8, u_paid_8, z15.2.1, z15.2.2, u_path_8, u_ring_8, u_balance_8, u_left_8, u_sum_8, u_parts_8, u_group_8, u_payment_8, z3)))) else (if x1 = 1 then ((fX9_returns u_owes_8 u_debt_8 z3).bind (fun z13 => some (u_debts_8, z13.1, u_rule_8, u_rings_8, u_size_8, u_least_8, u_worth_8, u_groups_8, u_paid_8, z13.2.1, z13.2.2, u_path_8, u_ring_8, u_balance_8, u_left_8, u_sum_8, u_parts_8, u_group_8, u_payment_8, z3))) else ((fX9_fewest u_people u_owes_8 u_balance_8 u_left_8 u_sum_8 u_parts_8 u_group_8 u_payment_8).bind (fun z11 => (fX9_returns u_owes_8 u_debt_8 z3).bind (fun z12 => some (z11.1, z12.1, u_rule_8, u_rings_8, u_size_8, u_least_8, u_worth_8, z11.2.1, z11.2.2.1, z12.2.1, z12.2.2, u_path_8, u_ring_8, z11.2.2.2.1, z11.2.2.2.2.1, z11.2.2.2.2.2.1, z11.2.2.2.2.2.2.1, z11.2.2.2.2.2.2.2.1, z11.2.2.2.2.2.2.2.2, z3)))))) u_people u_cuts u_seen u_events u_inBook u_texted u_imaged u_denies u_event 400 0 u_debts u_rule u_rings u_size u_least u_worth u_groups u_paid u_owes u_debt u_path u_ring u_balance u_left u_sum u_parts u_group u_payment)))
set_option maxRecDepth 20000 in
theorem LX9_after_17 {p : Program} {l : Launch} {e : Env} {R : Room} {s : State} {m : MethodId} {args : Array Value} {below : List Frame} {meth : Method} {c : Code} {Q : State → Prop} {D : va_G} {C : Nat → ClassId} {A : Nat → Prop} (cx : CX p m c s args RX9 cX9_after 3 D C A R 15) {q_ q_owes q_denies q_debt q_cut q_sight q_event q_book q_text q_path q_ring q_balance q_left q_sum q_parts q_group q_payment q_then q_image q_tapeSort q_tapeSize q_items : Nat} {u_people : Int32} {u_cuts : Int32} {u_seen : Int32} {u_events : Int32} {u_inBook : Int32} {u_texted : Int32} {u_imaged : Int32} {u_denies : (Nat → Int32)} {u_event : (Nat → Int32)} {u_then : (Nat → Int32)} {x1 : Int32} {z : (Int32 × Int32 × Int32 × Int32 × Int32 × Int32 × Int64 × Int32 × Int32 × (Nat → Int32) × (Nat → Int32) × (Nat → Int32) × (Nat → Int32) × (Nat → Int32) × (Nat → Int32) × (Nat → Int32) × (Nat → Int32) × (Nat → Int32) × (Nat → Int32) × (Nat → Int32))} (hret : RT p l e R s m args below meth c Q D A cX9_after (some .int) [(q_, .inr (9, [.int u_people, .ref q_owes, .ref q_denies, .int z.2.1, .ref q_debt, .int u_cuts, .ref q_cut, .int u_seen, .ref q_sight, .int u_events, .ref q_event, .int u_inBook, .ref q_book, .int u_texted, .ref q_text, .ref q_path, .int z.2.2.1, .int z.2.2.2.1, .int z.2.2.2.2.1, .int z.2.2.2.2.2.1, .long z.2.2.2.2.2.2.1, .ref q_ring, .ref q_balance, .ref q_left, .ref q_sum, .ref q_parts, .int z.2.2.2.2.2.2.2.1, .ref q_group, .int z.2.2.2.2.2.2.2.2.1, .ref q_payment, .ref q_then, .int u_imaged, .ref q_image, .ref q_tapeSort, .ref q_tapeSize, .ref q_items])), (q_owes, .inl (C 0, 36, .inl z.2.2.2.2.2.2.2.2.2.1)), (q_denies, .inl (C 0, 36, .inl u_denies)), (q_debt, .inl (C 0, 30, .inl z.2.2.2.2.2.2.2.2.2.2.1)), (q_event, .inl (C 0, 16, .inl u_event)), (q_path, .inl (C 0, 6, .inl z.2.2.2.2.2.2.2.2.2.2.2.1)), (q_ring, .inl (C 0, 6, .inl z.2.2.2.2.2.2.2.2.2.2.2.2.1)), (q_balance, .inl (C 0, 6, .inl z.2.2.2.2.2.2.2.2.2.2.2.2.2.1)), (q_left, .inl (C 0, 6, .inl z.2.2.2.2.2.2.2.2.2.2.2.2.2.2.1)), (q_sum, .inl (C 0, 64, .inl z.2.2.2.2.2.2.2.2.2.2.2.2.2.2.2.1)), (q_parts, .inl (C 0, 64, .inl z.2.2.2.2.2.2.2.2.2.2.2.2.2.2.2.2.1)), (q_group, .inl (C 0, 3, .inl z.2.2.2.2.2.2.2.2.2.2.2.2.2.2.2.2.2.1)), (q_payment, .inl (C 0, 30, .inl z.2.2.2.2.2.2.2.2.2.2.2.2.2.2.2.2.2.2.1)), (q_then, .inl (C 0, 67, .inl z.2.2.2.2.2.2.2.2.2.2.2.2.2.2.2.2.2.2.2))] (some (.int z.1))) {k53 : Int32 → Int32 → Int32 → Int32 → Int32 → Int64 → Int32 → Int32 → (Nat → Int32) → (Nat → Int32) → (Nat → Int32) → (Nat → Int32) → (Nat → Int32) → (Nat → Int32) → (Nat → Int32) → (Nat → Int32) → (Nat → Int32) → (Nat → Int32) → Option (Int32 × Int32 × Int32 × Int32 × Int32 × Int32 × Int64 × Int32 × Int32 × (Nat → Int32) × (Nat → Int32) × (Nat → Int32) × (Nat → Int32) × (Nat → Int32) × (Nat → Int32) × (Nat → Int32) × (Nat → Int32) × (Nat → Int32) × (Nat → Int32) × (Nat → Int32))} (hk53 : ∀ (u_debts : Int32) (u_rule : Int32) (u_rings : Int32) (u_size : Int32) (u_least : Int32) (u_worth : Int64) (u_groups : Int32) (u_paid : Int32) (u_owes : (Nat → Int32)) (u_debt : (Nat → Int32)) (u_path : (Nat → Int32)) (u_ring : (Nat → Int32)) (u_balance : (Nat → Int32)) (u_left : (Nat → Int32)) (u_sum : (Nat → Int32)) (u_parts : (Nat → Int32)) (u_group : (Nat → Int32)) (u_payment : (Nat → Int32)) (H : Heap) (locs : List Loc) (ls : Array Slot), k53 u_debts u_rule u_rings u_size u_least u_worth u_groups u_paid u_owes u_debt u_path u_ring u_balance u_left u_sum u_parts u_group u_payment = some z → HW D A s.heap H locs [(q_, .inr (9, [.int u_people, .ref q_owes, .ref q_denies, .int u_debts, .ref q_debt, .int u_cuts, .ref q_cut, .int u_seen, .ref q_sight, .int u_events, .ref q_event, .int u_inBook, .ref q_book, .int u_texted, .ref q_text, .ref q_path, .int u_rule, .int u_rings, .int u_size, .int u_least, .long u_worth, .ref q_ring, .ref q_balance, .ref q_left, .ref q_sum, .ref q_parts, .int u_groups, .ref q_group, .int u_paid, .ref q_payment, .ref q_then, .int u_imaged, .ref q_image, .ref q_tapeSort, .ref q_tapeSize, .ref q_items])), (q_owes, .inl (C 0, 36, .inl u_owes)), (q_denies, .inl (C 0, 36, .inl u_denies)), (q_debt, .inl (C 0, 30, .inl u_debt)), (q_event, .inl (C 0, 16, .inl u_event)), (q_path, .inl (C 0, 6, .inl u_path)), (q_ring, .inl (C 0, 6, .inl u_ring)), (q_balance, .inl (C 0, 6, .inl u_balance)), (q_left, .inl (C 0, 6, .inl u_left)), (q_sum, .inl (C 0, 64, .inl u_sum)), (q_parts, .inl (C 0, 64, .inl u_parts)), (q_group, .inl (C 0, 3, .inl u_group)), (q_payment, .inl (C 0, 30, .inl u_payment)), (q_then, .inl (C 0, 67, .inl u_then))] → lv_has ls 3 [(0, .ref q_), (1, .int x1)] → W p l e R s m args below meth c H locs 0 0 Q (F0 m 53 ls [])) :
    ∀ (n : Nat) (x2 : Int32) (u_debts : Int32) (u_rule : Int32) (u_rings : Int32) (u_size : Int32) (u_least : Int32) (u_worth : Int64) (u_groups : Int32) (u_paid : Int32) (u_owes : (Nat → Int32)) (u_debt : (Nat → Int32)) (u_path : (Nat → Int32)) (u_ring : (Nat → Int32)) (u_balance : (Nat → Int32)) (u_left : (Nat → Int32)) (u_sum : (Nat → Int32)) (u_parts : (Nat → Int32)) (u_group : (Nat → Int32)) (u_payment : (Nat → Int32)) (H : Heap) (locs : List Loc) (ls : Array Slot), fX9_after_L17 k53 u_people u_cuts u_seen u_events u_inBook u_texted u_imaged u_denies u_event n x2 u_debts u_rule u_rings u_size u_least u_worth u_groups u_paid u_owes u_debt u_path u_ring u_balance u_left u_sum u_parts u_group u_payment = some z → HW D A s.heap H locs [(q_, .inr (9, [.int u_people, .ref q_owes, .ref q_denies, .int u_debts, .ref q_debt, .int u_cuts, .ref q_cut, .int u_seen, .ref q_sight, .int u_events, .ref q_event, .int u_inBook, .ref q_book, .int u_texted, .ref q_text, .ref q_path, .int u_rule, .int u_rings, .int u_size, .int u_least, .long u_worth, .ref q_ring, .ref q_balance, .ref q_left, .ref q_sum, .ref q_parts, .int u_groups, .ref q_group, .int u_paid, .ref q_payment, .ref q_then, .int u_imaged, .ref q_image, .ref q_tapeSort, .ref q_tapeSize, .ref q_items])), (q_owes, .inl (C 0, 36, .inl u_owes)), (q_denies, .inl (C 0, 36, .inl u_denies)), (q_debt, .inl (C 0, 30, .inl u_debt)), (q_event, .inl (C 0, 16, .inl u_event)), (q_path, .inl (C 0, 6, .inl u_path)), (q_ring, .inl (C 0, 6, .inl u_ring)), (q_balance, .inl (C 0, 6, .inl u_balance)), (q_left, .inl (C 0, 6, .inl u_left)), (q_sum, .inl (C 0, 64, .inl u_sum)), (q_parts, .inl (C 0, 64, .inl u_parts)), (q_group, .inl (C 0, 3, .inl u_group)), (q_payment, .inl (C 0, 30, .inl u_payment)), (q_then, .inl (C 0, 67, .inl u_then))] → lv_has ls 3 [(0, .ref q_), (1, .int x1), (2, .int x2)] → W p l e R s m args below meth c H locs 0 0 Q (F0 m 17 ls []) := by
  have hx := cx.1
  have hb := cx.2.1
  intro n
  induction n with
  | zero => intro x2 u_debts u_rule u_rings u_size u_least u_worth u_groups u_paid u_owes u_debt u_path u_ring u_balance u_left u_sum u_parts u_group u_payment H locs ls hF; cases hF
  | succ n ih =>
    intro x2 u_debts u_rule u_rings u_size u_least u_worth u_groups u_paid u_owes u_debt u_path u_ring u_balance u_left u_sum u_parts u_group u_payment H locs ls hF hw hl
    rw [fX9_after_L17.eq_2] at hF
    refine lv_iload_n hx hb dX9_after_17 rfl (lv_at hl 2 rfl) ?_
    refine lv_aload_n hx hb dX9_after_18 rfl (lv_at hl 0 rfl) ?_
    refine r_get (ci := 9) (v := .int u_events) cx hw iX9 0 9 rfl rfl (by decide) wf_X9_255 rfl dX9_after_19 ?_
    refine lv_icmp_ge (tgt := 53) hx hb dX9_after_22 (by decide) (fun c4 => ?_) (fun c4 => ?_)
    · replace hF := oi_t c4 hF
      exact hk53 u_debts u_rule u_rings u_size u_least u_worth u_groups u_paid u_owes u_debt u_path u_ring u_balance u_left u_sum u_parts u_group u_payment H locs ls hF hw (lv_sub hl [0, 1] rfl)
    · replace hF := oi_f c4 hF
      refine lv_aload_n hx hb dX9_after_25 rfl (lv_at hl 0 rfl) ?_
      refine lv_aload_n hx hb dX9_after_26 rfl (lv_at hl 0 rfl) ?_
      refine r_get (ci := 9) (v := .ref q_event) cx hw iX9 0 10 rfl rfl (by decide) wf_X9_27 rfl dX9_after_27 ?_
      refine lv_iconst (v := 2) hx hb dX9_after_30 (by decide) ?_
      refine lv_iload_n hx hb dX9_after_31 rfl (lv_at hl 2 rfl) ?_
      refine lv_imul hx hb dX9_after_32 ?_
      obtain ⟨g5, hF⟩ := gA_s hF
      refine r_iald cx hw 4 rfl g5 dX9_after_33 ?_
      refine lv_aload_n hx hb dX9_after_34 rfl (lv_at hl 0 rfl) ?_
      refine r_get (ci := 9) (v := .ref q_event) cx hw iX9 0 10 rfl rfl (by decide) wf_X9_27 rfl dX9_after_35 ?_
      refine lv_iconst (v := 2) hx hb dX9_after_38 (by decide) ?_
      refine lv_iload_n hx hb dX9_after_39 rfl (lv_at hl 2 rfl) ?_
      refine lv_imul hx hb dX9_after_40 ?_
      refine lv_iconst (v := 1) hx hb dX9_after_41 (by decide) ?_
      refine lv_iadd hx hb dX9_after_42 ?_
      obtain ⟨g6, hF⟩ := gA_s hF
      refine r_iald cx hw 4 rfl g6 dX9_after_43 ?_
      obtain ⟨z7, hz7, hF⟩ := ob hF
      refine cV (wr := [(q_event, .inl (C 0, 16, .inl u_event)), (q_then, .inl (C 0, 67, .inl u_then))]) (w2 := [(q_, .inr (9, [.int u_people, .ref q_owes, .ref q_denies, .int z7.1, .ref q_debt, .int u_cuts, .ref q_cut, .int u_seen, .ref q_sight, .int u_events, .ref q_event, .int u_inBook, .ref q_book, .int u_texted, .ref q_text, .ref q_path, .int z7.2.1, .int z7.2.2.1, .int z7.2.2.2.1, .int z7.2.2.2.2.1, .long z7.2.2.2.2.2.1, .ref q_ring, .ref q_balance, .ref q_left, .ref q_sum, .ref q_parts, .int z7.2.2.2.2.2.2.1, .ref q_group, .int z7.2.2.2.2.2.2.2.1, .ref q_payment, .ref q_then, .int u_imaged, .ref q_image, .ref q_tapeSort, .ref q_tapeSize, .ref q_items])), (q_owes, .inl (C 0, 36, .inl z7.2.2.2.2.2.2.2.2.1)), (q_denies, .inl (C 0, 36, .inl u_denies)), (q_debt, .inl (C 0, 30, .inl z7.2.2.2.2.2.2.2.2.2.1)), (q_event, .inl (C 0, 16, .inl u_event)), (q_path, .inl (C 0, 6, .inl z7.2.2.2.2.2.2.2.2.2.2.1)), (q_ring, .inl (C 0, 6, .inl z7.2.2.2.2.2.2.2.2.2.2.2.1)), (q_balance, .inl (C 0, 6, .inl z7.2.2.2.2.2.2.2.2.2.2.2.2.1)), (q_left, .inl (C 0, 6, .inl z7.2.2.2.2.2.2.2.2.2.2.2.2.2.1)), (q_sum, .inl (C 0, 64, .inl z7.2.2.2.2.2.2.2.2.2.2.2.2.2.2.1)), (q_parts, .inl (C 0, 64, .inl z7.2.2.2.2.2.2.2.2.2.2.2.2.2.2.2.1)), (q_group, .inl (C 0, 3, .inl z7.2.2.2.2.2.2.2.2.2.2.2.2.2.2.2.2.1)), (q_payment, .inl (C 0, 30, .inl z7.2.2.2.2.2.2.2.2.2.2.2.2.2.2.2.2.2)), (q_then, .inl (C 0, 67, .inl u_then))]) (st2 := []) cx (CX9_happens l D C q_ q_owes q_denies q_debt q_cut q_sight q_event q_book q_text q_path q_ring q_balance q_left q_sum q_parts q_group q_payment q_then q_image q_tapeSort q_tapeSize q_items u_people u_debts u_cuts u_seen u_events u_inBook u_texted u_rule u_rings u_size u_least u_worth u_groups u_paid u_imaged u_owes u_denies u_debt u_path u_ring u_balance u_left u_sum u_parts u_group u_payment (u_event (2 * x2).toNatClampNeg) (u_event ((2 * x2) + 1).toNatClampNeg) z7 hz7) lk_X9_258 my_X9_happens ml_X9_happens ⟨by decide, by decide⟩ hw [0, 1, 2, 3, 5, 6, 7, 8, 9, 10, 11, 12] [4, 13] [2, 3, 4, 5, 0, 6, 7, 8, 9, 10, 11, 12, 13, 1] rfl rfl (by decide) rfl rfl rfl rfl (Nat.le_of_ble_eq_true rfl) dX9_after_44 rfl (fun H locs hw => ?_) hl.1
      refine lv_iinc (v := x2 + 1) (lv' := [(2, .int (x2 + 1)), (0, .ref q_), (1, .int x1)]) hx hb dX9_after_47 hl (k := 2) rfl rfl (by decide) rfl (fun ls hl => ?_)
      refine lv_goto (tgt := 17) hx hb dX9_after_50 (by decide) ?_
      exact ih (x2 + 1) z7.1 z7.2.1 z7.2.2.1 z7.2.2.2.1 z7.2.2.2.2.1 z7.2.2.2.2.2.1 z7.2.2.2.2.2.2.1 z7.2.2.2.2.2.2.2.1 z7.2.2.2.2.2.2.2.2.1 z7.2.2.2.2.2.2.2.2.2.1 z7.2.2.2.2.2.2.2.2.2.2.1 z7.2.2.2.2.2.2.2.2.2.2.2.1 z7.2.2.2.2.2.2.2.2.2.2.2.2.1 z7.2.2.2.2.2.2.2.2.2.2.2.2.2.1 z7.2.2.2.2.2.2.2.2.2.2.2.2.2.2.1 z7.2.2.2.2.2.2.2.2.2.2.2.2.2.2.2.1 z7.2.2.2.2.2.2.2.2.2.2.2.2.2.2.2.2.1 z7.2.2.2.2.2.2.2.2.2.2.2.2.2.2.2.2.2 H locs ls hF hw (lv_sub hl [1, 2, 0] rfl)
set_option maxRecDepth 20000 in
theorem CX9_after (l : Launch) (D : va_G) (C : Nat → ClassId) (q_ q_owes q_denies q_debt q_cut q_sight q_event q_book q_text q_path q_ring q_balance q_left q_sum q_parts q_group q_payment q_then q_image q_tapeSort q_tapeSize q_items : Nat) (u_people : Int32) (u_debts : Int32) (u_cuts : Int32) (u_seen : Int32) (u_events : Int32) (u_inBook : Int32) (u_texted : Int32) (u_rule : Int32) (u_rings : Int32) (u_size : Int32) (u_least : Int32) (u_worth : Int64) (u_groups : Int32) (u_paid : Int32) (u_imaged : Int32) (u_owes : (Nat → Int32)) (u_denies : (Nat → Int32)) (u_debt : (Nat → Int32)) (u_event : (Nat → Int32)) (u_path : (Nat → Int32)) (u_ring : (Nat → Int32)) (u_balance : (Nat → Int32)) (u_left : (Nat → Int32)) (u_sum : (Nat → Int32)) (u_parts : (Nat → Int32)) (u_group : (Nat → Int32)) (u_payment : (Nat → Int32)) (u_then : (Nat → Int32)) (x1 : Int32) (z : (Int32 × Int32 × Int32 × Int32 × Int32 × Int32 × Int64 × Int32 × Int32 × (Nat → Int32) × (Nat → Int32) × (Nat → Int32) × (Nat → Int32) × (Nat → Int32) × (Nat → Int32) × (Nat → Int32) × (Nat → Int32) × (Nat → Int32) × (Nat → Int32) × (Nat → Int32))) (hF : fX9_after u_people u_debts u_cuts u_seen u_events u_inBook u_texted u_rule u_rings u_size u_least u_worth u_groups u_paid u_imaged u_owes u_denies u_debt u_event u_path u_ring u_balance u_left u_sum u_parts u_group u_payment u_then x1 = some z) : Ct l yX9_after cX9_after 3 (some .int) 15 D C [.ref q_, .int x1] [(q_, .inr (9, [.int u_people, .ref q_owes, .ref q_denies, .int u_debts, .ref q_debt, .int u_cuts, .ref q_cut, .int u_seen, .ref q_sight, .int u_events, .ref q_event, .int u_inBook, .ref q_book, .int u_texted, .ref q_text, .ref q_path, .int u_rule, .int u_rings, .int u_size, .int u_least, .long u_worth, .ref q_ring, .ref q_balance, .ref q_left, .ref q_sum, .ref q_parts, .int u_groups, .ref q_group, .int u_paid, .ref q_payment, .ref q_then, .int u_imaged, .ref q_image, .ref q_tapeSort, .ref q_tapeSize, .ref q_items])), (q_owes, .inl (C 0, 36, .inl u_owes)), (q_denies, .inl (C 0, 36, .inl u_denies)), (q_debt, .inl (C 0, 30, .inl u_debt)), (q_event, .inl (C 0, 16, .inl u_event)), (q_path, .inl (C 0, 6, .inl u_path)), (q_ring, .inl (C 0, 6, .inl u_ring)), (q_balance, .inl (C 0, 6, .inl u_balance)), (q_left, .inl (C 0, 6, .inl u_left)), (q_sum, .inl (C 0, 64, .inl u_sum)), (q_parts, .inl (C 0, 64, .inl u_parts)), (q_group, .inl (C 0, 3, .inl u_group)), (q_payment, .inl (C 0, 30, .inl u_payment)), (q_then, .inl (C 0, 67, .inl u_then))] [(q_, .inr (9, [.int u_people, .ref q_owes, .ref q_denies, .int z.2.1, .ref q_debt, .int u_cuts, .ref q_cut, .int u_seen, .ref q_sight, .int u_events, .ref q_event, .int u_inBook, .ref q_book, .int u_texted, .ref q_text, .ref q_path, .int z.2.2.1, .int z.2.2.2.1, .int z.2.2.2.2.1, .int z.2.2.2.2.2.1, .long z.2.2.2.2.2.2.1, .ref q_ring, .ref q_balance, .ref q_left, .ref q_sum, .ref q_parts, .int z.2.2.2.2.2.2.2.1, .ref q_group, .int z.2.2.2.2.2.2.2.2.1, .ref q_payment, .ref q_then, .int u_imaged, .ref q_image, .ref q_tapeSort, .ref q_tapeSize, .ref q_items])), (q_owes, .inl (C 0, 36, .inl z.2.2.2.2.2.2.2.2.2.1)), (q_denies, .inl (C 0, 36, .inl u_denies)), (q_debt, .inl (C 0, 30, .inl z.2.2.2.2.2.2.2.2.2.2.1)), (q_event, .inl (C 0, 16, .inl u_event)), (q_path, .inl (C 0, 6, .inl z.2.2.2.2.2.2.2.2.2.2.2.1)), (q_ring, .inl (C 0, 6, .inl z.2.2.2.2.2.2.2.2.2.2.2.2.1)), (q_balance, .inl (C 0, 6, .inl z.2.2.2.2.2.2.2.2.2.2.2.2.2.1)), (q_left, .inl (C 0, 6, .inl z.2.2.2.2.2.2.2.2.2.2.2.2.2.2.1)), (q_sum, .inl (C 0, 64, .inl z.2.2.2.2.2.2.2.2.2.2.2.2.2.2.2.1)), (q_parts, .inl (C 0, 64, .inl z.2.2.2.2.2.2.2.2.2.2.2.2.2.2.2.2.1)), (q_group, .inl (C 0, 3, .inl z.2.2.2.2.2.2.2.2.2.2.2.2.2.2.2.2.2.1)), (q_payment, .inl (C 0, 30, .inl z.2.2.2.2.2.2.2.2.2.2.2.2.2.2.2.2.2.2.1)), (q_then, .inl (C 0, 67, .inl z.2.2.2.2.2.2.2.2.2.2.2.2.2.2.2.2.2.2.2))] (some (.int z.1)) := by
  refine Ct_of (by decide) (Nat.le_of_ble_eq_true rfl) ?_
  intro p e R s m args below meth c A Q H locs ls cx hw hl hret
  have cx : CX p m c s args RX9 cX9_after 3 D C A R 15 := cx
  have hx := cx.1
  have hb := cx.2.1
  have hl : lv_has ls 3 [(0, .ref q_), (1, .int x1)] := hl
  rw [fX9_after.eq_1] at hF
  refine lv_iload_n hx hb dX9_after_0 rfl (lv_at hl 1 rfl) ?_
  refine lv_iconst (v := 0) hx hb dX9_after_1 (by decide) ?_
  refine lv_iconst (v := 2) hx hb dX9_after_2 (by decide) ?_
  obtain ⟨z1, hz1, hF⟩ := ob hF
  refine cS (wr := [(q_, .inr (9, [.int u_people, .ref q_owes, .ref q_denies, .int u_debts, .ref q_debt, .int u_cuts, .ref q_cut, .int u_seen, .ref q_sight, .int u_events, .ref q_event, .int u_inBook, .ref q_book, .int u_texted, .ref q_text, .ref q_path, .int u_rule, .int u_rings, .int u_size, .int u_least, .long u_worth, .ref q_ring, .ref q_balance, .ref q_left, .ref q_sum, .ref q_parts, .int u_groups, .ref q_group, .int u_paid, .ref q_payment, .ref q_then, .int u_imaged, .ref q_image, .ref q_tapeSort, .ref q_tapeSize, .ref q_items])), (q_owes, .inl (C 0, 36, .inl u_owes)), (q_denies, .inl (C 0, 36, .inl u_denies)), (q_debt, .inl (C 0, 30, .inl u_debt)), (q_event, .inl (C 0, 16, .inl u_event)), (q_path, .inl (C 0, 6, .inl u_path)), (q_ring, .inl (C 0, 6, .inl u_ring)), (q_balance, .inl (C 0, 6, .inl u_balance)), (q_left, .inl (C 0, 6, .inl u_left)), (q_sum, .inl (C 0, 64, .inl u_sum)), (q_parts, .inl (C 0, 64, .inl u_parts)), (q_group, .inl (C 0, 3, .inl u_group)), (q_payment, .inl (C 0, 30, .inl u_payment)), (q_then, .inl (C 0, 67, .inl u_then))]) (w2 := [(q_, .inr (9, [.int u_people, .ref q_owes, .ref q_denies, .int u_debts, .ref q_debt, .int u_cuts, .ref q_cut, .int u_seen, .ref q_sight, .int u_events, .ref q_event, .int u_inBook, .ref q_book, .int u_texted, .ref q_text, .ref q_path, .int u_rule, .int u_rings, .int u_size, .int u_least, .long u_worth, .ref q_ring, .ref q_balance, .ref q_left, .ref q_sum, .ref q_parts, .int u_groups, .ref q_group, .int u_paid, .ref q_payment, .ref q_then, .int u_imaged, .ref q_image, .ref q_tapeSort, .ref q_tapeSize, .ref q_items])), (q_owes, .inl (C 0, 36, .inl u_owes)), (q_denies, .inl (C 0, 36, .inl u_denies)), (q_debt, .inl (C 0, 30, .inl u_debt)), (q_event, .inl (C 0, 16, .inl u_event)), (q_path, .inl (C 0, 6, .inl u_path)), (q_ring, .inl (C 0, 6, .inl u_ring)), (q_balance, .inl (C 0, 6, .inl u_balance)), (q_left, .inl (C 0, 6, .inl u_left)), (q_sum, .inl (C 0, 64, .inl u_sum)), (q_parts, .inl (C 0, 64, .inl u_parts)), (q_group, .inl (C 0, 3, .inl u_group)), (q_payment, .inl (C 0, 30, .inl u_payment)), (q_then, .inl (C 0, 67, .inl u_then))]) (st2 := [.int z1]) cx (CX9_within l D C x1 0 2 z1 hz1) lk_X9_80 my_X9_within ml_X9_within ⟨by decide, by decide⟩ hw [] [0, 1, 2, 3, 4, 5, 6, 7, 8, 9, 10, 11, 12, 13] [0, 1, 2, 3, 4, 5, 6, 7, 8, 9, 10, 11, 12, 13] rfl rfl (by decide) rfl rfl (Nat.le_of_ble_eq_true rfl) dX9_after_3 rfl (fun H locs hw => ?_) hl.1
  refine lv_if_ne (tgt := 11) hx hb dX9_after_6 (by decide) (fun c2 => ?_) (fun c2 => ?_)
  · replace hF := oi_f c2 hF
    refine lv_aload_n hx hb dX9_after_11 rfl (lv_at hl 0 rfl) ?_
    obtain ⟨z3, hz3, hF⟩ := ob hF
    refine cV (wr := [(q_denies, .inl (C 0, 36, .inl u_denies)), (q_event, .inl (C 0, 16, .inl u_event)), (q_path, .inl (C 0, 6, .inl u_path)), (q_ring, .inl (C 0, 6, .inl u_ring)), (q_balance, .inl (C 0, 6, .inl u_balance)), (q_left, .inl (C 0, 6, .inl u_left)), (q_sum, .inl (C 0, 64, .inl u_sum)), (q_parts, .inl (C 0, 64, .inl u_parts)), (q_group, .inl (C 0, 3, .inl u_group)), (q_payment, .inl (C 0, 30, .inl u_payment))]) (w2 := [(q_, .inr (9, [.int u_people, .ref q_owes, .ref q_denies, .int u_debts, .ref q_debt, .int u_cuts, .ref q_cut, .int u_seen, .ref q_sight, .int u_events, .ref q_event, .int u_inBook, .ref q_book, .int u_texted, .ref q_text, .ref q_path, .int u_rule, .int u_rings, .int u_size, .int u_least, .long u_worth, .ref q_ring, .ref q_balance, .ref q_left, .ref q_sum, .ref q_parts, .int u_groups, .ref q_group, .int u_paid, .ref q_payment, .ref q_then, .int u_imaged, .ref q_image, .ref q_tapeSort, .ref q_tapeSize, .ref q_items])), (q_owes, .inl (C 0, 36, .inl u_owes)), (q_denies, .inl (C 0, 36, .inl u_denies)), (q_debt, .inl (C 0, 30, .inl u_debt)), (q_event, .inl (C 0, 16, .inl u_event)), (q_path, .inl (C 0, 6, .inl u_path)), (q_ring, .inl (C 0, 6, .inl u_ring)), (q_balance, .inl (C 0, 6, .inl u_balance)), (q_left, .inl (C 0, 6, .inl u_left)), (q_sum, .inl (C 0, 64, .inl u_sum)), (q_parts, .inl (C 0, 64, .inl u_parts)), (q_group, .inl (C 0, 3, .inl u_group)), (q_payment, .inl (C 0, 30, .inl u_payment)), (q_then, .inl (C 0, 67, .inl z3))]) (st2 := []) cx (CX9_keeps l D C q_ q_owes q_denies q_debt q_cut q_sight q_event q_book q_text q_path q_ring q_balance q_left q_sum q_parts q_group q_payment q_then q_image q_tapeSort q_tapeSize q_items u_people u_debts u_cuts u_seen u_events u_inBook u_texted u_rule u_rings u_size u_least u_worth u_groups u_paid u_imaged u_owes u_debt u_then z3 hz3) lk_X9_223 my_X9_keeps ml_X9_keeps ⟨by decide, by decide⟩ hw [0, 1, 3, 13] [2, 4, 5, 6, 7, 8, 9, 10, 11, 12] [10, 11, 0, 12, 1, 2, 3, 4, 5, 6, 7, 8, 9, 13] rfl rfl (by decide) rfl rfl rfl rfl (Nat.le_of_ble_eq_true rfl) dX9_after_12 rfl (fun H locs hw => ?_) hl.1
    refine lv_iconst (v := 0) hx hb dX9_after_15 (by decide) ?_
    refine lv_istore_n (lv' := [(2, .int 0), (0, .ref q_), (1, .int x1)]) hx hb dX9_after_16 rfl hl (by decide) rfl (fun ls hl => ?_)
    refine LX9_after_17 cx hret (fun u_debts_8 u_rule_8 u_rings_8 u_size_8 u_least_8 u_worth_8 u_groups_8 u_paid_8 u_owes_8 u_debt_8 u_path_8 u_ring_8 u_balance_8 u_left_8 u_sum_8 u_parts_8 u_group_8 u_payment_8 H locs ls hF hw hl => ?_) 400 0 u_debts u_rule u_rings u_size u_least u_worth u_groups u_paid u_owes u_debt u_path u_ring u_balance u_left u_sum u_parts u_group u_payment H locs ls hF hw (lv_sub hl [1, 2, 0] rfl)
    · refine lv_iload_n hx hb dX9_after_53 rfl (lv_at hl 1 rfl) ?_
      refine lv_if_ne (tgt := 64) hx hb dX9_after_54 (by decide) (fun c9 => ?_) (fun c9 => ?_)
      · replace hF := oi_f c9 hF
        refine lv_iload_n hx hb dX9_after_64 rfl (lv_at hl 1 rfl) ?_
        refine lv_iconst (v := 1) hx hb dX9_after_65 (by decide) ?_
        refine lv_icmp_ne (tgt := 76) hx hb dX9_after_66 (by decide) (fun c10 => ?_) (fun c10 => ?_)
        · replace hF := oi_f c10 hF
          refine lv_aload_n hx hb dX9_after_76 rfl (lv_at hl 0 rfl) ?_
          obtain ⟨z11, hz11, hF⟩ := ob hF
          refine cV (wr := [(q_denies, .inl (C 0, 36, .inl u_denies)), (q_debt, .inl (C 0, 30, .inl u_debt_8)), (q_event, .inl (C 0, 16, .inl u_event)), (q_path, .inl (C 0, 6, .inl u_path_8)), (q_ring, .inl (C 0, 6, .inl u_ring_8)), (q_then, .inl (C 0, 67, .inl z3))]) (w2 := [(q_, .inr (9, [.int u_people, .ref q_owes, .ref q_denies, .int u_debts_8, .ref q_debt, .int u_cuts, .ref q_cut, .int u_seen, .ref q_sight, .int u_events, .ref q_event, .int u_inBook, .ref q_book, .int u_texted, .ref q_text, .ref q_path, .int u_rule_8, .int u_rings_8, .int u_size_8, .int u_least_8, .long u_worth_8, .ref q_ring, .ref q_balance, .ref q_left, .ref q_sum, .ref q_parts, .int z11.2.1, .ref q_group, .int z11.2.2.1, .ref q_payment, .ref q_then, .int u_imaged, .ref q_image, .ref q_tapeSort, .ref q_tapeSize, .ref q_items])), (q_owes, .inl (C 0, 36, .inl u_owes_8)), (q_denies, .inl (C 0, 36, .inl u_denies)), (q_debt, .inl (C 0, 30, .inl u_debt_8)), (q_event, .inl (C 0, 16, .inl u_event)), (q_path, .inl (C 0, 6, .inl u_path_8)), (q_ring, .inl (C 0, 6, .inl u_ring_8)), (q_balance, .inl (C 0, 6, .inl z11.2.2.2.1)), (q_left, .inl (C 0, 6, .inl z11.2.2.2.2.1)), (q_sum, .inl (C 0, 64, .inl z11.2.2.2.2.2.1)), (q_parts, .inl (C 0, 64, .inl z11.2.2.2.2.2.2.1)), (q_group, .inl (C 0, 3, .inl z11.2.2.2.2.2.2.2.1)), (q_payment, .inl (C 0, 30, .inl z11.2.2.2.2.2.2.2.2)), (q_then, .inl (C 0, 67, .inl z3))]) (st2 := [.int z11.1]) cx (CX9_fewest l D C q_ q_owes q_denies q_debt q_cut q_sight q_event q_book q_text q_path q_ring q_balance q_left q_sum q_parts q_group q_payment q_then q_image q_tapeSort q_tapeSize q_items u_people u_debts_8 u_cuts u_seen u_events u_inBook u_texted u_rule_8 u_rings_8 u_size_8 u_least_8 u_worth_8 u_groups_8 u_paid_8 u_imaged u_owes_8 u_balance_8 u_left_8 u_sum_8 u_parts_8 u_group_8 u_payment_8 z11 hz11) lk_X9_217 my_X9_fewest ml_X9_fewest ⟨by decide, by decide⟩ hw [0, 1, 7, 8, 9, 10, 11, 12] [2, 3, 4, 5, 6, 13] [6, 7, 0, 1, 2, 3, 4, 8, 9, 10, 11, 12, 13, 5] rfl rfl (by decide) rfl rfl rfl rfl (Nat.le_of_ble_eq_true rfl) dX9_after_77 rfl (fun H locs hw => ?_) hl.1
          refine lv_istore_n (lv' := [(2, .int z11.1), (0, .ref q_), (1, .int x1)]) hx hb dX9_after_80 rfl hl (by decide) rfl (fun ls hl => ?_)
          refine lv_aload_n hx hb dX9_after_81 rfl (lv_at hl 1 rfl) ?_
          obtain ⟨z12, hz12, hF⟩ := ob hF
          refine cV (wr := [(q_denies, .inl (C 0, 36, .inl u_denies)), (q_event, .inl (C 0, 16, .inl u_event)), (q_path, .inl (C 0, 6, .inl u_path_8)), (q_ring, .inl (C 0, 6, .inl u_ring_8)), (q_balance, .inl (C 0, 6, .inl z11.2.2.2.1)), (q_left, .inl (C 0, 6, .inl z11.2.2.2.2.1)), (q_sum, .inl (C 0, 64, .inl z11.2.2.2.2.2.1)), (q_parts, .inl (C 0, 64, .inl z11.2.2.2.2.2.2.1)), (q_group, .inl (C 0, 3, .inl z11.2.2.2.2.2.2.2.1)), (q_payment, .inl (C 0, 30, .inl z11.2.2.2.2.2.2.2.2))]) (w2 := [(q_, .inr (9, [.int u_people, .ref q_owes, .ref q_denies, .int z12.1, .ref q_debt, .int u_cuts, .ref q_cut, .int u_seen, .ref q_sight, .int u_events, .ref q_event, .int u_inBook, .ref q_book, .int u_texted, .ref q_text, .ref q_path, .int u_rule_8, .int u_rings_8, .int u_size_8, .int u_least_8, .long u_worth_8, .ref q_ring, .ref q_balance, .ref q_left, .ref q_sum, .ref q_parts, .int z11.2.1, .ref q_group, .int z11.2.2.1, .ref q_payment, .ref q_then, .int u_imaged, .ref q_image, .ref q_tapeSort, .ref q_tapeSize, .ref q_items])), (q_owes, .inl (C 0, 36, .inl z12.2.1)), (q_denies, .inl (C 0, 36, .inl u_denies)), (q_debt, .inl (C 0, 30, .inl z12.2.2)), (q_event, .inl (C 0, 16, .inl u_event)), (q_path, .inl (C 0, 6, .inl u_path_8)), (q_ring, .inl (C 0, 6, .inl u_ring_8)), (q_balance, .inl (C 0, 6, .inl z11.2.2.2.1)), (q_left, .inl (C 0, 6, .inl z11.2.2.2.2.1)), (q_sum, .inl (C 0, 64, .inl z11.2.2.2.2.2.1)), (q_parts, .inl (C 0, 64, .inl z11.2.2.2.2.2.2.1)), (q_group, .inl (C 0, 3, .inl z11.2.2.2.2.2.2.2.1)), (q_payment, .inl (C 0, 30, .inl z11.2.2.2.2.2.2.2.2)), (q_then, .inl (C 0, 67, .inl z3))]) (st2 := []) cx (CX9_returns l D C q_ q_owes q_denies q_debt q_cut q_sight q_event q_book q_text q_path q_ring q_balance q_left q_sum q_parts q_group q_payment q_then q_image q_tapeSort q_tapeSize q_items u_people u_debts_8 u_cuts u_seen u_events u_inBook u_texted u_rule_8 u_rings_8 u_size_8 u_least_8 u_worth_8 z11.2.1 z11.2.2.1 u_imaged u_owes_8 u_debt_8 z3 z12 hz12) lk_X9_230 my_X9_returns ml_X9_returns ⟨by decide, by decide⟩ hw [0, 1, 3, 13] [2, 4, 5, 6, 7, 8, 9, 10, 11, 12] [10, 11, 0, 12, 1, 2, 3, 4, 5, 6, 7, 8, 9, 13] rfl rfl (by decide) rfl rfl rfl rfl (Nat.le_of_ble_eq_true rfl) dX9_after_82 rfl (fun H locs hw => ?_) hl.1
          refine lv_iload_n hx hb dX9_after_85 rfl (lv_at hl 0 rfl) ?_
          obtain rfl := Option.some.inj hF
          exact rt_i hret hw rfl dX9_after_86
        · replace hF := oi_t c10 hF
          refine lv_aload_n hx hb dX9_after_69 rfl (lv_at hl 0 rfl) ?_
          refine r_get (ci := 9) (v := .int u_debts_8) cx hw iX9 0 3 rfl rfl (by decide) wf_X9_88 rfl dX9_after_70 ?_
          refine lv_goto (tgt := 80) hx hb dX9_after_73 (by decide) ?_
          refine lv_istore_n (lv' := [(2, .int u_debts_8), (0, .ref q_), (1, .int x1)]) hx hb dX9_after_80 rfl hl (by decide) rfl (fun ls hl => ?_)
          refine lv_aload_n hx hb dX9_after_81 rfl (lv_at hl 1 rfl) ?_
          obtain ⟨z13, hz13, hF⟩ := ob hF
          refine cV (wr := [(q_denies, .inl (C 0, 36, .inl u_denies)), (q_event, .inl (C 0, 16, .inl u_event)), (q_path, .inl (C 0, 6, .inl u_path_8)), (q_ring, .inl (C 0, 6, .inl u_ring_8)), (q_balance, .inl (C 0, 6, .inl u_balance_8)), (q_left, .inl (C 0, 6, .inl u_left_8)), (q_sum, .inl (C 0, 64, .inl u_sum_8)), (q_parts, .inl (C 0, 64, .inl u_parts_8)), (q_group, .inl (C 0, 3, .inl u_group_8)), (q_payment, .inl (C 0, 30, .inl u_payment_8))]) (w2 := [(q_, .inr (9, [.int u_people, .ref q_owes, .ref q_denies, .int z13.1, .ref q_debt, .int u_cuts, .ref q_cut, .int u_seen, .ref q_sight, .int u_events, .ref q_event, .int u_inBook, .ref q_book, .int u_texted, .ref q_text, .ref q_path, .int u_rule_8, .int u_rings_8, .int u_size_8, .int u_least_8, .long u_worth_8, .ref q_ring, .ref q_balance, .ref q_left, .ref q_sum, .ref q_parts, .int u_groups_8, .ref q_group, .int u_paid_8, .ref q_payment, .ref q_then, .int u_imaged, .ref q_image, .ref q_tapeSort, .ref q_tapeSize, .ref q_items])), (q_owes, .inl (C 0, 36, .inl z13.2.1)), (q_denies, .inl (C 0, 36, .inl u_denies)), (q_debt, .inl (C 0, 30, .inl z13.2.2)), (q_event, .inl (C 0, 16, .inl u_event)), (q_path, .inl (C 0, 6, .inl u_path_8)), (q_ring, .inl (C 0, 6, .inl u_ring_8)), (q_balance, .inl (C 0, 6, .inl u_balance_8)), (q_left, .inl (C 0, 6, .inl u_left_8)), (q_sum, .inl (C 0, 64, .inl u_sum_8)), (q_parts, .inl (C 0, 64, .inl u_parts_8)), (q_group, .inl (C 0, 3, .inl u_group_8)), (q_payment, .inl (C 0, 30, .inl u_payment_8)), (q_then, .inl (C 0, 67, .inl z3))]) (st2 := []) cx (CX9_returns l D C q_ q_owes q_denies q_debt q_cut q_sight q_event q_book q_text q_path q_ring q_balance q_left q_sum q_parts q_group q_payment q_then q_image q_tapeSort q_tapeSize q_items u_people u_debts_8 u_cuts u_seen u_events u_inBook u_texted u_rule_8 u_rings_8 u_size_8 u_least_8 u_worth_8 u_groups_8 u_paid_8 u_imaged u_owes_8 u_debt_8 z3 z13 hz13) lk_X9_230 my_X9_returns ml_X9_returns ⟨by decide, by decide⟩ hw [0, 1, 3, 13] [2, 4, 5, 6, 7, 8, 9, 10, 11, 12] [10, 11, 0, 12, 1, 2, 3, 4, 5, 6, 7, 8, 9, 13] rfl rfl (by decide) rfl rfl rfl rfl (Nat.le_of_ble_eq_true rfl) dX9_after_82 rfl (fun H locs hw => ?_) hl.1
          refine lv_iload_n hx hb dX9_after_85 rfl (lv_at hl 0 rfl) ?_
          obtain rfl := Option.some.inj hF
          exact rt_i hret hw rfl dX9_after_86
      · replace hF := oi_t c9 hF
        refine lv_aload_n hx hb dX9_after_57 rfl (lv_at hl 0 rfl) ?_
        obtain ⟨z14, hz14, hF⟩ := ob hF
        refine cV (wr := [(q_denies, .inl (C 0, 36, .inl u_denies)), (q_event, .inl (C 0, 16, .inl u_event)), (q_path, .inl (C 0, 6, .inl u_path_8)), (q_ring, .inl (C 0, 6, .inl u_ring_8)), (q_balance, .inl (C 0, 6, .inl u_balance_8)), (q_left, .inl (C 0, 6, .inl u_left_8)), (q_sum, .inl (C 0, 64, .inl u_sum_8)), (q_parts, .inl (C 0, 64, .inl u_parts_8)), (q_group, .inl (C 0, 3, .inl u_group_8)), (q_payment, .inl (C 0, 30, .inl u_payment_8)), (q_then, .inl (C 0, 67, .inl z3))]) (w2 := [(q_, .inr (9, [.int u_people, .ref q_owes, .ref q_denies, .int u_debts_8, .ref q_debt, .int u_cuts, .ref q_cut, .int u_seen, .ref q_sight, .int u_events, .ref q_event, .int u_inBook, .ref q_book, .int u_texted, .ref q_text, .ref q_path, .int u_rule_8, .int u_rings_8, .int u_size_8, .int u_least_8, .long u_worth_8, .ref q_ring, .ref q_balance, .ref q_left, .ref q_sum, .ref q_parts, .int u_groups_8, .ref q_group, .int u_paid_8, .ref q_payment, .ref q_then, .int u_imaged, .ref q_image, .ref q_tapeSort, .ref q_tapeSize, .ref q_items])), (q_owes, .inl (C 0, 36, .inl u_owes_8)), (q_denies, .inl (C 0, 36, .inl u_denies)), (q_debt, .inl (C 0, 30, .inl u_debt_8)), (q_event, .inl (C 0, 16, .inl u_event)), (q_path, .inl (C 0, 6, .inl u_path_8)), (q_ring, .inl (C 0, 6, .inl u_ring_8)), (q_balance, .inl (C 0, 6, .inl u_balance_8)), (q_left, .inl (C 0, 6, .inl u_left_8)), (q_sum, .inl (C 0, 64, .inl u_sum_8)), (q_parts, .inl (C 0, 64, .inl u_parts_8)), (q_group, .inl (C 0, 3, .inl u_group_8)), (q_payment, .inl (C 0, 30, .inl u_payment_8)), (q_then, .inl (C 0, 67, .inl z3))]) (st2 := [.int z14]) cx (CX9_total l D C q_ q_owes q_denies q_debt q_cut q_sight q_event q_book q_text q_path q_ring q_balance q_left q_sum q_parts q_group q_payment q_then q_image q_tapeSort q_tapeSize q_items u_people u_debts_8 u_cuts u_seen u_events u_inBook u_texted u_rule_8 u_rings_8 u_size_8 u_least_8 u_worth_8 u_groups_8 u_paid_8 u_imaged u_owes_8 u_debt_8 z14 hz14) lk_X9_208 my_X9_total ml_X9_total ⟨by decide, by decide⟩ hw [0, 1, 3] [2, 4, 5, 6, 7, 8, 9, 10, 11, 12, 13] [11, 12, 0, 13, 1, 2, 3, 4, 5, 6, 7, 8, 9, 10] rfl rfl (by decide) rfl rfl rfl rfl (Nat.le_of_ble_eq_true rfl) dX9_after_58 rfl (fun H locs hw => ?_) hl.1
        refine lv_goto (tgt := 80) hx hb dX9_after_61 (by decide) ?_
        refine lv_istore_n (lv' := [(2, .int z14), (0, .ref q_), (1, .int x1)]) hx hb dX9_after_80 rfl hl (by decide) rfl (fun ls hl => ?_)
        refine lv_aload_n hx hb dX9_after_81 rfl (lv_at hl 1 rfl) ?_
        obtain ⟨z15, hz15, hF⟩ := ob hF
        refine cV (wr := [(q_denies, .inl (C 0, 36, .inl u_denies)), (q_event, .inl (C 0, 16, .inl u_event)), (q_path, .inl (C 0, 6, .inl u_path_8)), (q_ring, .inl (C 0, 6, .inl u_ring_8)), (q_balance, .inl (C 0, 6, .inl u_balance_8)), (q_left, .inl (C 0, 6, .inl u_left_8)), (q_sum, .inl (C 0, 64, .inl u_sum_8)), (q_parts, .inl (C 0, 64, .inl u_parts_8)), (q_group, .inl (C 0, 3, .inl u_group_8)), (q_payment, .inl (C 0, 30, .inl u_payment_8))]) (w2 := [(q_, .inr (9, [.int u_people, .ref q_owes, .ref q_denies, .int z15.1, .ref q_debt, .int u_cuts, .ref q_cut, .int u_seen, .ref q_sight, .int u_events, .ref q_event, .int u_inBook, .ref q_book, .int u_texted, .ref q_text, .ref q_path, .int u_rule_8, .int u_rings_8, .int u_size_8, .int u_least_8, .long u_worth_8, .ref q_ring, .ref q_balance, .ref q_left, .ref q_sum, .ref q_parts, .int u_groups_8, .ref q_group, .int u_paid_8, .ref q_payment, .ref q_then, .int u_imaged, .ref q_image, .ref q_tapeSort, .ref q_tapeSize, .ref q_items])), (q_owes, .inl (C 0, 36, .inl z15.2.1)), (q_denies, .inl (C 0, 36, .inl u_denies)), (q_debt, .inl (C 0, 30, .inl z15.2.2)), (q_event, .inl (C 0, 16, .inl u_event)), (q_path, .inl (C 0, 6, .inl u_path_8)), (q_ring, .inl (C 0, 6, .inl u_ring_8)), (q_balance, .inl (C 0, 6, .inl u_balance_8)), (q_left, .inl (C 0, 6, .inl u_left_8)), (q_sum, .inl (C 0, 64, .inl u_sum_8)), (q_parts, .inl (C 0, 64, .inl u_parts_8)), (q_group, .inl (C 0, 3, .inl u_group_8)), (q_payment, .inl (C 0, 30, .inl u_payment_8)), (q_then, .inl (C 0, 67, .inl z3))]) (st2 := []) cx (CX9_returns l D C q_ q_owes q_denies q_debt q_cut q_sight q_event q_book q_text q_path q_ring q_balance q_left q_sum q_parts q_group q_payment q_then q_image q_tapeSort q_tapeSize q_items u_people u_debts_8 u_cuts u_seen u_events u_inBook u_texted u_rule_8 u_rings_8 u_size_8 u_least_8 u_worth_8 u_groups_8 u_paid_8 u_imaged u_owes_8 u_debt_8 z3 z15 hz15) lk_X9_230 my_X9_returns ml_X9_returns ⟨by decide, by decide⟩ hw [0, 1, 3, 13] [2, 4, 5, 6, 7, 8, 9, 10, 11, 12] [10, 11, 0, 12, 1, 2, 3, 4, 5, 6, 7, 8, 9, 13] rfl rfl (by decide) rfl rfl rfl rfl (Nat.le_of_ble_eq_true rfl) dX9_after_82 rfl (fun H locs hw => ?_) hl.1
        refine lv_iload_n hx hb dX9_after_85 rfl (lv_at hl 0 rfl) ?_
        obtain rfl := Option.some.inj hF
        exact rt_i hret hw rfl dX9_after_86
  · replace hF := oi_t c2 hF
    refine lv_iconst (v := (-1)) hx hb dX9_after_9 (by decide) ?_
    obtain rfl := Option.some.inj hF
    exact rt_i hret hw rfl dX9_after_10
theorem wf_X9_261 : Cond.fieldLink RX9 261 (TX9 11).1 (TX9 11).2.1 (TX9 11).2.2.1 ∈ gdt := gdt_of 851 (by decide +kernel) (by decide +kernel)
theorem wf_X9_30 : Cond.fieldLink RX9 30 (TX9 12).1 (TX9 12).2.1 (TX9 12).2.2.1 ∈ gdt := gdt_of 852 (by decide +kernel) (by decide +kernel)
theorem dX9_book_0 : decode cX9_book 0 = .ok (.iload_n 1, 1) := by decide +kernel
theorem dX9_book_1 : decode cX9_book 1 = .ok (.iconst (-1), 1) := by decide +kernel
theorem dX9_book_2 : decode cX9_book 2 = .ok (.if_icmp .ne 10, 3) := by decide +kernel
theorem dX9_book_5 : decode cX9_book 5 = .ok (.aload_n 0, 1) := by decide +kernel
theorem dX9_book_6 : decode cX9_book 6 = .ok (.iconst 0, 1) := by decide +kernel
theorem dX9_book_7 : decode cX9_book 7 = .ok (.putfield 261, 3) := by decide +kernel
theorem dX9_book_10 : decode cX9_book 10 = .ok (.iconst 0, 1) := by decide +kernel
theorem dX9_book_11 : decode cX9_book 11 = .ok (.ireturn, 1) := by decide +kernel
theorem dX9_book_12 : decode cX9_book 12 = .ok (.aload_n 0, 1) := by decide +kernel
theorem dX9_book_13 : decode cX9_book 13 = .ok (.iload_n 1, 1) := by decide +kernel
theorem dX9_book_14 : decode cX9_book 14 = .ok (.iload_n 2, 1) := by decide +kernel
theorem dX9_book_15 : decode cX9_book 15 = .ok (.invokevirtual 95, 3) := by decide +kernel
theorem dX9_book_18 : decode cX9_book 18 = .ok (.ifCond .ne 5, 3) := by decide +kernel
theorem dX9_book_21 : decode cX9_book 21 = .ok (.iconst (-1), 1) := by decide +kernel
theorem dX9_book_22 : decode cX9_book 22 = .ok (.ireturn, 1) := by decide +kernel
theorem dX9_book_23 : decode cX9_book 23 = .ok (.iload_n 3, 1) := by decide +kernel
theorem dX9_book_24 : decode cX9_book 24 = .ok (.iconst 1, 1) := by decide +kernel
theorem dX9_book_25 : decode cX9_book 25 = .ok (.sipush 999, 3) := by decide +kernel
theorem dX9_book_28 : decode cX9_book 28 = .ok (.invokestatic 80, 3) := by decide +kernel
theorem dX9_book_31 : decode cX9_book 31 = .ok (.ifCond .ne 6, 3) := by decide +kernel
theorem dX9_book_34 : decode cX9_book 34 = .ok (.bipush (-2), 2) := by decide +kernel
theorem dX9_book_36 : decode cX9_book 36 = .ok (.ireturn, 1) := by decide +kernel
theorem dX9_book_37 : decode cX9_book 37 = .ok (.aload_n 0, 1) := by decide +kernel
theorem dX9_book_38 : decode cX9_book 38 = .ok (.getfield 261, 3) := by decide +kernel
theorem dX9_book_41 : decode cX9_book 41 = .ok (.bipush 8, 2) := by decide +kernel
theorem dX9_book_43 : decode cX9_book 43 = .ok (.if_icmp .ne 6, 3) := by decide +kernel
theorem dX9_book_46 : decode cX9_book 46 = .ok (.bipush (-4), 2) := by decide +kernel
theorem dX9_book_48 : decode cX9_book 48 = .ok (.ireturn, 1) := by decide +kernel
theorem dX9_book_49 : decode cX9_book 49 = .ok (.aload_n 0, 1) := by decide +kernel
theorem dX9_book_50 : decode cX9_book 50 = .ok (.getfield 30, 3) := by decide +kernel
theorem dX9_book_53 : decode cX9_book 53 = .ok (.iconst 3, 1) := by decide +kernel
theorem dX9_book_54 : decode cX9_book 54 = .ok (.aload_n 0, 1) := by decide +kernel
theorem dX9_book_55 : decode cX9_book 55 = .ok (.getfield 261, 3) := by decide +kernel
theorem dX9_book_58 : decode cX9_book 58 = .ok (.imul, 1) := by decide +kernel
theorem dX9_book_59 : decode cX9_book 59 = .ok (.iload_n 1, 1) := by decide +kernel
theorem dX9_book_60 : decode cX9_book 60 = .ok (.iastore, 1) := by decide +kernel
theorem dX9_book_61 : decode cX9_book 61 = .ok (.aload_n 0, 1) := by decide +kernel
theorem dX9_book_62 : decode cX9_book 62 = .ok (.getfield 30, 3) := by decide +kernel
theorem dX9_book_65 : decode cX9_book 65 = .ok (.iconst 3, 1) := by decide +kernel
theorem dX9_book_66 : decode cX9_book 66 = .ok (.aload_n 0, 1) := by decide +kernel
theorem dX9_book_67 : decode cX9_book 67 = .ok (.getfield 261, 3) := by decide +kernel
theorem dX9_book_70 : decode cX9_book 70 = .ok (.imul, 1) := by decide +kernel
theorem dX9_book_71 : decode cX9_book 71 = .ok (.iconst 1, 1) := by decide +kernel
theorem dX9_book_72 : decode cX9_book 72 = .ok (.iadd, 1) := by decide +kernel
theorem dX9_book_73 : decode cX9_book 73 = .ok (.iload_n 2, 1) := by decide +kernel
theorem dX9_book_74 : decode cX9_book 74 = .ok (.iastore, 1) := by decide +kernel
theorem dX9_book_75 : decode cX9_book 75 = .ok (.aload_n 0, 1) := by decide +kernel
theorem dX9_book_76 : decode cX9_book 76 = .ok (.getfield 30, 3) := by decide +kernel
theorem dX9_book_79 : decode cX9_book 79 = .ok (.iconst 3, 1) := by decide +kernel
theorem dX9_book_80 : decode cX9_book 80 = .ok (.aload_n 0, 1) := by decide +kernel
theorem dX9_book_81 : decode cX9_book 81 = .ok (.getfield 261, 3) := by decide +kernel
theorem dX9_book_84 : decode cX9_book 84 = .ok (.imul, 1) := by decide +kernel
theorem dX9_book_85 : decode cX9_book 85 = .ok (.iconst 2, 1) := by decide +kernel
theorem dX9_book_86 : decode cX9_book 86 = .ok (.iadd, 1) := by decide +kernel
theorem dX9_book_87 : decode cX9_book 87 = .ok (.iload_n 3, 1) := by decide +kernel
theorem dX9_book_88 : decode cX9_book 88 = .ok (.iastore, 1) := by decide +kernel
theorem dX9_book_89 : decode cX9_book 89 = .ok (.aload_n 0, 1) := by decide +kernel
theorem dX9_book_90 : decode cX9_book 90 = .ok (.dup, 1) := by decide +kernel
theorem dX9_book_91 : decode cX9_book 91 = .ok (.getfield 261, 3) := by decide +kernel
theorem dX9_book_94 : decode cX9_book 94 = .ok (.iconst 1, 1) := by decide +kernel
theorem dX9_book_95 : decode cX9_book 95 = .ok (.iadd, 1) := by decide +kernel
theorem dX9_book_96 : decode cX9_book 96 = .ok (.putfield 261, 3) := by decide +kernel
theorem dX9_book_99 : decode cX9_book 99 = .ok (.aload_n 0, 1) := by decide +kernel
theorem dX9_book_100 : decode cX9_book 100 = .ok (.getfield 261, 3) := by decide +kernel
theorem dX9_book_103 : decode cX9_book 103 = .ok (.ireturn, 1) := by decide +kernel
def fX9_book (u_people : Int32) (u_inBook : Int32) (u_book : (Nat → Int32)) (x1 : Int32) (x2 : Int32) (x3 : Int32) : Option (Int32 × Int32 × (Nat → Int32)) := if x1 = (-1) then (some (0, 0, u_book)) else ((fX9_areTwo u_people x1 x2).bind (fun z2 => if z2 = 0 then (some ((-1), u_inBook, u_book)) else ((fX9_within x3 1 999).bind (fun z4 => if z4 = 0 then (some ((-2), u_inBook, u_book)) else (if u_inBook = 8 then (some ((-4), u_inBook, u_book)) else (gA (3 * u_inBook) 24 (gA ((3 * u_inBook) + 1) 24 (gA ((3 * u_inBook) + 2) 24 (some (u_inBook + 1, u_inBook + 1, upd (upd (upd u_book (3 * u_inBook : Int32).toNatClampNeg x1) ((3 * u_inBook) + 1 : Int32).toNatClampNeg x2) ((3 * u_inBook) + 2 : Int32).toNatClampNeg x3))))))))))
set_option maxRecDepth 20000 in
theorem CX9_book (l : Launch) (D : va_G) (C : Nat → ClassId) (q_ q_owes q_denies q_debt q_cut q_sight q_event q_book q_text q_path q_ring q_balance q_left q_sum q_parts q_group q_payment q_then q_image q_tapeSort q_tapeSize q_items : Nat) (u_people : Int32) (u_debts : Int32) (u_cuts : Int32) (u_seen : Int32) (u_events : Int32) (u_inBook : Int32) (u_texted : Int32) (u_rule : Int32) (u_rings : Int32) (u_size : Int32) (u_least : Int32) (u_worth : Int64) (u_groups : Int32) (u_paid : Int32) (u_imaged : Int32) (u_book : (Nat → Int32)) (x1 : Int32) (x2 : Int32) (x3 : Int32) (z : (Int32 × Int32 × (Nat → Int32))) (hF : fX9_book u_people u_inBook u_book x1 x2 x3 = some z) : Ct l yX9_book cX9_book 4 (some .int) 4 D C [.ref q_, .int x1, .int x2, .int x3] [(q_, .inr (9, [.int u_people, .ref q_owes, .ref q_denies, .int u_debts, .ref q_debt, .int u_cuts, .ref q_cut, .int u_seen, .ref q_sight, .int u_events, .ref q_event, .int u_inBook, .ref q_book, .int u_texted, .ref q_text, .ref q_path, .int u_rule, .int u_rings, .int u_size, .int u_least, .long u_worth, .ref q_ring, .ref q_balance, .ref q_left, .ref q_sum, .ref q_parts, .int u_groups, .ref q_group, .int u_paid, .ref q_payment, .ref q_then, .int u_imaged, .ref q_image, .ref q_tapeSort, .ref q_tapeSize, .ref q_items])), (q_book, .inl (C 0, 24, .inl u_book))] [(q_, .inr (9, [.int u_people, .ref q_owes, .ref q_denies, .int u_debts, .ref q_debt, .int u_cuts, .ref q_cut, .int u_seen, .ref q_sight, .int u_events, .ref q_event, .int z.2.1, .ref q_book, .int u_texted, .ref q_text, .ref q_path, .int u_rule, .int u_rings, .int u_size, .int u_least, .long u_worth, .ref q_ring, .ref q_balance, .ref q_left, .ref q_sum, .ref q_parts, .int u_groups, .ref q_group, .int u_paid, .ref q_payment, .ref q_then, .int u_imaged, .ref q_image, .ref q_tapeSort, .ref q_tapeSize, .ref q_items])), (q_book, .inl (C 0, 24, .inl z.2.2))] (some (.int z.1)) := by
  refine Ct_of (by decide) (Nat.le_of_ble_eq_true rfl) ?_
  intro p e R s m args below meth c A Q H locs ls cx hw hl hret
  have cx : CX p m c s args RX9 cX9_book 4 D C A R 4 := cx
  have hx := cx.1
  have hb := cx.2.1
  have hl : lv_has ls 4 [(0, .ref q_), (1, .int x1), (2, .int x2), (3, .int x3)] := hl
  rw [fX9_book.eq_1] at hF
  refine lv_iload_n hx hb dX9_book_0 rfl (lv_at hl 1 rfl) ?_
  refine lv_iconst (v := (-1)) hx hb dX9_book_1 (by decide) ?_
  refine lv_icmp_ne (tgt := 12) hx hb dX9_book_2 (by decide) (fun c1 => ?_) (fun c1 => ?_)
  · replace hF := oi_f c1 hF
    refine lv_aload_n hx hb dX9_book_12 rfl (lv_at hl 0 rfl) ?_
    refine lv_iload_n hx hb dX9_book_13 rfl (lv_at hl 1 rfl) ?_
    refine lv_iload_n hx hb dX9_book_14 rfl (lv_at hl 2 rfl) ?_
    obtain ⟨z2, hz2, hF⟩ := ob hF
    refine cV (wr := [(q_book, .inl (C 0, 24, .inl u_book))]) (w2 := [(q_, .inr (9, [.int u_people, .ref q_owes, .ref q_denies, .int u_debts, .ref q_debt, .int u_cuts, .ref q_cut, .int u_seen, .ref q_sight, .int u_events, .ref q_event, .int u_inBook, .ref q_book, .int u_texted, .ref q_text, .ref q_path, .int u_rule, .int u_rings, .int u_size, .int u_least, .long u_worth, .ref q_ring, .ref q_balance, .ref q_left, .ref q_sum, .ref q_parts, .int u_groups, .ref q_group, .int u_paid, .ref q_payment, .ref q_then, .int u_imaged, .ref q_image, .ref q_tapeSort, .ref q_tapeSize, .ref q_items])), (q_book, .inl (C 0, 24, .inl u_book))]) (st2 := [.int z2]) cx (CX9_areTwo l D C q_ q_owes q_denies q_debt q_cut q_sight q_event q_book q_text q_path q_ring q_balance q_left q_sum q_parts q_group q_payment q_then q_image q_tapeSort q_tapeSize q_items u_people u_debts u_cuts u_seen u_events u_inBook u_texted u_rule u_rings u_size u_least u_worth u_groups u_paid u_imaged x1 x2 z2 hz2) lk_X9_95 my_X9_areTwo ml_X9_areTwo ⟨by decide, by decide⟩ hw [0] [1] [1, 0] rfl rfl (by decide) rfl rfl rfl rfl (Nat.le_of_ble_eq_true rfl) dX9_book_15 rfl (fun H locs hw => ?_) hl.1
    refine lv_if_ne (tgt := 23) hx hb dX9_book_18 (by decide) (fun c3 => ?_) (fun c3 => ?_)
    · replace hF := oi_f c3 hF
      refine lv_iload_n hx hb dX9_book_23 rfl (lv_at hl 3 rfl) ?_
      refine lv_iconst (v := 1) hx hb dX9_book_24 (by decide) ?_
      refine lv_sipush (v := 999) hx hb dX9_book_25 (by decide) ?_
      obtain ⟨z4, hz4, hF⟩ := ob hF
      refine cS (wr := [(q_, .inr (9, [.int u_people, .ref q_owes, .ref q_denies, .int u_debts, .ref q_debt, .int u_cuts, .ref q_cut, .int u_seen, .ref q_sight, .int u_events, .ref q_event, .int u_inBook, .ref q_book, .int u_texted, .ref q_text, .ref q_path, .int u_rule, .int u_rings, .int u_size, .int u_least, .long u_worth, .ref q_ring, .ref q_balance, .ref q_left, .ref q_sum, .ref q_parts, .int u_groups, .ref q_group, .int u_paid, .ref q_payment, .ref q_then, .int u_imaged, .ref q_image, .ref q_tapeSort, .ref q_tapeSize, .ref q_items])), (q_book, .inl (C 0, 24, .inl u_book))]) (w2 := [(q_, .inr (9, [.int u_people, .ref q_owes, .ref q_denies, .int u_debts, .ref q_debt, .int u_cuts, .ref q_cut, .int u_seen, .ref q_sight, .int u_events, .ref q_event, .int u_inBook, .ref q_book, .int u_texted, .ref q_text, .ref q_path, .int u_rule, .int u_rings, .int u_size, .int u_least, .long u_worth, .ref q_ring, .ref q_balance, .ref q_left, .ref q_sum, .ref q_parts, .int u_groups, .ref q_group, .int u_paid, .ref q_payment, .ref q_then, .int u_imaged, .ref q_image, .ref q_tapeSort, .ref q_tapeSize, .ref q_items])), (q_book, .inl (C 0, 24, .inl u_book))]) (st2 := [.int z4]) cx (CX9_within l D C x3 1 999 z4 hz4) lk_X9_80 my_X9_within ml_X9_within ⟨by decide, by decide⟩ hw [] [0, 1] [0, 1] rfl rfl (by decide) rfl rfl (Nat.le_of_ble_eq_true rfl) dX9_book_28 rfl (fun H locs hw => ?_) hl.1
      refine lv_if_ne (tgt := 37) hx hb dX9_book_31 (by decide) (fun c5 => ?_) (fun c5 => ?_)
      · replace hF := oi_f c5 hF
        refine lv_aload_n hx hb dX9_book_37 rfl (lv_at hl 0 rfl) ?_
        refine r_get (ci := 9) (v := .int u_inBook) cx hw iX9 0 11 rfl rfl (by decide) wf_X9_261 rfl dX9_book_38 ?_
        refine lv_bipush (v := 8) hx hb dX9_book_41 (by decide) ?_
        refine lv_icmp_ne (tgt := 49) hx hb dX9_book_43 (by decide) (fun c6 => ?_) (fun c6 => ?_)
        · replace hF := oi_f c6 hF
          refine lv_aload_n hx hb dX9_book_49 rfl (lv_at hl 0 rfl) ?_
          refine r_get (ci := 9) (v := .ref q_book) cx hw iX9 0 12 rfl rfl (by decide) wf_X9_30 rfl dX9_book_50 ?_
          refine lv_iconst (v := 3) hx hb dX9_book_53 (by decide) ?_
          refine lv_aload_n hx hb dX9_book_54 rfl (lv_at hl 0 rfl) ?_
          refine r_get (ci := 9) (v := .int u_inBook) cx hw iX9 0 11 rfl rfl (by decide) wf_X9_261 rfl dX9_book_55 ?_
          refine lv_imul hx hb dX9_book_58 ?_
          refine lv_iload_n hx hb dX9_book_59 rfl (lv_at hl 1 rfl) ?_
          obtain ⟨g7, hF⟩ := gA_s hF
          refine r_iast (w2 := [(q_, .inr (9, [.int u_people, .ref q_owes, .ref q_denies, .int u_debts, .ref q_debt, .int u_cuts, .ref q_cut, .int u_seen, .ref q_sight, .int u_events, .ref q_event, .int u_inBook, .ref q_book, .int u_texted, .ref q_text, .ref q_path, .int u_rule, .int u_rings, .int u_size, .int u_least, .long u_worth, .ref q_ring, .ref q_balance, .ref q_left, .ref q_sum, .ref q_parts, .int u_groups, .ref q_group, .int u_paid, .ref q_payment, .ref q_then, .int u_imaged, .ref q_image, .ref q_tapeSort, .ref q_tapeSize, .ref q_items])), (q_book, .inl (C 0, 24, .inl (upd u_book (3 * u_inBook : Int32).toNatClampNeg x1)))]) cx hw 1 rfl g7 dX9_book_60 rfl (fun H locs hw => ?_)
          refine lv_aload_n hx hb dX9_book_61 rfl (lv_at hl 0 rfl) ?_
          refine r_get (ci := 9) (v := .ref q_book) cx hw iX9 0 12 rfl rfl (by decide) wf_X9_30 rfl dX9_book_62 ?_
          refine lv_iconst (v := 3) hx hb dX9_book_65 (by decide) ?_
          refine lv_aload_n hx hb dX9_book_66 rfl (lv_at hl 0 rfl) ?_
          refine r_get (ci := 9) (v := .int u_inBook) cx hw iX9 0 11 rfl rfl (by decide) wf_X9_261 rfl dX9_book_67 ?_
          refine lv_imul hx hb dX9_book_70 ?_
          refine lv_iconst (v := 1) hx hb dX9_book_71 (by decide) ?_
          refine lv_iadd hx hb dX9_book_72 ?_
          refine lv_iload_n hx hb dX9_book_73 rfl (lv_at hl 2 rfl) ?_
          obtain ⟨g8, hF⟩ := gA_s hF
          refine r_iast (w2 := [(q_, .inr (9, [.int u_people, .ref q_owes, .ref q_denies, .int u_debts, .ref q_debt, .int u_cuts, .ref q_cut, .int u_seen, .ref q_sight, .int u_events, .ref q_event, .int u_inBook, .ref q_book, .int u_texted, .ref q_text, .ref q_path, .int u_rule, .int u_rings, .int u_size, .int u_least, .long u_worth, .ref q_ring, .ref q_balance, .ref q_left, .ref q_sum, .ref q_parts, .int u_groups, .ref q_group, .int u_paid, .ref q_payment, .ref q_then, .int u_imaged, .ref q_image, .ref q_tapeSort, .ref q_tapeSize, .ref q_items])), (q_book, .inl (C 0, 24, .inl (upd (upd u_book (3 * u_inBook : Int32).toNatClampNeg x1) ((3 * u_inBook) + 1 : Int32).toNatClampNeg x2)))]) cx hw 1 rfl g8 dX9_book_74 rfl (fun H locs hw => ?_)
          refine lv_aload_n hx hb dX9_book_75 rfl (lv_at hl 0 rfl) ?_
          refine r_get (ci := 9) (v := .ref q_book) cx hw iX9 0 12 rfl rfl (by decide) wf_X9_30 rfl dX9_book_76 ?_
          refine lv_iconst (v := 3) hx hb dX9_book_79 (by decide) ?_
          refine lv_aload_n hx hb dX9_book_80 rfl (lv_at hl 0 rfl) ?_
          refine r_get (ci := 9) (v := .int u_inBook) cx hw iX9 0 11 rfl rfl (by decide) wf_X9_261 rfl dX9_book_81 ?_
          refine lv_imul hx hb dX9_book_84 ?_
          refine lv_iconst (v := 2) hx hb dX9_book_85 (by decide) ?_
          refine lv_iadd hx hb dX9_book_86 ?_
          refine lv_iload_n hx hb dX9_book_87 rfl (lv_at hl 3 rfl) ?_
          obtain ⟨g9, hF⟩ := gA_s hF
          refine r_iast (w2 := [(q_, .inr (9, [.int u_people, .ref q_owes, .ref q_denies, .int u_debts, .ref q_debt, .int u_cuts, .ref q_cut, .int u_seen, .ref q_sight, .int u_events, .ref q_event, .int u_inBook, .ref q_book, .int u_texted, .ref q_text, .ref q_path, .int u_rule, .int u_rings, .int u_size, .int u_least, .long u_worth, .ref q_ring, .ref q_balance, .ref q_left, .ref q_sum, .ref q_parts, .int u_groups, .ref q_group, .int u_paid, .ref q_payment, .ref q_then, .int u_imaged, .ref q_image, .ref q_tapeSort, .ref q_tapeSize, .ref q_items])), (q_book, .inl (C 0, 24, .inl (upd (upd (upd u_book (3 * u_inBook : Int32).toNatClampNeg x1) ((3 * u_inBook) + 1 : Int32).toNatClampNeg x2) ((3 * u_inBook) + 2 : Int32).toNatClampNeg x3)))]) cx hw 1 rfl g9 dX9_book_88 rfl (fun H locs hw => ?_)
          refine lv_aload_n hx hb dX9_book_89 rfl (lv_at hl 0 rfl) ?_
          refine lv_dup hx hb dX9_book_90 rfl ?_
          refine r_get (ci := 9) (v := .int u_inBook) cx hw iX9 0 11 rfl rfl (by decide) wf_X9_261 rfl dX9_book_91 ?_
          refine lv_iconst (v := 1) hx hb dX9_book_94 (by decide) ?_
          refine lv_iadd hx hb dX9_book_95 ?_
          refine r_put (ci := 9) (w2 := [(q_, .inr (9, [.int u_people, .ref q_owes, .ref q_denies, .int u_debts, .ref q_debt, .int u_cuts, .ref q_cut, .int u_seen, .ref q_sight, .int u_events, .ref q_event, .int (u_inBook + 1), .ref q_book, .int u_texted, .ref q_text, .ref q_path, .int u_rule, .int u_rings, .int u_size, .int u_least, .long u_worth, .ref q_ring, .ref q_balance, .ref q_left, .ref q_sum, .ref q_parts, .int u_groups, .ref q_group, .int u_paid, .ref q_payment, .ref q_then, .int u_imaged, .ref q_image, .ref q_tapeSort, .ref q_tapeSize, .ref q_items])), (q_book, .inl (C 0, 24, .inl (upd (upd (upd u_book (3 * u_inBook : Int32).toNatClampNeg x1) ((3 * u_inBook) + 1 : Int32).toNatClampNeg x2) ((3 * u_inBook) + 2 : Int32).toNatClampNeg x3)))]) cx hw iX9 tyX9_ok nmX9 0 11 rfl rfl (by decide) wf_X9_261 rfl rfl rfl rfl (Nat.le_of_ble_eq_true rfl) dX9_book_96 rfl (fun H locs hw => ?_)
          refine lv_aload_n hx hb dX9_book_99 rfl (lv_at hl 0 rfl) ?_
          refine r_get (ci := 9) (v := .int (u_inBook + 1)) cx hw iX9 0 11 rfl rfl (by decide) wf_X9_261 rfl dX9_book_100 ?_
          obtain rfl := Option.some.inj hF
          exact rt_i hret hw rfl dX9_book_103
        · replace hF := oi_t c6 hF
          refine lv_bipush (v := (-4)) hx hb dX9_book_46 (by decide) ?_
          obtain rfl := Option.some.inj hF
          exact rt_i hret hw rfl dX9_book_48
      · replace hF := oi_t c5 hF
        refine lv_bipush (v := (-2)) hx hb dX9_book_34 (by decide) ?_
        obtain rfl := Option.some.inj hF
        exact rt_i hret hw rfl dX9_book_36
    · replace hF := oi_t c3 hF
      refine lv_iconst (v := (-1)) hx hb dX9_book_21 (by decide) ?_
      obtain rfl := Option.some.inj hF
      exact rt_i hret hw rfl dX9_book_22
  · replace hF := oi_t c1 hF
    refine lv_aload_n hx hb dX9_book_5 rfl (lv_at hl 0 rfl) ?_
    refine lv_iconst (v := 0) hx hb dX9_book_6 (by decide) ?_
    refine r_put (ci := 9) (w2 := [(q_, .inr (9, [.int u_people, .ref q_owes, .ref q_denies, .int u_debts, .ref q_debt, .int u_cuts, .ref q_cut, .int u_seen, .ref q_sight, .int u_events, .ref q_event, .int 0, .ref q_book, .int u_texted, .ref q_text, .ref q_path, .int u_rule, .int u_rings, .int u_size, .int u_least, .long u_worth, .ref q_ring, .ref q_balance, .ref q_left, .ref q_sum, .ref q_parts, .int u_groups, .ref q_group, .int u_paid, .ref q_payment, .ref q_then, .int u_imaged, .ref q_image, .ref q_tapeSort, .ref q_tapeSize, .ref q_items])), (q_book, .inl (C 0, 24, .inl u_book))]) cx hw iX9 tyX9_ok nmX9 0 11 rfl rfl (by decide) wf_X9_261 rfl rfl rfl rfl (Nat.le_of_ble_eq_true rfl) dX9_book_7 rfl (fun H locs hw => ?_)
    refine lv_iconst (v := 0) hx hb dX9_book_10 (by decide) ?_
    obtain rfl := Option.some.inj hF
    exact rt_i hret hw rfl dX9_book_11
