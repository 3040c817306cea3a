theorem wf_X4_25 : Cond.fieldLink RX4 25 (TX4 4).1 (TX4 4).2.1 (TX4 4).2.2.1 ∈ gdt := gdt_of 182 (by decide +kernel) (by decide +kernel)
theorem dX4_found_0 : decode cX4_found 0 = .ok (.aload_n 0, 1) := by decide +kernel
theorem dX4_found_1 : decode cX4_found 1 = .ok (.getfield 25, 3) := by decide +kernel
theorem dX4_found_4 : decode cX4_found 4 = .ok (.ireturn, 1) := by decide +kernel
def fX4_found (u_found : Int32) : Option Int32 := some u_found
set_option maxRecDepth 20000 in
theorem CX4_found (l : Launch) (D : va_G) (C : Nat → ClassId) (q_ q_steps q_path q_taken : Nat) (u_rule : Int32) (u_found : Int32) (u_size : Int32) (u_least : Int32) (z : Int32) (hF : fX4_found u_found = some z) : Ct l yX4_found cX4_found 1 (some .int) 1 D C [.ref q_] [(q_, .inr (4, [.ref q_steps, .ref q_path, .ref q_taken, .int u_rule, .int u_found, .int u_size, .int u_least]))] [(q_, .inr (4, [.ref q_steps, .ref q_path, .ref q_taken, .int u_rule, .int u_found, .int u_size, .int u_least]))] (some (.int z)) := by
  refine Ct_of (by decide) (Nat.le_of_ble_eq_true rfl) ?_
  intro p e R s m args below meth c A Q H locs ls cx hw hl hret
  have cx : CX p m c s args RX4 cX4_found 1 D C A R 1 := cx
  have hx := cx.1
  have hb := cx.2.1
  have hl : lv_has ls 1 [(0, .ref q_)] := hl
  rw [fX4_found.eq_1] at hF
  refine lv_aload_n hx hb dX4_found_0 rfl (lv_at hl 0 rfl) ?_
  refine r_get (ci := 4) (v := .int u_found) cx hw iX4 0 4 rfl rfl (by decide) wf_X4_25 rfl dX4_found_1 ?_
  obtain rfl := Option.some.inj hF
  exact rt_i hret hw rfl dX4_found_4
theorem wf_X4_28 : Cond.fieldLink RX4 28 (TX4 5).1 (TX4 5).2.1 (TX4 5).2.2.1 ∈ gdt := gdt_of 183 (by decide +kernel) (by decide +kernel)
theorem dX4_size_0 : decode cX4_size 0 = .ok (.aload_n 0, 1) := by decide +kernel
theorem dX4_size_1 : decode cX4_size 1 = .ok (.getfield 28, 3) := by decide +kernel
theorem dX4_size_4 : decode cX4_size 4 = .ok (.ireturn, 1) := by decide +kernel
def fX4_size (u_size : Int32) : Option Int32 := some u_size
set_option maxRecDepth 20000 in
theorem CX4_size (l : Launch) (D : va_G) (C : Nat → ClassId) (q_ q_steps q_path q_taken : Nat) (u_rule : Int32) (u_found : Int32) (u_size : Int32) (u_least : Int32) (z : Int32) (hF : fX4_size u_size = some z) : Ct l yX4_size cX4_size 1 (some .int) 1 D C [.ref q_] [(q_, .inr (4, [.ref q_steps, .ref q_path, .ref q_taken, .int u_rule, .int u_found, .int u_size, .int u_least]))] [(q_, .inr (4, [.ref q_steps, .ref q_path, .ref q_taken, .int u_rule, .int u_found, .int u_size, .int u_least]))] (some (.int z)) := by
  refine Ct_of (by decide) (Nat.le_of_ble_eq_true rfl) ?_
  intro p e R s m args below meth c A Q H locs ls cx hw hl hret
  have cx : CX p m c s args RX4 cX4_size 1 D C A R 1 := cx
  have hx := cx.1
  have hb := cx.2.1
  have hl : lv_has ls 1 [(0, .ref q_)] := hl
  rw [fX4_size.eq_1] at hF
  refine lv_aload_n hx hb dX4_size_0 rfl (lv_at hl 0 rfl) ?_
  refine r_get (ci := 4) (v := .int u_size) cx hw iX4 0 5 rfl rfl (by decide) wf_X4_28 rfl dX4_size_1 ?_
  obtain rfl := Option.some.inj hF
  exact rt_i hret hw rfl dX4_size_4
theorem wf_X4_31 : Cond.fieldLink RX4 31 (TX4 6).1 (TX4 6).2.1 (TX4 6).2.2.1 ∈ gdt := gdt_of 184 (by decide +kernel) (by decide +kernel)
theorem dX4_least_0 : decode cX4_least 0 = .ok (.aload_n 0, 1) := by decide +kernel
theorem dX4_least_1 : decode cX4_least 1 = .ok (.getfield 31, 3) := by decide +kernel
theorem dX4_least_4 : decode cX4_least 4 = .ok (.ireturn, 1) := by decide +kernel
def fX4_least (u_least : Int32) : Option Int32 := some u_least
set_option maxRecDepth 20000 in
theorem CX4_least (l : Launch) (D : va_G) (C : Nat → ClassId) (q_ q_steps q_path q_taken : Nat) (u_rule : Int32) (u_found : Int32) (u_size : Int32) (u_least : Int32) (z : Int32) (hF : fX4_least u_least = some z) : Ct l yX4_least cX4_least 1 (some .int) 1 D C [.ref q_] [(q_, .inr (4, [.ref q_steps, .ref q_path, .ref q_taken, .int u_rule, .int u_found, .int u_size, .int u_least]))] [(q_, .inr (4, [.ref q_steps, .ref q_path, .ref q_taken, .int u_rule, .int u_found, .int u_size, .int u_least]))] (some (.int z)) := by
  refine Ct_of (by decide) (Nat.le_of_ble_eq_true rfl) ?_
  intro p e R s m args below meth c A Q H locs ls cx hw hl hret
  have cx : CX p m c s args RX4 cX4_least 1 D C A R 1 := cx
  have hx := cx.1
  have hb := cx.2.1
  have hl : lv_has ls 1 [(0, .ref q_)] := hl
  rw [fX4_least.eq_1] at hF
  refine lv_aload_n hx hb dX4_least_0 rfl (lv_at hl 0 rfl) ?_
  refine r_get (ci := 4) (v := .int u_least) cx hw iX4 0 6 rfl rfl (by decide) wf_X4_31 rfl dX4_least_1 ?_
  obtain rfl := Option.some.inj hF
  exact rt_i hret hw rfl dX4_least_4
theorem wf_X4_18 : Cond.fieldLink RX4 18 (TX4 2).1 (TX4 2).2.1 (TX4 2).2.2.1 ∈ gdt := gdt_of 180 (by decide +kernel) (by decide +kernel)
theorem dX4_personAt_0 : decode cX4_personAt 0 = .ok (.iload_n 1, 1) := by decide +kernel
theorem dX4_personAt_1 : decode cX4_personAt 1 = .ok (.ifCond .lt 26, 3) := by decide +kernel
theorem dX4_personAt_4 : decode cX4_personAt 4 = .ok (.iload_n 1, 1) := by decide +kernel
theorem dX4_personAt_5 : decode cX4_personAt 5 = .ok (.aload_n 0, 1) := by decide +kernel
theorem dX4_personAt_6 : decode cX4_personAt 6 = .ok (.getfield 28, 3) := by decide +kernel
theorem dX4_personAt_9 : decode cX4_personAt 9 = .ok (.if_icmp .ge 18, 3) := by decide +kernel
theorem dX4_personAt_12 : decode cX4_personAt 12 = .ok (.iload_n 1, 1) := by decide +kernel
theorem dX4_personAt_13 : decode cX4_personAt 13 = .ok (.bipush 6, 2) := by decide +kernel
theorem dX4_personAt_15 : decode cX4_personAt 15 = .ok (.if_icmp .ge 12, 3) := by decide +kernel
theorem dX4_personAt_18 : decode cX4_personAt 18 = .ok (.aload_n 0, 1) := by decide +kernel
theorem dX4_personAt_19 : decode cX4_personAt 19 = .ok (.getfield 18, 3) := by decide +kernel
theorem dX4_personAt_22 : decode cX4_personAt 22 = .ok (.iload_n 1, 1) := by decide +kernel
theorem dX4_personAt_23 : decode cX4_personAt 23 = .ok (.iaload, 1) := by decide +kernel
theorem dX4_personAt_24 : decode cX4_personAt 24 = .ok (.goto 4, 3) := by decide +kernel
theorem dX4_personAt_27 : decode cX4_personAt 27 = .ok (.iconst (-1), 1) := by decide +kernel
theorem dX4_personAt_28 : decode cX4_personAt 28 = .ok (.ireturn, 1) := by decide +kernel
def fX4_personAt (u_size : Int32) (u_taken : (Nat → Int32)) (x1 : Int32) : Option Int32 := if x1 < 0 then (some (-1)) else (if u_size ≤ x1 then (some (-1)) else (if 6 ≤ x1 then (some (-1)) else (gA x1 6 (some (u_taken (x1).toNatClampNeg)))))
set_option maxRecDepth 20000 in
theorem CX4_personAt (l : Launch) (D : va_G) (C : Nat → ClassId) (q_ q_steps q_path q_taken : Nat) (u_rule : Int32) (u_found : Int32) (u_size : Int32) (u_least : Int32) (u_taken : (Nat → Int32)) (x1 : Int32) (z : Int32) (hF : fX4_personAt u_size u_taken x1 = some z) : Ct l yX4_personAt cX4_personAt 2 (some .int) 1 D C [.ref q_, .int x1] [(q_, .inr (4, [.ref q_steps, .ref q_path, .ref q_taken, .int u_rule, .int u_found, .int u_size, .int u_least])), (q_taken, .inl (C 0, 6, .inl u_taken))] [(q_, .inr (4, [.ref q_steps, .ref q_path, .ref q_taken, .int u_rule, .int u_found, .int u_size, .int u_least])), (q_taken, .inl (C 0, 6, .inl u_taken))] (some (.int z)) := by
  refine Ct_of (by decide) (Nat.le_of_ble_eq_true rfl) ?_
  intro p e R s m args below meth c A Q H locs ls cx hw hl hret
  have cx : CX p m c s args RX4 cX4_personAt 2 D C A R 1 := cx
  have hx := cx.1
  have hb := cx.2.1
  have hl : lv_has ls 2 [(0, .ref q_), (1, .int x1)] := hl
  rw [fX4_personAt.eq_1] at hF
  refine lv_iload_n hx hb dX4_personAt_0 rfl (lv_at hl 1 rfl) ?_
  refine lv_if_lt (tgt := 27) hx hb dX4_personAt_1 (by decide) (fun c1 => ?_) (fun c1 => ?_)
  · replace hF := oi_t c1 hF
    refine lv_iconst (v := (-1)) hx hb dX4_personAt_27 (by decide) ?_
    obtain rfl := Option.some.inj hF
    exact rt_i hret hw rfl dX4_personAt_28
  · replace hF := oi_f c1 hF
    refine lv_iload_n hx hb dX4_personAt_4 rfl (lv_at hl 1 rfl) ?_
    refine lv_aload_n hx hb dX4_personAt_5 rfl (lv_at hl 0 rfl) ?_
    refine r_get (ci := 4) (v := .int u_size) cx hw iX4 0 5 rfl rfl (by decide) wf_X4_28 rfl dX4_personAt_6 ?_
    refine lv_icmp_ge (tgt := 27) hx hb dX4_personAt_9 (by decide) (fun c2 => ?_) (fun c2 => ?_)
    · replace hF := oi_t c2 hF
      refine lv_iconst (v := (-1)) hx hb dX4_personAt_27 (by decide) ?_
      obtain rfl := Option.some.inj hF
      exact rt_i hret hw rfl dX4_personAt_28
    · replace hF := oi_f c2 hF
      refine lv_iload_n hx hb dX4_personAt_12 rfl (lv_at hl 1 rfl) ?_
      refine lv_bipush (v := 6) hx hb dX4_personAt_13 (by decide) ?_
      refine lv_icmp_ge (tgt := 27) hx hb dX4_personAt_15 (by decide) (fun c3 => ?_) (fun c3 => ?_)
      · replace hF := oi_t c3 hF
        refine lv_iconst (v := (-1)) hx hb dX4_personAt_27 (by decide) ?_
        obtain rfl := Option.some.inj hF
        exact rt_i hret hw rfl dX4_personAt_28
      · replace hF := oi_f c3 hF
        refine lv_aload_n hx hb dX4_personAt_18 rfl (lv_at hl 0 rfl) ?_
        refine r_get (ci := 4) (v := .ref q_taken) cx hw iX4 0 2 rfl rfl (by decide) wf_X4_18 rfl dX4_personAt_19 ?_
        refine lv_iload_n hx hb dX4_personAt_22 rfl (lv_at hl 1 rfl) ?_
        obtain ⟨g4, hF⟩ := gA_s hF
        refine r_iald cx hw 1 rfl g4 dX4_personAt_23 ?_
        refine lv_goto (tgt := 28) hx hb dX4_personAt_24 (by decide) ?_
        obtain rfl := Option.some.inj hF
        exact rt_i hret hw rfl dX4_personAt_28
theorem lk_X4_34 : Cond.methodLink RX4 34 yX4_personAt ∈ gdt := gdt_of 462 (by decide +kernel) (by decide +kernel)
theorem my_X4_personAt : (yX4_personAt.cls ≠ "java/lang/invoke/MethodHandle" ∧ yX4_personAt.cls ≠ "java/lang/invoke/VarHandle") ∧ Cond.instanceMethod yX4_personAt ∈ gdt ∧ Cond.selects yX4_personAt.cls yX4_personAt yX4_personAt ∈ gdt ∧ Cond.initialized yX4_personAt.cls ∈ gdt ∧ Cond.code yX4_personAt cX4_personAt 2 (some .int) ∈ gdt := ⟨⟨by decide +kernel, by decide +kernel⟩, gdt_of 463 (by decide +kernel) (by decide +kernel), gdt_of 464 (by decide +kernel) (by decide +kernel), gdt_of 73 (by decide +kernel) (by decide +kernel), gdt_of 465 (by decide +kernel) (by decide +kernel)⟩
theorem ml_X4_personAt : (parseMethodDescriptor yX4_personAt.desc).map (fun d => d.parameters.length) = some 1 := by decide +kernel
theorem dX4_personBehind_0 : decode cX4_personBehind 0 = .ok (.aload_n 0, 1) := by decide +kernel
theorem dX4_personBehind_1 : decode cX4_personBehind 1 = .ok (.iload_n 1, 1) := by decide +kernel
theorem dX4_personBehind_2 : decode cX4_personBehind 2 = .ok (.iconst 1, 1) := by decide +kernel
theorem dX4_personBehind_3 : decode cX4_personBehind 3 = .ok (.iadd, 1) := by decide +kernel
theorem dX4_personBehind_4 : decode cX4_personBehind 4 = .ok (.aload_n 0, 1) := by decide +kernel
theorem dX4_personBehind_5 : decode cX4_personBehind 5 = .ok (.getfield 28, 3) := by decide +kernel
theorem dX4_personBehind_8 : decode cX4_personBehind 8 = .ok (.if_icmp .ge 9, 3) := by decide +kernel
theorem dX4_personBehind_11 : decode cX4_personBehind 11 = .ok (.iload_n 1, 1) := by decide +kernel
theorem dX4_personBehind_12 : decode cX4_personBehind 12 = .ok (.iconst 1, 1) := by decide +kernel
theorem dX4_personBehind_13 : decode cX4_personBehind 13 = .ok (.iadd, 1) := by decide +kernel
theorem dX4_personBehind_14 : decode cX4_personBehind 14 = .ok (.goto 4, 3) := by decide +kernel
theorem dX4_personBehind_17 : decode cX4_personBehind 17 = .ok (.iconst 0, 1) := by decide +kernel
theorem dX4_personBehind_18 : decode cX4_personBehind 18 = .ok (.invokevirtual 34, 3) := by decide +kernel
theorem dX4_personBehind_21 : decode cX4_personBehind 21 = .ok (.ireturn, 1) := by decide +kernel
def fX4_personBehind (u_size : Int32) (u_taken : (Nat → Int32)) (x1 : Int32) : Option Int32 := if u_size ≤ (x1 + 1) then ((fX4_personAt u_size u_taken 0).bind (fun z2 => some z2)) else ((fX4_personAt u_size u_taken (x1 + 1)).bind (fun z3 => some z3))
set_option maxRecDepth 20000 in
theorem CX4_personBehind (l : Launch) (D : va_G) (C : Nat → ClassId) (q_ q_steps q_path q_taken : Nat) (u_rule : Int32) (u_found : Int32) (u_size : Int32) (u_least : Int32) (u_taken : (Nat → Int32)) (x1 : Int32) (z : Int32) (hF : fX4_personBehind u_size u_taken x1 = some z) : Ct l yX4_personBehind cX4_personBehind 2 (some .int) 2 D C [.ref q_, .int x1] [(q_, .inr (4, [.ref q_steps, .ref q_path, .ref q_taken, .int u_rule, .int u_found, .int u_size, .int u_least])), (q_taken, .inl (C 0, 6, .inl u_taken))] [(q_, .inr (4, [.ref q_steps, .ref q_path, .ref q_taken, .int u_rule, .int u_found, .int u_size, .int u_least])), (q_taken, .inl (C 0, 6, .inl u_taken))] (some (.int z)) := by
  refine Ct_of (by decide) (Nat.le_of_ble_eq_true rfl) ?_
  intro p e R s m args below meth c A Q H locs ls cx hw hl hret
  have cx : CX p m c s args RX4 cX4_personBehind 2 D C A R 2 := cx
  have hx := cx.1
  have hb := cx.2.1
  have hl : lv_has ls 2 [(0, .ref q_), (1, .int x1)] := hl
  rw [fX4_personBehind.eq_1] at hF
  refine lv_aload_n hx hb dX4_personBehind_0 rfl (lv_at hl 0 rfl) ?_
  refine lv_iload_n hx hb dX4_personBehind_1 rfl (lv_at hl 1 rfl) ?_
  refine lv_iconst (v := 1) hx hb dX4_personBehind_2 (by decide) ?_
  refine lv_iadd hx hb dX4_personBehind_3 ?_
  refine lv_aload_n hx hb dX4_personBehind_4 rfl (lv_at hl 0 rfl) ?_
  refine r_get (ci := 4) (v := .int u_size) cx hw iX4 0 5 rfl rfl (by decide) wf_X4_28 rfl dX4_personBehind_5 ?_
  refine lv_icmp_ge (tgt := 17) hx hb dX4_personBehind_8 (by decide) (fun c1 => ?_) (fun c1 => ?_)
  · replace hF := oi_t c1 hF
    refine lv_iconst (v := 0) hx hb dX4_personBehind_17 (by decide) ?_
    obtain ⟨z2, hz2, hF⟩ := ob hF
    refine cV (wr := []) (w2 := [(q_, .inr (4, [.ref q_steps, .ref q_path, .ref q_taken, .int u_rule, .int u_found, .int u_size, .int u_least])), (q_taken, .inl (C 0, 6, .inl u_taken))]) (st2 := [.int z2]) cx (CX4_personAt l D C q_ q_steps q_path q_taken u_rule u_found u_size u_least u_taken 0 z2 hz2) lk_X4_34 my_X4_personAt ml_X4_personAt ⟨by decide, by decide⟩ hw [0, 1] [] [0, 1] rfl rfl (by decide) rfl rfl rfl rfl (Nat.le_of_ble_eq_true rfl) dX4_personBehind_18 rfl (fun H locs hw => ?_) hl.1
    obtain rfl := Option.some.inj hF
    exact rt_i hret hw rfl dX4_personBehind_21
  · replace hF := oi_f c1 hF
    refine lv_iload_n hx hb dX4_personBehind_11 rfl (lv_at hl 1 rfl) ?_
    refine lv_iconst (v := 1) hx hb dX4_personBehind_12 (by decide) ?_
    refine lv_iadd hx hb dX4_personBehind_13 ?_
    refine lv_goto (tgt := 18) hx hb dX4_personBehind_14 (by decide) ?_
    obtain ⟨z3, hz3, hF⟩ := ob hF
    refine cV (wr := []) (w2 := [(q_, .inr (4, [.ref q_steps, .ref q_path, .ref q_taken, .int u_rule, .int u_found, .int u_size, .int u_least])), (q_taken, .inl (C 0, 6, .inl u_taken))]) (st2 := [.int z3]) cx (CX4_personAt l D C q_ q_steps q_path q_taken u_rule u_found u_size u_least u_taken (x1 + 1) z3 hz3) lk_X4_34 my_X4_personAt ml_X4_personAt ⟨by decide, by decide⟩ hw [0, 1] [] [0, 1] rfl rfl (by decide) rfl rfl rfl rfl (Nat.le_of_ble_eq_true rfl) dX4_personBehind_18 rfl (fun H locs hw => ?_) hl.1
    obtain rfl := Option.some.inj hF
    exact rt_i hret hw rfl dX4_personBehind_21
theorem lk_X4_38 : Cond.methodLink RX4 38 yX4_personBehind ∈ gdt := gdt_of 466 (by decide +kernel) (by decide +kernel)
theorem my_X4_personBehind : (yX4_personBehind.cls ≠ "java/lang/invoke/MethodHandle" ∧ yX4_personBehind.cls ≠ "java/lang/invoke/VarHandle") ∧ Cond.instanceMethod yX4_personBehind ∈ gdt ∧ Cond.selects yX4_personBehind.cls yX4_personBehind yX4_personBehind ∈ gdt ∧ Cond.initialized yX4_personBehind.cls ∈ gdt ∧ Cond.code yX4_personBehind cX4_personBehind 2 (some .int) ∈ gdt := ⟨⟨by decide +kernel, by decide +kernel⟩, gdt_of 468 (by decide +kernel) (by decide +kernel), gdt_of 12 (by decide +kernel) (by decide +kernel), gdt_of 73 (by decide +kernel) (by decide +kernel), gdt_of 469 (by decide +kernel) (by decide +kernel)⟩
theorem ml_X4_personBehind : (parseMethodDescriptor yX4_personBehind.desc).map (fun d => d.parameters.length) = some 1 := by decide +kernel
theorem dX4_hasStep_0 : decode cX4_hasStep 0 = .ok (.iconst 0, 1) := by decide +kernel
theorem dX4_hasStep_1 : decode cX4_hasStep 1 = .ok (.istore_n 3, 1) := by decide +kernel
theorem dX4_hasStep_2 : decode cX4_hasStep 2 = .ok (.iload_n 3, 1) := by decide +kernel
theorem dX4_hasStep_3 : decode cX4_hasStep 3 = .ok (.aload_n 0, 1) := by decide +kernel
theorem dX4_hasStep_4 : decode cX4_hasStep 4 = .ok (.getfield 28, 3) := by decide +kernel
theorem dX4_hasStep_7 : decode cX4_hasStep 7 = .ok (.if_icmp .ge 29, 3) := by decide +kernel
theorem dX4_hasStep_10 : decode cX4_hasStep 10 = .ok (.aload_n 0, 1) := by decide +kernel
theorem dX4_hasStep_11 : decode cX4_hasStep 11 = .ok (.iload_n 3, 1) := by decide +kernel
theorem dX4_hasStep_12 : decode cX4_hasStep 12 = .ok (.invokevirtual 34, 3) := by decide +kernel
theorem dX4_hasStep_15 : decode cX4_hasStep 15 = .ok (.iload_n 1, 1) := by decide +kernel
theorem dX4_hasStep_16 : decode cX4_hasStep 16 = .ok (.if_icmp .ne 14, 3) := by decide +kernel
theorem dX4_hasStep_19 : decode cX4_hasStep 19 = .ok (.aload_n 0, 1) := by decide +kernel
theorem dX4_hasStep_20 : decode cX4_hasStep 20 = .ok (.iload_n 3, 1) := by decide +kernel
theorem dX4_hasStep_21 : decode cX4_hasStep 21 = .ok (.invokevirtual 38, 3) := by decide +kernel
theorem dX4_hasStep_24 : decode cX4_hasStep 24 = .ok (.iload_n 2, 1) := by decide +kernel
theorem dX4_hasStep_25 : decode cX4_hasStep 25 = .ok (.if_icmp .ne 5, 3) := by decide +kernel
theorem dX4_hasStep_28 : decode cX4_hasStep 28 = .ok (.iconst 1, 1) := by decide +kernel
theorem dX4_hasStep_29 : decode cX4_hasStep 29 = .ok (.ireturn, 1) := by decide +kernel
theorem dX4_hasStep_30 : decode cX4_hasStep 30 = .ok (.iinc 3 1, 3) := by decide +kernel
theorem dX4_hasStep_33 : decode cX4_hasStep 33 = .ok (.goto (-31), 3) := by decide +kernel
theorem dX4_hasStep_36 : decode cX4_hasStep 36 = .ok (.iconst 0, 1) := by decide +kernel
theorem dX4_hasStep_37 : decode cX4_hasStep 37 = .ok (.ireturn, 1) := by decide +kernel
def fX4_hasStep_L2 (u_size : Int32) (u_taken : (Nat → Int32)) (x1 : Int32) (x2 : Int32) : Nat → Int32 → Option Int32
  | 0, _ => none
  | n + 1, x3 => if u_size ≤ x3 then (some 0) else ((fX4_personAt u_size u_taken x3).bind (fun z2 => if z2 = x1 then ((fX4_personBehind u_size u_taken x3).bind (fun z4 => if z4 = x2 then (some 1) else (fX4_hasStep_L2 u_size u_taken x1 x2 n (x3 + 1)))) else (fX4_hasStep_L2 u_size u_taken x1 x2 n (x3 + 1))))
def fX4_hasStep (u_size : Int32) (u_taken : (Nat → Int32)) (x1 : Int32) (x2 : Int32) : Option Int32 := fX4_hasStep_L2 u_size u_taken x1 x2 400 0
set_option maxRecDepth 20000 in
theorem LX4_hasStep_2 {p : Program} {l : Launch} {e : Env} {R : Room} {s : State} {m : MethodId} {args : Array Value} {below : List Frame} {meth : Method} {c : Code} {Q : State → Prop} {D : va_G} {C : Nat → ClassId} {A : Nat → Prop} (cx : CX p m c s args RX4 cX4_hasStep 4 D C A R 3) {q_ q_steps q_path q_taken : Nat} {u_rule : Int32} {u_found : Int32} {u_size : Int32} {u_least : Int32} {u_taken : (Nat → Int32)} {x1 : Int32} {x2 : Int32} {z : Int32} (hret : RT p l e R s m args below meth c Q D A cX4_hasStep (some .boolean) [(q_, .inr (4, [.ref q_steps, .ref q_path, .ref q_taken, .int u_rule, .int u_found, .int u_size, .int u_least])), (q_taken, .inl (C 0, 6, .inl u_taken))] (some (.int z))) :
    ∀ (n : Nat) (x3 : Int32) (H : Heap) (locs : List Loc) (ls : Array Slot), fX4_hasStep_L2 u_size u_taken x1 x2 n x3 = some z → HW D A s.heap H locs [(q_, .inr (4, [.ref q_steps, .ref q_path, .ref q_taken, .int u_rule, .int u_found, .int u_size, .int u_least])), (q_taken, .inl (C 0, 6, .inl u_taken))] → lv_has ls 4 [(0, .ref q_), (1, .int x1), (2, .int x2), (3, .int x3)] → W p l e R s m args below meth c H locs 0 0 Q (F0 m 2 ls []) := by
  have hx := cx.1
  have hb := cx.2.1
  intro n
  induction n with
  | zero => intro x3 H locs ls hF; cases hF
  | succ n ih =>
    intro x3 H locs ls hF hw hl
    rw [fX4_hasStep_L2.eq_2] at hF
    refine lv_iload_n hx hb dX4_hasStep_2 rfl (lv_at hl 3 rfl) ?_
    refine lv_aload_n hx hb dX4_hasStep_3 rfl (lv_at hl 0 rfl) ?_
    refine r_get (ci := 4) (v := .int u_size) cx hw iX4 0 5 rfl rfl (by decide) wf_X4_28 rfl dX4_hasStep_4 ?_
    refine lv_icmp_ge (tgt := 36) hx hb dX4_hasStep_7 (by decide) (fun c1 => ?_) (fun c1 => ?_)
    · replace hF := oi_t c1 hF
      refine lv_iconst (v := 0) hx hb dX4_hasStep_36 (by decide) ?_
      obtain rfl := Option.some.inj hF
      exact rt_z hret hw rfl rfl dX4_hasStep_37
    · replace hF := oi_f c1 hF
      refine lv_aload_n hx hb dX4_hasStep_10 rfl (lv_at hl 0 rfl) ?_
      refine lv_iload_n hx hb dX4_hasStep_11 rfl (lv_at hl 3 rfl) ?_
      obtain ⟨z2, hz2, hF⟩ := ob hF
      refine cV (wr := []) (w2 := [(q_, .inr (4, [.ref q_steps, .ref q_path, .ref q_taken, .int u_rule, .int u_found, .int u_size, .int u_least])), (q_taken, .inl (C 0, 6, .inl u_taken))]) (st2 := [.int z2]) cx (CX4_personAt l D C q_ q_steps q_path q_taken u_rule u_found u_size u_least u_taken x3 z2 hz2) lk_X4_34 my_X4_personAt ml_X4_personAt ⟨by decide, by decide⟩ hw [0, 1] [] [0, 1] rfl rfl (by decide) rfl rfl rfl rfl (Nat.le_of_ble_eq_true rfl) dX4_hasStep_12 rfl (fun H locs hw => ?_) hl.1
      refine lv_iload_n hx hb dX4_hasStep_15 rfl (lv_at hl 1 rfl) ?_
      refine lv_icmp_ne (tgt := 30) hx hb dX4_hasStep_16 (by decide) (fun c3 => ?_) (fun c3 => ?_)
      · replace hF := oi_f c3 hF
        refine lv_iinc (v := x3 + 1) (lv' := [(3, .int (x3 + 1)), (0, .ref q_), (1, .int x1), (2, .int x2)]) hx hb dX4_hasStep_30 hl (k := 3) rfl rfl (by decide) rfl (fun ls hl => ?_)
        refine lv_goto (tgt := 2) hx hb dX4_hasStep_33 (by decide) ?_
        exact ih (x3 + 1) H locs ls hF hw (lv_sub hl [1, 2, 3, 0] rfl)
      · replace hF := oi_t c3 hF
        refine lv_aload_n hx hb dX4_hasStep_19 rfl (lv_at hl 0 rfl) ?_
        refine lv_iload_n hx hb dX4_hasStep_20 rfl (lv_at hl 3 rfl) ?_
        obtain ⟨z4, hz4, hF⟩ := ob hF
        refine cV (wr := []) (w2 := [(q_, .inr (4, [.ref q_steps, .ref q_path, .ref q_taken, .int u_rule, .int u_found, .int u_size, .int u_least])), (q_taken, .inl (C 0, 6, .inl u_taken))]) (st2 := [.int z4]) cx (CX4_personBehind l D C q_ q_steps q_path q_taken u_rule u_found u_size u_least u_taken x3 z4 hz4) lk_X4_38 my_X4_personBehind ml_X4_personBehind ⟨by decide, by decide⟩ hw [0, 1] [] [0, 1] rfl rfl (by decide) rfl rfl rfl rfl (Nat.le_of_ble_eq_true rfl) dX4_hasStep_21 rfl (fun H locs hw => ?_) hl.1
        refine lv_iload_n hx hb dX4_hasStep_24 rfl (lv_at hl 2 rfl) ?_
        refine lv_icmp_ne (tgt := 30) hx hb dX4_hasStep_25 (by decide) (fun c5 => ?_) (fun c5 => ?_)
        · replace hF := oi_f c5 hF
          refine lv_iinc (v := x3 + 1) (lv' := [(3, .int (x3 + 1)), (0, .ref q_), (1, .int x1), (2, .int x2)]) hx hb dX4_hasStep_30 hl (k := 3) rfl rfl (by decide) rfl (fun ls hl => ?_)
          refine lv_goto (tgt := 2) hx hb dX4_hasStep_33 (by decide) ?_
          exact ih (x3 + 1) H locs ls hF hw (lv_sub hl [1, 2, 3, 0] rfl)
        · replace hF := oi_t c5 hF
          refine lv_iconst (v := 1) hx hb dX4_hasStep_28 (by decide) ?_
          obtain rfl := Option.some.inj hF
          exact rt_z hret hw rfl rfl dX4_hasStep_29
set_option maxRecDepth 20000 in
theorem CX4_hasStep (l : Launch) (D : va_G) (C : Nat → ClassId) (q_ q_steps q_path q_taken : Nat) (u_rule : Int32) (u_found : Int32) (u_size : Int32) (u_least : Int32) (u_taken : (Nat → Int32)) (x1 : Int32) (x2 : Int32) (z : Int32) (hF : fX4_hasStep u_size u_taken x1 x2 = some z) : Ct l yX4_hasStep cX4_hasStep 4 (some .boolean) 3 D C [.ref q_, .int x1, .int x2] [(q_, .inr (4, [.ref q_steps, .ref q_path, .ref q_taken, .int u_rule, .int u_found, .int u_size, .int u_least])), (q_taken, .inl (C 0, 6, .inl u_taken))] [(q_, .inr (4, [.ref q_steps, .ref q_path, .ref q_taken, .int u_rule, .int u_found, .int u_size, .int u_least])), (q_taken, .inl (C 0, 6, .inl u_taken))] (some (.int z)) := by
  refine Ct_of (by decide) (Nat.le_of_ble_eq_true rfl) ?_
  intro p e R s m args below meth c A Q H locs ls cx hw hl hret
  have cx : CX p m c s args RX4 cX4_hasStep 4 D C A R 3 := cx
  have hx := cx.1
  have hb := cx.2.1
  have hl : lv_has ls 4 [(0, .ref q_), (1, .int x1), (2, .int x2)] := hl
  rw [fX4_hasStep.eq_1] at hF
  refine lv_iconst (v := 0) hx hb dX4_hasStep_0 (by decide) ?_
  refine lv_istore_n (lv' := [(3, .int 0), (0, .ref q_), (1, .int x1), (2, .int x2)]) hx hb dX4_hasStep_1 rfl hl (by decide) rfl (fun ls hl => ?_)
  refine LX4_hasStep_2 cx hret 400 0 H locs ls hF hw (lv_sub hl [1, 2, 3, 0] rfl)
theorem lk_X4_41 : Cond.methodLink RX4 41 yX2_amount ∈ gdt := gdt_of 425 (by decide +kernel) (by decide +kernel)
theorem lk_X4_47 : Cond.methodLink RX4 47 yX2_put ∈ gdt := gdt_of 470 (by decide +kernel) (by decide +kernel)
theorem dX4_takeLeastFrom_0 : decode cX4_takeLeastFrom 0 = .ok (.iconst 0, 1) := by decide +kernel
theorem dX4_takeLeastFrom_1 : decode cX4_takeLeastFrom 1 = .ok (.istore_n 2, 1) := by decide +kernel
theorem dX4_takeLeastFrom_2 : decode cX4_takeLeastFrom 2 = .ok (.iload_n 2, 1) := by decide +kernel
theorem dX4_takeLeastFrom_3 : decode cX4_takeLeastFrom 3 = .ok (.aload_n 0, 1) := by decide +kernel
theorem dX4_takeLeastFrom_4 : decode cX4_takeLeastFrom 4 = .ok (.getfield 28, 3) := by decide +kernel
theorem dX4_takeLeastFrom_7 : decode cX4_takeLeastFrom 7 = .ok (.if_icmp .ge 41, 3) := by decide +kernel
theorem dX4_takeLeastFrom_10 : decode cX4_takeLeastFrom 10 = .ok (.aload_n 0, 1) := by decide +kernel
theorem dX4_takeLeastFrom_11 : decode cX4_takeLeastFrom 11 = .ok (.iload_n 2, 1) := by decide +kernel
theorem dX4_takeLeastFrom_12 : decode cX4_takeLeastFrom 12 = .ok (.invokevirtual 34, 3) := by decide +kernel
theorem dX4_takeLeastFrom_15 : decode cX4_takeLeastFrom 15 = .ok (.istore_n 3, 1) := by decide +kernel
theorem dX4_takeLeastFrom_16 : decode cX4_takeLeastFrom 16 = .ok (.aload_n 0, 1) := by decide +kernel
theorem dX4_takeLeastFrom_17 : decode cX4_takeLeastFrom 17 = .ok (.iload_n 2, 1) := by decide +kernel
theorem dX4_takeLeastFrom_18 : decode cX4_takeLeastFrom 18 = .ok (.invokevirtual 38, 3) := by decide +kernel
theorem dX4_takeLeastFrom_21 : decode cX4_takeLeastFrom 21 = .ok (.istore 4, 2) := by decide +kernel
theorem dX4_takeLeastFrom_23 : decode cX4_takeLeastFrom 23 = .ok (.aload_n 1, 1) := by decide +kernel
theorem dX4_takeLeastFrom_24 : decode cX4_takeLeastFrom 24 = .ok (.iload_n 3, 1) := by decide +kernel
theorem dX4_takeLeastFrom_25 : decode cX4_takeLeastFrom 25 = .ok (.iload 4, 2) := by decide +kernel
theorem dX4_takeLeastFrom_27 : decode cX4_takeLeastFrom 27 = .ok (.aload_n 1, 1) := by decide +kernel
theorem dX4_takeLeastFrom_28 : decode cX4_takeLeastFrom 28 = .ok (.iload_n 3, 1) := by decide +kernel
theorem dX4_takeLeastFrom_29 : decode cX4_takeLeastFrom 29 = .ok (.iload 4, 2) := by decide +kernel
theorem dX4_takeLeastFrom_31 : decode cX4_takeLeastFrom 31 = .ok (.invokevirtual 41, 3) := by decide +kernel
theorem dX4_takeLeastFrom_34 : decode cX4_takeLeastFrom 34 = .ok (.aload_n 0, 1) := by decide +kernel
theorem dX4_takeLeastFrom_35 : decode cX4_takeLeastFrom 35 = .ok (.getfield 31, 3) := by decide +kernel
theorem dX4_takeLeastFrom_38 : decode cX4_takeLeastFrom 38 = .ok (.isub, 1) := by decide +kernel
theorem dX4_takeLeastFrom_39 : decode cX4_takeLeastFrom 39 = .ok (.invokevirtual 47, 3) := by decide +kernel
theorem dX4_takeLeastFrom_42 : decode cX4_takeLeastFrom 42 = .ok (.iinc 2 1, 3) := by decide +kernel
theorem dX4_takeLeastFrom_45 : decode cX4_takeLeastFrom 45 = .ok (.goto (-43), 3) := by decide +kernel
theorem dX4_takeLeastFrom_48 : decode cX4_takeLeastFrom 48 = .ok (.return_, 1) := by decide +kernel
def fX4_takeLeastFrom_L2 (u_size : Int32) (u_least : Int32) (u_taken : (Nat → Int32)) : Nat → Int32 → Int32 → (Nat → Int32) → (Nat → Int32) → Option (Int32 × (Nat → Int32) × (Nat → Int32))
  | 0, _, _, _, _ => none
  | n + 1, x2, ua1_size, ua1_owed, ua1_order => if u_size ≤ x2 then (some (ua1_size, ua1_owed, ua1_order)) else ((fX4_personAt u_size u_taken x2).bind (fun z2 => (fX4_personBehind u_size u_taken x2).bind (fun z3 => (fX2_amount ua1_owed z2 z3).bind (fun z4 => (fX2_put ua1_size ua1_owed ua1_order z2 z3 (z4 - u_least)).bind (fun z5 => fX4_takeLeastFrom_L2 u_size u_least u_taken n (x2 + 1) z5.1 z5.2.1 z5.2.2)))))
def fX4_takeLeastFrom (u_size : Int32) (u_least : Int32) (u_taken : (Nat → Int32)) (ua1_size : Int32) (ua1_owed : (Nat → Int32)) (ua1_order : (Nat → Int32)) : Option (Int32 × (Nat → Int32) × (Nat → Int32)) := fX4_takeLeastFrom_L2 u_size u_least u_taken 400 0 ua1_size ua1_owed ua1_order
set_option maxRecDepth 20000 in
theorem LX4_takeLeastFrom_2 {p : Program} {l : Launch} {e : Env} {R : Room} {s : State} {m : MethodId} {args : Array Value} {below : List Frame} {meth : Method} {c : Code} {Q : State → Prop} {D : va_G} {C : Nat → ClassId} {A : Nat → Prop} (cx : CX p m c s args RX4 cX4_takeLeastFrom 5 D C A R 3) {q_ q_steps q_path q_taken qa1_ qa1_owed qa1_order : Nat} {u_rule : Int32} {u_found : Int32} {u_size : Int32} {u_least : Int32} {u_taken : (Nat → Int32)} {z : (Int32 × (Nat → Int32) × (Nat → Int32))} (hret : RT p l e R s m args below meth c Q D A cX4_takeLeastFrom none [(q_, .inr (4, [.ref q_steps, .ref q_path, .ref q_taken, .int u_rule, .int u_found, .int u_size, .int u_least])), (q_taken, .inl (C 0, 6, .inl u_taken)), (qa1_, .inr (2, [.ref qa1_owed, .ref qa1_order, .int z.1])), (qa1_owed, .inl (C 0, 36, .inl z.2.1)), (qa1_order, .inl (C 0, 36, .inl z.2.2))] none) :
    ∀ (n : Nat) (x2 : Int32) (ua1_size : Int32) (ua1_owed : (Nat → Int32)) (ua1_order : (Nat → Int32)) (H : Heap) (locs : List Loc) (ls : Array Slot), fX4_takeLeastFrom_L2 u_size u_least u_taken n x2 ua1_size ua1_owed ua1_order = some z → HW D A s.heap H locs [(q_, .inr (4, [.ref q_steps, .ref q_path, .ref q_taken, .int u_rule, .int u_found, .int u_size, .int u_least])), (q_taken, .inl (C 0, 6, .inl u_taken)), (qa1_, .inr (2, [.ref qa1_owed, .ref qa1_order, .int ua1_size])), (qa1_owed, .inl (C 0, 36, .inl ua1_owed)), (qa1_order, .inl (C 0, 36, .inl ua1_order))] → lv_has ls 5 [(0, .ref q_), (1, .ref qa1_), (2, .int x2)] → W p l e R s m args below meth c H locs 0 0 Q (F0 m 2 ls []) := by
  have hx := cx.1
  have hb := cx.2.1
  intro n
  induction n with
  | zero => intro x2 ua1_size ua1_owed ua1_order H locs ls hF; cases hF
  | succ n ih =>
    intro x2 ua1_size ua1_owed ua1_order H locs ls hF hw hl
    rw [fX4_takeLeastFrom_L2.eq_2] at hF
    refine lv_iload_n hx hb dX4_takeLeastFrom_2 rfl (lv_at hl 2 rfl) ?_
    refine lv_aload_n hx hb dX4_takeLeastFrom_3 rfl (lv_at hl 0 rfl) ?_
    refine r_get (ci := 4) (v := .int u_size) cx hw iX4 0 5 rfl rfl (by decide) wf_X4_28 rfl dX4_takeLeastFrom_4 ?_
    refine lv_icmp_ge (tgt := 48) hx hb dX4_takeLeastFrom_7 (by decide) (fun c1 => ?_) (fun c1 => ?_)
    · replace hF := oi_t c1 hF
      obtain rfl := Option.some.inj hF
      exact rt_v hret hw rfl dX4_takeLeastFrom_48
    · replace hF := oi_f c1 hF
      refine lv_aload_n hx hb dX4_takeLeastFrom_10 rfl (lv_at hl 0 rfl) ?_
      refine lv_iload_n hx hb dX4_takeLeastFrom_11 rfl (lv_at hl 2 rfl) ?_
      obtain ⟨z2, hz2, hF⟩ := ob hF
      refine cV (wr := [(qa1_, .inr (2, [.ref qa1_owed, .ref qa1_order, .int ua1_size])), (qa1_owed, .inl (C 0, 36, .inl ua1_owed)), (qa1_order, .inl (C 0, 36, .inl ua1_order))]) (w2 := [(q_, .inr (4, [.ref q_steps, .ref q_path, .ref q_taken, .int u_rule, .int u_found, .int u_size, .int u_least])), (q_taken, .inl (C 0, 6, .inl u_taken)), (qa1_, .inr (2, [.ref qa1_owed, .ref qa1_order, .int ua1_size])), (qa1_owed, .inl (C 0, 36, .inl ua1_owed)), (qa1_order, .inl (C 0, 36, .inl ua1_order))]) (st2 := [.int z2]) cx (CX4_personAt l D C q_ q_steps q_path q_taken u_rule u_found u_size u_least u_taken x2 z2 hz2) lk_X4_34 my_X4_personAt ml_X4_personAt ⟨by decide, by decide⟩ hw [0, 1] [2, 3, 4] [3, 4, 0, 1, 2] rfl rfl (by decide) rfl rfl rfl rfl (Nat.le_of_ble_eq_true rfl) dX4_takeLeastFrom_12 rfl (fun H locs hw => ?_) hl.1
      refine lv_istore_n (lv' := [(3, .int z2), (0, .ref q_), (1, .ref qa1_), (2, .int x2)]) hx hb dX4_takeLeastFrom_15 rfl hl (by decide) rfl (fun ls hl => ?_)
      refine lv_aload_n hx hb dX4_takeLeastFrom_16 rfl (lv_at hl 1 rfl) ?_
      refine lv_iload_n hx hb dX4_takeLeastFrom_17 rfl (lv_at hl 3 rfl) ?_
      obtain ⟨z3, hz3, hF⟩ := ob hF
      refine cV (wr := [(qa1_, .inr (2, [.ref qa1_owed, .ref qa1_order, .int ua1_size])), (qa1_owed, .inl (C 0, 36, .inl ua1_owed)), (qa1_order, .inl (C 0, 36, .inl ua1_order))]) (w2 := [(q_, .inr (4, [.ref q_steps, .ref q_path, .ref q_taken, .int u_rule, .int u_found, .int u_size, .int u_least])), (q_taken, .inl (C 0, 6, .inl u_taken)), (qa1_, .inr (2, [.ref qa1_owed, .ref qa1_order, .int ua1_size])), (qa1_owed, .inl (C 0, 36, .inl ua1_owed)), (qa1_order, .inl (C 0, 36, .inl ua1_order))]) (st2 := [.int z3]) cx (CX4_personBehind l D C q_ q_steps q_path q_taken u_rule u_found u_size u_least u_taken x2 z3 hz3) lk_X4_38 my_X4_personBehind ml_X4_personBehind ⟨by decide, by decide⟩ hw [0, 1] [2, 3, 4] [3, 4, 0, 1, 2] rfl rfl (by decide) rfl rfl rfl rfl (Nat.le_of_ble_eq_true rfl) dX4_takeLeastFrom_18 rfl (fun H locs hw => ?_) hl.1
      refine lv_istore (lv' := [(4, .int z3), (3, .int z2), (0, .ref q_), (1, .ref qa1_), (2, .int x2)]) hx hb dX4_takeLeastFrom_21 hl (by decide) rfl (fun ls hl => ?_)
      refine lv_aload_n hx hb dX4_takeLeastFrom_23 rfl (lv_at hl 3 rfl) ?_
      refine lv_iload_n hx hb dX4_takeLeastFrom_24 rfl (lv_at hl 1 rfl) ?_
      refine lv_iload hx hb dX4_takeLeastFrom_25 (lv_at hl 0 rfl) ?_
      refine lv_aload_n hx hb dX4_takeLeastFrom_27 rfl (lv_at hl 3 rfl) ?_
      refine lv_iload_n hx hb dX4_takeLeastFrom_28 rfl (lv_at hl 1 rfl) ?_
      refine lv_iload hx hb dX4_takeLeastFrom_29 (lv_at hl 0 rfl) ?_
      obtain ⟨z4, hz4, hF⟩ := ob hF
      refine cV (wr := [(q_, .inr (4, [.ref q_steps, .ref q_path, .ref q_taken, .int u_rule, .int u_found, .int u_size, .int u_least])), (q_taken, .inl (C 0, 6, .inl u_taken)), (qa1_order, .inl (C 0, 36, .inl ua1_order))]) (w2 := [(q_, .inr (4, [.ref q_steps, .ref q_path, .ref q_taken, .int u_rule, .int u_found, .int u_size, .int u_least])), (q_taken, .inl (C 0, 6, .inl u_taken)), (qa1_, .inr (2, [.ref qa1_owed, .ref qa1_order, .int ua1_size])), (qa1_owed, .inl (C 0, 36, .inl ua1_owed)), (qa1_order, .inl (C 0, 36, .inl ua1_order))]) (st2 := [.int z4, .int z3, .int z2, .ref qa1_]) cx (CX2_amount l D C qa1_ qa1_owed qa1_order ua1_size ua1_owed z2 z3 z4 hz4) lk_X4_41 my_X2_amount ml_X2_amount ⟨by decide, by decide⟩ hw [2, 3] [0, 1, 4] [0, 1, 3, 4, 2] rfl rfl (by decide) rfl rfl rfl rfl (Nat.le_of_ble_eq_true rfl) dX4_takeLeastFrom_31 rfl (fun H locs hw => ?_) hl.1
      refine lv_aload_n hx hb dX4_takeLeastFrom_34 rfl (lv_at hl 2 rfl) ?_
      refine r_get (ci := 4) (v := .int u_least) cx hw iX4 0 6 rfl rfl (by decide) wf_X4_31 rfl dX4_takeLeastFrom_35 ?_
      refine lv_isub hx hb dX4_takeLeastFrom_38 ?_
      obtain ⟨z5, hz5, hF⟩ := ob hF
      refine cV (wr := [(q_, .inr (4, [.ref q_steps, .ref q_path, .ref q_taken, .int u_rule, .int u_found, .int u_size, .int u_least])), (q_taken, .inl (C 0, 6, .inl u_taken))]) (w2 := [(q_, .inr (4, [.ref q_steps, .ref q_path, .ref q_taken, .int u_rule, .int u_found, .int u_size, .int u_least])), (q_taken, .inl (C 0, 6, .inl u_taken)), (qa1_, .inr (2, [.ref qa1_owed, .ref qa1_order, .int z5.1])), (qa1_owed, .inl (C 0, 36, .inl z5.2.1)), (qa1_order, .inl (C 0, 36, .inl z5.2.2))]) (st2 := []) cx (CX2_put l D C qa1_ qa1_owed qa1_order ua1_size ua1_owed ua1_order z2 z3 (z4 - u_least) z5 hz5) lk_X4_47 my_X2_put ml_X2_put ⟨by decide, by decide⟩ hw [2, 3, 4] [0, 1] [0, 1, 2, 3, 4] rfl rfl (by decide) rfl rfl rfl rfl (Nat.le_of_ble_eq_true rfl) dX4_takeLeastFrom_39 rfl (fun H locs hw => ?_) hl.1
      refine lv_iinc (v := x2 + 1) (lv' := [(2, .int (x2 + 1)), (4, .int z3), (3, .int z2), (0, .ref q_), (1, .ref qa1_)]) hx hb dX4_takeLeastFrom_42 hl (k := 4) rfl rfl (by decide) rfl (fun ls hl => ?_)
      refine lv_goto (tgt := 2) hx hb dX4_takeLeastFrom_45 (by decide) ?_
      exact ih (x2 + 1) z5.1 z5.2.1 z5.2.2 H locs ls hF hw (lv_sub hl [3, 4, 0] rfl)
set_option maxRecDepth 20000 in
theorem CX4_takeLeastFrom (l : Launch) (D : va_G) (C : Nat → ClassId) (q_ q_steps q_path q_taken qa1_ qa1_owed qa1_order : Nat) (u_rule : Int32) (u_found : Int32) (u_size : Int32) (u_least : Int32) (u_taken : (Nat → Int32)) (ua1_size : Int32) (ua1_owed : (Nat → Int32)) (ua1_order : (Nat → Int32)) (z : (Int32 × (Nat → Int32) × (Nat → Int32))) (hF : fX4_takeLeastFrom u_size u_least u_taken ua1_size ua1_owed ua1_order = some z) : Ct l yX4_takeLeastFrom cX4_takeLeastFrom 5 none 3 D C [.ref q_, .ref qa1_] [(q_, .inr (4, [.ref q_steps, .ref q_path, .ref q_taken, .int u_rule, .int u_found, .int u_size, .int u_least])), (q_taken, .inl (C 0, 6, .inl u_taken)), (qa1_, .inr (2, [.ref qa1_owed, .ref qa1_order, .int ua1_size])), (qa1_owed, .inl (C 0, 36, .inl ua1_owed)), (qa1_order, .inl (C 0, 36, .inl ua1_order))] [(q_, .inr (4, [.ref q_steps, .ref q_path, .ref q_taken, .int u_rule, .int u_found, .int u_size, .int u_least])), (q_taken, .inl (C 0, 6, .inl u_taken)), (qa1_, .inr (2, [.ref qa1_owed, .ref qa1_order, .int z.1])), (qa1_owed, .inl (C 0, 36, .inl z.2.1)), (qa1_order, .inl (C 0, 36, .inl z.2.2))] none := by
  refine Ct_of (by decide) (Nat.le_of_ble_eq_true rfl) ?_
  intro p e R s m args below meth c A Q H locs ls cx hw hl hret
  have cx : CX p m c s args RX4 cX4_takeLeastFrom 5 D C A R 3 := cx
  have hx := cx.1
  have hb := cx.2.1
  have hl : lv_has ls 5 [(0, .ref q_), (1, .ref qa1_)] := hl
  rw [fX4_takeLeastFrom.eq_1] at hF
  refine lv_iconst (v := 0) hx hb dX4_takeLeastFrom_0 (by decide) ?_
  refine lv_istore_n (lv' := [(2, .int 0), (0, .ref q_), (1, .ref qa1_)]) hx hb dX4_takeLeastFrom_1 rfl hl (by decide) rfl (fun ls hl => ?_)
  refine LX4_takeLeastFrom_2 cx hret 400 0 ua1_size ua1_owed ua1_order H locs ls hF hw (lv_sub hl [1, 2, 0] rfl)
theorem wf_X4_21 : Cond.fieldLink RX4 21 (TX4 3).1 (TX4 3).2.1 (TX4 3).2.2.1 ∈ gdt := gdt_of 181 (by decide +kernel) (by decide +kernel)
theorem wf_X4_9 : Cond.fieldLink RX4 9 (TX4 0).1 (TX4 0).2.1 (TX4 0).2.2.1 ∈ gdt := gdt_of 178 (by decide +kernel) (by decide +kernel)
theorem lk_X4_58 : Cond.methodLink RX4 58 yX1_isGiven ∈ gdt := gdt_of 424 (by decide +kernel) (by decide +kernel)
theorem my_X1_isGiven : (yX1_isGiven.cls ≠ "java/lang/invoke/MethodHandle" ∧ yX1_isGiven.cls ≠ "java/lang/invoke/VarHandle") ∧ Cond.instanceMethod yX1_isGiven ∈ gdt ∧ Cond.selects yX1_isGiven.cls yX1_isGiven yX1_isGiven ∈ gdt ∧ Cond.initialized yX1_isGiven.cls ∈ gdt ∧ Cond.code yX1_isGiven cX1_isGiven 3 (some .boolean) ∈ gdt := ⟨⟨by decide +kernel, by decide +kernel⟩, gdt_of 332 (by decide +kernel) (by decide +kernel), gdt_of 333 (by decide +kernel) (by decide +kernel), gdt_of 70 (by decide +kernel) (by decide +kernel), gdt_of 334 (by decide +kernel) (by decide +kernel)⟩
theorem ml_X1_isGiven : (parseMethodDescriptor yX1_isGiven.desc).map (fun d => d.parameters.length) = some 2 := by decide +kernel
theorem dX4_laySteps_0 : decode cX4_laySteps 0 = .ok (.iconst 0, 1) := by decide +kernel
theorem dX4_laySteps_1 : decode cX4_laySteps 1 = .ok (.istore_n 3, 1) := by decide +kernel
theorem dX4_laySteps_2 : decode cX4_laySteps 2 = .ok (.iload_n 3, 1) := by decide +kernel
theorem dX4_laySteps_3 : decode cX4_laySteps 3 = .ok (.bipush 36, 2) := by decide +kernel
theorem dX4_laySteps_5 : decode cX4_laySteps 5 = .ok (.if_icmp .ge 70, 3) := by decide +kernel
theorem dX4_laySteps_8 : decode cX4_laySteps 8 = .ok (.iload_n 3, 1) := by decide +kernel
theorem dX4_laySteps_9 : decode cX4_laySteps 9 = .ok (.bipush 6, 2) := by decide +kernel
theorem dX4_laySteps_11 : decode cX4_laySteps 11 = .ok (.idiv, 1) := by decide +kernel
theorem dX4_laySteps_12 : decode cX4_laySteps 12 = .ok (.istore 4, 2) := by decide +kernel
theorem dX4_laySteps_14 : decode cX4_laySteps 14 = .ok (.iload_n 3, 1) := by decide +kernel
theorem dX4_laySteps_15 : decode cX4_laySteps 15 = .ok (.bipush 6, 2) := by decide +kernel
theorem dX4_laySteps_17 : decode cX4_laySteps 17 = .ok (.irem, 1) := by decide +kernel
theorem dX4_laySteps_18 : decode cX4_laySteps 18 = .ok (.istore 5, 2) := by decide +kernel
theorem dX4_laySteps_20 : decode cX4_laySteps 20 = .ok (.aload_n 0, 1) := by decide +kernel
theorem dX4_laySteps_21 : decode cX4_laySteps 21 = .ok (.getfield 21, 3) := by decide +kernel
theorem dX4_laySteps_24 : decode cX4_laySteps 24 = .ok (.iconst 3, 1) := by decide +kernel
theorem dX4_laySteps_25 : decode cX4_laySteps 25 = .ok (.if_icmp .ne 18, 3) := by decide +kernel
theorem dX4_laySteps_28 : decode cX4_laySteps 28 = .ok (.aload_n 2, 1) := by decide +kernel
theorem dX4_laySteps_29 : decode cX4_laySteps 29 = .ok (.iload 4, 2) := by decide +kernel
theorem dX4_laySteps_31 : decode cX4_laySteps 31 = .ok (.iload 5, 2) := by decide +kernel
theorem dX4_laySteps_33 : decode cX4_laySteps 33 = .ok (.invokevirtual 58, 3) := by decide +kernel
theorem dX4_laySteps_36 : decode cX4_laySteps 36 = .ok (.ifCond .ne 7, 3) := by decide +kernel
theorem dX4_laySteps_39 : decode cX4_laySteps 39 = .ok (.iconst 1, 1) := by decide +kernel
theorem dX4_laySteps_40 : decode cX4_laySteps 40 = .ok (.goto 4, 3) := by decide +kernel
theorem dX4_laySteps_43 : decode cX4_laySteps 43 = .ok (.iconst 0, 1) := by decide +kernel
theorem dX4_laySteps_44 : decode cX4_laySteps 44 = .ok (.istore 6, 2) := by decide +kernel
theorem dX4_laySteps_46 : decode cX4_laySteps 46 = .ok (.aload_n 0, 1) := by decide +kernel
theorem dX4_laySteps_47 : decode cX4_laySteps 47 = .ok (.getfield 9, 3) := by decide +kernel
theorem dX4_laySteps_50 : decode cX4_laySteps 50 = .ok (.iload_n 3, 1) := by decide +kernel
theorem dX4_laySteps_51 : decode cX4_laySteps 51 = .ok (.iload 6, 2) := by decide +kernel
theorem dX4_laySteps_53 : decode cX4_laySteps 53 = .ok (.ifCond .eq 7, 3) := by decide +kernel
theorem dX4_laySteps_56 : decode cX4_laySteps 56 = .ok (.iconst 0, 1) := by decide +kernel
theorem dX4_laySteps_57 : decode cX4_laySteps 57 = .ok (.goto 11, 3) := by decide +kernel
theorem dX4_laySteps_60 : decode cX4_laySteps 60 = .ok (.aload_n 1, 1) := by decide +kernel
theorem dX4_laySteps_61 : decode cX4_laySteps 61 = .ok (.iload 4, 2) := by decide +kernel
theorem dX4_laySteps_63 : decode cX4_laySteps 63 = .ok (.iload 5, 2) := by decide +kernel
theorem dX4_laySteps_65 : decode cX4_laySteps 65 = .ok (.invokevirtual 41, 3) := by decide +kernel
theorem dX4_laySteps_68 : decode cX4_laySteps 68 = .ok (.iastore, 1) := by decide +kernel
theorem dX4_laySteps_69 : decode cX4_laySteps 69 = .ok (.iinc 3 1, 3) := by decide +kernel
theorem dX4_laySteps_72 : decode cX4_laySteps 72 = .ok (.goto (-70), 3) := by decide +kernel
theorem dX4_laySteps_75 : decode cX4_laySteps 75 = .ok (.return_, 1) := by decide +kernel
def fX4_laySteps_L2 (u_rule : Int32) (ua1_owed : (Nat → Int32)) (ua2_refused : (Nat → Int32)) : Nat → Int32 → (Nat → Int32) → Option (Nat → Int32)
  | 0, _, _ => none
  | n + 1, x3, u_steps => if 36 ≤ x3 then (some u_steps) else (jn (fun (x3_j43 : Int32) (u_steps_j43 : (Nat → Int32)) => if (0 : Int32) = 0 then ((fX2_amount ua1_owed (x3 / 6) (x3 - x3 / 6 * 6)).bind (fun z5 => gA x3_j43 36 (fX4_laySteps_L2 u_rule ua1_owed ua2_refused n (x3_j43 + 1) (upd u_steps_j43 (x3_j43 : Int32).toNatClampNeg z5)))) else (gA x3_j43 36 (fX4_laySteps_L2 u_rule ua1_owed ua2_refused n (x3_j43 + 1) (upd u_steps_j43 (x3_j43 : Int32).toNatClampNeg 0)))) (fun j43 => if u_rule = 3 then ((fX1_isGiven ua2_refused (x3 / 6) (x3 - x3 / 6 * 6)).bind (fun z9 => if z9 = 0 then (if (1 : Int32) = 0 then ((fX2_amount ua1_owed (x3 / 6) (x3 - x3 / 6 * 6)).bind (fun z12 => gA x3 36 (fX4_laySteps_L2 u_rule ua1_owed ua2_refused n (x3 + 1) (upd u_steps (x3 : Int32).toNatClampNeg z12)))) else (gA x3 36 (fX4_laySteps_L2 u_rule ua1_owed ua2_refused n (x3 + 1) (upd u_steps (x3 : Int32).toNatClampNeg 0)))) else (j43 x3 u_steps))) else (j43 x3 u_steps)))
def fX4_laySteps (u_rule : Int32) (u_steps : (Nat → Int32)) (ua1_owed : (Nat → Int32)) (ua2_refused : (Nat → Int32)) : Option (Nat → Int32) := fX4_laySteps_L2 u_rule ua1_owed ua2_refused 400 0 u_steps
set_option maxRecDepth 20000 in
theorem LX4_laySteps_2 {p : Program} {l : Launch} {e : Env} {R : Room} {s : State} {m : MethodId} {args : Array Value} {below : List Frame} {meth : Method} {c : Code} {Q : State → Prop} {D : va_G} {C : Nat → ClassId} {A : Nat → Prop} (cx : CX p m c s args RX4 cX4_laySteps 7 D C A R 3) {q_ q_steps q_path q_taken qa1_ qa1_owed qa1_order qa2_ qa2_refused : Nat} {u_rule : Int32} {u_found : Int32} {u_size : Int32} {u_least : Int32} {ua1_size : Int32} {ua1_owed : (Nat → Int32)} {ua2_refused : (Nat → Int32)} {z : (Nat → Int32)} (hret : RT p l e R s m args below meth c Q D A cX4_laySteps none [(q_, .inr (4, [.ref q_steps, .ref q_path, .ref q_taken, .int u_rule, .int u_found, .int u_size, .int u_least])), (q_steps, .inl (C 0, 36, .inl z)), (qa1_, .inr (2, [.ref qa1_owed, .ref qa1_order, .int ua1_size])), (qa1_owed, .inl (C 0, 36, .inl ua1_owed)), (qa2_, .inr (1, [.ref qa2_refused])), (qa2_refused, .inl (C 2, 36, .inl ua2_refused))] none) :
    ∀ (n : Nat) (x3 : Int32) (u_steps : (Nat → Int32)) (H : Heap) (locs : List Loc) (ls : Array Slot), fX4_laySteps_L2 u_rule ua1_owed ua2_refused n x3 u_steps = some z → HW D A s.heap H locs [(q_, .inr (4, [.ref q_steps, .ref q_path, .ref q_taken, .int u_rule, .int u_found, .int u_size, .int u_least])), (q_steps, .inl (C 0, 36, .inl u_steps)), (qa1_, .inr (2, [.ref qa1_owed, .ref qa1_order, .int ua1_size])), (qa1_owed, .inl (C 0, 36, .inl ua1_owed)), (qa2_, .inr (1, [.ref qa2_refused])), (qa2_refused, .inl (C 2, 36, .inl ua2_refused))] → lv_has ls 7 [(0, .ref q_), (1, .ref qa1_), (2, .ref qa2_), (3, .int x3)] → W p l e R s m args below meth c H locs 0 0 Q (F0 m 2 ls []) := by
  have hx := cx.1
  have hb := cx.2.1
  intro n
  induction n with
  | zero => intro x3 u_steps H locs ls hF; cases hF
  | succ n ih =>
    intro x3 u_steps H locs ls hF hw hl
    rw [fX4_laySteps_L2.eq_2] at hF
    refine lv_iload_n hx hb dX4_laySteps_2 rfl (lv_at hl 3 rfl) ?_
    refine lv_bipush (v := 36) hx hb dX4_laySteps_3 (by decide) ?_
    refine lv_icmp_ge (tgt := 75) hx hb dX4_laySteps_5 (by decide) (fun c1 => ?_) (fun c1 => ?_)
    · replace hF := oi_t c1 hF
      obtain rfl := Option.some.inj hF
      exact rt_v hret hw rfl dX4_laySteps_75
    · replace hF := oi_f c1 hF
      refine lv_iload_n hx hb dX4_laySteps_8 rfl (lv_at hl 3 rfl) ?_
      refine lv_bipush (v := 6) hx hb dX4_laySteps_9 (by decide) ?_
      refine lv_idiv hx hb dX4_laySteps_11 (by decide) ?_
      refine lv_istore (lv' := [(4, .int (x3 / 6)), (0, .ref q_), (1, .ref qa1_), (2, .ref qa2_), (3, .int x3)]) hx hb dX4_laySteps_12 hl (by decide) rfl (fun ls hl => ?_)
      refine lv_iload_n hx hb dX4_laySteps_14 rfl (lv_at hl 4 rfl) ?_
      refine lv_bipush (v := 6) hx hb dX4_laySteps_15 (by decide) ?_
      refine lv_irem hx hb dX4_laySteps_17 (by decide) ?_
      refine lv_istore (lv' := [(5, .int (x3 - x3 / 6 * 6)), (4, .int (x3 / 6)), (0, .ref q_), (1, .ref qa1_), (2, .ref qa2_), (3, .int x3)]) hx hb dX4_laySteps_18 hl (by decide) rfl (fun ls hl => ?_)
      refine lv_aload_n hx hb dX4_laySteps_20 rfl (lv_at hl 2 rfl) ?_
      refine r_get (ci := 4) (v := .int u_rule) cx hw iX4 0 3 rfl rfl (by decide) wf_X4_21 rfl dX4_laySteps_21 ?_
      refine lv_iconst (v := 3) hx hb dX4_laySteps_24 (by decide) ?_
      obtain ⟨j43, ej43, hF⟩ := jn_s hF
      have J43 : ∀ (x3_j43 : Int32) (u_steps_j43 : (Nat → Int32)) (H : Heap) (locs : List Loc) (ls : Array Slot), j43 x3_j43 u_steps_j43 = some z → HW D A s.heap H locs [(q_, .inr (4, [.ref q_steps, .ref q_path, .ref q_taken, .int u_rule, .int u_found, .int u_size, .int u_least])), (q_steps, .inl (C 0, 36, .inl u_steps_j43)), (qa1_, .inr (2, [.ref qa1_owed, .ref qa1_order, .int ua1_size])), (qa1_owed, .inl (C 0, 36, .inl ua1_owed)), (qa2_, .inr (1, [.ref qa2_refused])), (qa2_refused, .inl (C 2, 36, .inl ua2_refused))] → lv_has ls 7 [(0, .ref q_), (1, .ref qa1_), (2, .ref qa2_), (3, .int x3_j43), (4, .int (x3 / 6)), (5, .int (x3 - x3 / 6 * 6))] → W p l e R s m args below meth c H locs 0 0 Q (F0 m 43 ls []) := by
        intro x3_j43 u_steps_j43 H locs ls hF hw hl
        rw [ej43] at hF
        refine lv_iconst (v := 0) hx hb dX4_laySteps_43 (by decide) ?_
        refine lv_istore (lv' := [(6, .int 0), (0, .ref q_), (1, .ref qa1_), (2, .ref qa2_), (3, .int x3_j43), (4, .int (x3 / 6)), (5, .int (x3 - x3 / 6 * 6))]) hx hb dX4_laySteps_44 hl (by decide) rfl (fun ls hl => ?_)
        refine lv_aload_n hx hb dX4_laySteps_46 rfl (lv_at hl 1 rfl) ?_
        refine r_get (ci := 4) (v := .ref q_steps) cx hw iX4 0 0 rfl rfl (by decide) wf_X4_9 rfl dX4_laySteps_47 ?_
        refine lv_iload_n hx hb dX4_laySteps_50 rfl (lv_at hl 4 rfl) ?_
        refine lv_iload hx hb dX4_laySteps_51 (lv_at hl 0 rfl) ?_
        refine lv_if_eq (tgt := 60) hx hb dX4_laySteps_53 (by decide) (fun c4 => ?_) (fun c4 => ?_)
        · replace hF := oi_t c4 hF
          refine lv_aload_n hx hb dX4_laySteps_60 rfl (lv_at hl 2 rfl) ?_
          refine lv_iload hx hb dX4_laySteps_61 (lv_at hl 5 rfl) ?_
          refine lv_iload hx hb dX4_laySteps_63 (lv_at hl 6 rfl) ?_
          obtain ⟨z5, hz5, hF⟩ := ob hF
          refine cV (wr := [(q_, .inr (4, [.ref q_steps, .ref q_path, .ref q_taken, .int u_rule, .int u_found, .int u_size, .int u_least])), (q_steps, .inl (C 0, 36, .inl u_steps_j43)), (qa2_, .inr (1, [.ref qa2_refused])), (qa2_refused, .inl (C 2, 36, .inl ua2_refused))]) (w2 := [(q_, .inr (4, [.ref q_steps, .ref q_path, .ref q_taken, .int u_rule, .int u_found, .int u_size, .int u_least])), (q_steps, .inl (C 0, 36, .inl u_steps_j43)), (qa1_, .inr (2, [.ref qa1_owed, .ref qa1_order, .int ua1_size])), (qa1_owed, .inl (C 0, 36, .inl ua1_owed)), (qa2_, .inr (1, [.ref qa2_refused])), (qa2_refused, .inl (C 2, 36, .inl ua2_refused))]) (st2 := [.int z5, .int x3_j43, .ref q_steps]) cx (CX2_amount l D C qa1_ qa1_owed qa1_order ua1_size ua1_owed (x3 / 6) (x3 - x3 / 6 * 6) z5 hz5) lk_X4_41 my_X2_amount ml_X2_amount ⟨by decide, by decide⟩ hw [2, 3] [0, 1, 4, 5] [0, 1, 4, 5, 2, 3] rfl rfl (by decide) rfl rfl rfl rfl (Nat.le_of_ble_eq_true rfl) dX4_laySteps_65 rfl (fun H locs hw => ?_) hl.1
          obtain ⟨g6, hF⟩ := gA_s hF
          refine r_iast (w2 := [(q_, .inr (4, [.ref q_steps, .ref q_path, .ref q_taken, .int u_rule, .int u_found, .int u_size, .int u_least])), (q_steps, .inl (C 0, 36, .inl (upd u_steps_j43 (x3_j43 : Int32).toNatClampNeg z5))), (qa1_, .inr (2, [.ref qa1_owed, .ref qa1_order, .int ua1_size])), (qa1_owed, .inl (C 0, 36, .inl ua1_owed)), (qa2_, .inr (1, [.ref qa2_refused])), (qa2_refused, .inl (C 2, 36, .inl ua2_refused))]) cx hw 1 rfl g6 dX4_laySteps_68 rfl (fun H locs hw => ?_)
          refine lv_iinc (v := x3_j43 + 1) (lv' := [(3, .int (x3_j43 + 1)), (6, .int 0), (0, .ref q_), (1, .ref qa1_), (2, .ref qa2_), (4, .int (x3 / 6)), (5, .int (x3 - x3 / 6 * 6))]) hx hb dX4_laySteps_69 hl (k := 4) rfl rfl (by decide) rfl (fun ls hl => ?_)
          refine lv_goto (tgt := 2) hx hb dX4_laySteps_72 (by decide) ?_
          exact ih (x3_j43 + 1) (upd u_steps_j43 (x3_j43 : Int32).toNatClampNeg z5) H locs ls hF hw (lv_sub hl [2, 3, 4, 0] rfl)
        · replace hF := oi_f c4 hF
          refine lv_iconst (v := 0) hx hb dX4_laySteps_56 (by decide) ?_
          refine lv_goto (tgt := 68) hx hb dX4_laySteps_57 (by decide) ?_
          obtain ⟨g7, hF⟩ := gA_s hF
          refine r_iast (w2 := [(q_, .inr (4, [.ref q_steps, .ref q_path, .ref q_taken, .int u_rule, .int u_found, .int u_size, .int u_least])), (q_steps, .inl (C 0, 36, .inl (upd u_steps_j43 (x3_j43 : Int32).toNatClampNeg 0))), (qa1_, .inr (2, [.ref qa1_owed, .ref qa1_order, .int ua1_size])), (qa1_owed, .inl (C 0, 36, .inl ua1_owed)), (qa2_, .inr (1, [.ref qa2_refused])), (qa2_refused, .inl (C 2, 36, .inl ua2_refused))]) cx hw 1 rfl g7 dX4_laySteps_68 rfl (fun H locs hw => ?_)
          refine lv_iinc (v := x3_j43 + 1) (lv' := [(3, .int (x3_j43 + 1)), (6, .int 0), (0, .ref q_), (1, .ref qa1_), (2, .ref qa2_), (4, .int (x3 / 6)), (5, .int (x3 - x3 / 6 * 6))]) hx hb dX4_laySteps_69 hl (k := 4) rfl rfl (by decide) rfl (fun ls hl => ?_)
          refine lv_goto (tgt := 2) hx hb dX4_laySteps_72 (by decide) ?_
          exact ih (x3_j43 + 1) (upd u_steps_j43 (x3_j43 : Int32).toNatClampNeg 0) H locs ls hF hw (lv_sub hl [2, 3, 4, 0] rfl)
      refine lv_icmp_ne (tgt := 43) hx hb dX4_laySteps_25 (by decide) (fun c8 => ?_) (fun c8 => ?_)
      · replace hF := oi_f c8 hF
        exact J43 x3 u_steps H locs ls hF hw (lv_sub hl [2, 3, 4, 5, 1, 0] rfl)
      · replace hF := oi_t c8 hF
        refine lv_aload_n hx hb dX4_laySteps_28 rfl (lv_at hl 4 rfl) ?_
        refine lv_iload hx hb dX4_laySteps_29 (lv_at hl 1 rfl) ?_
        refine lv_iload hx hb dX4_laySteps_31 (lv_at hl 0 rfl) ?_
        obtain ⟨z9, hz9, hF⟩ := ob hF
        refine cV (wr := [(q_, .inr (4, [.ref q_steps, .ref q_path, .ref q_taken, .int u_rule, .int u_found, .int u_size, .int u_least])), (q_steps, .inl (C 0, 36, .inl u_steps)), (qa1_, .inr (2, [.ref qa1_owed, .ref qa1_order, .int ua1_size])), (qa1_owed, .inl (C 0, 36, .inl ua1_owed))]) (w2 := [(q_, .inr (4, [.ref q_steps, .ref q_path, .ref q_taken, .int u_rule, .int u_found, .int u_size, .int u_least])), (q_steps, .inl (C 0, 36, .inl u_steps)), (qa1_, .inr (2, [.ref qa1_owed, .ref qa1_order, .int ua1_size])), (qa1_owed, .inl (C 0, 36, .inl ua1_owed)), (qa2_, .inr (1, [.ref qa2_refused])), (qa2_refused, .inl (C 2, 36, .inl ua2_refused))]) (st2 := [.int z9]) cx (CX1_isGiven l D C qa2_ qa2_refused ua2_refused (x3 / 6) (x3 - x3 / 6 * 6) z9 hz9) lk_X4_58 my_X1_isGiven ml_X1_isGiven ⟨by decide, by decide⟩ hw [4, 5] [0, 1, 2, 3] [0, 1, 2, 3, 4, 5] rfl rfl (by decide) rfl rfl rfl rfl (Nat.le_of_ble_eq_true rfl) dX4_laySteps_33 rfl (fun H locs hw => ?_) hl.1
        refine lv_if_ne (tgt := 43) hx hb dX4_laySteps_36 (by decide) (fun c10 => ?_) (fun c10 => ?_)
        · replace hF := oi_f c10 hF
          exact J43 x3 u_steps H locs ls hF hw (lv_sub hl [2, 3, 4, 5, 1, 0] rfl)
        · replace hF := oi_t c10 hF
          refine lv_iconst (v := 1) hx hb dX4_laySteps_39 (by decide) ?_
          refine lv_goto (tgt := 44) hx hb dX4_laySteps_40 (by decide) ?_
          refine lv_istore (lv' := [(6, .int 1), (5, .int (x3 - x3 / 6 * 6)), (4, .int (x3 / 6)), (0, .ref q_), (1, .ref qa1_), (2, .ref qa2_), (3, .int x3)]) hx hb dX4_laySteps_44 hl (by decide) rfl (fun ls hl => ?_)
          refine lv_aload_n hx hb dX4_laySteps_46 rfl (lv_at hl 3 rfl) ?_
          refine r_get (ci := 4) (v := .ref q_steps) cx hw iX4 0 0 rfl rfl (by decide) wf_X4_9 rfl dX4_laySteps_47 ?_
          refine lv_iload_n hx hb dX4_laySteps_50 rfl (lv_at hl 6 rfl) ?_
          refine lv_iload hx hb dX4_laySteps_51 (lv_at hl 0 rfl) ?_
          refine lv_if_eq (tgt := 60) hx hb dX4_laySteps_53 (by decide) (fun c11 => ?_) (fun c11 => ?_)
          · replace hF := oi_t c11 hF
            refine lv_aload_n hx hb dX4_laySteps_60 rfl (lv_at hl 4 rfl) ?_
            refine lv_iload hx hb dX4_laySteps_61 (lv_at hl 2 rfl) ?_
            refine lv_iload hx hb dX4_laySteps_63 (lv_at hl 1 rfl) ?_
            obtain ⟨z12, hz12, hF⟩ := ob hF
            refine cV (wr := [(q_, .inr (4, [.ref q_steps, .ref q_path, .ref q_taken, .int u_rule, .int u_found, .int u_size, .int u_least])), (q_steps, .inl (C 0, 36, .inl u_steps)), (qa2_, .inr (1, [.ref qa2_refused])), (qa2_refused, .inl (C 2, 36, .inl ua2_refused))]) (w2 := [(q_, .inr (4, [.ref q_steps, .ref q_path, .ref q_taken, .int u_rule, .int u_found, .int u_size, .int u_least])), (q_steps, .inl (C 0, 36, .inl u_steps)), (qa1_, .inr (2, [.ref qa1_owed, .ref qa1_order, .int ua1_size])), (qa1_owed, .inl (C 0, 36, .inl ua1_owed)), (qa2_, .inr (1, [.ref qa2_refused])), (qa2_refused, .inl (C 2, 36, .inl ua2_refused))]) (st2 := [.int z12, .int x3, .ref q_steps]) cx (CX2_amount l D C qa1_ qa1_owed qa1_order ua1_size ua1_owed (x3 / 6) (x3 - x3 / 6 * 6) z12 hz12) lk_X4_41 my_X2_amount ml_X2_amount ⟨by decide, by decide⟩ hw [2, 3] [0, 1, 4, 5] [0, 1, 4, 5, 2, 3] rfl rfl (by decide) rfl rfl rfl rfl (Nat.le_of_ble_eq_true rfl) dX4_laySteps_65 rfl (fun H locs hw => ?_) hl.1
            obtain ⟨g13, hF⟩ := gA_s hF
            refine r_iast (w2 := [(q_, .inr (4, [.ref q_steps, .ref q_path, .ref q_taken, .int u_rule, .int u_found, .int u_size, .int u_least])), (q_steps, .inl (C 0, 36, .inl (upd u_steps (x3 : Int32).toNatClampNeg z12))), (qa1_, .inr (2, [.ref qa1_owed, .ref qa1_order, .int ua1_size])), (qa1_owed, .inl (C 0, 36, .inl ua1_owed)), (qa2_, .inr (1, [.ref qa2_refused])), (qa2_refused, .inl (C 2, 36, .inl ua2_refused))]) cx hw 1 rfl g13 dX4_laySteps_68 rfl (fun H locs hw => ?_)
            refine lv_iinc (v := x3 + 1) (lv' := [(3, .int (x3 + 1)), (6, .int 1), (5, .int (x3 - x3 / 6 * 6)), (4, .int (x3 / 6)), (0, .ref q_), (1, .ref qa1_), (2, .ref qa2_)]) hx hb dX4_laySteps_69 hl (k := 6) rfl rfl (by decide) rfl (fun ls hl => ?_)
            refine lv_goto (tgt := 2) hx hb dX4_laySteps_72 (by decide) ?_
            exact ih (x3 + 1) (upd u_steps (x3 : Int32).toNatClampNeg z12) H locs ls hF hw (lv_sub hl [4, 5, 6, 0] rfl)
          · replace hF := oi_f c11 hF
            refine lv_iconst (v := 0) hx hb dX4_laySteps_56 (by decide) ?_
            refine lv_goto (tgt := 68) hx hb dX4_laySteps_57 (by decide) ?_
            obtain ⟨g14, hF⟩ := gA_s hF
            refine r_iast (w2 := [(q_, .inr (4, [.ref q_steps, .ref q_path, .ref q_taken, .int u_rule, .int u_found, .int u_size, .int u_least])), (q_steps, .inl (C 0, 36, .inl (upd u_steps (x3 : Int32).toNatClampNeg 0))), (qa1_, .inr (2, [.ref qa1_owed, .ref qa1_order, .int ua1_size])), (qa1_owed, .inl (C 0, 36, .inl ua1_owed)), (qa2_, .inr (1, [.ref qa2_refused])), (qa2_refused, .inl (C 2, 36, .inl ua2_refused))]) cx hw 1 rfl g14 dX4_laySteps_68 rfl (fun H locs hw => ?_)
            refine lv_iinc (v := x3 + 1) (lv' := [(3, .int (x3 + 1)), (6, .int 1), (5, .int (x3 - x3 / 6 * 6)), (4, .int (x3 / 6)), (0, .ref q_), (1, .ref qa1_), (2, .ref qa2_)]) hx hb dX4_laySteps_69 hl (k := 6) rfl rfl (by decide) rfl (fun ls hl => ?_)
            refine lv_goto (tgt := 2) hx hb dX4_laySteps_72 (by decide) ?_
            exact ih (x3 + 1) (upd u_steps (x3 : Int32).toNatClampNeg 0) H locs ls hF hw (lv_sub hl [4, 5, 6, 0] rfl)
set_option maxRecDepth 20000 in
theorem CX4_laySteps (l : Launch) (D : va_G) (C : Nat → ClassId) (q_ q_steps q_path q_taken qa1_ qa1_owed qa1_order qa2_ qa2_refused : Nat) (u_rule : Int32) (u_found : Int32) (u_size : Int32) (u_least : Int32) (u_steps : (Nat → Int32)) (ua1_size : Int32) (ua1_owed : (Nat → Int32)) (ua2_refused : (Nat → Int32)) (z : (Nat → Int32)) (hF : fX4_laySteps u_rule u_steps ua1_owed ua2_refused = some z) : Ct l yX4_laySteps cX4_laySteps 7 none 3 D C [.ref q_, .ref qa1_, .ref qa2_] [(q_, .inr (4, [.ref q_steps, .ref q_path, .ref q_taken, .int u_rule, .int u_found, .int u_size, .int u_least])), (q_steps, .inl (C 0, 36, .inl u_steps)), (qa1_, .inr (2, [.ref qa1_owed, .ref qa1_order, .int ua1_size])), (qa1_owed, .inl (C 0, 36, .inl ua1_owed)), (qa2_, .inr (1, [.ref qa2_refused])), (qa2_refused, .inl (C 2, 36, .inl ua2_refused))] [(q_, .inr (4, [.ref q_steps, .ref q_path, .ref q_taken, .int u_rule, .int u_found, .int u_size, .int u_least])), (q_steps, .inl (C 0, 36, .inl z)), (qa1_, .inr (2, [.ref qa1_owed, .ref qa1_order, .int ua1_size])), (qa1_owed, .inl (C 0, 36, .inl ua1_owed)), (qa2_, .inr (1, [.ref qa2_refused])), (qa2_refused, .inl (C 2, 36, .inl ua2_refused))] none := by
  refine Ct_of (by decide) (Nat.le_of_ble_eq_true rfl) ?_
  intro p e R s m args below meth c A Q H locs ls cx hw hl hret
  have cx : CX p m c s args RX4 cX4_laySteps 7 D C A R 3 := cx
  have hx := cx.1
  have hb := cx.2.1
  have hl : lv_has ls 7 [(0, .ref q_), (1, .ref qa1_), (2, .ref qa2_)] := hl
  rw [fX4_laySteps.eq_1] at hF
  refine lv_iconst (v := 0) hx hb dX4_laySteps_0 (by decide) ?_
  refine lv_istore_n (lv' := [(3, .int 0), (0, .ref q_), (1, .ref qa1_), (2, .ref qa2_)]) hx hb dX4_laySteps_1 rfl hl (by decide) rfl (fun ls hl => ?_)
  refine LX4_laySteps_2 cx hret 400 0 u_steps H locs ls hF hw (lv_sub hl [1, 2, 3, 0] rfl)
theorem dX4_isBetter_0 : decode cX4_isBetter 0 = .ok (.aload_n 0, 1) := by decide +kernel
theorem dX4_isBetter_1 : decode cX4_isBetter 1 = .ok (.getfield 21, 3) := by decide +kernel
theorem dX4_isBetter_4 : decode cX4_isBetter 4 = .ok (.tableswitch 69 1 4 #[32, 46, 69, 67], 32) := by decide +kernel
theorem dX4_isBetter_36 : decode cX4_isBetter 36 = .ok (.iload_n 2, 1) := by decide +kernel
theorem dX4_isBetter_37 : decode cX4_isBetter 37 = .ok (.aload_n 0, 1) := by decide +kernel
theorem dX4_isBetter_38 : decode cX4_isBetter 38 = .ok (.getfield 31, 3) := by decide +kernel
theorem dX4_isBetter_41 : decode cX4_isBetter 41 = .ok (.if_icmp .le 7, 3) := by decide +kernel
theorem dX4_isBetter_44 : decode cX4_isBetter 44 = .ok (.iconst 1, 1) := by decide +kernel
theorem dX4_isBetter_45 : decode cX4_isBetter 45 = .ok (.goto 4, 3) := by decide +kernel
theorem dX4_isBetter_48 : decode cX4_isBetter 48 = .ok (.iconst 0, 1) := by decide +kernel
theorem dX4_isBetter_49 : decode cX4_isBetter 49 = .ok (.ireturn, 1) := by decide +kernel
theorem dX4_isBetter_50 : decode cX4_isBetter 50 = .ok (.iload_n 2, 1) := by decide +kernel
theorem dX4_isBetter_51 : decode cX4_isBetter 51 = .ok (.iload_n 1, 1) := by decide +kernel
theorem dX4_isBetter_52 : decode cX4_isBetter 52 = .ok (.imul, 1) := by decide +kernel
theorem dX4_isBetter_53 : decode cX4_isBetter 53 = .ok (.aload_n 0, 1) := by decide +kernel
theorem dX4_isBetter_54 : decode cX4_isBetter 54 = .ok (.getfield 31, 3) := by decide +kernel
theorem dX4_isBetter_57 : decode cX4_isBetter 57 = .ok (.aload_n 0, 1) := by decide +kernel
theorem dX4_isBetter_58 : decode cX4_isBetter 58 = .ok (.getfield 28, 3) := by decide +kernel
theorem dX4_isBetter_61 : decode cX4_isBetter 61 = .ok (.imul, 1) := by decide +kernel
theorem dX4_isBetter_62 : decode cX4_isBetter 62 = .ok (.if_icmp .le 7, 3) := by decide +kernel
theorem dX4_isBetter_65 : decode cX4_isBetter 65 = .ok (.iconst 1, 1) := by decide +kernel
theorem dX4_isBetter_66 : decode cX4_isBetter 66 = .ok (.goto 4, 3) := by decide +kernel
theorem dX4_isBetter_69 : decode cX4_isBetter 69 = .ok (.iconst 0, 1) := by decide +kernel
theorem dX4_isBetter_70 : decode cX4_isBetter 70 = .ok (.ireturn, 1) := by decide +kernel
theorem dX4_isBetter_71 : decode cX4_isBetter 71 = .ok (.iconst 1, 1) := by decide +kernel
theorem dX4_isBetter_72 : decode cX4_isBetter 72 = .ok (.ireturn, 1) := by decide +kernel
theorem dX4_isBetter_73 : decode cX4_isBetter 73 = .ok (.aload_n 0, 1) := by decide +kernel
theorem dX4_isBetter_74 : decode cX4_isBetter 74 = .ok (.getfield 28, 3) := by decide +kernel
theorem dX4_isBetter_77 : decode cX4_isBetter 77 = .ok (.ifCond .ne 7, 3) := by decide +kernel
theorem dX4_isBetter_80 : decode cX4_isBetter 80 = .ok (.iconst 1, 1) := by decide +kernel
theorem dX4_isBetter_81 : decode cX4_isBetter 81 = .ok (.goto 4, 3) := by decide +kernel
theorem dX4_isBetter_84 : decode cX4_isBetter 84 = .ok (.iconst 0, 1) := by decide +kernel
theorem dX4_isBetter_85 : decode cX4_isBetter 85 = .ok (.ireturn, 1) := by decide +kernel
def fX4_isBetter (u_rule : Int32) (u_size : Int32) (u_least : Int32) (x1 : Int32) (x2 : Int32) : Option Int32 := if u_rule = 1 then (if x2 ≤ u_least then (some 0) else (some 1)) else (if u_rule = 2 then (if (x2 * x1) ≤ (u_least * u_size) then (some 0) else (some 1)) else (if u_rule = 4 then (some 1) else (if u_size = 0 then (some 1) else (some 0))))
set_option maxRecDepth 20000 in
theorem CX4_isBetter (l : Launch) (D : va_G) (C : Nat → ClassId) (q_ q_steps q_path q_taken : Nat) (u_rule : Int32) (u_found : Int32) (u_size : Int32) (u_least : Int32) (x1 : Int32) (x2 : Int32) (z : Int32) (hF : fX4_isBetter u_rule u_size u_least x1 x2 = some z) : Ct l yX4_isBetter cX4_isBetter 3 (some .boolean) 1 D C [.ref q_, .int x1, .int x2] [(q_, .inr (4, [.ref q_steps, .ref q_path, .ref q_taken, .int u_rule, .int u_found, .int u_size, .int u_least]))] [(q_, .inr (4, [.ref q_steps, .ref q_path, .ref q_taken, .int u_rule, .int u_found, .int u_size, .int u_least]))] (some (.int z)) := by
  refine Ct_of (by decide) (Nat.le_of_ble_eq_true rfl) ?_
  intro p e R s m args below meth c A Q H locs ls cx hw hl hret
  have cx : CX p m c s args RX4 cX4_isBetter 3 D C A R 1 := cx
  have hx := cx.1
  have hb := cx.2.1
  have hl : lv_has ls 3 [(0, .ref q_), (1, .int x1), (2, .int x2)] := hl
  rw [fX4_isBetter.eq_1] at hF
  refine lv_aload_n hx hb dX4_isBetter_0 rfl (lv_at hl 0 rfl) ?_
  refine r_get (ci := 4) (v := .int u_rule) cx hw iX4 0 3 rfl rfl (by decide) wf_X4_21 rfl dX4_isBetter_1 ?_
  by_cases c1 : u_rule = 1
  · replace hF := oi_t c1 hF
    refine lv_tableIn (tgt := 36) (off := 32) hx hb dX4_isBetter_4 (by rw [c1]; decide) (by rw [c1]; decide) (by rw [c1]; decide +kernel) (by decide) ?_
    refine lv_iload_n hx hb dX4_isBetter_36 rfl (lv_at hl 2 rfl) ?_
    refine lv_aload_n hx hb dX4_isBetter_37 rfl (lv_at hl 0 rfl) ?_
    refine r_get (ci := 4) (v := .int u_least) cx hw iX4 0 6 rfl rfl (by decide) wf_X4_31 rfl dX4_isBetter_38 ?_
    refine lv_icmp_le (tgt := 48) hx hb dX4_isBetter_41 (by decide) (fun c2 => ?_) (fun c2 => ?_)
    · replace hF := oi_t c2 hF
      refine lv_iconst (v := 0) hx hb dX4_isBetter_48 (by decide) ?_
      obtain rfl := Option.some.inj hF
      exact rt_z hret hw rfl rfl dX4_isBetter_49
    · replace hF := oi_f c2 hF
      refine lv_iconst (v := 1) hx hb dX4_isBetter_44 (by decide) ?_
      refine lv_goto (tgt := 49) hx hb dX4_isBetter_45 (by decide) ?_
      obtain rfl := Option.some.inj hF
      exact rt_z hret hw rfl rfl dX4_isBetter_49
  replace hF := oi_f c1 hF
  by_cases c3 : u_rule = 2
  · replace hF := oi_t c3 hF
    refine lv_tableIn (tgt := 50) (off := 46) hx hb dX4_isBetter_4 (by rw [c3]; decide) (by rw [c3]; decide) (by rw [c3]; decide +kernel) (by decide) ?_
    refine lv_iload_n hx hb dX4_isBetter_50 rfl (lv_at hl 2 rfl) ?_
    refine lv_iload_n hx hb dX4_isBetter_51 rfl (lv_at hl 1 rfl) ?_
    refine lv_imul hx hb dX4_isBetter_52 ?_
    refine lv_aload_n hx hb dX4_isBetter_53 rfl (lv_at hl 0 rfl) ?_
    refine r_get (ci := 4) (v := .int u_least) cx hw iX4 0 6 rfl rfl (by decide) wf_X4_31 rfl dX4_isBetter_54 ?_
    refine lv_aload_n hx hb dX4_isBetter_57 rfl (lv_at hl 0 rfl) ?_
    refine r_get (ci := 4) (v := .int u_size) cx hw iX4 0 5 rfl rfl (by decide) wf_X4_28 rfl dX4_isBetter_58 ?_
    refine lv_imul hx hb dX4_isBetter_61 ?_
    refine lv_icmp_le (tgt := 69) hx hb dX4_isBetter_62 (by decide) (fun c4 => ?_) (fun c4 => ?_)
    · replace hF := oi_t c4 hF
      refine lv_iconst (v := 0) hx hb dX4_isBetter_69 (by decide) ?_
      obtain rfl := Option.some.inj hF
      exact rt_z hret hw rfl rfl dX4_isBetter_70
    · replace hF := oi_f c4 hF
      refine lv_iconst (v := 1) hx hb dX4_isBetter_65 (by decide) ?_
      refine lv_goto (tgt := 70) hx hb dX4_isBetter_66 (by decide) ?_
      obtain rfl := Option.some.inj hF
      exact rt_z hret hw rfl rfl dX4_isBetter_70
  replace hF := oi_f c3 hF
  by_cases c5 : u_rule = 4
  · replace hF := oi_t c5 hF
    refine lv_tableIn (tgt := 71) (off := 67) hx hb dX4_isBetter_4 (by rw [c5]; decide) (by rw [c5]; decide) (by rw [c5]; decide +kernel) (by decide) ?_
    refine lv_iconst (v := 1) hx hb dX4_isBetter_71 (by decide) ?_
    obtain rfl := Option.some.inj hF
    exact rt_z hret hw rfl rfl dX4_isBetter_72
  replace hF := oi_f c5 hF
  have t1 := ti_ne (n := 1) (by decide) c1
  have t3 := ti_ne (n := 2) (by decide) c3
  have t5 := ti_ne (n := 4) (by decide) c5
  by_cases c7 : u_rule = 3
  · refine lv_tableIn (tgt := 73) (off := 69) hx hb dX4_isBetter_4 (by rw [c7]; decide) (by rw [c7]; decide) (by rw [c7]; decide +kernel) (by decide) ?_
    refine lv_aload_n hx hb dX4_isBetter_73 rfl (lv_at hl 0 rfl) ?_
    refine r_get (ci := 4) (v := .int u_size) cx hw iX4 0 5 rfl rfl (by decide) wf_X4_28 rfl dX4_isBetter_74 ?_
    refine lv_if_ne (tgt := 84) hx hb dX4_isBetter_77 (by decide) (fun c6 => ?_) (fun c6 => ?_)
    · replace hF := oi_f c6 hF
      refine lv_iconst (v := 0) hx hb dX4_isBetter_84 (by decide) ?_
      obtain rfl := Option.some.inj hF
      exact rt_z hret hw rfl rfl dX4_isBetter_85
    · replace hF := oi_t c6 hF
      refine lv_iconst (v := 1) hx hb dX4_isBetter_80 (by decide) ?_
      refine lv_goto (tgt := 85) hx hb dX4_isBetter_81 (by decide) ?_
      obtain rfl := Option.some.inj hF
      exact rt_z hret hw rfl rfl dX4_isBetter_85
  have t7 := ti_ne (n := 3) (by decide) c7
  refine lv_tableOut (tgt := 73) hx hb dX4_isBetter_4 (by omega) (by decide) ?_
  refine lv_aload_n hx hb dX4_isBetter_73 rfl (lv_at hl 0 rfl) ?_
  refine r_get (ci := 4) (v := .int u_size) cx hw iX4 0 5 rfl rfl (by decide) wf_X4_28 rfl dX4_isBetter_74 ?_
  refine lv_if_ne (tgt := 84) hx hb dX4_isBetter_77 (by decide) (fun c6 => ?_) (fun c6 => ?_)
  · replace hF := oi_f c6 hF
    refine lv_iconst (v := 0) hx hb dX4_isBetter_84 (by decide) ?_
    obtain rfl := Option.some.inj hF
    exact rt_z hret hw rfl rfl dX4_isBetter_85
  · replace hF := oi_t c6 hF
    refine lv_iconst (v := 1) hx hb dX4_isBetter_80 (by decide) ?_
    refine lv_goto (tgt := 85) hx hb dX4_isBetter_81 (by decide) ?_
    obtain rfl := Option.some.inj hF
    exact rt_z hret hw rfl rfl dX4_isBetter_85
theorem dX4_step_0 : decode cX4_step 0 = .ok (.iload_n 1, 1) := by decide +kernel
theorem dX4_step_1 : decode cX4_step 1 = .ok (.iload_n 2, 1) := by decide +kernel
theorem dX4_step_2 : decode cX4_step 2 = .ok (.invokestatic 64, 3) := by decide +kernel
theorem dX4_step_5 : decode cX4_step 5 = .ok (.ifCond .eq 17, 3) := by decide +kernel
theorem dX4_step_8 : decode cX4_step 8 = .ok (.aload_n 0, 1) := by decide +kernel
theorem dX4_step_9 : decode cX4_step 9 = .ok (.getfield 9, 3) := by decide +kernel
theorem dX4_step_12 : decode cX4_step 12 = .ok (.iload_n 1, 1) := by decide +kernel
theorem dX4_step_13 : decode cX4_step 13 = .ok (.bipush 6, 2) := by decide +kernel
theorem dX4_step_15 : decode cX4_step 15 = .ok (.imul, 1) := by decide +kernel
theorem dX4_step_16 : decode cX4_step 16 = .ok (.iload_n 2, 1) := by decide +kernel
theorem dX4_step_17 : decode cX4_step 17 = .ok (.iadd, 1) := by decide +kernel
theorem dX4_step_18 : decode cX4_step 18 = .ok (.iaload, 1) := by decide +kernel
theorem dX4_step_19 : decode cX4_step 19 = .ok (.goto 4, 3) := by decide +kernel
theorem dX4_step_22 : decode cX4_step 22 = .ok (.iconst 0, 1) := by decide +kernel
theorem dX4_step_23 : decode cX4_step 23 = .ok (.ireturn, 1) := by decide +kernel
def fX4_step (u_steps : (Nat → Int32)) (x1 : Int32) (x2 : Int32) : Option Int32 := (fX8_isCell x1 x2).bind (fun z1 => if z1 = 0 then (some 0) else (gA ((x1 * 6) + x2) 36 (some (u_steps ((x1 * 6) + x2).toNatClampNeg))))
set_option maxRecDepth 20000 in
theorem CX4_step (l : Launch) (D : va_G) (C : Nat → ClassId) (q_ q_steps q_path q_taken : Nat) (u_rule : Int32) (u_found : Int32) (u_size : Int32) (u_least : Int32) (u_steps : (Nat → Int32)) (x1 : Int32) (x2 : Int32) (z : Int32) (hF : fX4_step u_steps x1 x2 = some z) : Ct l yX4_step cX4_step 3 (some .int) 2 D C [.ref q_, .int x1, .int x2] [(q_, .inr (4, [.ref q_steps, .ref q_path, .ref q_taken, .int u_rule, .int u_found, .int u_size, .int u_least])), (q_steps, .inl (C 0, 36, .inl u_steps))] [(q_, .inr (4, [.ref q_steps, .ref q_path, .ref q_taken, .int u_rule, .int u_found, .int u_size, .int u_least])), (q_steps, .inl (C 0, 36, .inl u_steps))] (some (.int z)) := by
  refine Ct_of (by decide) (Nat.le_of_ble_eq_true rfl) ?_
  intro p e R s m args below meth c A Q H locs ls cx hw hl hret
  have cx : CX p m c s args RX4 cX4_step 3 D C A R 2 := cx
  have hx := cx.1
  have hb := cx.2.1
  have hl : lv_has ls 3 [(0, .ref q_), (1, .int x1), (2, .int x2)] := hl
  rw [fX4_step.eq_1] at hF
  refine lv_iload_n hx hb dX4_step_0 rfl (lv_at hl 1 rfl) ?_
  refine lv_iload_n hx hb dX4_step_1 rfl (lv_at hl 2 rfl) ?_
  obtain ⟨z1, hz1, hF⟩ := ob hF
  refine cN (wr := [(q_, .inr (4, [.ref q_steps, .ref q_path, .ref q_taken, .int u_rule, .int u_found, .int u_size, .int u_least])), (q_steps, .inl (C 0, 36, .inl u_steps))]) (w2 := [(q_, .inr (4, [.ref q_steps, .ref q_path, .ref q_taken, .int u_rule, .int u_found, .int u_size, .int u_least])), (q_steps, .inl (C 0, 36, .inl u_steps))]) (st2 := [.int z1]) cx (CX8_isCell l D C x1 x2 z1 hz1) cx.2.2.2.2.2.1.2.2.2.1 my_X8_isCell ml_X8_isCell ⟨by decide, by decide⟩ hw [] [0, 1] [0, 1] rfl rfl (by decide) rfl rfl (Nat.le_of_ble_eq_true rfl) dX4_step_2 rfl (fun H locs hw => ?_) hl.1
  refine lv_if_eq (tgt := 22) hx hb dX4_step_5 (by decide) (fun c2 => ?_) (fun c2 => ?_)
  · replace hF := oi_t c2 hF
    refine lv_iconst (v := 0) hx hb dX4_step_22 (by decide) ?_
    obtain rfl := Option.some.inj hF
    exact rt_i hret hw rfl dX4_step_23
  · replace hF := oi_f c2 hF
    refine lv_aload_n hx hb dX4_step_8 rfl (lv_at hl 0 rfl) ?_
    refine r_get (ci := 4) (v := .ref q_steps) cx hw iX4 0 0 rfl rfl (by decide) wf_X4_9 rfl dX4_step_9 ?_
    refine lv_iload_n hx hb dX4_step_12 rfl (lv_at hl 1 rfl) ?_
    refine lv_bipush (v := 6) hx hb dX4_step_13 (by decide) ?_
    refine lv_imul hx hb dX4_step_15 ?_
    refine lv_iload_n hx hb dX4_step_16 rfl (lv_at hl 2 rfl) ?_
    refine lv_iadd hx hb dX4_step_17 ?_
    obtain ⟨g3, hF⟩ := gA_s hF
    refine r_iald cx hw 1 rfl g3 dX4_step_18 ?_
    refine lv_goto (tgt := 23) hx hb dX4_step_19 (by decide) ?_
    obtain rfl := Option.some.inj hF
    exact rt_i hret hw rfl dX4_step_23
theorem lk_X4_67 : Cond.methodLink RX4 67 yX4_isBetter ∈ gdt := gdt_of 430 (by decide +kernel) (by decide +kernel)
theorem wf_X4_15 : Cond.fieldLink RX4 15 (TX4 1).1 (TX4 1).2.1 (TX4 1).2.2.1 ∈ gdt := gdt_of 179 (by decide +kernel) (by decide +kernel)
theorem my_X4_isBetter : (yX4_isBetter.cls ≠ "java/lang/invoke/MethodHandle" ∧ yX4_isBetter.cls ≠ "java/lang/invoke/VarHandle") ∧ Cond.instanceMethod yX4_isBetter ∈ gdt ∧ Cond.selects yX4_isBetter.cls yX4_isBetter yX4_isBetter ∈ gdt ∧ Cond.initialized yX4_isBetter.cls ∈ gdt ∧ Cond.code yX4_isBetter cX4_isBetter 3 (some .boolean) ∈ gdt := ⟨⟨by decide +kernel, by decide +kernel⟩, gdt_of 432 (by decide +kernel) (by decide +kernel), gdt_of 8 (by decide +kernel) (by decide +kernel), gdt_of 73 (by decide +kernel) (by decide +kernel), gdt_of 433 (by decide +kernel) (by decide +kernel)⟩
theorem ml_X4_isBetter : (parseMethodDescriptor yX4_isBetter.desc).map (fun d => d.parameters.length) = some 2 := by decide +kernel
theorem dX4_meet_0 : decode cX4_meet 0 = .ok (.iload_n 2, 1) := by decide +kernel
theorem dX4_meet_1 : decode cX4_meet 1 = .ok (.ifCond .le 12, 3) := by decide +kernel
theorem dX4_meet_4 : decode cX4_meet 4 = .ok (.aload_n 0, 1) := by decide +kernel
theorem dX4_meet_5 : decode cX4_meet 5 = .ok (.iload_n 1, 1) := by decide +kernel
theorem dX4_meet_6 : decode cX4_meet 6 = .ok (.iload_n 2, 1) := by decide +kernel
theorem dX4_meet_7 : decode cX4_meet 7 = .ok (.invokevirtual 67, 3) := by decide +kernel
theorem dX4_meet_10 : decode cX4_meet 10 = .ok (.ifCond .ne 4, 3) := by decide +kernel
theorem dX4_meet_13 : decode cX4_meet 13 = .ok (.return_, 1) := by decide +kernel
theorem dX4_meet_14 : decode cX4_meet 14 = .ok (.aload_n 0, 1) := by decide +kernel
theorem dX4_meet_15 : decode cX4_meet 15 = .ok (.dup, 1) := by decide +kernel
theorem dX4_meet_16 : decode cX4_meet 16 = .ok (.getfield 25, 3) := by decide +kernel
theorem dX4_meet_19 : decode cX4_meet 19 = .ok (.iconst 1, 1) := by decide +kernel
theorem dX4_meet_20 : decode cX4_meet 20 = .ok (.iadd, 1) := by decide +kernel
theorem dX4_meet_21 : decode cX4_meet 21 = .ok (.putfield 25, 3) := by decide +kernel
theorem dX4_meet_24 : decode cX4_meet 24 = .ok (.aload_n 0, 1) := by decide +kernel
theorem dX4_meet_25 : decode cX4_meet 25 = .ok (.iload_n 1, 1) := by decide +kernel
theorem dX4_meet_26 : decode cX4_meet 26 = .ok (.putfield 28, 3) := by decide +kernel
theorem dX4_meet_29 : decode cX4_meet 29 = .ok (.aload_n 0, 1) := by decide +kernel
theorem dX4_meet_30 : decode cX4_meet 30 = .ok (.iload_n 2, 1) := by decide +kernel
theorem dX4_meet_31 : decode cX4_meet 31 = .ok (.putfield 31, 3) := by decide +kernel
theorem dX4_meet_34 : decode cX4_meet 34 = .ok (.iconst 0, 1) := by decide +kernel
theorem dX4_meet_35 : decode cX4_meet 35 = .ok (.istore_n 3, 1) := by decide +kernel
theorem dX4_meet_36 : decode cX4_meet 36 = .ok (.iload_n 3, 1) := by decide +kernel
theorem dX4_meet_37 : decode cX4_meet 37 = .ok (.bipush 6, 2) := by decide +kernel
theorem dX4_meet_39 : decode cX4_meet 39 = .ok (.if_icmp .ge 21, 3) := by decide +kernel
theorem dX4_meet_42 : decode cX4_meet 42 = .ok (.aload_n 0, 1) := by decide +kernel
theorem dX4_meet_43 : decode cX4_meet 43 = .ok (.getfield 18, 3) := by decide +kernel
theorem dX4_meet_46 : decode cX4_meet 46 = .ok (.iload_n 3, 1) := by decide +kernel
theorem dX4_meet_47 : decode cX4_meet 47 = .ok (.aload_n 0, 1) := by decide +kernel
theorem dX4_meet_48 : decode cX4_meet 48 = .ok (.getfield 15, 3) := by decide +kernel
theorem dX4_meet_51 : decode cX4_meet 51 = .ok (.iload_n 3, 1) := by decide +kernel
theorem dX4_meet_52 : decode cX4_meet 52 = .ok (.iaload, 1) := by decide +kernel
theorem dX4_meet_53 : decode cX4_meet 53 = .ok (.iastore, 1) := by decide +kernel
theorem dX4_meet_54 : decode cX4_meet 54 = .ok (.iinc 3 1, 3) := by decide +kernel
theorem dX4_meet_57 : decode cX4_meet 57 = .ok (.goto (-21), 3) := by decide +kernel
theorem dX4_meet_60 : decode cX4_meet 60 = .ok (.return_, 1) := by decide +kernel
def fX4_meet_L36 (u_found : Int32) (u_size : Int32) (u_least : Int32) (u_path : (Nat → Int32)) : Nat → Int32 → (Nat → Int32) → Option (Int32 × Int32 × Int32 × (Nat → Int32))
  | 0, _, _ => none
  | n + 1, x3, u_taken => if 6 ≤ x3 then (some (u_found, u_size, u_least, u_taken)) else (gA x3 6 (gA x3 6 (fX4_meet_L36 u_found u_size u_least u_path n (x3 + 1) (upd u_taken (x3 : Int32).toNatClampNeg (u_path (x3).toNatClampNeg)))))
def fX4_meet (u_rule : Int32) (u_found : Int32) (u_size : Int32) (u_least : Int32) (u_path : (Nat → Int32)) (u_taken : (Nat → Int32)) (x1 : Int32) (x2 : Int32) : Option (Int32 × Int32 × Int32 × (Nat → Int32)) := if x2 ≤ 0 then (some (u_found, u_size, u_least, u_taken)) else ((fX4_isBetter u_rule u_size u_least x1 x2).bind (fun z2 => if z2 = 0 then (some (u_found, u_size, u_least, u_taken)) else (fX4_meet_L36 (u_found + 1) x1 x2 u_path 400 0 u_taken)))
set_option maxRecDepth 20000 in
theorem LX4_meet_36 {p : Program} {l : Launch} {e : Env} {R : Room} {s : State} {m : MethodId} {args : Array Value} {below : List Frame} {meth : Method} {c : Code} {Q : State → Prop} {D : va_G} {C : Nat → ClassId} {A : Nat → Prop} (cx : CX p m c s args RX4 cX4_meet 4 D C A R 2) {q_ q_steps q_path q_taken : Nat} {u_rule : Int32} {u_found : Int32} {u_size : Int32} {u_least : Int32} {u_path : (Nat → Int32)} {z : (Int32 × Int32 × Int32 × (Nat → Int32))} (hret : RT p l e R s m args below meth c Q D A cX4_meet none [(q_, .inr (4, [.ref q_steps, .ref q_path, .ref q_taken, .int u_rule, .int z.1, .int z.2.1, .int z.2.2.1])), (q_path, .inl (C 0, 6, .inl u_path)), (q_taken, .inl (C 0, 6, .inl z.2.2.2))] none) :
    ∀ (n : Nat) (x3 : Int32) (u_taken : (Nat → Int32)) (H : Heap) (locs : List Loc) (ls : Array Slot), fX4_meet_L36 u_found u_size u_least u_path n x3 u_taken = some z → HW D A s.heap H locs [(q_, .inr (4, [.ref q_steps, .ref q_path, .ref q_taken, .int u_rule, .int u_found, .int u_size, .int u_least])), (q_path, .inl (C 0, 6, .inl u_path)), (q_taken, .inl (C 0, 6, .inl u_taken))] → lv_has ls 4 [(0, .ref q_), (3, .int x3)] → W p l e R s m args below meth c H locs 0 0 Q (F0 m 36 ls []) := by
  have hx := cx.1
  have hb := cx.2.1
  intro n
  induction n with
  | zero => intro x3 u_taken H locs ls hF; cases hF
  | succ n ih =>
    intro x3 u_taken H locs ls hF hw hl
    rw [fX4_meet_L36.eq_2] at hF
    refine lv_iload_n hx hb dX4_meet_36 rfl (lv_at hl 1 rfl) ?_
    refine lv_bipush (v := 6) hx hb dX4_meet_37 (by decide) ?_
    refine lv_icmp_ge (tgt := 60) hx hb dX4_meet_39 (by decide) (fun c4 => ?_) (fun c4 => ?_)
    · replace hF := oi_t c4 hF
      obtain rfl := Option.some.inj hF
      exact rt_v hret hw rfl dX4_meet_60
    · replace hF := oi_f c4 hF
      refine lv_aload_n hx hb dX4_meet_42 rfl (lv_at hl 0 rfl) ?_
      refine r_get (ci := 4) (v := .ref q_taken) cx hw iX4 0 2 rfl rfl (by decide) wf_X4_18 rfl dX4_meet_43 ?_
      refine lv_iload_n hx hb dX4_meet_46 rfl (lv_at hl 1 rfl) ?_
      refine lv_aload_n hx hb dX4_meet_47 rfl (lv_at hl 0 rfl) ?_
      refine r_get (ci := 4) (v := .ref q_path) cx hw iX4 0 1 rfl rfl (by decide) wf_X4_15 rfl dX4_meet_48 ?_
      refine lv_iload_n hx hb dX4_meet_51 rfl (lv_at hl 1 rfl) ?_
      obtain ⟨g5, hF⟩ := gA_s hF
      refine r_iald cx hw 1 rfl g5 dX4_meet_52 ?_
      obtain ⟨g6, hF⟩ := gA_s hF
      refine r_iast (w2 := [(q_, .inr (4, [.ref q_steps, .ref q_path, .ref q_taken, .int u_rule, .int u_found, .int u_size, .int u_least])), (q_path, .inl (C 0, 6, .inl u_path)), (q_taken, .inl (C 0, 6, .inl (upd u_taken (x3 : Int32).toNatClampNeg (u_path (x3).toNatClampNeg))))]) cx hw 2 rfl g6 dX4_meet_53 rfl (fun H locs hw => ?_)
      refine lv_iinc (v := x3 + 1) (lv' := [(3, .int (x3 + 1)), (0, .ref q_)]) hx hb dX4_meet_54 hl (k := 1) rfl rfl (by decide) rfl (fun ls hl => ?_)
      refine lv_goto (tgt := 36) hx hb dX4_meet_57 (by decide) ?_
      exact ih (x3 + 1) (upd u_taken (x3 : Int32).toNatClampNeg (u_path (x3).toNatClampNeg)) H locs ls hF hw (lv_sub hl [1, 0] rfl)
set_option maxRecDepth 20000 in
theorem CX4_meet (l : Launch) (D : va_G) (C : Nat → ClassId) (q_ q_steps q_path q_taken : Nat) (u_rule : Int32) (u_found : Int32) (u_size : Int32) (u_least : Int32) (u_path : (Nat → Int32)) (u_taken : (Nat → Int32)) (x1 : Int32) (x2 : Int32) (z : (Int32 × Int32 × Int32 × (Nat → Int32))) (hF : fX4_meet u_rule u_found u_size u_least u_path u_taken x1 x2 = some z) : Ct l yX4_meet cX4_meet 4 none 2 D C [.ref q_, .int x1, .int x2] [(q_, .inr (4, [.ref q_steps, .ref q_path, .ref q_taken, .int u_rule, .int u_found, .int u_size, .int u_least])), (q_path, .inl (C 0, 6, .inl u_path)), (q_taken, .inl (C 0, 6, .inl u_taken))] [(q_, .inr (4, [.ref q_steps, .ref q_path, .ref q_taken, .int u_rule, .int z.1, .int z.2.1, .int z.2.2.1])), (q_path, .inl (C 0, 6, .inl u_path)), (q_taken, .inl (C 0, 6, .inl z.2.2.2))] none := by
  refine Ct_of (by decide) (Nat.le_of_ble_eq_true rfl) ?_
  intro p e R s m args below meth c A Q H locs ls cx hw hl hret
  have cx : CX p m c s args RX4 cX4_meet 4 D C A R 2 := cx
  have hx := cx.1
  have hb := cx.2.1
  have hl : lv_has ls 4 [(0, .ref q_), (1, .int x1), (2, .int x2)] := hl
  rw [fX4_meet.eq_1] at hF
  refine lv_iload_n hx hb dX4_meet_0 rfl (lv_at hl 2 rfl) ?_
  refine lv_if_le (tgt := 13) hx hb dX4_meet_1 (by decide) (fun c1 => ?_) (fun c1 => ?_)
  · replace hF := oi_t c1 hF
    obtain rfl := Option.some.inj hF
    exact rt_v hret hw rfl dX4_meet_13
  · replace hF := oi_f c1 hF
    refine lv_aload_n hx hb dX4_meet_4 rfl (lv_at hl 0 rfl) ?_
    refine lv_iload_n hx hb dX4_meet_5 rfl (lv_at hl 1 rfl) ?_
    refine lv_iload_n hx hb dX4_meet_6 rfl (lv_at hl 2 rfl) ?_
    obtain ⟨z2, hz2, hF⟩ := ob hF
    refine cV (wr := [(q_path, .inl (C 0, 6, .inl u_path)), (q_taken, .inl (C 0, 6, .inl u_taken))]) (w2 := [(q_, .inr (4, [.ref q_steps, .ref q_path, .ref q_taken, .int u_rule, .int u_found, .int u_size, .int u_least])), (q_path, .inl (C 0, 6, .inl u_path)), (q_taken, .inl (C 0, 6, .inl u_taken))]) (st2 := [.int z2]) cx (CX4_isBetter l D C q_ q_steps q_path q_taken u_rule u_found u_size u_least x1 x2 z2 hz2) lk_X4_67 my_X4_isBetter ml_X4_isBetter ⟨by decide, by decide⟩ hw [0] [1, 2] [2, 0, 1] rfl rfl (by decide) rfl rfl rfl rfl (Nat.le_of_ble_eq_true rfl) dX4_meet_7 rfl (fun H locs hw => ?_) hl.1
    refine lv_if_ne (tgt := 14) hx hb dX4_meet_10 (by decide) (fun c3 => ?_) (fun c3 => ?_)
    · replace hF := oi_f c3 hF
      refine lv_aload_n hx hb dX4_meet_14 rfl (lv_at hl 0 rfl) ?_
      refine lv_dup hx hb dX4_meet_15 rfl ?_
      refine r_get (ci := 4) (v := .int u_found) cx hw iX4 0 4 rfl rfl (by decide) wf_X4_25 rfl dX4_meet_16 ?_
      refine lv_iconst (v := 1) hx hb dX4_meet_19 (by decide) ?_
      refine lv_iadd hx hb dX4_meet_20 ?_
      refine r_put (ci := 4) (w2 := [(q_, .inr (4, [.ref q_steps, .ref q_path, .ref q_taken, .int u_rule, .int (u_found + 1), .int u_size, .int u_least])), (q_path, .inl (C 0, 6, .inl u_path)), (q_taken, .inl (C 0, 6, .inl u_taken))]) cx hw iX4 tyX4_ok nmX4 0 4 rfl rfl (by decide) wf_X4_25 rfl rfl rfl rfl (Nat.le_of_ble_eq_true rfl) dX4_meet_21 rfl (fun H locs hw => ?_)
      refine lv_aload_n hx hb dX4_meet_24 rfl (lv_at hl 0 rfl) ?_
      refine lv_iload_n hx hb dX4_meet_25 rfl (lv_at hl 1 rfl) ?_
      refine r_put (ci := 4) (w2 := [(q_, .inr (4, [.ref q_steps, .ref q_path, .ref q_taken, .int u_rule, .int (u_found + 1), .int x1, .int u_least])), (q_path, .inl (C 0, 6, .inl u_path)), (q_taken, .inl (C 0, 6, .inl u_taken))]) cx hw iX4 tyX4_ok nmX4 0 5 rfl rfl (by decide) wf_X4_28 rfl rfl rfl rfl (Nat.le_of_ble_eq_true rfl) dX4_meet_26 rfl (fun H locs hw => ?_)
      refine lv_aload_n hx hb dX4_meet_29 rfl (lv_at hl 0 rfl) ?_
      refine lv_iload_n hx hb dX4_meet_30 rfl (lv_at hl 2 rfl) ?_
      refine r_put (ci := 4) (w2 := [(q_, .inr (4, [.ref q_steps, .ref q_path, .ref q_taken, .int u_rule, .int (u_found + 1), .int x1, .int x2])), (q_path, .inl (C 0, 6, .inl u_path)), (q_taken, .inl (C 0, 6, .inl u_taken))]) cx hw iX4 tyX4_ok nmX4 0 6 rfl rfl (by decide) wf_X4_31 rfl rfl rfl rfl (Nat.le_of_ble_eq_true rfl) dX4_meet_31 rfl (fun H locs hw => ?_)
      refine lv_iconst (v := 0) hx hb dX4_meet_34 (by decide) ?_
      refine lv_istore_n (lv' := [(3, .int 0), (0, .ref q_), (1, .int x1), (2, .int x2)]) hx hb dX4_meet_35 rfl hl (by decide) rfl (fun ls hl => ?_)
      refine LX4_meet_36 cx hret 400 0 u_taken H locs ls hF hw (lv_sub hl [1, 0] rfl)
    · replace hF := oi_t c3 hF
      obtain rfl := Option.some.inj hF
      exact rt_v hret hw rfl dX4_meet_13
theorem dX4_isOnPath_0 : decode cX4_isOnPath 0 = .ok (.iconst 0, 1) := by decide +kernel
theorem dX4_isOnPath_1 : decode cX4_isOnPath 1 = .ok (.istore_n 3, 1) := by decide +kernel
theorem dX4_isOnPath_2 : decode cX4_isOnPath 2 = .ok (.iload_n 3, 1) := by decide +kernel
theorem dX4_isOnPath_3 : decode cX4_isOnPath 3 = .ok (.iload_n 2, 1) := by decide +kernel
theorem dX4_isOnPath_4 : decode cX4_isOnPath 4 = .ok (.if_icmp .ge 27, 3) := by decide +kernel
theorem dX4_isOnPath_7 : decode cX4_isOnPath 7 = .ok (.iload_n 3, 1) := by decide +kernel
theorem dX4_isOnPath_8 : decode cX4_isOnPath 8 = .ok (.bipush 6, 2) := by decide +kernel
theorem dX4_isOnPath_10 : decode cX4_isOnPath 10 = .ok (.if_icmp .ge 21, 3) := by decide +kernel
theorem dX4_isOnPath_13 : decode cX4_isOnPath 13 = .ok (.aload_n 0, 1) := by decide +kernel
theorem dX4_isOnPath_14 : decode cX4_isOnPath 14 = .ok (.getfield 15, 3) := by decide +kernel
theorem dX4_isOnPath_17 : decode cX4_isOnPath 17 = .ok (.iload_n 3, 1) := by decide +kernel
theorem dX4_isOnPath_18 : decode cX4_isOnPath 18 = .ok (.iaload, 1) := by decide +kernel
theorem dX4_isOnPath_19 : decode cX4_isOnPath 19 = .ok (.iload_n 1, 1) := by decide +kernel
theorem dX4_isOnPath_20 : decode cX4_isOnPath 20 = .ok (.if_icmp .ne 5, 3) := by decide +kernel
theorem dX4_isOnPath_23 : decode cX4_isOnPath 23 = .ok (.iconst 1, 1) := by decide +kernel
theorem dX4_isOnPath_24 : decode cX4_isOnPath 24 = .ok (.ireturn, 1) := by decide +kernel
theorem dX4_isOnPath_25 : decode cX4_isOnPath 25 = .ok (.iinc 3 1, 3) := by decide +kernel
theorem dX4_isOnPath_28 : decode cX4_isOnPath 28 = .ok (.goto (-26), 3) := by decide +kernel
theorem dX4_isOnPath_31 : decode cX4_isOnPath 31 = .ok (.iconst 0, 1) := by decide +kernel
theorem dX4_isOnPath_32 : decode cX4_isOnPath 32 = .ok (.ireturn, 1) := by decide +kernel
def fX4_isOnPath_L2 (u_path : (Nat → Int32)) (x1 : Int32) (x2 : Int32) : Nat → Int32 → Option Int32
  | 0, _ => none
  | n + 1, x3 => if x2 ≤ x3 then (some 0) else (if 6 ≤ x3 then (some 0) else (gA x3 6 (if (u_path (x3).toNatClampNeg) = x1 then (some 1) else (fX4_isOnPath_L2 u_path x1 x2 n (x3 + 1)))))
def fX4_isOnPath (u_path : (Nat → Int32)) (x1 : Int32) (x2 : Int32) : Option Int32 := fX4_isOnPath_L2 u_path x1 x2 400 0
set_option maxRecDepth 20000 in
theorem LX4_isOnPath_2 {p : Program} {l : Launch} {e : Env} {R : Room} {s : State} {m : MethodId} {args : Array Value} {below : List Frame} {meth : Method} {c : Code} {Q : State → Prop} {D : va_G} {C : Nat → ClassId} {A : Nat → Prop} (cx : CX p m c s args RX4 cX4_isOnPath 4 D C A R 1) {q_ q_steps q_path q_taken : Nat} {u_rule : Int32} {u_found : Int32} {u_size : Int32} {u_least : Int32} {u_path : (Nat → Int32)} {x1 : Int32} {x2 : Int32} {z : Int32} (hret : RT p l e R s m args below meth c Q D A cX4_isOnPath (some .boolean) [(q_, .inr (4, [.ref q_steps, .ref q_path, .ref q_taken, .int u_rule, .int u_found, .int u_size, .int u_least])), (q_path, .inl (C 0, 6, .inl u_path))] (some (.int z))) :
    ∀ (n : Nat) (x3 : Int32) (H : Heap) (locs : List Loc) (ls : Array Slot), fX4_isOnPath_L2 u_path x1 x2 n x3 = some z → HW D A s.heap H locs [(q_, .inr (4, [.ref q_steps, .ref q_path, .ref q_taken, .int u_rule, .int u_found, .int u_size, .int u_least])), (q_path, .inl (C 0, 6, .inl u_path))] → lv_has ls 4 [(0, .ref q_), (1, .int x1), (2, .int x2), (3, .int x3)] → W p l e R s m args below meth c H locs 0 0 Q (F0 m 2 ls []) := by
  have hx := cx.1
  have hb := cx.2.1
  intro n
  induction n with
  | zero => intro x3 H locs ls hF; cases hF
  | succ n ih =>
    intro x3 H locs ls hF hw hl
    rw [fX4_isOnPath_L2.eq_2] at hF
    refine lv_iload_n hx hb dX4_isOnPath_2 rfl (lv_at hl 3 rfl) ?_
    refine lv_iload_n hx hb dX4_isOnPath_3 rfl (lv_at hl 2 rfl) ?_
    refine lv_icmp_ge (tgt := 31) hx hb dX4_isOnPath_4 (by decide) (fun c1 => ?_) (fun c1 => ?_)
    · replace hF := oi_t c1 hF
      refine lv_iconst (v := 0) hx hb dX4_isOnPath_31 (by decide) ?_
      obtain rfl := Option.some.inj hF
      exact rt_z hret hw rfl rfl dX4_isOnPath_32
    · replace hF := oi_f c1 hF
      refine lv_iload_n hx hb dX4_isOnPath_7 rfl (lv_at hl 3 rfl) ?_
      refine lv_bipush (v := 6) hx hb dX4_isOnPath_8 (by decide) ?_
      refine lv_icmp_ge (tgt := 31) hx hb dX4_isOnPath_10 (by decide) (fun c2 => ?_) (fun c2 => ?_)
      · replace hF := oi_t c2 hF
        refine lv_iconst (v := 0) hx hb dX4_isOnPath_31 (by decide) ?_
        obtain rfl := Option.some.inj hF
        exact rt_z hret hw rfl rfl dX4_isOnPath_32
      · replace hF := oi_f c2 hF
        refine lv_aload_n hx hb dX4_isOnPath_13 rfl (lv_at hl 0 rfl) ?_
        refine r_get (ci := 4) (v := .ref q_path) cx hw iX4 0 1 rfl rfl (by decide) wf_X4_15 rfl dX4_isOnPath_14 ?_
        refine lv_iload_n hx hb dX4_isOnPath_17 rfl (lv_at hl 3 rfl) ?_
        obtain ⟨g3, hF⟩ := gA_s hF
        refine r_iald cx hw 1 rfl g3 dX4_isOnPath_18 ?_
        refine lv_iload_n hx hb dX4_isOnPath_19 rfl (lv_at hl 1 rfl) ?_
        refine lv_icmp_ne (tgt := 25) hx hb dX4_isOnPath_20 (by decide) (fun c4 => ?_) (fun c4 => ?_)
        · replace hF := oi_f c4 hF
          refine lv_iinc (v := x3 + 1) (lv' := [(3, .int (x3 + 1)), (0, .ref q_), (1, .int x1), (2, .int x2)]) hx hb dX4_isOnPath_25 hl (k := 3) rfl rfl (by decide) rfl (fun ls hl => ?_)
          refine lv_goto (tgt := 2) hx hb dX4_isOnPath_28 (by decide) ?_
          exact ih (x3 + 1) H locs ls hF hw (lv_sub hl [1, 2, 3, 0] rfl)
        · replace hF := oi_t c4 hF
          refine lv_iconst (v := 1) hx hb dX4_isOnPath_23 (by decide) ?_
          obtain rfl := Option.some.inj hF
          exact rt_z hret hw rfl rfl dX4_isOnPath_24
set_option maxRecDepth 20000 in
theorem CX4_isOnPath (l : Launch) (D : va_G) (C : Nat → ClassId) (q_ q_steps q_path q_taken : Nat) (u_rule : Int32) (u_found : Int32) (u_size : Int32) (u_least : Int32) (u_path : (Nat → Int32)) (x1 : Int32) (x2 : Int32) (z : Int32) (hF : fX4_isOnPath u_path x1 x2 = some z) : Ct l yX4_isOnPath cX4_isOnPath 4 (some .boolean) 1 D C [.ref q_, .int x1, .int x2] [(q_, .inr (4, [.ref q_steps, .ref q_path, .ref q_taken, .int u_rule, .int u_found, .int u_size, .int u_least])), (q_path, .inl (C 0, 6, .inl u_path))] [(q_, .inr (4, [.ref q_steps, .ref q_path, .ref q_taken, .int u_rule, .int u_found, .int u_size, .int u_least])), (q_path, .inl (C 0, 6, .inl u_path))] (some (.int z)) := by
  refine Ct_of (by decide) (Nat.le_of_ble_eq_true rfl) ?_
  intro p e R s m args below meth c A Q H locs ls cx hw hl hret
  have cx : CX p m c s args RX4 cX4_isOnPath 4 D C A R 1 := cx
  have hx := cx.1
  have hb := cx.2.1
  have hl : lv_has ls 4 [(0, .ref q_), (1, .int x1), (2, .int x2)] := hl
  rw [fX4_isOnPath.eq_1] at hF
  refine lv_iconst (v := 0) hx hb dX4_isOnPath_0 (by decide) ?_
  refine lv_istore_n (lv' := [(3, .int 0), (0, .ref q_), (1, .int x1), (2, .int x2)]) hx hb dX4_isOnPath_1 rfl hl (by decide) rfl (fun ls hl => ?_)
  refine LX4_isOnPath_2 cx hret 400 0 H locs ls hF hw (lv_sub hl [1, 2, 3, 0] rfl)
theorem lk_X4_70 : Cond.methodLink RX4 70 yX4_step ∈ gdt := gdt_of 434 (by decide +kernel) (by decide +kernel)
theorem lk_X4_82 : Cond.methodLink RX4 82 yX4_isOnPath ∈ gdt := gdt_of 446 (by decide +kernel) (by decide +kernel)
theorem lk_X4_73 : Cond.methodLink RX4 73 Lib.Math.min.name ∈ gdt := gdt_of 439 (by decide +kernel) (by decide +kernel)
theorem mst_min : Cond.static Lib.Math.min.name ∈ gdt := gdt_of 440 (by decide +kernel) (by decide +kernel)
theorem mco_min : Cond.code Lib.Math.min.name Lib.Math.min.code 2 (some .int) ∈ gdt := gdt_of 441 (by decide +kernel) (by decide +kernel)
theorem ini_Math : Cond.initialized "java/lang/Math" ∈ gdt := gdt_of 72 (by decide +kernel) (by decide +kernel)
theorem lk_X4_55 : Cond.methodLink RX4 55 yX4_extend ∈ gdt := gdt_of 426 (by decide +kernel) (by decide +kernel)
theorem lk_X4_78 : Cond.methodLink RX4 78 yX4_meet ∈ gdt := gdt_of 442 (by decide +kernel) (by decide +kernel)
theorem my_X4_step : (yX4_step.cls ≠ "java/lang/invoke/MethodHandle" ∧ yX4_step.cls ≠ "java/lang/invoke/VarHandle") ∧ Cond.instanceMethod yX4_step ∈ gdt ∧ Cond.selects yX4_step.cls yX4_step yX4_step ∈ gdt ∧ Cond.initialized yX4_step.cls ∈ gdt ∧ Cond.code yX4_step cX4_step 3 (some .int) ∈ gdt := ⟨⟨by decide +kernel, by decide +kernel⟩, gdt_of 436 (by decide +kernel) (by decide +kernel), gdt_of 9 (by decide +kernel) (by decide +kernel), gdt_of 73 (by decide +kernel) (by decide +kernel), gdt_of 437 (by decide +kernel) (by decide +kernel)⟩
theorem ml_X4_step : (parseMethodDescriptor yX4_step.desc).map (fun d => d.parameters.length) = some 2 := by decide +kernel
theorem my_X4_isOnPath : (yX4_isOnPath.cls ≠ "java/lang/invoke/MethodHandle" ∧ yX4_isOnPath.cls ≠ "java/lang/invoke/VarHandle") ∧ Cond.instanceMethod yX4_isOnPath ∈ gdt ∧ Cond.selects yX4_isOnPath.cls yX4_isOnPath yX4_isOnPath ∈ gdt ∧ Cond.initialized yX4_isOnPath.cls ∈ gdt ∧ Cond.code yX4_isOnPath cX4_isOnPath 4 (some .boolean) ∈ gdt := ⟨⟨by decide +kernel, by decide +kernel⟩, gdt_of 448 (by decide +kernel) (by decide +kernel), gdt_of 11 (by decide +kernel) (by decide +kernel), gdt_of 73 (by decide +kernel) (by decide +kernel), gdt_of 449 (by decide +kernel) (by decide +kernel)⟩
theorem ml_X4_isOnPath : (parseMethodDescriptor yX4_isOnPath.desc).map (fun d => d.parameters.length) = some 2 := by decide +kernel
theorem my_X4_extend : (yX4_extend.cls ≠ "java/lang/invoke/MethodHandle" ∧ yX4_extend.cls ≠ "java/lang/invoke/VarHandle") ∧ Cond.instanceMethod yX4_extend ∈ gdt ∧ Cond.selects yX4_extend.cls yX4_extend yX4_extend ∈ gdt ∧ Cond.initialized yX4_extend.cls ∈ gdt ∧ Cond.code yX4_extend cX4_extend 7 none ∈ gdt := ⟨⟨by decide +kernel, by decide +kernel⟩, gdt_of 428 (by decide +kernel) (by decide +kernel), gdt_of 7 (by decide +kernel) (by decide +kernel), gdt_of 73 (by decide +kernel) (by decide +kernel), gdt_of 429 (by decide +kernel) (by decide +kernel)⟩
theorem ml_X4_extend : (parseMethodDescriptor yX4_extend.desc).map (fun d => d.parameters.length) = some 3 := by decide +kernel
theorem my_X4_meet : (yX4_meet.cls ≠ "java/lang/invoke/MethodHandle" ∧ yX4_meet.cls ≠ "java/lang/invoke/VarHandle") ∧ Cond.instanceMethod yX4_meet ∈ gdt ∧ Cond.selects yX4_meet.cls yX4_meet yX4_meet ∈ gdt ∧ Cond.initialized yX4_meet.cls ∈ gdt ∧ Cond.code yX4_meet cX4_meet 4 none ∈ gdt := ⟨⟨by decide +kernel, by decide +kernel⟩, gdt_of 444 (by decide +kernel) (by decide +kernel), gdt_of 10 (by decide +kernel) (by decide +kernel), gdt_of 73 (by decide +kernel) (by decide +kernel), gdt_of 445 (by decide +kernel) (by decide +kernel)⟩
theorem ml_X4_meet : (parseMethodDescriptor yX4_meet.desc).map (fun d => d.parameters.length) = some 2 := by decide +kernel
theorem dX4_extend_0 : decode cX4_extend 0 = .ok (.iload_n 2, 1) := by decide +kernel
theorem dX4_extend_1 : decode cX4_extend 1 = .ok (.iconst 1, 1) := by decide +kernel
theorem dX4_extend_2 : decode cX4_extend 2 = .ok (.if_icmp .lt 18, 3) := by decide +kernel
theorem dX4_extend_5 : decode cX4_extend 5 = .ok (.iload_n 2, 1) := by decide +kernel
theorem dX4_extend_6 : decode cX4_extend 6 = .ok (.bipush 6, 2) := by decide +kernel
theorem dX4_extend_8 : decode cX4_extend 8 = .ok (.if_icmp .gt 12, 3) := by decide +kernel
theorem dX4_extend_11 : decode cX4_extend 11 = .ok (.aload_n 0, 1) := by decide +kernel
theorem dX4_extend_12 : decode cX4_extend 12 = .ok (.iload_n 1, 1) := by decide +kernel
theorem dX4_extend_13 : decode cX4_extend 13 = .ok (.iload_n 3, 1) := by decide +kernel
theorem dX4_extend_14 : decode cX4_extend 14 = .ok (.invokevirtual 67, 3) := by decide +kernel
theorem dX4_extend_17 : decode cX4_extend 17 = .ok (.ifCond .ne 4, 3) := by decide +kernel
theorem dX4_extend_20 : decode cX4_extend 20 = .ok (.return_, 1) := by decide +kernel
theorem dX4_extend_21 : decode cX4_extend 21 = .ok (.aload_n 0, 1) := by decide +kernel
theorem dX4_extend_22 : decode cX4_extend 22 = .ok (.getfield 15, 3) := by decide +kernel
theorem dX4_extend_25 : decode cX4_extend 25 = .ok (.iload_n 2, 1) := by decide +kernel
theorem dX4_extend_26 : decode cX4_extend 26 = .ok (.iconst 1, 1) := by decide +kernel
theorem dX4_extend_27 : decode cX4_extend 27 = .ok (.isub, 1) := by decide +kernel
theorem dX4_extend_28 : decode cX4_extend 28 = .ok (.iaload, 1) := by decide +kernel
theorem dX4_extend_29 : decode cX4_extend 29 = .ok (.istore 4, 2) := by decide +kernel
theorem dX4_extend_31 : decode cX4_extend 31 = .ok (.iload_n 2, 1) := by decide +kernel
theorem dX4_extend_32 : decode cX4_extend 32 = .ok (.iload_n 1, 1) := by decide +kernel
theorem dX4_extend_33 : decode cX4_extend 33 = .ok (.if_icmp .lt 25, 3) := by decide +kernel
theorem dX4_extend_36 : decode cX4_extend 36 = .ok (.aload_n 0, 1) := by decide +kernel
theorem dX4_extend_37 : decode cX4_extend 37 = .ok (.iload_n 1, 1) := by decide +kernel
theorem dX4_extend_38 : decode cX4_extend 38 = .ok (.iload_n 3, 1) := by decide +kernel
theorem dX4_extend_39 : decode cX4_extend 39 = .ok (.aload_n 0, 1) := by decide +kernel
theorem dX4_extend_40 : decode cX4_extend 40 = .ok (.iload 4, 2) := by decide +kernel
theorem dX4_extend_42 : decode cX4_extend 42 = .ok (.aload_n 0, 1) := by decide +kernel
theorem dX4_extend_43 : decode cX4_extend 43 = .ok (.getfield 15, 3) := by decide +kernel
theorem dX4_extend_46 : decode cX4_extend 46 = .ok (.iconst 0, 1) := by decide +kernel
theorem dX4_extend_47 : decode cX4_extend 47 = .ok (.iaload, 1) := by decide +kernel
theorem dX4_extend_48 : decode cX4_extend 48 = .ok (.invokevirtual 70, 3) := by decide +kernel
theorem dX4_extend_51 : decode cX4_extend 51 = .ok (.invokestatic 73, 3) := by decide +kernel
theorem dX4_extend_54 : decode cX4_extend 54 = .ok (.invokevirtual 78, 3) := by decide +kernel
theorem dX4_extend_57 : decode cX4_extend 57 = .ok (.return_, 1) := by decide +kernel
theorem dX4_extend_58 : decode cX4_extend 58 = .ok (.aload_n 0, 1) := by decide +kernel
theorem dX4_extend_59 : decode cX4_extend 59 = .ok (.getfield 15, 3) := by decide +kernel
theorem dX4_extend_62 : decode cX4_extend 62 = .ok (.iconst 0, 1) := by decide +kernel
theorem dX4_extend_63 : decode cX4_extend 63 = .ok (.iaload, 1) := by decide +kernel
theorem dX4_extend_64 : decode cX4_extend 64 = .ok (.iconst 1, 1) := by decide +kernel
theorem dX4_extend_65 : decode cX4_extend 65 = .ok (.iadd, 1) := by decide +kernel
theorem dX4_extend_66 : decode cX4_extend 66 = .ok (.istore 5, 2) := by decide +kernel
theorem dX4_extend_68 : decode cX4_extend 68 = .ok (.iload 5, 2) := by decide +kernel
theorem dX4_extend_70 : decode cX4_extend 70 = .ok (.bipush 6, 2) := by decide +kernel
theorem dX4_extend_72 : decode cX4_extend 72 = .ok (.if_icmp .ge 62, 3) := by decide +kernel
theorem dX4_extend_75 : decode cX4_extend 75 = .ok (.iload_n 2, 1) := by decide +kernel
theorem dX4_extend_76 : decode cX4_extend 76 = .ok (.bipush 6, 2) := by decide +kernel
theorem dX4_extend_78 : decode cX4_extend 78 = .ok (.if_icmp .ge 56, 3) := by decide +kernel
theorem dX4_extend_81 : decode cX4_extend 81 = .ok (.aload_n 0, 1) := by decide +kernel
theorem dX4_extend_82 : decode cX4_extend 82 = .ok (.iload 4, 2) := by decide +kernel
theorem dX4_extend_84 : decode cX4_extend 84 = .ok (.iload 5, 2) := by decide +kernel
theorem dX4_extend_86 : decode cX4_extend 86 = .ok (.invokevirtual 70, 3) := by decide +kernel
theorem dX4_extend_89 : decode cX4_extend 89 = .ok (.istore 6, 2) := by decide +kernel
theorem dX4_extend_91 : decode cX4_extend 91 = .ok (.iload 6, 2) := by decide +kernel
theorem dX4_extend_93 : decode cX4_extend 93 = .ok (.ifCond .le 35, 3) := by decide +kernel
theorem dX4_extend_96 : decode cX4_extend 96 = .ok (.aload_n 0, 1) := by decide +kernel
theorem dX4_extend_97 : decode cX4_extend 97 = .ok (.iload 5, 2) := by decide +kernel
theorem dX4_extend_99 : decode cX4_extend 99 = .ok (.iload_n 2, 1) := by decide +kernel
theorem dX4_extend_100 : decode cX4_extend 100 = .ok (.invokevirtual 82, 3) := by decide +kernel
theorem dX4_extend_103 : decode cX4_extend 103 = .ok (.ifCond .ne 25, 3) := by decide +kernel
theorem dX4_extend_106 : decode cX4_extend 106 = .ok (.aload_n 0, 1) := by decide +kernel
theorem dX4_extend_107 : decode cX4_extend 107 = .ok (.getfield 15, 3) := by decide +kernel
theorem dX4_extend_110 : decode cX4_extend 110 = .ok (.iload_n 2, 1) := by decide +kernel
theorem dX4_extend_111 : decode cX4_extend 111 = .ok (.iload 5, 2) := by decide +kernel
theorem dX4_extend_113 : decode cX4_extend 113 = .ok (.iastore, 1) := by decide +kernel
theorem dX4_extend_114 : decode cX4_extend 114 = .ok (.aload_n 0, 1) := by decide +kernel
theorem dX4_extend_115 : decode cX4_extend 115 = .ok (.iload_n 1, 1) := by decide +kernel
theorem dX4_extend_116 : decode cX4_extend 116 = .ok (.iload_n 2, 1) := by decide +kernel
theorem dX4_extend_117 : decode cX4_extend 117 = .ok (.iconst 1, 1) := by decide +kernel
theorem dX4_extend_118 : decode cX4_extend 118 = .ok (.iadd, 1) := by decide +kernel
theorem dX4_extend_119 : decode cX4_extend 119 = .ok (.iload_n 3, 1) := by decide +kernel
theorem dX4_extend_120 : decode cX4_extend 120 = .ok (.iload 6, 2) := by decide +kernel
theorem dX4_extend_122 : decode cX4_extend 122 = .ok (.invokestatic 73, 3) := by decide +kernel
theorem dX4_extend_125 : decode cX4_extend 125 = .ok (.invokevirtual 55, 3) := by decide +kernel
theorem dX4_extend_128 : decode cX4_extend 128 = .ok (.iinc 5 1, 3) := by decide +kernel
theorem dX4_extend_131 : decode cX4_extend 131 = .ok (.goto (-63), 3) := by decide +kernel
theorem dX4_extend_134 : decode cX4_extend 134 = .ok (.return_, 1) := by decide +kernel
def fX4_extend_L68 (self : Int32 → Int32 → Int32 → Int32 → (Nat → Int32) → (Nat → Int32) → (Nat → Int32) → Int32 → Int32 → Int32 → Option (Int32 × Int32 × Int32 × (Nat → Int32) × (Nat → Int32))) (u_rule : Int32) (u_steps : (Nat → Int32)) (x1 : Int32) (x2 : Int32) (x3 : Int32) (x4 : Int32) : Nat → Int32 → Int32 → Int32 → Int32 → (Nat → Int32) → (Nat → Int32) → Option (Int32 × Int32 × Int32 × (Nat → Int32) × (Nat → Int32))
  | 0, _, _, _, _, _, _ => none
  | n + 1, x5, u_found, u_size, u_least, u_path, u_taken => if 6 ≤ x5 then (some (u_found, u_size, u_least, u_path, u_taken)) else (if 6 ≤ x2 then (some (u_found, u_size, u_least, u_path, u_taken)) else ((fX4_step u_steps x4 x5).bind (fun z10 => if z10 ≤ 0 then (fX4_extend_L68 self u_rule u_steps x1 x2 x3 x4 n (x5 + 1) u_found u_size u_least u_path u_taken) else ((fX4_isOnPath u_path x5 x2).bind (fun z12 => if z12 = 0 then (gA x2 6 ((self u_rule u_found u_size u_least u_steps (upd u_path (x2 : Int32).toNatClampNeg x5) u_taken x1 (x2 + 1) (if z10 < x3 then z10 else x3)).bind (fun z15 => fX4_extend_L68 self u_rule u_steps x1 x2 x3 x4 n (x5 + 1) z15.1 z15.2.1 z15.2.2.1 z15.2.2.2.1 z15.2.2.2.2))) else (fX4_extend_L68 self u_rule u_steps x1 x2 x3 x4 n (x5 + 1) u_found u_size u_least u_path u_taken))))))
def fX4_extend : Nat → Int32 → Int32 → Int32 → Int32 → (Nat → Int32) → (Nat → Int32) → (Nat → Int32) → Int32 → Int32 → Int32 → Option (Int32 × Int32 × Int32 × (Nat → Int32) × (Nat → Int32))
  | 0, _, _, _, _, _, _, _, _, _, _ => none
  | n + 1, u_rule, u_found, u_size, u_least, u_steps, u_path, u_taken, x1, x2, x3 => if x2 < 1 then (some (u_found, u_size, u_least, u_path, u_taken)) else (if 6 < x2 then (some (u_found, u_size, u_least, u_path, u_taken)) else ((fX4_isBetter u_rule u_size u_least x1 x3).bind (fun z3 => if z3 = 0 then (some (u_found, u_size, u_least, u_path, u_taken)) else (gA (x2 - 1) 6 (if x2 < x1 then (gA 0 6 (fX4_extend_L68 (fun u_rule u_found u_size u_least u_steps u_path u_taken x1 x2 x3 => fX4_extend n u_rule u_found u_size u_least u_steps u_path u_taken x1 x2 x3) u_rule u_steps x1 x2 x3 (u_path (x2 - 1).toNatClampNeg) 400 ((u_path (0 : Int32).toNatClampNeg) + 1) u_found u_size u_least u_path u_taken)) else (gA 0 6 ((fX4_step u_steps (u_path (x2 - 1).toNatClampNeg) (u_path (0 : Int32).toNatClampNeg)).bind (fun z17 => (fX4_meet u_rule u_found u_size u_least u_path u_taken x1 (if z17 < x3 then z17 else x3)).bind (fun z18 => some (z18.1, z18.2.1, z18.2.2.1, u_path, z18.2.2.2))))))))))
set_option maxRecDepth 20000 in
theorem LX4_extend_68 {p : Program} {l : Launch} {e : Env} {R : Room} {s : State} {m : MethodId} {args : Array Value} {below : List Frame} {meth : Method} {c : Code} {Q : State → Prop} {D : va_G} {C : Nat → ClassId} {A : Nat → Prop} {dd : Nat} (hdd : 3 ≤ dd) (cx : CX p m c s args RX4 cX4_extend 7 D C A R (dd + 1)) {q_ q_steps q_path q_taken : Nat} {u_rule : Int32} {u_steps : (Nat → Int32)} {x1 : Int32} {x2 : Int32} {x3 : Int32} {x4 : Int32} {z : (Int32 × Int32 × Int32 × (Nat → Int32) × (Nat → Int32))} (hret : RT p l e R s m args below meth c Q D A cX4_extend none [(q_, .inr (4, [.ref q_steps, .ref q_path, .ref q_taken, .int u_rule, .int z.1, .int z.2.1, .int z.2.2.1])), (q_steps, .inl (C 0, 36, .inl u_steps)), (q_path, .inl (C 0, 6, .inl z.2.2.2.1)), (q_taken, .inl (C 0, 6, .inl z.2.2.2.2))] none) {self : Int32 → Int32 → Int32 → Int32 → (Nat → Int32) → (Nat → Int32) → (Nat → Int32) → Int32 → Int32 → Int32 → Option (Int32 × Int32 × Int32 × (Nat → Int32) × (Nat → Int32))} (hrec : ∀ (q_ q_steps q_path q_taken : Nat) (u_rule : Int32) (u_found : Int32) (u_size : Int32) (u_least : Int32) (u_steps : (Nat → Int32)) (u_path : (Nat → Int32)) (u_taken : (Nat → Int32)) (x1 : Int32) (x2 : Int32) (x3 : Int32) (z : (Int32 × Int32 × Int32 × (Nat → Int32) × (Nat → Int32))), self u_rule u_found u_size u_least u_steps u_path u_taken x1 x2 x3 = some z → Ct l yX4_extend cX4_extend 7 none dd D C [.ref q_, .int x1, .int x2, .int x3] [(q_, .inr (4, [.ref q_steps, .ref q_path, .ref q_taken, .int u_rule, .int u_found, .int u_size, .int u_least])), (q_steps, .inl (C 0, 36, .inl u_steps)), (q_path, .inl (C 0, 6, .inl u_path)), (q_taken, .inl (C 0, 6, .inl u_taken))] [(q_, .inr (4, [.ref q_steps, .ref q_path, .ref q_taken, .int u_rule, .int z.1, .int z.2.1, .int z.2.2.1])), (q_steps, .inl (C 0, 36, .inl u_steps)), (q_path, .inl (C 0, 6, .inl z.2.2.2.1)), (q_taken, .inl (C 0, 6, .inl z.2.2.2.2))] none) :
    ∀ (n : Nat) (x5 : Int32) (u_found : Int32) (u_size : Int32) (u_least : Int32) (u_path : (Nat → Int32)) (u_taken : (Nat → Int32)) (H : Heap) (locs : List Loc) (ls : Array Slot), fX4_extend_L68 self u_rule u_steps x1 x2 x3 x4 n x5 u_found u_size u_least u_path u_taken = some z → HW D A s.heap H locs [(q_, .inr (4, [.ref q_steps, .ref q_path, .ref q_taken, .int u_rule, .int u_found, .int u_size, .int u_least])), (q_steps, .inl (C 0, 36, .inl u_steps)), (q_path, .inl (C 0, 6, .inl u_path)), (q_taken, .inl (C 0, 6, .inl u_taken))] → lv_has ls 7 [(0, .ref q_), (1, .int x1), (2, .int x2), (3, .int x3), (4, .int x4), (5, .int x5)] → W p l e R s m args below meth c H locs 0 0 Q (F0 m 68 ls []) := by
  have hx := cx.1
  have hb := cx.2.1
  intro n
  induction n with
  | zero => intro x5 u_found u_size u_least u_path u_taken H locs ls hF; cases hF
  | succ n ih =>
    intro x5 u_found u_size u_least u_path u_taken H locs ls hF hw hl
    rw [fX4_extend_L68.eq_2] at hF
    refine lv_iload hx hb dX4_extend_68 (lv_at hl 5 rfl) ?_
    refine lv_bipush (v := 6) hx hb dX4_extend_70 (by decide) ?_
    refine lv_icmp_ge (tgt := 134) hx hb dX4_extend_72 (by decide) (fun c8 => ?_) (fun c8 => ?_)
    · replace hF := oi_t c8 hF
      obtain rfl := Option.some.inj hF
      exact rt_v hret hw rfl dX4_extend_134
    · replace hF := oi_f c8 hF
      refine lv_iload_n hx hb dX4_extend_75 rfl (lv_at hl 2 rfl) ?_
      refine lv_bipush (v := 6) hx hb dX4_extend_76 (by decide) ?_
      refine lv_icmp_ge (tgt := 134) hx hb dX4_extend_78 (by decide) (fun c9 => ?_) (fun c9 => ?_)
      · replace hF := oi_t c9 hF
        obtain rfl := Option.some.inj hF
        exact rt_v hret hw rfl dX4_extend_134
      · replace hF := oi_f c9 hF
        refine lv_aload_n hx hb dX4_extend_81 rfl (lv_at hl 0 rfl) ?_
        refine lv_iload hx hb dX4_extend_82 (lv_at hl 4 rfl) ?_
        refine lv_iload hx hb dX4_extend_84 (lv_at hl 5 rfl) ?_
        obtain ⟨z10, hz10, hF⟩ := ob hF
        refine cV (wr := [(q_path, .inl (C 0, 6, .inl u_path)), (q_taken, .inl (C 0, 6, .inl u_taken))]) (w2 := [(q_, .inr (4, [.ref q_steps, .ref q_path, .ref q_taken, .int u_rule, .int u_found, .int u_size, .int u_least])), (q_steps, .inl (C 0, 36, .inl u_steps)), (q_path, .inl (C 0, 6, .inl u_path)), (q_taken, .inl (C 0, 6, .inl u_taken))]) (st2 := [.int z10]) cx (CX4_step l D C q_ q_steps q_path q_taken u_rule u_found u_size u_least u_steps x4 x5 z10 hz10) lk_X4_70 my_X4_step ml_X4_step ⟨by omega, by decide⟩ hw [0, 1] [2, 3] [2, 3, 0, 1] rfl rfl (by decide) rfl rfl rfl rfl (Nat.le_of_ble_eq_true rfl) dX4_extend_86 rfl (fun H locs hw => ?_) hl.1
        refine lv_istore (lv' := [(6, .int z10), (0, .ref q_), (1, .int x1), (2, .int x2), (3, .int x3), (4, .int x4), (5, .int x5)]) hx hb dX4_extend_89 hl (by decide) rfl (fun ls hl => ?_)
        refine lv_iload hx hb dX4_extend_91 (lv_at hl 0 rfl) ?_
        refine lv_if_le (tgt := 128) hx hb dX4_extend_93 (by decide) (fun c11 => ?_) (fun c11 => ?_)
        · replace hF := oi_t c11 hF
          refine lv_iinc (v := x5 + 1) (lv' := [(5, .int (x5 + 1)), (6, .int z10), (0, .ref q_), (1, .int x1), (2, .int x2), (3, .int x3), (4, .int x4)]) hx hb dX4_extend_128 hl (k := 6) rfl rfl (by decide) rfl (fun ls hl => ?_)
          refine lv_goto (tgt := 68) hx hb dX4_extend_131 (by decide) ?_
          exact ih (x5 + 1) u_found u_size u_least u_path u_taken H locs ls hF hw (lv_sub hl [2, 3, 4, 5, 6, 0] rfl)
        · replace hF := oi_f c11 hF
          refine lv_aload_n hx hb dX4_extend_96 rfl (lv_at hl 1 rfl) ?_
          refine lv_iload hx hb dX4_extend_97 (lv_at hl 6 rfl) ?_
          refine lv_iload_n hx hb dX4_extend_99 rfl (lv_at hl 3 rfl) ?_
          obtain ⟨z12, hz12, hF⟩ := ob hF
          refine cV (wr := [(q_steps, .inl (C 0, 36, .inl u_steps)), (q_taken, .inl (C 0, 6, .inl u_taken))]) (w2 := [(q_, .inr (4, [.ref q_steps, .ref q_path, .ref q_taken, .int u_rule, .int u_found, .int u_size, .int u_least])), (q_steps, .inl (C 0, 36, .inl u_steps)), (q_path, .inl (C 0, 6, .inl u_path)), (q_taken, .inl (C 0, 6, .inl u_taken))]) (st2 := [.int z12]) cx (CX4_isOnPath l D C q_ q_steps q_path q_taken u_rule u_found u_size u_least u_path x5 x2 z12 hz12) lk_X4_82 my_X4_isOnPath ml_X4_isOnPath ⟨by omega, by decide⟩ hw [0, 2] [1, 3] [2, 0, 3, 1] rfl rfl (by decide) rfl rfl rfl rfl (Nat.le_of_ble_eq_true rfl) dX4_extend_100 rfl (fun H locs hw => ?_) hl.1
          refine lv_if_ne (tgt := 128) hx hb dX4_extend_103 (by decide) (fun c13 => ?_) (fun c13 => ?_)
          · replace hF := oi_f c13 hF
            refine lv_iinc (v := x5 + 1) (lv' := [(5, .int (x5 + 1)), (6, .int z10), (0, .ref q_), (1, .int x1), (2, .int x2), (3, .int x3), (4, .int x4)]) hx hb dX4_extend_128 hl (k := 6) rfl rfl (by decide) rfl (fun ls hl => ?_)
            refine lv_goto (tgt := 68) hx hb dX4_extend_131 (by decide) ?_
            exact ih (x5 + 1) u_found u_size u_least u_path u_taken H locs ls hF hw (lv_sub hl [2, 3, 4, 5, 6, 0] rfl)
          · replace hF := oi_t c13 hF
            refine lv_aload_n hx hb dX4_extend_106 rfl (lv_at hl 1 rfl) ?_
            refine r_get (ci := 4) (v := .ref q_path) cx hw iX4 0 1 rfl rfl (by decide) wf_X4_15 rfl dX4_extend_107 ?_
            refine lv_iload_n hx hb dX4_extend_110 rfl (lv_at hl 3 rfl) ?_
            refine lv_iload hx hb dX4_extend_111 (lv_at hl 6 rfl) ?_
            obtain ⟨g14, hF⟩ := gA_s hF
            refine r_iast (w2 := [(q_, .inr (4, [.ref q_steps, .ref q_path, .ref q_taken, .int u_rule, .int u_found, .int u_size, .int u_least])), (q_steps, .inl (C 0, 36, .inl u_steps)), (q_path, .inl (C 0, 6, .inl (upd u_path (x2 : Int32).toNatClampNeg x5))), (q_taken, .inl (C 0, 6, .inl u_taken))]) cx hw 2 rfl g14 dX4_extend_113 rfl (fun H locs hw => ?_)
            refine lv_aload_n hx hb dX4_extend_114 rfl (lv_at hl 1 rfl) ?_
            refine lv_iload_n hx hb dX4_extend_115 rfl (lv_at hl 2 rfl) ?_
            refine lv_iload_n hx hb dX4_extend_116 rfl (lv_at hl 3 rfl) ?_
            refine lv_iconst (v := 1) hx hb dX4_extend_117 (by decide) ?_
            refine lv_iadd hx hb dX4_extend_118 ?_
            refine lv_iload_n hx hb dX4_extend_119 rfl (lv_at hl 4 rfl) ?_
            refine lv_iload hx hb dX4_extend_120 (lv_at hl 0 rfl) ?_
            refine va_mmin hx hb (cx.2.2.1.trans hl.1.symm) cx.2.2.2.1 (cx.2.2.2.2.1 _ lk_X4_73) (cx.2.2.2.2.1 _ mst_min) (cx.2.2.2.2.1 _ ini_Math) (cx.2.2.2.2.1 _ mco_min) (Nat.le_trans (by omega) cx.2.2.2.2.2.2.2.1) (Nat.le_trans (Nat.le_trans (m := 40) (Nat.le_of_ble_eq_true rfl) (by omega)) cx.2.2.2.2.2.2.2.2) (Nat.zero_le _) (Nat.zero_le _) dX4_extend_122 ?_
            obtain ⟨z15, hz15, hF⟩ := ob hF
            refine cV (wr := []) (w2 := [(q_, .inr (4, [.ref q_steps, .ref q_path, .ref q_taken, .int u_rule, .int z15.1, .int z15.2.1, .int z15.2.2.1])), (q_steps, .inl (C 0, 36, .inl u_steps)), (q_path, .inl (C 0, 6, .inl z15.2.2.2.1)), (q_taken, .inl (C 0, 6, .inl z15.2.2.2.2))]) (st2 := []) cx (hrec q_ q_steps q_path q_taken u_rule u_found u_size u_least u_steps (upd u_path (x2 : Int32).toNatClampNeg x5) u_taken x1 (x2 + 1) (if z10 < x3 then z10 else x3) z15 hz15) lk_X4_55 my_X4_extend ml_X4_extend ⟨by omega, by decide⟩ hw [0, 1, 2, 3] [] [0, 1, 2, 3] rfl rfl (by decide) rfl rfl rfl rfl (Nat.le_of_ble_eq_true rfl) dX4_extend_125 rfl (fun H locs hw => ?_) hl.1
            refine lv_iinc (v := x5 + 1) (lv' := [(5, .int (x5 + 1)), (6, .int z10), (0, .ref q_), (1, .int x1), (2, .int x2), (3, .int x3), (4, .int x4)]) hx hb dX4_extend_128 hl (k := 6) rfl rfl (by decide) rfl (fun ls hl => ?_)
            refine lv_goto (tgt := 68) hx hb dX4_extend_131 (by decide) ?_
            exact ih (x5 + 1) z15.1 z15.2.1 z15.2.2.1 z15.2.2.2.1 z15.2.2.2.2 H locs ls hF hw (lv_sub hl [2, 3, 4, 5, 6, 0] rfl)
set_option maxRecDepth 20000 in
theorem CX4_extend : ∀ (n : Nat) (l : Launch) (D : va_G) (C : Nat → ClassId) (q_ q_steps q_path q_taken : Nat) (u_rule : Int32) (u_found : Int32) (u_size : Int32) (u_least : Int32) (u_steps : (Nat → Int32)) (u_path : (Nat → Int32)) (u_taken : (Nat → Int32)) (x1 : Int32) (x2 : Int32) (x3 : Int32) (z : (Int32 × Int32 × Int32 × (Nat → Int32) × (Nat → Int32))) (hF : fX4_extend n u_rule u_found u_size u_least u_steps u_path u_taken x1 x2 x3 = some z), Ct l yX4_extend cX4_extend 7 none (n + 3) D C [.ref q_, .int x1, .int x2, .int x3] [(q_, .inr (4, [.ref q_steps, .ref q_path, .ref q_taken, .int u_rule, .int u_found, .int u_size, .int u_least])), (q_steps, .inl (C 0, 36, .inl u_steps)), (q_path, .inl (C 0, 6, .inl u_path)), (q_taken, .inl (C 0, 6, .inl u_taken))] [(q_, .inr (4, [.ref q_steps, .ref q_path, .ref q_taken, .int u_rule, .int z.1, .int z.2.1, .int z.2.2.1])), (q_steps, .inl (C 0, 36, .inl u_steps)), (q_path, .inl (C 0, 6, .inl z.2.2.2.1)), (q_taken, .inl (C 0, 6, .inl z.2.2.2.2))] none := by
  intro n
  induction n with
  | zero => intro l D C q_ q_steps q_path q_taken u_rule u_found u_size u_least u_steps u_path u_taken x1 x2 x3 z hF; cases hF
  | succ n ih =>
    intro l D C q_ q_steps q_path q_taken u_rule u_found u_size u_least u_steps u_path u_taken x1 x2 x3 z hF
    have hrec := ih l D C
    refine Ct_of (by decide) (Nat.le_of_ble_eq_true rfl) ?_
    intro p e R s m args below meth c A Q H locs ls cx hw hl hret
    have cx : CX p m c s args RX4 cX4_extend 7 D C A R ((n + 3) + 1) := cx
    have hx := cx.1
    have hb := cx.2.1
    have hl : lv_has ls 7 [(0, .ref q_), (1, .int x1), (2, .int x2), (3, .int x3)] := hl
    rw [fX4_extend.eq_2] at hF
    refine lv_iload_n hx hb dX4_extend_0 rfl (lv_at hl 2 rfl) ?_
    refine lv_iconst (v := 1) hx hb dX4_extend_1 (by decide) ?_
    refine lv_icmp_lt (tgt := 20) hx hb dX4_extend_2 (by decide) (fun c1 => ?_) (fun c1 => ?_)
    · replace hF := oi_t c1 hF
      obtain rfl := Option.some.inj hF
      exact rt_v hret hw rfl dX4_extend_20
    · replace hF := oi_f c1 hF
      refine lv_iload_n hx hb dX4_extend_5 rfl (lv_at hl 2 rfl) ?_
      refine lv_bipush (v := 6) hx hb dX4_extend_6 (by decide) ?_
      refine lv_icmp_gt (tgt := 20) hx hb dX4_extend_8 (by decide) (fun c2 => ?_) (fun c2 => ?_)
      · replace hF := oi_t c2 hF
        obtain rfl := Option.some.inj hF
        exact rt_v hret hw rfl dX4_extend_20
      · replace hF := oi_f c2 hF
        refine lv_aload_n hx hb dX4_extend_11 rfl (lv_at hl 0 rfl) ?_
        refine lv_iload_n hx hb dX4_extend_12 rfl (lv_at hl 1 rfl) ?_
        refine lv_iload_n hx hb dX4_extend_13 rfl (lv_at hl 3 rfl) ?_
        obtain ⟨z3, hz3, hF⟩ := ob hF
        refine cV (wr := [(q_steps, .inl (C 0, 36, .inl u_steps)), (q_path, .inl (C 0, 6, .inl u_path)), (q_taken, .inl (C 0, 6, .inl u_taken))]) (w2 := [(q_, .inr (4, [.ref q_steps, .ref q_path, .ref q_taken, .int u_rule, .int u_found, .int u_size, .int u_least])), (q_steps, .inl (C 0, 36, .inl u_steps)), (q_path, .inl (C 0, 6, .inl u_path)), (q_taken, .inl (C 0, 6, .inl u_taken))]) (st2 := [.int z3]) cx (CX4_isBetter l D C q_ q_steps q_path q_taken u_rule u_found u_size u_least x1 x3 z3 hz3) lk_X4_67 my_X4_isBetter ml_X4_isBetter ⟨by omega, by decide⟩ hw [0] [1, 2, 3] [3, 0, 1, 2] rfl rfl (by decide) rfl rfl rfl rfl (Nat.le_of_ble_eq_true rfl) dX4_extend_14 rfl (fun H locs hw => ?_) hl.1
        refine lv_if_ne (tgt := 21) hx hb dX4_extend_17 (by decide) (fun c4 => ?_) (fun c4 => ?_)
        · replace hF := oi_f c4 hF
          refine lv_aload_n hx hb dX4_extend_21 rfl (lv_at hl 0 rfl) ?_
          refine r_get (ci := 4) (v := .ref q_path) cx hw iX4 0 1 rfl rfl (by decide) wf_X4_15 rfl dX4_extend_22 ?_
          refine lv_iload_n hx hb dX4_extend_25 rfl (lv_at hl 2 rfl) ?_
          refine lv_iconst (v := 1) hx hb dX4_extend_26 (by decide) ?_
          refine lv_isub hx hb dX4_extend_27 ?_
          obtain ⟨g5, hF⟩ := gA_s hF
          refine r_iald cx hw 2 rfl g5 dX4_extend_28 ?_
          refine lv_istore (lv' := [(4, .int (u_path (x2 - 1).toNatClampNeg)), (0, .ref q_), (1, .int x1), (2, .int x2), (3, .int x3)]) hx hb dX4_extend_29 hl (by decide) rfl (fun ls hl => ?_)
          refine lv_iload_n hx hb dX4_extend_31 rfl (lv_at hl 3 rfl) ?_
          refine lv_iload_n hx hb dX4_extend_32 rfl (lv_at hl 2 rfl) ?_
          refine lv_icmp_lt (tgt := 58) hx hb dX4_extend_33 (by decide) (fun c6 => ?_) (fun c6 => ?_)
          · replace hF := oi_t c6 hF
            refine lv_aload_n hx hb dX4_extend_58 rfl (lv_at hl 1 rfl) ?_
            refine r_get (ci := 4) (v := .ref q_path) cx hw iX4 0 1 rfl rfl (by decide) wf_X4_15 rfl dX4_extend_59 ?_
            refine lv_iconst (v := 0) hx hb dX4_extend_62 (by decide) ?_
            obtain ⟨g7, hF⟩ := gA_s hF
            refine r_iald cx hw 2 rfl g7 dX4_extend_63 ?_
            refine lv_iconst (v := 1) hx hb dX4_extend_64 (by decide) ?_
            refine lv_iadd hx hb dX4_extend_65 ?_
            refine lv_istore (lv' := [(5, .int ((u_path (0 : Int32).toNatClampNeg) + 1)), (4, .int (u_path (x2 - 1).toNatClampNeg)), (0, .ref q_), (1, .int x1), (2, .int x2), (3, .int x3)]) hx hb dX4_extend_66 hl (by decide) rfl (fun ls hl => ?_)
            refine LX4_extend_68 (Nat.le_add_left _ _) cx hret hrec 400 ((u_path (0 : Int32).toNatClampNeg) + 1) u_found u_size u_least u_path u_taken H locs ls hF hw (lv_sub hl [2, 3, 4, 5, 1, 0] rfl)
          · replace hF := oi_f c6 hF
            refine lv_aload_n hx hb dX4_extend_36 rfl (lv_at hl 1 rfl) ?_
            refine lv_iload_n hx hb dX4_extend_37 rfl (lv_at hl 2 rfl) ?_
            refine lv_iload_n hx hb dX4_extend_38 rfl (lv_at hl 4 rfl) ?_
            refine lv_aload_n hx hb dX4_extend_39 rfl (lv_at hl 1 rfl) ?_
            refine lv_iload hx hb dX4_extend_40 (lv_at hl 0 rfl) ?_
            refine lv_aload_n hx hb dX4_extend_42 rfl (lv_at hl 1 rfl) ?_
            refine r_get (ci := 4) (v := .ref q_path) cx hw iX4 0 1 rfl rfl (by decide) wf_X4_15 rfl dX4_extend_43 ?_
            refine lv_iconst (v := 0) hx hb dX4_extend_46 (by decide) ?_
            obtain ⟨g16, hF⟩ := gA_s hF
            refine r_iald cx hw 2 rfl g16 dX4_extend_47 ?_
            obtain ⟨z17, hz17, hF⟩ := ob hF
            refine cV (wr := [(q_path, .inl (C 0, 6, .inl u_path)), (q_taken, .inl (C 0, 6, .inl u_taken))]) (w2 := [(q_, .inr (4, [.ref q_steps, .ref q_path, .ref q_taken, .int u_rule, .int u_found, .int u_size, .int u_least])), (q_steps, .inl (C 0, 36, .inl u_steps)), (q_path, .inl (C 0, 6, .inl u_path)), (q_taken, .inl (C 0, 6, .inl u_taken))]) (st2 := [.int z17, .int x3, .int x1, .ref q_]) cx (CX4_step l D C q_ q_steps q_path q_taken u_rule u_found u_size u_least u_steps (u_path (x2 - 1).toNatClampNeg) (u_path (0 : Int32).toNatClampNeg) z17 hz17) lk_X4_70 my_X4_step ml_X4_step ⟨by omega, by decide⟩ hw [0, 1] [2, 3] [2, 3, 0, 1] rfl rfl (by decide) rfl rfl rfl rfl (Nat.le_of_ble_eq_true rfl) dX4_extend_48 rfl (fun H locs hw => ?_) hl.1
            refine va_mmin hx hb (cx.2.2.1.trans hl.1.symm) cx.2.2.2.1 (cx.2.2.2.2.1 _ lk_X4_73) (cx.2.2.2.2.1 _ mst_min) (cx.2.2.2.2.1 _ ini_Math) (cx.2.2.2.2.1 _ mco_min) (Nat.le_trans (by omega) cx.2.2.2.2.2.2.2.1) (Nat.le_trans (Nat.le_trans (m := 40) (Nat.le_of_ble_eq_true rfl) (by omega)) cx.2.2.2.2.2.2.2.2) (Nat.zero_le _) (Nat.zero_le _) dX4_extend_51 ?_
            obtain ⟨z18, hz18, hF⟩ := ob hF
            refine cV (wr := [(q_steps, .inl (C 0, 36, .inl u_steps))]) (w2 := [(q_, .inr (4, [.ref q_steps, .ref q_path, .ref q_taken, .int u_rule, .int z18.1, .int z18.2.1, .int z18.2.2.1])), (q_steps, .inl (C 0, 36, .inl u_steps)), (q_path, .inl (C 0, 6, .inl u_path)), (q_taken, .inl (C 0, 6, .inl z18.2.2.2))]) (st2 := []) cx (CX4_meet l D C q_ q_steps q_path q_taken u_rule u_found u_size u_least u_path u_taken x1 (if z17 < x3 then z17 else x3) z18 hz18) lk_X4_78 my_X4_meet ml_X4_meet ⟨by omega, by decide⟩ hw [0, 2, 3] [1] [1, 0, 2, 3] rfl rfl (by decide) rfl rfl rfl rfl (Nat.le_of_ble_eq_true rfl) dX4_extend_54 rfl (fun H locs hw => ?_) hl.1
            obtain rfl := Option.some.inj hF
            exact rt_v hret hw rfl dX4_extend_57
        · replace hF := oi_t c4 hF
          obtain rfl := Option.some.inj hF
          exact rt_v hret hw rfl dX4_extend_20
theorem lk_X4_51 : Cond.methodLink RX4 51 yX4_laySteps ∈ gdt := gdt_of 420 (by decide +kernel) (by decide +kernel)
theorem my_X4_laySteps : (yX4_laySteps.cls ≠ "java/lang/invoke/MethodHandle" ∧ yX4_laySteps.cls ≠ "java/lang/invoke/VarHandle") ∧ Cond.instanceMethod yX4_laySteps ∈ gdt ∧ Cond.selects yX4_laySteps.cls yX4_laySteps yX4_laySteps ∈ gdt ∧ Cond.initialized yX4_laySteps.cls ∈ gdt ∧ Cond.code yX4_laySteps cX4_laySteps 7 none ∈ gdt := ⟨⟨by decide +kernel, by decide +kernel⟩, gdt_of 422 (by decide +kernel) (by decide +kernel), gdt_of 6 (by decide +kernel) (by decide +kernel), gdt_of 73 (by decide +kernel) (by decide +kernel), gdt_of 423 (by decide +kernel) (by decide +kernel)⟩
theorem ml_X4_laySteps : (parseMethodDescriptor yX4_laySteps.desc).map (fun d => d.parameters.length) = some 2 := by decide +kernel
theorem dX4_search_0 : decode cX4_search 0 = .ok (.aload_n 0, 1) := by decide +kernel
theorem dX4_search_1 : decode cX4_search 1 = .ok (.iload_n 3, 1) := by decide +kernel
theorem dX4_search_2 : decode cX4_search 2 = .ok (.putfield 21, 3) := by decide +kernel
theorem dX4_search_5 : decode cX4_search 5 = .ok (.aload_n 0, 1) := by decide +kernel
theorem dX4_search_6 : decode cX4_search 6 = .ok (.iconst 0, 1) := by decide +kernel
theorem dX4_search_7 : decode cX4_search 7 = .ok (.putfield 25, 3) := by decide +kernel
theorem dX4_search_10 : decode cX4_search 10 = .ok (.aload_n 0, 1) := by decide +kernel
theorem dX4_search_11 : decode cX4_search 11 = .ok (.iconst 0, 1) := by decide +kernel
theorem dX4_search_12 : decode cX4_search 12 = .ok (.putfield 28, 3) := by decide +kernel
theorem dX4_search_15 : decode cX4_search 15 = .ok (.aload_n 0, 1) := by decide +kernel
theorem dX4_search_16 : decode cX4_search 16 = .ok (.iconst 0, 1) := by decide +kernel
theorem dX4_search_17 : decode cX4_search 17 = .ok (.putfield 31, 3) := by decide +kernel
theorem dX4_search_20 : decode cX4_search 20 = .ok (.aload_n 0, 1) := by decide +kernel
theorem dX4_search_21 : decode cX4_search 21 = .ok (.aload_n 1, 1) := by decide +kernel
theorem dX4_search_22 : decode cX4_search 22 = .ok (.aload_n 2, 1) := by decide +kernel
theorem dX4_search_23 : decode cX4_search 23 = .ok (.invokevirtual 51, 3) := by decide +kernel
theorem dX4_search_26 : decode cX4_search 26 = .ok (.iconst 2, 1) := by decide +kernel
theorem dX4_search_27 : decode cX4_search 27 = .ok (.istore 4, 2) := by decide +kernel
theorem dX4_search_29 : decode cX4_search 29 = .ok (.iload 4, 2) := by decide +kernel
theorem dX4_search_31 : decode cX4_search 31 = .ok (.bipush 6, 2) := by decide +kernel
theorem dX4_search_33 : decode cX4_search 33 = .ok (.if_icmp .gt 43, 3) := by decide +kernel
theorem dX4_search_36 : decode cX4_search 36 = .ok (.iconst 0, 1) := by decide +kernel
theorem dX4_search_37 : decode cX4_search 37 = .ok (.istore 5, 2) := by decide +kernel
theorem dX4_search_39 : decode cX4_search 39 = .ok (.iload 5, 2) := by decide +kernel
theorem dX4_search_41 : decode cX4_search 41 = .ok (.bipush 6, 2) := by decide +kernel
theorem dX4_search_43 : decode cX4_search 43 = .ok (.if_icmp .ge 27, 3) := by decide +kernel
theorem dX4_search_46 : decode cX4_search 46 = .ok (.aload_n 0, 1) := by decide +kernel
theorem dX4_search_47 : decode cX4_search 47 = .ok (.getfield 15, 3) := by decide +kernel
theorem dX4_search_50 : decode cX4_search 50 = .ok (.iconst 0, 1) := by decide +kernel
theorem dX4_search_51 : decode cX4_search 51 = .ok (.iload 5, 2) := by decide +kernel
theorem dX4_search_53 : decode cX4_search 53 = .ok (.iastore, 1) := by decide +kernel
theorem dX4_search_54 : decode cX4_search 54 = .ok (.aload_n 0, 1) := by decide +kernel
theorem dX4_search_55 : decode cX4_search 55 = .ok (.iload 4, 2) := by decide +kernel
theorem dX4_search_57 : decode cX4_search 57 = .ok (.iconst 1, 1) := by decide +kernel
theorem dX4_search_58 : decode cX4_search 58 = .ok (.sipush 999, 3) := by decide +kernel
theorem dX4_search_61 : decode cX4_search 61 = .ok (.invokevirtual 55, 3) := by decide +kernel
theorem dX4_search_64 : decode cX4_search 64 = .ok (.iinc 5 1, 3) := by decide +kernel
theorem dX4_search_67 : decode cX4_search 67 = .ok (.goto (-28), 3) := by decide +kernel
theorem dX4_search_70 : decode cX4_search 70 = .ok (.iinc 4 1, 3) := by decide +kernel
theorem dX4_search_73 : decode cX4_search 73 = .ok (.goto (-44), 3) := by decide +kernel
theorem dX4_search_76 : decode cX4_search 76 = .ok (.return_, 1) := by decide +kernel
def fX4_search_L39 (k70 : Int32 → Int32 → Int32 → (Nat → Int32) → (Nat → Int32) → Option (Int32 × Int32 × Int32 × Int32 × (Nat → Int32) × (Nat → Int32) × (Nat → Int32))) (u_rule : Int32) (u_steps : (Nat → Int32)) (x4 : Int32) : Nat → Int32 → Int32 → Int32 → Int32 → (Nat → Int32) → (Nat → Int32) → Option (Int32 × Int32 × Int32 × Int32 × (Nat → Int32) × (Nat → Int32) × (Nat → Int32))
  | 0, _, _, _, _, _, _ => none
  | n + 1, x5, u_found, u_size, u_least, u_path, u_taken => if 6 ≤ x5 then (k70 u_found u_size u_least u_path u_taken) else (gA 0 6 ((fX4_extend 8 u_rule u_found u_size u_least u_steps (upd u_path (0 : Int32).toNatClampNeg x5) u_taken x4 1 999).bind (fun z5 => fX4_search_L39 k70 u_rule u_steps x4 n (x5 + 1) z5.1 z5.2.1 z5.2.2.1 z5.2.2.2.1 z5.2.2.2.2)))
def fX4_search_L29 (u_rule : Int32) (u_steps : (Nat → Int32)) : Nat → Int32 → Int32 → Int32 → Int32 → (Nat → Int32) → (Nat → Int32) → Option (Int32 × Int32 × Int32 × Int32 × (Nat → Int32) × (Nat → Int32) × (Nat → Int32))
  | 0, _, _, _, _, _, _ => none
  | n + 1, x4, u_found, u_size, u_least, u_path, u_taken => if 6 < x4 then (some (u_rule, u_found, u_size, u_least, u_steps, u_path, u_taken)) else (fX4_search_L39 (fun (u_found_6 : Int32) (u_size_6 : Int32) (u_least_6 : Int32) (u_path_6 : (Nat → Int32)) (u_taken_6 : (Nat → Int32)) => fX4_search_L29 u_rule u_steps n (x4 + 1) u_found_6 u_size_6 u_least_6 u_path_6 u_taken_6) u_rule u_steps x4 400 0 u_found u_size u_least u_path u_taken)
def fX4_search (u_steps : (Nat → Int32)) (u_path : (Nat → Int32)) (u_taken : (Nat → Int32)) (ua1_owed : (Nat → Int32)) (ua2_refused : (Nat → Int32)) (x3 : Int32) : Option (Int32 × Int32 × Int32 × Int32 × (Nat → Int32) × (Nat → Int32) × (Nat → Int32)) := (fX4_laySteps x3 u_steps ua1_owed ua2_refused).bind (fun z1 => fX4_search_L29 x3 z1 400 2 0 0 0 u_path u_taken)
set_option maxRecDepth 20000 in
theorem LX4_search_39 {p : Program} {l : Launch} {e : Env} {R : Room} {s : State} {m : MethodId} {args : Array Value} {below : List Frame} {meth : Method} {c : Code} {Q : State → Prop} {D : va_G} {C : Nat → ClassId} {A : Nat → Prop} (cx : CX p m c s args RX4 cX4_search 6 D C A R 12) {q_ q_steps q_path q_taken qa1_ qa1_owed qa1_order qa2_ qa2_refused : Nat} {u_rule : Int32} {u_steps : (Nat → Int32)} {ua1_size : Int32} {ua1_owed : (Nat → Int32)} {ua2_refused : (Nat → Int32)} {x4 : Int32} {z : (Int32 × Int32 × Int32 × Int32 × (Nat → Int32) × (Nat → Int32) × (Nat → Int32))} (hret : RT p l e R s m args below meth c Q D A cX4_search none [(q_, .inr (4, [.ref q_steps, .ref q_path, .ref q_taken, .int z.1, .int z.2.1, .int z.2.2.1, .int z.2.2.2.1])), (q_steps, .inl (C 0, 36, .inl z.2.2.2.2.1)), (q_path, .inl (C 0, 6, .inl z.2.2.2.2.2.1)), (q_taken, .inl (C 0, 6, .inl z.2.2.2.2.2.2)), (qa1_, .inr (2, [.ref qa1_owed, .ref qa1_order, .int ua1_size])), (qa1_owed, .inl (C 0, 36, .inl ua1_owed)), (qa2_, .inr (1, [.ref qa2_refused])), (qa2_refused, .inl (C 2, 36, .inl ua2_refused))] none) {k70 : Int32 → Int32 → Int32 → (Nat → Int32) → (Nat → Int32) → Option (Int32 × Int32 × Int32 × Int32 × (Nat → Int32) × (Nat → Int32) × (Nat → Int32))} (hk70 : ∀ (u_found : Int32) (u_size : Int32) (u_least : Int32) (u_path : (Nat → Int32)) (u_taken : (Nat → Int32)) (H : Heap) (locs : List Loc) (ls : Array Slot), k70 u_found u_size u_least u_path u_taken = some z → HW D A s.heap H locs [(q_, .inr (4, [.ref q_steps, .ref q_path, .ref q_taken, .int u_rule, .int u_found, .int u_size, .int u_least])), (q_steps, .inl (C 0, 36, .inl u_steps)), (q_path, .inl (C 0, 6, .inl u_path)), (q_taken, .inl (C 0, 6, .inl u_taken)), (qa1_, .inr (2, [.ref qa1_owed, .ref qa1_order, .int ua1_size])), (qa1_owed, .inl (C 0, 36, .inl ua1_owed)), (qa2_, .inr (1, [.ref qa2_refused])), (qa2_refused, .inl (C 2, 36, .inl ua2_refused))] → lv_has ls 6 [(0, .ref q_), (4, .int x4)] → W p l e R s m args below meth c H locs 0 0 Q (F0 m 70 ls [])) :
    ∀ (n : Nat) (x5 : Int32) (u_found : Int32) (u_size : Int32) (u_least : Int32) (u_path : (Nat → Int32)) (u_taken : (Nat → Int32)) (H : Heap) (locs : List Loc) (ls : Array Slot), fX4_search_L39 k70 u_rule u_steps x4 n x5 u_found u_size u_least u_path u_taken = some z → HW D A s.heap H locs [(q_, .inr (4, [.ref q_steps, .ref q_path, .ref q_taken, .int u_rule, .int u_found, .int u_size, .int u_least])), (q_steps, .inl (C 0, 36, .inl u_steps)), (q_path, .inl (C 0, 6, .inl u_path)), (q_taken, .inl (C 0, 6, .inl u_taken)), (qa1_, .inr (2, [.ref qa1_owed, .ref qa1_order, .int ua1_size])), (qa1_owed, .inl (C 0, 36, .inl ua1_owed)), (qa2_, .inr (1, [.ref qa2_refused])), (qa2_refused, .inl (C 2, 36, .inl ua2_refused))] → lv_has ls 6 [(0, .ref q_), (4, .int x4), (5, .int x5)] → W p l e R s m args below meth c H locs 0 0 Q (F0 m 39 ls []) := by
  have hx := cx.1
  have hb := cx.2.1
  intro n
  induction n with
  | zero => intro x5 u_found u_size u_least u_path u_taken H locs ls hF; cases hF
  | succ n ih =>
    intro x5 u_found u_size u_least u_path u_taken H locs ls hF hw hl
    rw [fX4_search_L39.eq_2] at hF
    refine lv_iload hx hb dX4_search_39 (lv_at hl 2 rfl) ?_
    refine lv_bipush (v := 6) hx hb dX4_search_41 (by decide) ?_
    refine lv_icmp_ge (tgt := 70) hx hb dX4_search_43 (by decide) (fun c3 => ?_) (fun c3 => ?_)
    · replace hF := oi_t c3 hF
      exact hk70 u_found u_size u_least u_path u_taken H locs ls hF hw (lv_sub hl [0, 1] rfl)
    · replace hF := oi_f c3 hF
      refine lv_aload_n hx hb dX4_search_46 rfl (lv_at hl 0 rfl) ?_
      refine r_get (ci := 4) (v := .ref q_path) cx hw iX4 0 1 rfl rfl (by decide) wf_X4_15 rfl dX4_search_47 ?_
      refine lv_iconst (v := 0) hx hb dX4_search_50 (by decide) ?_
      refine lv_iload hx hb dX4_search_51 (lv_at hl 2 rfl) ?_
      obtain ⟨g4, hF⟩ := gA_s hF
      refine r_iast (w2 := [(q_, .inr (4, [.ref q_steps, .ref q_path, .ref q_taken, .int u_rule, .int u_found, .int u_size, .int u_least])), (q_steps, .inl (C 0, 36, .inl u_steps)), (q_path, .inl (C 0, 6, .inl (upd u_path (0 : Int32).toNatClampNeg x5))), (q_taken, .inl (C 0, 6, .inl u_taken)), (qa1_, .inr (2, [.ref qa1_owed, .ref qa1_order, .int ua1_size])), (qa1_owed, .inl (C 0, 36, .inl ua1_owed)), (qa2_, .inr (1, [.ref qa2_refused])), (qa2_refused, .inl (C 2, 36, .inl ua2_refused))]) cx hw 2 rfl g4 dX4_search_53 rfl (fun H locs hw => ?_)
      refine lv_aload_n hx hb dX4_search_54 rfl (lv_at hl 0 rfl) ?_
      refine lv_iload hx hb dX4_search_55 (lv_at hl 1 rfl) ?_
      refine lv_iconst (v := 1) hx hb dX4_search_57 (by decide) ?_
      refine lv_sipush (v := 999) hx hb dX4_search_58 (by decide) ?_
      obtain ⟨z5, hz5, hF⟩ := ob hF
      refine cV (wr := [(qa1_, .inr (2, [.ref qa1_owed, .ref qa1_order, .int ua1_size])), (qa1_owed, .inl (C 0, 36, .inl ua1_owed)), (qa2_, .inr (1, [.ref qa2_refused])), (qa2_refused, .inl (C 2, 36, .inl ua2_refused))]) (w2 := [(q_, .inr (4, [.ref q_steps, .ref q_path, .ref q_taken, .int u_rule, .int z5.1, .int z5.2.1, .int z5.2.2.1])), (q_steps, .inl (C 0, 36, .inl u_steps)), (q_path, .inl (C 0, 6, .inl z5.2.2.2.1)), (q_taken, .inl (C 0, 6, .inl z5.2.2.2.2)), (qa1_, .inr (2, [.ref qa1_owed, .ref qa1_order, .int ua1_size])), (qa1_owed, .inl (C 0, 36, .inl ua1_owed)), (qa2_, .inr (1, [.ref qa2_refused])), (qa2_refused, .inl (C 2, 36, .inl ua2_refused))]) (st2 := []) cx (CX4_extend 8 l D C q_ q_steps q_path q_taken u_rule u_found u_size u_least u_steps (upd u_path (0 : Int32).toNatClampNeg x5) u_taken x4 1 999 z5 hz5) lk_X4_55 my_X4_extend ml_X4_extend ⟨by decide, by decide⟩ hw [0, 1, 2, 3] [4, 5, 6, 7] [4, 5, 6, 7, 0, 1, 2, 3] rfl rfl (by decide) rfl rfl rfl rfl (Nat.le_of_ble_eq_true rfl) dX4_search_61 rfl (fun H locs hw => ?_) hl.1
      refine lv_iinc (v := x5 + 1) (lv' := [(5, .int (x5 + 1)), (0, .ref q_), (4, .int x4)]) hx hb dX4_search_64 hl (k := 2) rfl rfl (by decide) rfl (fun ls hl => ?_)
      refine lv_goto (tgt := 39) hx hb dX4_search_67 (by decide) ?_
      exact ih (x5 + 1) z5.1 z5.2.1 z5.2.2.1 z5.2.2.2.1 z5.2.2.2.2 H locs ls hF hw (lv_sub hl [1, 2, 0] rfl)
set_option maxRecDepth 20000 in
theorem LX4_search_29 {p : Program} {l : Launch} {e : Env} {R : Room} {s : State} {m : MethodId} {args : Array Value} {below : List Frame} {meth : Method} {c : Code} {Q : State → Prop} {D : va_G} {C : Nat → ClassId} {A : Nat → Prop} (cx : CX p m c s args RX4 cX4_search 6 D C A R 12) {q_ q_steps q_path q_taken qa1_ qa1_owed qa1_order qa2_ qa2_refused : Nat} {u_rule : Int32} {u_steps : (Nat → Int32)} {ua1_size : Int32} {ua1_owed : (Nat → Int32)} {ua2_refused : (Nat → Int32)} {z : (Int32 × Int32 × Int32 × Int32 × (Nat → Int32) × (Nat → Int32) × (Nat → Int32))} (hret : RT p l e R s m args below meth c Q D A cX4_search none [(q_, .inr (4, [.ref q_steps, .ref q_path, .ref q_taken, .int z.1, .int z.2.1, .int z.2.2.1, .int z.2.2.2.1])), (q_steps, .inl (C 0, 36, .inl z.2.2.2.2.1)), (q_path, .inl (C 0, 6, .inl z.2.2.2.2.2.1)), (q_taken, .inl (C 0, 6, .inl z.2.2.2.2.2.2)), (qa1_, .inr (2, [.ref qa1_owed, .ref qa1_order, .int ua1_size])), (qa1_owed, .inl (C 0, 36, .inl ua1_owed)), (qa2_, .inr (1, [.ref qa2_refused])), (qa2_refused, .inl (C 2, 36, .inl ua2_refused))] none) :
    ∀ (n : Nat) (x4 : Int32) (u_found : Int32) (u_size : Int32) (u_least : Int32) (u_path : (Nat → Int32)) (u_taken : (Nat → Int32)) (H : Heap) (locs : List Loc) (ls : Array Slot), fX4_search_L29 u_rule u_steps n x4 u_found u_size u_least u_path u_taken = some z → HW D A s.heap H locs [(q_, .inr (4, [.ref q_steps, .ref q_path, .ref q_taken, .int u_rule, .int u_found, .int u_size, .int u_least])), (q_steps, .inl (C 0, 36, .inl u_steps)), (q_path, .inl (C 0, 6, .inl u_path)), (q_taken, .inl (C 0, 6, .inl u_taken)), (qa1_, .inr (2, [.ref qa1_owed, .ref qa1_order, .int ua1_size])), (qa1_owed, .inl (C 0, 36, .inl ua1_owed)), (qa2_, .inr (1, [.ref qa2_refused])), (qa2_refused, .inl (C 2, 36, .inl ua2_refused))] → lv_has ls 6 [(0, .ref q_), (4, .int x4)] → W p l e R s m args below meth c H locs 0 0 Q (F0 m 29 ls []) := by
  have hx := cx.1
  have hb := cx.2.1
  intro n
  induction n with
  | zero => intro x4 u_found u_size u_least u_path u_taken H locs ls hF; cases hF
  | succ n ih =>
    intro x4 u_found u_size u_least u_path u_taken H locs ls hF hw hl
    rw [fX4_search_L29.eq_2] at hF
    refine lv_iload hx hb dX4_search_29 (lv_at hl 1 rfl) ?_
    refine lv_bipush (v := 6) hx hb dX4_search_31 (by decide) ?_
    refine lv_icmp_gt (tgt := 76) hx hb dX4_search_33 (by decide) (fun c2 => ?_) (fun c2 => ?_)
    · replace hF := oi_t c2 hF
      obtain rfl := Option.some.inj hF
      exact rt_v hret hw rfl dX4_search_76
    · replace hF := oi_f c2 hF
      refine lv_iconst (v := 0) hx hb dX4_search_36 (by decide) ?_
      refine lv_istore (lv' := [(5, .int 0), (0, .ref q_), (4, .int x4)]) hx hb dX4_search_37 hl (by decide) rfl (fun ls hl => ?_)
      refine LX4_search_39 cx hret (fun u_found_6 u_size_6 u_least_6 u_path_6 u_taken_6 H locs ls hF hw hl => ?_) 400 0 u_found u_size u_least u_path u_taken H locs ls hF hw (lv_sub hl [1, 2, 0] rfl)
      · refine lv_iinc (v := x4 + 1) (lv' := [(4, .int (x4 + 1)), (0, .ref q_)]) hx hb dX4_search_70 hl (k := 1) rfl rfl (by decide) rfl (fun ls hl => ?_)
        refine lv_goto (tgt := 29) hx hb dX4_search_73 (by decide) ?_
        exact ih (x4 + 1) u_found_6 u_size_6 u_least_6 u_path_6 u_taken_6 H locs ls hF hw (lv_sub hl [1, 0] rfl)
set_option maxRecDepth 20000 in
theorem CX4_search (l : Launch) (D : va_G) (C : Nat → ClassId) (q_ q_steps q_path q_taken qa1_ qa1_owed qa1_order qa2_ qa2_refused : Nat) (u_rule : Int32) (u_found : Int32) (u_size : Int32) (u_least : Int32) (u_steps : (Nat → Int32)) (u_path : (Nat → Int32)) (u_taken : (Nat → Int32)) (ua1_size : Int32) (ua1_owed : (Nat → Int32)) (ua2_refused : (Nat → Int32)) (x3 : Int32) (z : (Int32 × Int32 × Int32 × Int32 × (Nat → Int32) × (Nat → Int32) × (Nat → Int32))) (hF : fX4_search u_steps u_path u_taken ua1_owed ua2_refused x3 = some z) : Ct l yX4_search cX4_search 6 none 12 D C [.ref q_, .ref qa1_, .ref qa2_, .int x3] [(q_, .inr (4, [.ref q_steps, .ref q_path, .ref q_taken, .int u_rule, .int u_found, .int u_size, .int u_least])), (q_steps, .inl (C 0, 36, .inl u_steps)), (q_path, .inl (C 0, 6, .inl u_path)), (q_taken, .inl (C 0, 6, .inl u_taken)), (qa1_, .inr (2, [.ref qa1_owed, .ref qa1_order, .int ua1_size])), (qa1_owed, .inl (C 0, 36, .inl ua1_owed)), (qa2_, .inr (1, [.ref qa2_refused])), (qa2_refused, .inl (C 2, 36, .inl ua2_refused))] [(q_, .inr (4, [.ref q_steps, .ref q_path, .ref q_taken, .int z.1, .int z.2.1, .int z.2.2.1, .int z.2.2.2.1])), (q_steps, .inl (C 0, 36, .inl z.2.2.2.2.1)), (q_path, .inl (C 0, 6, .inl z.2.2.2.2.2.1)), (q_taken, .inl (C 0, 6, .inl z.2.2.2.2.2.2)), (qa1_, .inr (2, [.ref qa1_owed, .ref qa1_order, .int ua1_size])), (qa1_owed, .inl (C 0, 36, .inl ua1_owed)), (qa2_, .inr (1, [.ref qa2_refused])), (qa2_refused, .inl (C 2, 36, .inl ua2_refused))] none := by
  refine Ct_of (by decide) (Nat.le_of_ble_eq_true rfl) ?_
  intro p e R s m args below meth c A Q H locs ls cx hw hl hret
  have cx : CX p m c s args RX4 cX4_search 6 D C A R 12 := cx
  have hx := cx.1
  have hb := cx.2.1
  have hl : lv_has ls 6 [(0, .ref q_), (1, .ref qa1_), (2, .ref qa2_), (3, .int x3)] := hl
  rw [fX4_search.eq_1] at hF
  refine lv_aload_n hx hb dX4_search_0 rfl (lv_at hl 0 rfl) ?_
  refine lv_iload_n hx hb dX4_search_1 rfl (lv_at hl 3 rfl) ?_
  refine r_put (ci := 4) (w2 := [(q_, .inr (4, [.ref q_steps, .ref q_path, .ref q_taken, .int x3, .int u_found, .int u_size, .int u_least])), (q_steps, .inl (C 0, 36, .inl u_steps)), (q_path, .inl (C 0, 6, .inl u_path)), (q_taken, .inl (C 0, 6, .inl u_taken)), (qa1_, .inr (2, [.ref qa1_owed, .ref qa1_order, .int ua1_size])), (qa1_owed, .inl (C 0, 36, .inl ua1_owed)), (qa2_, .inr (1, [.ref qa2_refused])), (qa2_refused, .inl (C 2, 36, .inl ua2_refused))]) cx hw iX4 tyX4_ok nmX4 0 3 rfl rfl (by decide) wf_X4_21 rfl rfl rfl rfl (Nat.le_of_ble_eq_true rfl) dX4_search_2 rfl (fun H locs hw => ?_)
  refine lv_aload_n hx hb dX4_search_5 rfl (lv_at hl 0 rfl) ?_
  refine lv_iconst (v := 0) hx hb dX4_search_6 (by decide) ?_
  refine r_put (ci := 4) (w2 := [(q_, .inr (4, [.ref q_steps, .ref q_path, .ref q_taken, .int x3, .int 0, .int u_size, .int u_least])), (q_steps, .inl (C 0, 36, .inl u_steps)), (q_path, .inl (C 0, 6, .inl u_path)), (q_taken, .inl (C 0, 6, .inl u_taken)), (qa1_, .inr (2, [.ref qa1_owed, .ref qa1_order, .int ua1_size])), (qa1_owed, .inl (C 0, 36, .inl ua1_owed)), (qa2_, .inr (1, [.ref qa2_refused])), (qa2_refused, .inl (C 2, 36, .inl ua2_refused))]) cx hw iX4 tyX4_ok nmX4 0 4 rfl rfl (by decide) wf_X4_25 rfl rfl rfl rfl (Nat.le_of_ble_eq_true rfl) dX4_search_7 rfl (fun H locs hw => ?_)
  refine lv_aload_n hx hb dX4_search_10 rfl (lv_at hl 0 rfl) ?_
  refine lv_iconst (v := 0) hx hb dX4_search_11 (by decide) ?_
  refine r_put (ci := 4) (w2 := [(q_, .inr (4, [.ref q_steps, .ref q_path, .ref q_taken, .int x3, .int 0, .int 0, .int u_least])), (q_steps, .inl (C 0, 36, .inl u_steps)), (q_path, .inl (C 0, 6, .inl u_path)), (q_taken, .inl (C 0, 6, .inl u_taken)), (qa1_, .inr (2, [.ref qa1_owed, .ref qa1_order, .int ua1_size])), (qa1_owed, .inl (C 0, 36, .inl ua1_owed)), (qa2_, .inr (1, [.ref qa2_refused])), (qa2_refused, .inl (C 2, 36, .inl ua2_refused))]) cx hw iX4 tyX4_ok nmX4 0 5 rfl rfl (by decide) wf_X4_28 rfl rfl rfl rfl (Nat.le_of_ble_eq_true rfl) dX4_search_12 rfl (fun H locs hw => ?_)
  refine lv_aload_n hx hb dX4_search_15 rfl (lv_at hl 0 rfl) ?_
  refine lv_iconst (v := 0) hx hb dX4_search_16 (by decide) ?_
  refine r_put (ci := 4) (w2 := [(q_, .inr (4, [.ref q_steps, .ref q_path, .ref q_taken, .int x3, .int 0, .int 0, .int 0])), (q_steps, .inl (C 0, 36, .inl u_steps)), (q_path, .inl (C 0, 6, .inl u_path)), (q_taken, .inl (C 0, 6, .inl u_taken)), (qa1_, .inr (2, [.ref qa1_owed, .ref qa1_order, .int ua1_size])), (qa1_owed, .inl (C 0, 36, .inl ua1_owed)), (qa2_, .inr (1, [.ref qa2_refused])), (qa2_refused, .inl (C 2, 36, .inl ua2_refused))]) cx hw iX4 tyX4_ok nmX4 0 6 rfl rfl (by decide) wf_X4_31 rfl rfl rfl rfl (Nat.le_of_ble_eq_true rfl) dX4_search_17 rfl (fun H locs hw => ?_)
  refine lv_aload_n hx hb dX4_search_20 rfl (lv_at hl 0 rfl) ?_
  refine lv_aload_n hx hb dX4_search_21 rfl (lv_at hl 1 rfl) ?_
  refine lv_aload_n hx hb dX4_search_22 rfl (lv_at hl 2 rfl) ?_
  obtain ⟨z1, hz1, hF⟩ := ob hF
  refine cV (wr := [(q_path, .inl (C 0, 6, .inl u_path)), (q_taken, .inl (C 0, 6, .inl u_taken))]) (w2 := [(q_, .inr (4, [.ref q_steps, .ref q_path, .ref q_taken, .int x3, .int 0, .int 0, .int 0])), (q_steps, .inl (C 0, 36, .inl z1)), (q_path, .inl (C 0, 6, .inl u_path)), (q_taken, .inl (C 0, 6, .inl u_taken)), (qa1_, .inr (2, [.ref qa1_owed, .ref qa1_order, .int ua1_size])), (qa1_owed, .inl (C 0, 36, .inl ua1_owed)), (qa2_, .inr (1, [.ref qa2_refused])), (qa2_refused, .inl (C 2, 36, .inl ua2_refused))]) (st2 := []) cx (CX4_laySteps l D C q_ q_steps q_path q_taken qa1_ qa1_owed qa1_order qa2_ qa2_refused x3 0 0 0 u_steps ua1_size ua1_owed ua2_refused z1 hz1) lk_X4_51 my_X4_laySteps ml_X4_laySteps ⟨by decide, by decide⟩ hw [0, 1, 4, 5, 6, 7] [2, 3] [2, 3, 0, 1, 4, 5, 6, 7] rfl rfl (by decide) rfl rfl rfl rfl (Nat.le_of_ble_eq_true rfl) dX4_search_23 rfl (fun H locs hw => ?_) hl.1
  refine lv_iconst (v := 2) hx hb dX4_search_26 (by decide) ?_
  refine lv_istore (lv' := [(4, .int 2), (0, .ref q_), (1, .ref qa1_), (2, .ref qa2_), (3, .int x3)]) hx hb dX4_search_27 hl (by decide) rfl (fun ls hl => ?_)
  refine LX4_search_29 cx hret 400 2 0 0 0 u_path u_taken H locs ls hF hw (lv_sub hl [1, 0] rfl)
