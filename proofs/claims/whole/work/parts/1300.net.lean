theorem wf_X3_9 : Cond.fieldLink RX3 9 (TX3 0).1 (TX3 0).2.1 (TX3 0).2.2.1 ∈ gdt := gdt_of 208 (by decide +kernel) (by decide +kernel)
theorem dX3_balanceOf_0 : decode cX3_balanceOf 0 = .ok (.iload_n 1, 1) := by decide +kernel
theorem dX3_balanceOf_1 : decode cX3_balanceOf 1 = .ok (.ifCond .lt 18, 3) := by decide +kernel
theorem dX3_balanceOf_4 : decode cX3_balanceOf 4 = .ok (.iload_n 1, 1) := by decide +kernel
theorem dX3_balanceOf_5 : decode cX3_balanceOf 5 = .ok (.bipush 6, 2) := by decide +kernel
theorem dX3_balanceOf_7 : decode cX3_balanceOf 7 = .ok (.if_icmp .ge 12, 3) := by decide +kernel
theorem dX3_balanceOf_10 : decode cX3_balanceOf 10 = .ok (.aload_n 0, 1) := by decide +kernel
theorem dX3_balanceOf_11 : decode cX3_balanceOf 11 = .ok (.getfield 9, 3) := by decide +kernel
theorem dX3_balanceOf_14 : decode cX3_balanceOf 14 = .ok (.iload_n 1, 1) := by decide +kernel
theorem dX3_balanceOf_15 : decode cX3_balanceOf 15 = .ok (.iaload, 1) := by decide +kernel
theorem dX3_balanceOf_16 : decode cX3_balanceOf 16 = .ok (.goto 4, 3) := by decide +kernel
theorem dX3_balanceOf_19 : decode cX3_balanceOf 19 = .ok (.iconst 0, 1) := by decide +kernel
theorem dX3_balanceOf_20 : decode cX3_balanceOf 20 = .ok (.ireturn, 1) := by decide +kernel
def fX3_balanceOf (u_balances : (Nat → Int32)) (x1 : Int32) : Option Int32 := if x1 < 0 then (some 0) else (if 6 ≤ x1 then (some 0) else (gA x1 6 (some (u_balances (x1).toNatClampNeg))))
set_option maxRecDepth 20000 in
theorem CX3_balanceOf (l : Launch) (D : va_G) (C : Nat → ClassId) (q_ q_balances q_left q_sums q_most q_groups q_payments : Nat) (u_groupCount : Int32) (u_balances : (Nat → Int32)) (x1 : Int32) (z : Int32) (hF : fX3_balanceOf u_balances x1 = some z) : Ct l yX3_balanceOf cX3_balanceOf 2 (some .int) 1 D C [.ref q_, .int x1] [(q_, .inr (3, [.ref q_balances, .ref q_left, .ref q_sums, .ref q_most, .ref q_groups, .int u_groupCount, .ref q_payments])), (q_balances, .inl (C 0, 6, .inl u_balances))] [(q_, .inr (3, [.ref q_balances, .ref q_left, .ref q_sums, .ref q_most, .ref q_groups, .int u_groupCount, .ref q_payments])), (q_balances, .inl (C 0, 6, .inl u_balances))] (some (.int z)) := by
  refine Ct_of (by decide) (Nat.le_of_ble_eq_true rfl) ?_
  intro p e R s m args below meth c A Q H locs ls cx hw hl hret
  have cx : CX p m c s args RX3 cX3_balanceOf 2 D C A R 1 := cx
  have hx := cx.1
  have hb := cx.2.1
  have hl : lv_has ls 2 [(0, .ref q_), (1, .int x1)] := hl
  rw [fX3_balanceOf.eq_1] at hF
  refine lv_iload_n hx hb dX3_balanceOf_0 rfl (lv_at hl 1 rfl) ?_
  refine lv_if_lt (tgt := 19) hx hb dX3_balanceOf_1 (by decide) (fun c1 => ?_) (fun c1 => ?_)
  · replace hF := oi_t c1 hF
    refine lv_iconst (v := 0) hx hb dX3_balanceOf_19 (by decide) ?_
    obtain rfl := Option.some.inj hF
    exact rt_i hret hw rfl dX3_balanceOf_20
  · replace hF := oi_f c1 hF
    refine lv_iload_n hx hb dX3_balanceOf_4 rfl (lv_at hl 1 rfl) ?_
    refine lv_bipush (v := 6) hx hb dX3_balanceOf_5 (by decide) ?_
    refine lv_icmp_ge (tgt := 19) hx hb dX3_balanceOf_7 (by decide) (fun c2 => ?_) (fun c2 => ?_)
    · replace hF := oi_t c2 hF
      refine lv_iconst (v := 0) hx hb dX3_balanceOf_19 (by decide) ?_
      obtain rfl := Option.some.inj hF
      exact rt_i hret hw rfl dX3_balanceOf_20
    · replace hF := oi_f c2 hF
      refine lv_aload_n hx hb dX3_balanceOf_10 rfl (lv_at hl 0 rfl) ?_
      refine r_get (ci := 3) (v := .ref q_balances) cx hw iX3 0 0 rfl rfl (by decide) wf_X3_9 rfl dX3_balanceOf_11 ?_
      refine lv_iload_n hx hb dX3_balanceOf_14 rfl (lv_at hl 1 rfl) ?_
      obtain ⟨g3, hF⟩ := gA_s hF
      refine r_iald cx hw 1 rfl g3 dX3_balanceOf_15 ?_
      refine lv_goto (tgt := 20) hx hb dX3_balanceOf_16 (by decide) ?_
      obtain rfl := Option.some.inj hF
      exact rt_i hret hw rfl dX3_balanceOf_20
theorem wf_X3_27 : Cond.fieldLink RX3 27 (TX3 5).1 (TX3 5).2.1 (TX3 5).2.2.1 ∈ gdt := gdt_of 213 (by decide +kernel) (by decide +kernel)
theorem dX3_groupCount_0 : decode cX3_groupCount 0 = .ok (.aload_n 0, 1) := by decide +kernel
theorem dX3_groupCount_1 : decode cX3_groupCount 1 = .ok (.getfield 27, 3) := by decide +kernel
theorem dX3_groupCount_4 : decode cX3_groupCount 4 = .ok (.ireturn, 1) := by decide +kernel
def fX3_groupCount (u_groupCount : Int32) : Option Int32 := some u_groupCount
set_option maxRecDepth 20000 in
theorem CX3_groupCount (l : Launch) (D : va_G) (C : Nat → ClassId) (q_ q_balances q_left q_sums q_most q_groups q_payments : Nat) (u_groupCount : Int32) (z : Int32) (hF : fX3_groupCount u_groupCount = some z) : Ct l yX3_groupCount cX3_groupCount 1 (some .int) 1 D C [.ref q_] [(q_, .inr (3, [.ref q_balances, .ref q_left, .ref q_sums, .ref q_most, .ref q_groups, .int u_groupCount, .ref q_payments]))] [(q_, .inr (3, [.ref q_balances, .ref q_left, .ref q_sums, .ref q_most, .ref q_groups, .int u_groupCount, .ref q_payments]))] (some (.int z)) := by
  refine Ct_of (by decide) (Nat.le_of_ble_eq_true rfl) ?_
  intro p e R s m args below meth c A Q H locs ls cx hw hl hret
  have cx : CX p m c s args RX3 cX3_groupCount 1 D C A R 1 := cx
  have hx := cx.1
  have hb := cx.2.1
  have hl : lv_has ls 1 [(0, .ref q_)] := hl
  rw [fX3_groupCount.eq_1] at hF
  refine lv_aload_n hx hb dX3_groupCount_0 rfl (lv_at hl 0 rfl) ?_
  refine r_get (ci := 3) (v := .int u_groupCount) cx hw iX3 0 5 rfl rfl (by decide) wf_X3_27 rfl dX3_groupCount_1 ?_
  obtain rfl := Option.some.inj hF
  exact rt_i hret hw rfl dX3_groupCount_4
theorem wf_X3_24 : Cond.fieldLink RX3 24 (TX3 4).1 (TX3 4).2.1 (TX3 4).2.2.1 ∈ gdt := gdt_of 212 (by decide +kernel) (by decide +kernel)
theorem dX3_groupAt_0 : decode cX3_groupAt 0 = .ok (.iload_n 1, 1) := by decide +kernel
theorem dX3_groupAt_1 : decode cX3_groupAt 1 = .ok (.ifCond .lt 26, 3) := by decide +kernel
theorem dX3_groupAt_4 : decode cX3_groupAt 4 = .ok (.iload_n 1, 1) := by decide +kernel
theorem dX3_groupAt_5 : decode cX3_groupAt 5 = .ok (.aload_n 0, 1) := by decide +kernel
theorem dX3_groupAt_6 : decode cX3_groupAt 6 = .ok (.getfield 27, 3) := by decide +kernel
theorem dX3_groupAt_9 : decode cX3_groupAt 9 = .ok (.if_icmp .ge 18, 3) := by decide +kernel
theorem dX3_groupAt_12 : decode cX3_groupAt 12 = .ok (.iload_n 1, 1) := by decide +kernel
theorem dX3_groupAt_13 : decode cX3_groupAt 13 = .ok (.bipush 6, 2) := by decide +kernel
theorem dX3_groupAt_15 : decode cX3_groupAt 15 = .ok (.if_icmp .ge 12, 3) := by decide +kernel
theorem dX3_groupAt_18 : decode cX3_groupAt 18 = .ok (.aload_n 0, 1) := by decide +kernel
theorem dX3_groupAt_19 : decode cX3_groupAt 19 = .ok (.getfield 24, 3) := by decide +kernel
theorem dX3_groupAt_22 : decode cX3_groupAt 22 = .ok (.iload_n 1, 1) := by decide +kernel
theorem dX3_groupAt_23 : decode cX3_groupAt 23 = .ok (.iaload, 1) := by decide +kernel
theorem dX3_groupAt_24 : decode cX3_groupAt 24 = .ok (.goto 4, 3) := by decide +kernel
theorem dX3_groupAt_27 : decode cX3_groupAt 27 = .ok (.iconst (-1), 1) := by decide +kernel
theorem dX3_groupAt_28 : decode cX3_groupAt 28 = .ok (.ireturn, 1) := by decide +kernel
def fX3_groupAt (u_groupCount : Int32) (u_groups : (Nat → Int32)) (x1 : Int32) : Option Int32 := if x1 < 0 then (some (-1)) else (if u_groupCount ≤ x1 then (some (-1)) else (if 6 ≤ x1 then (some (-1)) else (gA x1 6 (some (u_groups (x1).toNatClampNeg)))))
set_option maxRecDepth 20000 in
theorem CX3_groupAt (l : Launch) (D : va_G) (C : Nat → ClassId) (q_ q_balances q_left q_sums q_most q_groups q_payments : Nat) (u_groupCount : Int32) (u_groups : (Nat → Int32)) (x1 : Int32) (z : Int32) (hF : fX3_groupAt u_groupCount u_groups x1 = some z) : Ct l yX3_groupAt cX3_groupAt 2 (some .int) 1 D C [.ref q_, .int x1] [(q_, .inr (3, [.ref q_balances, .ref q_left, .ref q_sums, .ref q_most, .ref q_groups, .int u_groupCount, .ref q_payments])), (q_groups, .inl (C 0, 6, .inl u_groups))] [(q_, .inr (3, [.ref q_balances, .ref q_left, .ref q_sums, .ref q_most, .ref q_groups, .int u_groupCount, .ref q_payments])), (q_groups, .inl (C 0, 6, .inl u_groups))] (some (.int z)) := by
  refine Ct_of (by decide) (Nat.le_of_ble_eq_true rfl) ?_
  intro p e R s m args below meth c A Q H locs ls cx hw hl hret
  have cx : CX p m c s args RX3 cX3_groupAt 2 D C A R 1 := cx
  have hx := cx.1
  have hb := cx.2.1
  have hl : lv_has ls 2 [(0, .ref q_), (1, .int x1)] := hl
  rw [fX3_groupAt.eq_1] at hF
  refine lv_iload_n hx hb dX3_groupAt_0 rfl (lv_at hl 1 rfl) ?_
  refine lv_if_lt (tgt := 27) hx hb dX3_groupAt_1 (by decide) (fun c1 => ?_) (fun c1 => ?_)
  · replace hF := oi_t c1 hF
    refine lv_iconst (v := (-1)) hx hb dX3_groupAt_27 (by decide) ?_
    obtain rfl := Option.some.inj hF
    exact rt_i hret hw rfl dX3_groupAt_28
  · replace hF := oi_f c1 hF
    refine lv_iload_n hx hb dX3_groupAt_4 rfl (lv_at hl 1 rfl) ?_
    refine lv_aload_n hx hb dX3_groupAt_5 rfl (lv_at hl 0 rfl) ?_
    refine r_get (ci := 3) (v := .int u_groupCount) cx hw iX3 0 5 rfl rfl (by decide) wf_X3_27 rfl dX3_groupAt_6 ?_
    refine lv_icmp_ge (tgt := 27) hx hb dX3_groupAt_9 (by decide) (fun c2 => ?_) (fun c2 => ?_)
    · replace hF := oi_t c2 hF
      refine lv_iconst (v := (-1)) hx hb dX3_groupAt_27 (by decide) ?_
      obtain rfl := Option.some.inj hF
      exact rt_i hret hw rfl dX3_groupAt_28
    · replace hF := oi_f c2 hF
      refine lv_iload_n hx hb dX3_groupAt_12 rfl (lv_at hl 1 rfl) ?_
      refine lv_bipush (v := 6) hx hb dX3_groupAt_13 (by decide) ?_
      refine lv_icmp_ge (tgt := 27) hx hb dX3_groupAt_15 (by decide) (fun c3 => ?_) (fun c3 => ?_)
      · replace hF := oi_t c3 hF
        refine lv_iconst (v := (-1)) hx hb dX3_groupAt_27 (by decide) ?_
        obtain rfl := Option.some.inj hF
        exact rt_i hret hw rfl dX3_groupAt_28
      · replace hF := oi_f c3 hF
        refine lv_aload_n hx hb dX3_groupAt_18 rfl (lv_at hl 0 rfl) ?_
        refine r_get (ci := 3) (v := .ref q_groups) cx hw iX3 0 4 rfl rfl (by decide) wf_X3_24 rfl dX3_groupAt_19 ?_
        refine lv_iload_n hx hb dX3_groupAt_22 rfl (lv_at hl 1 rfl) ?_
        obtain ⟨g4, hF⟩ := gA_s hF
        refine r_iald cx hw 1 rfl g4 dX3_groupAt_23 ?_
        refine lv_goto (tgt := 28) hx hb dX3_groupAt_24 (by decide) ?_
        obtain rfl := Option.some.inj hF
        exact rt_i hret hw rfl dX3_groupAt_28
theorem dX3_open_0 : decode cX3_open 0 = .ok (.iconst 0, 1) := by decide +kernel
theorem dX3_open_1 : decode cX3_open 1 = .ok (.istore_n 1, 1) := by decide +kernel
theorem dX3_open_2 : decode cX3_open 2 = .ok (.iconst 0, 1) := by decide +kernel
theorem dX3_open_3 : decode cX3_open 3 = .ok (.istore_n 2, 1) := by decide +kernel
theorem dX3_open_4 : decode cX3_open 4 = .ok (.iload_n 2, 1) := by decide +kernel
theorem dX3_open_5 : decode cX3_open 5 = .ok (.bipush 6, 2) := by decide +kernel
theorem dX3_open_7 : decode cX3_open 7 = .ok (.if_icmp .ge 24, 3) := by decide +kernel
theorem dX3_open_10 : decode cX3_open 10 = .ok (.aload_n 0, 1) := by decide +kernel
theorem dX3_open_11 : decode cX3_open 11 = .ok (.getfield 9, 3) := by decide +kernel
theorem dX3_open_14 : decode cX3_open 14 = .ok (.iload_n 2, 1) := by decide +kernel
theorem dX3_open_15 : decode cX3_open 15 = .ok (.iaload, 1) := by decide +kernel
theorem dX3_open_16 : decode cX3_open 16 = .ok (.ifCond .eq 9, 3) := by decide +kernel
theorem dX3_open_19 : decode cX3_open 19 = .ok (.iload_n 1, 1) := by decide +kernel
theorem dX3_open_20 : decode cX3_open 20 = .ok (.iconst 1, 1) := by decide +kernel
theorem dX3_open_21 : decode cX3_open 21 = .ok (.iload_n 2, 1) := by decide +kernel
theorem dX3_open_22 : decode cX3_open 22 = .ok (.ishl, 1) := by decide +kernel
theorem dX3_open_23 : decode cX3_open 23 = .ok (.ior, 1) := by decide +kernel
theorem dX3_open_24 : decode cX3_open 24 = .ok (.istore_n 1, 1) := by decide +kernel
theorem dX3_open_25 : decode cX3_open 25 = .ok (.iinc 2 1, 3) := by decide +kernel
theorem dX3_open_28 : decode cX3_open 28 = .ok (.goto (-24), 3) := by decide +kernel
theorem dX3_open_31 : decode cX3_open 31 = .ok (.iload_n 1, 1) := by decide +kernel
theorem dX3_open_32 : decode cX3_open 32 = .ok (.ireturn, 1) := by decide +kernel
def fX3_open_L4 (u_balances : (Nat → Int32)) : Nat → Int32 → Int32 → Option Int32
  | 0, _, _ => none
  | n + 1, x1, x2 => if 6 ≤ x2 then (some x1) else (gA x2 6 (if (u_balances (x2).toNatClampNeg) = 0 then (fX3_open_L4 u_balances n x1 (x2 + 1)) else (fX3_open_L4 u_balances n (x1 ||| (1 <<< (x2 &&& 31))) (x2 + 1))))
def fX3_open (u_balances : (Nat → Int32)) : Option Int32 := fX3_open_L4 u_balances 400 0 0
set_option maxRecDepth 20000 in
theorem LX3_open_4 {p : Program} {l : Launch} {e : Env} {R : Room} {s : State} {m : MethodId} {args : Array Value} {below : List Frame} {meth : Method} {c : Code} {Q : State → Prop} {D : va_G} {C : Nat → ClassId} {A : Nat → Prop} (cx : CX p m c s args RX3 cX3_open 3 D C A R 1) {q_ q_balances q_left q_sums q_most q_groups q_payments : Nat} {u_groupCount : Int32} {u_balances : (Nat → Int32)} {z : Int32} (hret : RT p l e R s m args below meth c Q D A cX3_open (some .int) [(q_, .inr (3, [.ref q_balances, .ref q_left, .ref q_sums, .ref q_most, .ref q_groups, .int u_groupCount, .ref q_payments])), (q_balances, .inl (C 0, 6, .inl u_balances))] (some (.int z))) :
    ∀ (n : Nat) (x1 : Int32) (x2 : Int32) (H : Heap) (locs : List Loc) (ls : Array Slot), fX3_open_L4 u_balances n x1 x2 = some z → HW D A s.heap H locs [(q_, .inr (3, [.ref q_balances, .ref q_left, .ref q_sums, .ref q_most, .ref q_groups, .int u_groupCount, .ref q_payments])), (q_balances, .inl (C 0, 6, .inl u_balances))] → lv_has ls 3 [(0, .ref q_), (1, .int x1), (2, .int x2)] → W p l e R s m args below meth c H locs 0 0 Q (F0 m 4 ls []) := by
  have hx := cx.1
  have hb := cx.2.1
  intro n
  induction n with
  | zero => intro x1 x2 H locs ls hF; cases hF
  | succ n ih =>
    intro x1 x2 H locs ls hF hw hl
    rw [fX3_open_L4.eq_2] at hF
    refine lv_iload_n hx hb dX3_open_4 rfl (lv_at hl 2 rfl) ?_
    refine lv_bipush (v := 6) hx hb dX3_open_5 (by decide) ?_
    refine lv_icmp_ge (tgt := 31) hx hb dX3_open_7 (by decide) (fun c1 => ?_) (fun c1 => ?_)
    · replace hF := oi_t c1 hF
      refine lv_iload_n hx hb dX3_open_31 rfl (lv_at hl 1 rfl) ?_
      obtain rfl := Option.some.inj hF
      exact rt_i hret hw rfl dX3_open_32
    · replace hF := oi_f c1 hF
      refine lv_aload_n hx hb dX3_open_10 rfl (lv_at hl 0 rfl) ?_
      refine r_get (ci := 3) (v := .ref q_balances) cx hw iX3 0 0 rfl rfl (by decide) wf_X3_9 rfl dX3_open_11 ?_
      refine lv_iload_n hx hb dX3_open_14 rfl (lv_at hl 2 rfl) ?_
      obtain ⟨g2, hF⟩ := gA_s hF
      refine r_iald cx hw 1 rfl g2 dX3_open_15 ?_
      refine lv_if_eq (tgt := 25) hx hb dX3_open_16 (by decide) (fun c3 => ?_) (fun c3 => ?_)
      · replace hF := oi_t c3 hF
        refine lv_iinc (v := x2 + 1) (lv' := [(2, .int (x2 + 1)), (0, .ref q_), (1, .int x1)]) hx hb dX3_open_25 hl (k := 2) rfl rfl (by decide) rfl (fun ls hl => ?_)
        refine lv_goto (tgt := 4) hx hb dX3_open_28 (by decide) ?_
        exact ih x1 (x2 + 1) H locs ls hF hw (lv_sub hl [1, 2, 0] rfl)
      · replace hF := oi_f c3 hF
        refine lv_iload_n hx hb dX3_open_19 rfl (lv_at hl 1 rfl) ?_
        refine lv_iconst (v := 1) hx hb dX3_open_20 (by decide) ?_
        refine lv_iload_n hx hb dX3_open_21 rfl (lv_at hl 2 rfl) ?_
        refine lv_ishl hx hb dX3_open_22 ?_
        refine lv_ior hx hb dX3_open_23 ?_
        refine lv_istore_n (lv' := [(1, .int (x1 ||| (1 <<< (x2 &&& 31)))), (0, .ref q_), (2, .int x2)]) hx hb dX3_open_24 rfl hl (by decide) rfl (fun ls hl => ?_)
        refine lv_iinc (v := x2 + 1) (lv' := [(2, .int (x2 + 1)), (1, .int (x1 ||| (1 <<< (x2 &&& 31)))), (0, .ref q_)]) hx hb dX3_open_25 hl (k := 2) rfl rfl (by decide) rfl (fun ls hl => ?_)
        refine lv_goto (tgt := 4) hx hb dX3_open_28 (by decide) ?_
        exact ih (x1 ||| (1 <<< (x2 &&& 31))) (x2 + 1) H locs ls hF hw (lv_sub hl [2, 1, 0] rfl)
set_option maxRecDepth 20000 in
theorem CX3_open (l : Launch) (D : va_G) (C : Nat → ClassId) (q_ q_balances q_left q_sums q_most q_groups q_payments : Nat) (u_groupCount : Int32) (u_balances : (Nat → Int32)) (z : Int32) (hF : fX3_open u_balances = some z) : Ct l yX3_open cX3_open 3 (some .int) 1 D C [.ref q_] [(q_, .inr (3, [.ref q_balances, .ref q_left, .ref q_sums, .ref q_most, .ref q_groups, .int u_groupCount, .ref q_payments])), (q_balances, .inl (C 0, 6, .inl u_balances))] [(q_, .inr (3, [.ref q_balances, .ref q_left, .ref q_sums, .ref q_most, .ref q_groups, .int u_groupCount, .ref q_payments])), (q_balances, .inl (C 0, 6, .inl u_balances))] (some (.int z)) := by
  refine Ct_of (by decide) (Nat.le_of_ble_eq_true rfl) ?_
  intro p e R s m args below meth c A Q H locs ls cx hw hl hret
  have cx : CX p m c s args RX3 cX3_open 3 D C A R 1 := cx
  have hx := cx.1
  have hb := cx.2.1
  have hl : lv_has ls 3 [(0, .ref q_)] := hl
  rw [fX3_open.eq_1] at hF
  refine lv_iconst (v := 0) hx hb dX3_open_0 (by decide) ?_
  refine lv_istore_n (lv' := [(1, .int 0), (0, .ref q_)]) hx hb dX3_open_1 rfl hl (by decide) rfl (fun ls hl => ?_)
  refine lv_iconst (v := 0) hx hb dX3_open_2 (by decide) ?_
  refine lv_istore_n (lv' := [(2, .int 0), (1, .int 0), (0, .ref q_)]) hx hb dX3_open_3 rfl hl (by decide) rfl (fun ls hl => ?_)
  refine LX3_open_4 cx hret 400 0 0 H locs ls hF hw (lv_sub hl [2, 1, 0] rfl)
theorem lk_X3_44 : Cond.methodLink RX3 44 Lib.Math.max.name ∈ gdt := gdt_of 556 (by decide +kernel) (by decide +kernel)
theorem mst_max : Cond.static Lib.Math.max.name ∈ gdt := gdt_of 129 (by decide +kernel) (by decide +kernel)
theorem mco_max : Cond.code Lib.Math.max.name Lib.Math.max.code 2 (some .int) ∈ gdt := gdt_of 130 (by decide +kernel) (by decide +kernel)
theorem dX3_above_0 : decode cX3_above 0 = .ok (.iconst 0, 1) := by decide +kernel
theorem dX3_above_1 : decode cX3_above 1 = .ok (.istore_n 1, 1) := by decide +kernel
theorem dX3_above_2 : decode cX3_above 2 = .ok (.iconst 0, 1) := by decide +kernel
theorem dX3_above_3 : decode cX3_above 3 = .ok (.istore_n 2, 1) := by decide +kernel
theorem dX3_above_4 : decode cX3_above 4 = .ok (.iload_n 2, 1) := by decide +kernel
theorem dX3_above_5 : decode cX3_above 5 = .ok (.aload_n 0, 1) := by decide +kernel
theorem dX3_above_6 : decode cX3_above 6 = .ok (.arraylength, 1) := by decide +kernel
theorem dX3_above_7 : decode cX3_above 7 = .ok (.if_icmp .ge 19, 3) := by decide +kernel
theorem dX3_above_10 : decode cX3_above 10 = .ok (.iload_n 1, 1) := by decide +kernel
theorem dX3_above_11 : decode cX3_above 11 = .ok (.aload_n 0, 1) := by decide +kernel
theorem dX3_above_12 : decode cX3_above 12 = .ok (.iload_n 2, 1) := by decide +kernel
theorem dX3_above_13 : decode cX3_above 13 = .ok (.iaload, 1) := by decide +kernel
theorem dX3_above_14 : decode cX3_above 14 = .ok (.iconst 0, 1) := by decide +kernel
theorem dX3_above_15 : decode cX3_above 15 = .ok (.invokestatic 44, 3) := by decide +kernel
theorem dX3_above_18 : decode cX3_above 18 = .ok (.iadd, 1) := by decide +kernel
theorem dX3_above_19 : decode cX3_above 19 = .ok (.istore_n 1, 1) := by decide +kernel
theorem dX3_above_20 : decode cX3_above 20 = .ok (.iinc 2 1, 3) := by decide +kernel
theorem dX3_above_23 : decode cX3_above 23 = .ok (.goto (-19), 3) := by decide +kernel
theorem dX3_above_26 : decode cX3_above 26 = .ok (.iload_n 1, 1) := by decide +kernel
theorem dX3_above_27 : decode cX3_above 27 = .ok (.ireturn, 1) := by decide +kernel
def fX3_above_L4 (na1_ : Nat) (ua1_ : (Nat → Int32)) : Nat → Int32 → Int32 → Option Int32
  | 0, _, _ => none
  | n + 1, x1, x2 => if (Int32.ofNat na1_) ≤ x2 then (some x1) else (gA x2 na1_ (fX3_above_L4 na1_ ua1_ n (x1 + (if (ua1_ (x2).toNatClampNeg) < 0 then 0 else (ua1_ (x2).toNatClampNeg))) (x2 + 1)))
def fX3_above (na1_ : Nat) (ua1_ : (Nat → Int32)) : Option Int32 := fX3_above_L4 na1_ ua1_ 400 0 0
set_option maxRecDepth 20000 in
theorem LX3_above_4 {p : Program} {l : Launch} {e : Env} {R : Room} {s : State} {m : MethodId} {args : Array Value} {below : List Frame} {meth : Method} {c : Code} {Q : State → Prop} {D : va_G} {C : Nat → ClassId} {A : Nat → Prop} (cx : CX p m c s args RX3 cX3_above 3 D C A R 1) {qa1_ na1_ : Nat} {ua1_ : (Nat → Int32)} {z : Int32} (hret : RT p l e R s m args below meth c Q D A cX3_above (some .int) [(qa1_, .inl (C 0, na1_, .inl ua1_))] (some (.int z))) :
    ∀ (n : Nat) (x1 : Int32) (x2 : Int32) (H : Heap) (locs : List Loc) (ls : Array Slot), fX3_above_L4 na1_ ua1_ n x1 x2 = some z → HW D A s.heap H locs [(qa1_, .inl (C 0, na1_, .inl ua1_))] → lv_has ls 3 [(0, .ref qa1_), (1, .int x1), (2, .int x2)] → W p l e R s m args below meth c H locs 0 0 Q (F0 m 4 ls []) := by
  have hx := cx.1
  have hb := cx.2.1
  intro n
  induction n with
  | zero => intro x1 x2 H locs ls hF; cases hF
  | succ n ih =>
    intro x1 x2 H locs ls hF hw hl
    rw [fX3_above_L4.eq_2] at hF
    refine lv_iload_n hx hb dX3_above_4 rfl (lv_at hl 2 rfl) ?_
    refine lv_aload_n hx hb dX3_above_5 rfl (lv_at hl 0 rfl) ?_
    refine r_alen (v := Int32.ofNat na1_) cx hw 0 0 rfl rfl rfl dX3_above_6 ?_
    refine lv_icmp_ge (tgt := 26) hx hb dX3_above_7 (by decide) (fun c1 => ?_) (fun c1 => ?_)
    · replace hF := oi_t c1 hF
      refine lv_iload_n hx hb dX3_above_26 rfl (lv_at hl 1 rfl) ?_
      obtain rfl := Option.some.inj hF
      exact rt_i hret hw rfl dX3_above_27
    · replace hF := oi_f c1 hF
      refine lv_iload_n hx hb dX3_above_10 rfl (lv_at hl 1 rfl) ?_
      refine lv_aload_n hx hb dX3_above_11 rfl (lv_at hl 0 rfl) ?_
      refine lv_iload_n hx hb dX3_above_12 rfl (lv_at hl 2 rfl) ?_
      obtain ⟨g2, hF⟩ := gA_s hF
      refine r_iald cx hw 0 rfl g2 dX3_above_13 ?_
      refine lv_iconst (v := 0) hx hb dX3_above_14 (by decide) ?_
      refine va_mmax hx hb (cx.2.2.1.trans hl.1.symm) cx.2.2.2.1 (cx.2.2.2.2.1 _ lk_X3_44) (cx.2.2.2.2.1 _ mst_max) (cx.2.2.2.2.1 _ ini_Math) (cx.2.2.2.2.1 _ mco_max) (Nat.le_trans (by omega) cx.2.2.2.2.2.2.2.1) (Nat.le_trans (Nat.le_trans (m := 40) (Nat.le_of_ble_eq_true rfl) (by omega)) cx.2.2.2.2.2.2.2.2) (Nat.zero_le _) (Nat.zero_le _) dX3_above_15 ?_
      refine lv_iadd hx hb dX3_above_18 ?_
      refine lv_istore_n (lv' := [(1, .int (x1 + (if (ua1_ (x2).toNatClampNeg) < 0 then 0 else (ua1_ (x2).toNatClampNeg)))), (0, .ref qa1_), (2, .int x2)]) hx hb dX3_above_19 rfl hl (by decide) rfl (fun ls hl => ?_)
      refine lv_iinc (v := x2 + 1) (lv' := [(2, .int (x2 + 1)), (1, .int (x1 + (if (ua1_ (x2).toNatClampNeg) < 0 then 0 else (ua1_ (x2).toNatClampNeg)))), (0, .ref qa1_)]) hx hb dX3_above_20 hl (k := 2) rfl rfl (by decide) rfl (fun ls hl => ?_)
      refine lv_goto (tgt := 4) hx hb dX3_above_23 (by decide) ?_
      exact ih (x1 + (if (ua1_ (x2).toNatClampNeg) < 0 then 0 else (ua1_ (x2).toNatClampNeg))) (x2 + 1) H locs ls hF hw (lv_sub hl [2, 1, 0] rfl)
set_option maxRecDepth 20000 in
theorem CX3_above (l : Launch) (D : va_G) (C : Nat → ClassId) (qa1_ na1_ : Nat) (ua1_ : (Nat → Int32)) (z : Int32) (hF : fX3_above na1_ ua1_ = some z) : Ct l yX3_above cX3_above 3 (some .int) 1 D C [.ref qa1_] [(qa1_, .inl (C 0, na1_, .inl ua1_))] [(qa1_, .inl (C 0, na1_, .inl ua1_))] (some (.int z)) := by
  refine Ct_of (by decide) (Nat.le_of_ble_eq_true rfl) ?_
  intro p e R s m args below meth c A Q H locs ls cx hw hl hret
  have cx : CX p m c s args RX3 cX3_above 3 D C A R 1 := cx
  have hx := cx.1
  have hb := cx.2.1
  have hl : lv_has ls 3 [(0, .ref qa1_)] := hl
  rw [fX3_above.eq_1] at hF
  refine lv_iconst (v := 0) hx hb dX3_above_0 (by decide) ?_
  refine lv_istore_n (lv' := [(1, .int 0), (0, .ref qa1_)]) hx hb dX3_above_1 rfl hl (by decide) rfl (fun ls hl => ?_)
  refine lv_iconst (v := 0) hx hb dX3_above_2 (by decide) ?_
  refine lv_istore_n (lv' := [(2, .int 0), (1, .int 0), (0, .ref qa1_)]) hx hb dX3_above_3 rfl hl (by decide) rfl (fun ls hl => ?_)
  refine LX3_above_4 cx hret 400 0 0 H locs ls hF hw (lv_sub hl [2, 1, 0] rfl)
theorem lk_X3_40 : Cond.methodLink RX3 40 yX3_above ∈ gdt := gdt_of 630 (by decide +kernel) (by decide +kernel)
theorem my_X3_above : (yX3_above.cls ≠ "java/lang/invoke/MethodHandle" ∧ yX3_above.cls ≠ "java/lang/invoke/VarHandle") ∧ Cond.static yX3_above ∈ gdt ∧ Cond.initialized yX3_above.cls ∈ gdt ∧ Cond.code yX3_above cX3_above 3 (some .int) ∈ gdt := ⟨⟨by decide +kernel, by decide +kernel⟩, gdt_of 631 (by decide +kernel) (by decide +kernel), gdt_of 74 (by decide +kernel) (by decide +kernel), gdt_of 632 (by decide +kernel) (by decide +kernel)⟩
theorem ml_X3_above : (parseMethodDescriptor yX3_above.desc).map (fun d => d.parameters.length) = some 1 := by decide +kernel
theorem dX3_totalAbove_0 : decode cX3_totalAbove 0 = .ok (.aload_n 0, 1) := by decide +kernel
theorem dX3_totalAbove_1 : decode cX3_totalAbove 1 = .ok (.getfield 9, 3) := by decide +kernel
theorem dX3_totalAbove_4 : decode cX3_totalAbove 4 = .ok (.invokestatic 40, 3) := by decide +kernel
theorem dX3_totalAbove_7 : decode cX3_totalAbove 7 = .ok (.ireturn, 1) := by decide +kernel
def fX3_totalAbove (u_balances : (Nat → Int32)) : Option Int32 := (fX3_above 6 u_balances).bind (fun z1 => some z1)
set_option maxRecDepth 20000 in
theorem CX3_totalAbove (l : Launch) (D : va_G) (C : Nat → ClassId) (q_ q_balances q_left q_sums q_most q_groups q_payments : Nat) (u_groupCount : Int32) (u_balances : (Nat → Int32)) (z : Int32) (hF : fX3_totalAbove u_balances = some z) : Ct l yX3_totalAbove cX3_totalAbove 1 (some .int) 2 D C [.ref q_] [(q_, .inr (3, [.ref q_balances, .ref q_left, .ref q_sums, .ref q_most, .ref q_groups, .int u_groupCount, .ref q_payments])), (q_balances, .inl (C 0, 6, .inl u_balances))] [(q_, .inr (3, [.ref q_balances, .ref q_left, .ref q_sums, .ref q_most, .ref q_groups, .int u_groupCount, .ref q_payments])), (q_balances, .inl (C 0, 6, .inl u_balances))] (some (.int z)) := by
  refine Ct_of (by decide) (Nat.le_of_ble_eq_true rfl) ?_
  intro p e R s m args below meth c A Q H locs ls cx hw hl hret
  have cx : CX p m c s args RX3 cX3_totalAbove 1 D C A R 2 := cx
  have hx := cx.1
  have hb := cx.2.1
  have hl : lv_has ls 1 [(0, .ref q_)] := hl
  rw [fX3_totalAbove.eq_1] at hF
  refine lv_aload_n hx hb dX3_totalAbove_0 rfl (lv_at hl 0 rfl) ?_
  refine r_get (ci := 3) (v := .ref q_balances) cx hw iX3 0 0 rfl rfl (by decide) wf_X3_9 rfl dX3_totalAbove_1 ?_
  obtain ⟨z1, hz1, hF⟩ := ob hF
  refine cS (wr := [(q_, .inr (3, [.ref q_balances, .ref q_left, .ref q_sums, .ref q_most, .ref q_groups, .int u_groupCount, .ref q_payments]))]) (w2 := [(q_, .inr (3, [.ref q_balances, .ref q_left, .ref q_sums, .ref q_most, .ref q_groups, .int u_groupCount, .ref q_payments])), (q_balances, .inl (C 0, 6, .inl u_balances))]) (st2 := [.int z1]) cx (CX3_above l D C q_balances 6 u_balances z1 hz1) lk_X3_40 my_X3_above ml_X3_above ⟨by decide, by decide⟩ hw [1] [0] [0, 1] rfl rfl (by decide) rfl rfl (Nat.le_of_ble_eq_true rfl) dX3_totalAbove_4 rfl (fun H locs hw => ?_) hl.1
  obtain rfl := Option.some.inj hF
  exact rt_i hret hw rfl dX3_totalAbove_7
theorem wf_X3_15 : Cond.fieldLink RX3 15 (TX3 1).1 (TX3 1).2.1 (TX3 1).2.2.1 ∈ gdt := gdt_of 209 (by decide +kernel) (by decide +kernel)
theorem dX3_leftAbove_0 : decode cX3_leftAbove 0 = .ok (.aload_n 0, 1) := by decide +kernel
theorem dX3_leftAbove_1 : decode cX3_leftAbove 1 = .ok (.getfield 15, 3) := by decide +kernel
theorem dX3_leftAbove_4 : decode cX3_leftAbove 4 = .ok (.invokestatic 40, 3) := by decide +kernel
theorem dX3_leftAbove_7 : decode cX3_leftAbove 7 = .ok (.ireturn, 1) := by decide +kernel
def fX3_leftAbove (u_left : (Nat → Int32)) : Option Int32 := (fX3_above 6 u_left).bind (fun z1 => some z1)
set_option maxRecDepth 20000 in
theorem CX3_leftAbove (l : Launch) (D : va_G) (C : Nat → ClassId) (q_ q_balances q_left q_sums q_most q_groups q_payments : Nat) (u_groupCount : Int32) (u_left : (Nat → Int32)) (z : Int32) (hF : fX3_leftAbove u_left = some z) : Ct l yX3_leftAbove cX3_leftAbove 1 (some .int) 2 D C [.ref q_] [(q_, .inr (3, [.ref q_balances, .ref q_left, .ref q_sums, .ref q_most, .ref q_groups, .int u_groupCount, .ref q_payments])), (q_left, .inl (C 0, 6, .inl u_left))] [(q_, .inr (3, [.ref q_balances, .ref q_left, .ref q_sums, .ref q_most, .ref q_groups, .int u_groupCount, .ref q_payments])), (q_left, .inl (C 0, 6, .inl u_left))] (some (.int z)) := by
  refine Ct_of (by decide) (Nat.le_of_ble_eq_true rfl) ?_
  intro p e R s m args below meth c A Q H locs ls cx hw hl hret
  have cx : CX p m c s args RX3 cX3_leftAbove 1 D C A R 2 := cx
  have hx := cx.1
  have hb := cx.2.1
  have hl : lv_has ls 1 [(0, .ref q_)] := hl
  rw [fX3_leftAbove.eq_1] at hF
  refine lv_aload_n hx hb dX3_leftAbove_0 rfl (lv_at hl 0 rfl) ?_
  refine r_get (ci := 3) (v := .ref q_left) cx hw iX3 0 1 rfl rfl (by decide) wf_X3_15 rfl dX3_leftAbove_1 ?_
  obtain ⟨z1, hz1, hF⟩ := ob hF
  refine cS (wr := [(q_, .inr (3, [.ref q_balances, .ref q_left, .ref q_sums, .ref q_most, .ref q_groups, .int u_groupCount, .ref q_payments]))]) (w2 := [(q_, .inr (3, [.ref q_balances, .ref q_left, .ref q_sums, .ref q_most, .ref q_groups, .int u_groupCount, .ref q_payments])), (q_left, .inl (C 0, 6, .inl u_left))]) (st2 := [.int z1]) cx (CX3_above l D C q_left 6 u_left z1 hz1) lk_X3_40 my_X3_above ml_X3_above ⟨by decide, by decide⟩ hw [1] [0] [0, 1] rfl rfl (by decide) rfl rfl (Nat.le_of_ble_eq_true rfl) dX3_leftAbove_4 rfl (fun H locs hw => ?_) hl.1
  obtain rfl := Option.some.inj hF
  exact rt_i hret hw rfl dX3_leftAbove_7
theorem lk_X3_83 : Cond.methodLink RX3 83 yX2_amount ∈ gdt := gdt_of 522 (by decide +kernel) (by decide +kernel)
theorem dX3_weigh_0 : decode cX3_weigh 0 = .ok (.iconst 0, 1) := by decide +kernel
theorem dX3_weigh_1 : decode cX3_weigh 1 = .ok (.istore_n 2, 1) := by decide +kernel
theorem dX3_weigh_2 : decode cX3_weigh 2 = .ok (.iload_n 2, 1) := by decide +kernel
theorem dX3_weigh_3 : decode cX3_weigh 3 = .ok (.bipush 6, 2) := by decide +kernel
theorem dX3_weigh_5 : decode cX3_weigh 5 = .ok (.if_icmp .ge 59, 3) := by decide +kernel
theorem dX3_weigh_8 : decode cX3_weigh 8 = .ok (.iconst 0, 1) := by decide +kernel
theorem dX3_weigh_9 : decode cX3_weigh 9 = .ok (.istore_n 3, 1) := by decide +kernel
theorem dX3_weigh_10 : decode cX3_weigh 10 = .ok (.iconst 0, 1) := by decide +kernel
theorem dX3_weigh_11 : decode cX3_weigh 11 = .ok (.istore 4, 2) := by decide +kernel
theorem dX3_weigh_13 : decode cX3_weigh 13 = .ok (.iload 4, 2) := by decide +kernel
theorem dX3_weigh_15 : decode cX3_weigh 15 = .ok (.bipush 6, 2) := by decide +kernel
theorem dX3_weigh_17 : decode cX3_weigh 17 = .ok (.if_icmp .ge 27, 3) := by decide +kernel
theorem dX3_weigh_20 : decode cX3_weigh 20 = .ok (.iload_n 3, 1) := by decide +kernel
theorem dX3_weigh_21 : decode cX3_weigh 21 = .ok (.aload_n 1, 1) := by decide +kernel
theorem dX3_weigh_22 : decode cX3_weigh 22 = .ok (.iload 4, 2) := by decide +kernel
theorem dX3_weigh_24 : decode cX3_weigh 24 = .ok (.iload_n 2, 1) := by decide +kernel
theorem dX3_weigh_25 : decode cX3_weigh 25 = .ok (.invokevirtual 83, 3) := by decide +kernel
theorem dX3_weigh_28 : decode cX3_weigh 28 = .ok (.aload_n 1, 1) := by decide +kernel
theorem dX3_weigh_29 : decode cX3_weigh 29 = .ok (.iload_n 2, 1) := by decide +kernel
theorem dX3_weigh_30 : decode cX3_weigh 30 = .ok (.iload 4, 2) := by decide +kernel
theorem dX3_weigh_32 : decode cX3_weigh 32 = .ok (.invokevirtual 83, 3) := by decide +kernel
theorem dX3_weigh_35 : decode cX3_weigh 35 = .ok (.isub, 1) := by decide +kernel
theorem dX3_weigh_36 : decode cX3_weigh 36 = .ok (.iadd, 1) := by decide +kernel
theorem dX3_weigh_37 : decode cX3_weigh 37 = .ok (.istore_n 3, 1) := by decide +kernel
theorem dX3_weigh_38 : decode cX3_weigh 38 = .ok (.iinc 4 1, 3) := by decide +kernel
theorem dX3_weigh_41 : decode cX3_weigh 41 = .ok (.goto (-28), 3) := by decide +kernel
theorem dX3_weigh_44 : decode cX3_weigh 44 = .ok (.aload_n 0, 1) := by decide +kernel
theorem dX3_weigh_45 : decode cX3_weigh 45 = .ok (.getfield 9, 3) := by decide +kernel
theorem dX3_weigh_48 : decode cX3_weigh 48 = .ok (.iload_n 2, 1) := by decide +kernel
theorem dX3_weigh_49 : decode cX3_weigh 49 = .ok (.iload_n 3, 1) := by decide +kernel
theorem dX3_weigh_50 : decode cX3_weigh 50 = .ok (.iastore, 1) := by decide +kernel
theorem dX3_weigh_51 : decode cX3_weigh 51 = .ok (.aload_n 0, 1) := by decide +kernel
theorem dX3_weigh_52 : decode cX3_weigh 52 = .ok (.getfield 15, 3) := by decide +kernel
theorem dX3_weigh_55 : decode cX3_weigh 55 = .ok (.iload_n 2, 1) := by decide +kernel
theorem dX3_weigh_56 : decode cX3_weigh 56 = .ok (.iload_n 3, 1) := by decide +kernel
theorem dX3_weigh_57 : decode cX3_weigh 57 = .ok (.iastore, 1) := by decide +kernel
theorem dX3_weigh_58 : decode cX3_weigh 58 = .ok (.iinc 2 1, 3) := by decide +kernel
theorem dX3_weigh_61 : decode cX3_weigh 61 = .ok (.goto (-59), 3) := by decide +kernel
theorem dX3_weigh_64 : decode cX3_weigh 64 = .ok (.return_, 1) := by decide +kernel
def fX3_weigh_L13 (k44 : Int32 → Option ((Nat → Int32) × (Nat → Int32))) (ua1_owed : (Nat → Int32)) (x2 : Int32) : Nat → Int32 → Int32 → Option ((Nat → Int32) × (Nat → Int32))
  | 0, _, _ => none
  | n + 1, x3, x4 => if 6 ≤ x4 then (k44 x3) else ((fX2_amount ua1_owed x4 x2).bind (fun z3 => (fX2_amount ua1_owed x2 x4).bind (fun z4 => fX3_weigh_L13 k44 ua1_owed x2 n (x3 + (z3 - z4)) (x4 + 1))))
def fX3_weigh_L2 (ua1_owed : (Nat → Int32)) : Nat → Int32 → (Nat → Int32) → (Nat → Int32) → Option ((Nat → Int32) × (Nat → Int32))
  | 0, _, _, _ => none
  | n + 1, x2, u_balances, u_left => if 6 ≤ x2 then (some (u_balances, u_left)) else (fX3_weigh_L13 (fun (x3_5 : Int32) => gA x2 6 (gA x2 6 (fX3_weigh_L2 ua1_owed n (x2 + 1) (upd u_balances (x2 : Int32).toNatClampNeg x3_5) (upd u_left (x2 : Int32).toNatClampNeg x3_5)))) ua1_owed x2 400 0 0)
def fX3_weigh (u_balances : (Nat → Int32)) (u_left : (Nat → Int32)) (ua1_owed : (Nat → Int32)) : Option ((Nat → Int32) × (Nat → Int32)) := fX3_weigh_L2 ua1_owed 400 0 u_balances u_left
set_option maxRecDepth 20000 in
theorem LX3_weigh_13 {p : Program} {l : Launch} {e : Env} {R : Room} {s : State} {m : MethodId} {args : Array Value} {below : List Frame} {meth : Method} {c : Code} {Q : State → Prop} {D : va_G} {C : Nat → ClassId} {A : Nat → Prop} (cx : CX p m c s args RX3 cX3_weigh 5 D C A R 3) {q_ q_balances q_left q_sums q_most q_groups q_payments qa1_ qa1_owed qa1_order : Nat} {u_groupCount : Int32} {u_balances : (Nat → Int32)} {u_left : (Nat → Int32)} {ua1_size : Int32} {ua1_owed : (Nat → Int32)} {x2 : Int32} {z : ((Nat → Int32) × (Nat → Int32))} (hret : RT p l e R s m args below meth c Q D A cX3_weigh none [(q_, .inr (3, [.ref q_balances, .ref q_left, .ref q_sums, .ref q_most, .ref q_groups, .int u_groupCount, .ref q_payments])), (q_balances, .inl (C 0, 6, .inl z.1)), (q_left, .inl (C 0, 6, .inl z.2)), (qa1_, .inr (2, [.ref qa1_owed, .ref qa1_order, .int ua1_size])), (qa1_owed, .inl (C 0, 36, .inl ua1_owed))] none) {k44 : Int32 → Option ((Nat → Int32) × (Nat → Int32))} (hk44 : ∀ (x3 : Int32) (H : Heap) (locs : List Loc) (ls : Array Slot), k44 x3 = some z → HW D A s.heap H locs [(q_, .inr (3, [.ref q_balances, .ref q_left, .ref q_sums, .ref q_most, .ref q_groups, .int u_groupCount, .ref q_payments])), (q_balances, .inl (C 0, 6, .inl u_balances)), (q_left, .inl (C 0, 6, .inl u_left)), (qa1_, .inr (2, [.ref qa1_owed, .ref qa1_order, .int ua1_size])), (qa1_owed, .inl (C 0, 36, .inl ua1_owed))] → lv_has ls 5 [(0, .ref q_), (1, .ref qa1_), (2, .int x2), (3, .int x3)] → W p l e R s m args below meth c H locs 0 0 Q (F0 m 44 ls [])) :
    ∀ (n : Nat) (x3 : Int32) (x4 : Int32) (H : Heap) (locs : List Loc) (ls : Array Slot), fX3_weigh_L13 k44 ua1_owed x2 n x3 x4 = some z → HW D A s.heap H locs [(q_, .inr (3, [.ref q_balances, .ref q_left, .ref q_sums, .ref q_most, .ref q_groups, .int u_groupCount, .ref q_payments])), (q_balances, .inl (C 0, 6, .inl u_balances)), (q_left, .inl (C 0, 6, .inl u_left)), (qa1_, .inr (2, [.ref qa1_owed, .ref qa1_order, .int ua1_size])), (qa1_owed, .inl (C 0, 36, .inl ua1_owed))] → lv_has ls 5 [(0, .ref q_), (1, .ref qa1_), (2, .int x2), (3, .int x3), (4, .int x4)] → W p l e R s m args below meth c H locs 0 0 Q (F0 m 13 ls []) := by
  have hx := cx.1
  have hb := cx.2.1
  intro n
  induction n with
  | zero => intro x3 x4 H locs ls hF; cases hF
  | succ n ih =>
    intro x3 x4 H locs ls hF hw hl
    rw [fX3_weigh_L13.eq_2] at hF
    refine lv_iload hx hb dX3_weigh_13 (lv_at hl 4 rfl) ?_
    refine lv_bipush (v := 6) hx hb dX3_weigh_15 (by decide) ?_
    refine lv_icmp_ge (tgt := 44) hx hb dX3_weigh_17 (by decide) (fun c2 => ?_) (fun c2 => ?_)
    · replace hF := oi_t c2 hF
      exact hk44 x3 H locs ls hF hw (lv_sub hl [0, 1, 2, 3] rfl)
    · replace hF := oi_f c2 hF
      refine lv_iload_n hx hb dX3_weigh_20 rfl (lv_at hl 3 rfl) ?_
      refine lv_aload_n hx hb dX3_weigh_21 rfl (lv_at hl 1 rfl) ?_
      refine lv_iload hx hb dX3_weigh_22 (lv_at hl 4 rfl) ?_
      refine lv_iload_n hx hb dX3_weigh_24 rfl (lv_at hl 2 rfl) ?_
      obtain ⟨z3, hz3, hF⟩ := ob hF
      refine cV (wr := [(q_, .inr (3, [.ref q_balances, .ref q_left, .ref q_sums, .ref q_most, .ref q_groups, .int u_groupCount, .ref q_payments])), (q_balances, .inl (C 0, 6, .inl u_balances)), (q_left, .inl (C 0, 6, .inl u_left))]) (w2 := [(q_, .inr (3, [.ref q_balances, .ref q_left, .ref q_sums, .ref q_most, .ref q_groups, .int u_groupCount, .ref q_payments])), (q_balances, .inl (C 0, 6, .inl u_balances)), (q_left, .inl (C 0, 6, .inl u_left)), (qa1_, .inr (2, [.ref qa1_owed, .ref qa1_order, .int ua1_size])), (qa1_owed, .inl (C 0, 36, .inl ua1_owed))]) (st2 := [.int z3, .int x3]) cx (CX2_amount l D C qa1_ qa1_owed qa1_order ua1_size ua1_owed x4 x2 z3 hz3) lk_X3_83 my_X2_amount ml_X2_amount ⟨by decide, by decide⟩ hw [3, 4] [0, 1, 2] [0, 1, 2, 3, 4] rfl rfl (by decide) rfl rfl rfl rfl (Nat.le_of_ble_eq_true rfl) dX3_weigh_25 rfl (fun H locs hw => ?_) hl.1
      refine lv_aload_n hx hb dX3_weigh_28 rfl (lv_at hl 1 rfl) ?_
      refine lv_iload_n hx hb dX3_weigh_29 rfl (lv_at hl 2 rfl) ?_
      refine lv_iload hx hb dX3_weigh_30 (lv_at hl 4 rfl) ?_
      obtain ⟨z4, hz4, hF⟩ := ob hF
      refine cV (wr := [(q_, .inr (3, [.ref q_balances, .ref q_left, .ref q_sums, .ref q_most, .ref q_groups, .int u_groupCount, .ref q_payments])), (q_balances, .inl (C 0, 6, .inl u_balances)), (q_left, .inl (C 0, 6, .inl u_left))]) (w2 := [(q_, .inr (3, [.ref q_balances, .ref q_left, .ref q_sums, .ref q_most, .ref q_groups, .int u_groupCount, .ref q_payments])), (q_balances, .inl (C 0, 6, .inl u_balances)), (q_left, .inl (C 0, 6, .inl u_left)), (qa1_, .inr (2, [.ref qa1_owed, .ref qa1_order, .int ua1_size])), (qa1_owed, .inl (C 0, 36, .inl ua1_owed))]) (st2 := [.int z4, .int z3, .int x3]) cx (CX2_amount l D C qa1_ qa1_owed qa1_order ua1_size ua1_owed x2 x4 z4 hz4) lk_X3_83 my_X2_amount ml_X2_amount ⟨by decide, by decide⟩ hw [3, 4] [0, 1, 2] [0, 1, 2, 3, 4] rfl rfl (by decide) rfl rfl rfl rfl (Nat.le_of_ble_eq_true rfl) dX3_weigh_32 rfl (fun H locs hw => ?_) hl.1
      refine lv_isub hx hb dX3_weigh_35 ?_
      refine lv_iadd hx hb dX3_weigh_36 ?_
      refine lv_istore_n (lv' := [(3, .int (x3 + (z3 - z4))), (0, .ref q_), (1, .ref qa1_), (2, .int x2), (4, .int x4)]) hx hb dX3_weigh_37 rfl hl (by decide) rfl (fun ls hl => ?_)
      refine lv_iinc (v := x4 + 1) (lv' := [(4, .int (x4 + 1)), (3, .int (x3 + (z3 - z4))), (0, .ref q_), (1, .ref qa1_), (2, .int x2)]) hx hb dX3_weigh_38 hl (k := 4) rfl rfl (by decide) rfl (fun ls hl => ?_)
      refine lv_goto (tgt := 13) hx hb dX3_weigh_41 (by decide) ?_
      exact ih (x3 + (z3 - z4)) (x4 + 1) H locs ls hF hw (lv_sub hl [2, 3, 4, 1, 0] rfl)
set_option maxRecDepth 20000 in
theorem LX3_weigh_2 {p : Program} {l : Launch} {e : Env} {R : Room} {s : State} {m : MethodId} {args : Array Value} {below : List Frame} {meth : Method} {c : Code} {Q : State → Prop} {D : va_G} {C : Nat → ClassId} {A : Nat → Prop} (cx : CX p m c s args RX3 cX3_weigh 5 D C A R 3) {q_ q_balances q_left q_sums q_most q_groups q_payments qa1_ qa1_owed qa1_order : Nat} {u_groupCount : Int32} {ua1_size : Int32} {ua1_owed : (Nat → Int32)} {z : ((Nat → Int32) × (Nat → Int32))} (hret : RT p l e R s m args below meth c Q D A cX3_weigh none [(q_, .inr (3, [.ref q_balances, .ref q_left, .ref q_sums, .ref q_most, .ref q_groups, .int u_groupCount, .ref q_payments])), (q_balances, .inl (C 0, 6, .inl z.1)), (q_left, .inl (C 0, 6, .inl z.2)), (qa1_, .inr (2, [.ref qa1_owed, .ref qa1_order, .int ua1_size])), (qa1_owed, .inl (C 0, 36, .inl ua1_owed))] none) :
    ∀ (n : Nat) (x2 : Int32) (u_balances : (Nat → Int32)) (u_left : (Nat → Int32)) (H : Heap) (locs : List Loc) (ls : Array Slot), fX3_weigh_L2 ua1_owed n x2 u_balances u_left = some z → HW D A s.heap H locs [(q_, .inr (3, [.ref q_balances, .ref q_left, .ref q_sums, .ref q_most, .ref q_groups, .int u_groupCount, .ref q_payments])), (q_balances, .inl (C 0, 6, .inl u_balances)), (q_left, .inl (C 0, 6, .inl u_left)), (qa1_, .inr (2, [.ref qa1_owed, .ref qa1_order, .int ua1_size])), (qa1_owed, .inl (C 0, 36, .inl ua1_owed))] → lv_has ls 5 [(0, .ref q_), (1, .ref qa1_), (2, .int x2)] → W p l e R s m args below meth c H locs 0 0 Q (F0 m 2 ls []) := by
  have hx := cx.1
  have hb := cx.2.1
  intro n
  induction n with
  | zero => intro x2 u_balances u_left H locs ls hF; cases hF
  | succ n ih =>
    intro x2 u_balances u_left H locs ls hF hw hl
    rw [fX3_weigh_L2.eq_2] at hF
    refine lv_iload_n hx hb dX3_weigh_2 rfl (lv_at hl 2 rfl) ?_
    refine lv_bipush (v := 6) hx hb dX3_weigh_3 (by decide) ?_
    refine lv_icmp_ge (tgt := 64) hx hb dX3_weigh_5 (by decide) (fun c1 => ?_) (fun c1 => ?_)
    · replace hF := oi_t c1 hF
      obtain rfl := Option.some.inj hF
      exact rt_v hret hw rfl dX3_weigh_64
    · replace hF := oi_f c1 hF
      refine lv_iconst (v := 0) hx hb dX3_weigh_8 (by decide) ?_
      refine lv_istore_n (lv' := [(3, .int 0), (0, .ref q_), (1, .ref qa1_), (2, .int x2)]) hx hb dX3_weigh_9 rfl hl (by decide) rfl (fun ls hl => ?_)
      refine lv_iconst (v := 0) hx hb dX3_weigh_10 (by decide) ?_
      refine lv_istore (lv' := [(4, .int 0), (3, .int 0), (0, .ref q_), (1, .ref qa1_), (2, .int x2)]) hx hb dX3_weigh_11 hl (by decide) rfl (fun ls hl => ?_)
      refine LX3_weigh_13 cx hret (fun x3_5 H locs ls hF hw hl => ?_) 400 0 0 H locs ls hF hw (lv_sub hl [2, 3, 4, 1, 0] rfl)
      · refine lv_aload_n hx hb dX3_weigh_44 rfl (lv_at hl 0 rfl) ?_
        refine r_get (ci := 3) (v := .ref q_balances) cx hw iX3 0 0 rfl rfl (by decide) wf_X3_9 rfl dX3_weigh_45 ?_
        refine lv_iload_n hx hb dX3_weigh_48 rfl (lv_at hl 2 rfl) ?_
        refine lv_iload_n hx hb dX3_weigh_49 rfl (lv_at hl 3 rfl) ?_
        obtain ⟨g6, hF⟩ := gA_s hF
        refine r_iast (w2 := [(q_, .inr (3, [.ref q_balances, .ref q_left, .ref q_sums, .ref q_most, .ref q_groups, .int u_groupCount, .ref q_payments])), (q_balances, .inl (C 0, 6, .inl (upd u_balances (x2 : Int32).toNatClampNeg x3_5))), (q_left, .inl (C 0, 6, .inl u_left)), (qa1_, .inr (2, [.ref qa1_owed, .ref qa1_order, .int ua1_size])), (qa1_owed, .inl (C 0, 36, .inl ua1_owed))]) cx hw 1 rfl g6 dX3_weigh_50 rfl (fun H locs hw => ?_)
        refine lv_aload_n hx hb dX3_weigh_51 rfl (lv_at hl 0 rfl) ?_
        refine r_get (ci := 3) (v := .ref q_left) cx hw iX3 0 1 rfl rfl (by decide) wf_X3_15 rfl dX3_weigh_52 ?_
        refine lv_iload_n hx hb dX3_weigh_55 rfl (lv_at hl 2 rfl) ?_
        refine lv_iload_n hx hb dX3_weigh_56 rfl (lv_at hl 3 rfl) ?_
        obtain ⟨g7, hF⟩ := gA_s hF
        refine r_iast (w2 := [(q_, .inr (3, [.ref q_balances, .ref q_left, .ref q_sums, .ref q_most, .ref q_groups, .int u_groupCount, .ref q_payments])), (q_balances, .inl (C 0, 6, .inl (upd u_balances (x2 : Int32).toNatClampNeg x3_5))), (q_left, .inl (C 0, 6, .inl (upd u_left (x2 : Int32).toNatClampNeg x3_5))), (qa1_, .inr (2, [.ref qa1_owed, .ref qa1_order, .int ua1_size])), (qa1_owed, .inl (C 0, 36, .inl ua1_owed))]) cx hw 2 rfl g7 dX3_weigh_57 rfl (fun H locs hw => ?_)
        refine lv_iinc (v := x2 + 1) (lv' := [(2, .int (x2 + 1)), (0, .ref q_), (1, .ref qa1_), (3, .int x3_5)]) hx hb dX3_weigh_58 hl (k := 2) rfl rfl (by decide) rfl (fun ls hl => ?_)
        refine lv_goto (tgt := 2) hx hb dX3_weigh_61 (by decide) ?_
        exact ih (x2 + 1) (upd u_balances (x2 : Int32).toNatClampNeg x3_5) (upd u_left (x2 : Int32).toNatClampNeg x3_5) H locs ls hF hw (lv_sub hl [1, 2, 0] rfl)
set_option maxRecDepth 20000 in
theorem CX3_weigh (l : Launch) (D : va_G) (C : Nat → ClassId) (q_ q_balances q_left q_sums q_most q_groups q_payments qa1_ qa1_owed qa1_order : Nat) (u_groupCount : Int32) (u_balances : (Nat → Int32)) (u_left : (Nat → Int32)) (ua1_size : Int32) (ua1_owed : (Nat → Int32)) (z : ((Nat → Int32) × (Nat → Int32))) (hF : fX3_weigh u_balances u_left ua1_owed = some z) : Ct l yX3_weigh cX3_weigh 5 none 3 D C [.ref q_, .ref qa1_] [(q_, .inr (3, [.ref q_balances, .ref q_left, .ref q_sums, .ref q_most, .ref q_groups, .int u_groupCount, .ref q_payments])), (q_balances, .inl (C 0, 6, .inl u_balances)), (q_left, .inl (C 0, 6, .inl u_left)), (qa1_, .inr (2, [.ref qa1_owed, .ref qa1_order, .int ua1_size])), (qa1_owed, .inl (C 0, 36, .inl ua1_owed))] [(q_, .inr (3, [.ref q_balances, .ref q_left, .ref q_sums, .ref q_most, .ref q_groups, .int u_groupCount, .ref q_payments])), (q_balances, .inl (C 0, 6, .inl z.1)), (q_left, .inl (C 0, 6, .inl z.2)), (qa1_, .inr (2, [.ref qa1_owed, .ref qa1_order, .int ua1_size])), (qa1_owed, .inl (C 0, 36, .inl ua1_owed))] none := by
  refine Ct_of (by decide) (Nat.le_of_ble_eq_true rfl) ?_
  intro p e R s m args below meth c A Q H locs ls cx hw hl hret
  have cx : CX p m c s args RX3 cX3_weigh 5 D C A R 3 := cx
  have hx := cx.1
  have hb := cx.2.1
  have hl : lv_has ls 5 [(0, .ref q_), (1, .ref qa1_)] := hl
  rw [fX3_weigh.eq_1] at hF
  refine lv_iconst (v := 0) hx hb dX3_weigh_0 (by decide) ?_
  refine lv_istore_n (lv' := [(2, .int 0), (0, .ref q_), (1, .ref qa1_)]) hx hb dX3_weigh_1 rfl hl (by decide) rfl (fun ls hl => ?_)
  refine LX3_weigh_2 cx hret 400 0 u_balances u_left H locs ls hF hw (lv_sub hl [1, 2, 0] rfl)
theorem wf_X3_18 : Cond.fieldLink RX3 18 (TX3 2).1 (TX3 2).2.1 (TX3 2).2.2.1 ∈ gdt := gdt_of 210 (by decide +kernel) (by decide +kernel)
theorem dX3_addUpSets_0 : decode cX3_addUpSets 0 = .ok (.iconst 0, 1) := by decide +kernel
theorem dX3_addUpSets_1 : decode cX3_addUpSets 1 = .ok (.istore_n 1, 1) := by decide +kernel
theorem dX3_addUpSets_2 : decode cX3_addUpSets 2 = .ok (.iload_n 1, 1) := by decide +kernel
theorem dX3_addUpSets_3 : decode cX3_addUpSets 3 = .ok (.bipush 64, 2) := by decide +kernel
theorem dX3_addUpSets_5 : decode cX3_addUpSets 5 = .ok (.if_icmp .ge 50, 3) := by decide +kernel
theorem dX3_addUpSets_8 : decode cX3_addUpSets 8 = .ok (.iconst 0, 1) := by decide +kernel
theorem dX3_addUpSets_9 : decode cX3_addUpSets 9 = .ok (.istore_n 2, 1) := by decide +kernel
theorem dX3_addUpSets_10 : decode cX3_addUpSets 10 = .ok (.iconst 0, 1) := by decide +kernel
theorem dX3_addUpSets_11 : decode cX3_addUpSets 11 = .ok (.istore_n 3, 1) := by decide +kernel
theorem dX3_addUpSets_12 : decode cX3_addUpSets 12 = .ok (.iload_n 3, 1) := by decide +kernel
theorem dX3_addUpSets_13 : decode cX3_addUpSets 13 = .ok (.bipush 6, 2) := by decide +kernel
theorem dX3_addUpSets_15 : decode cX3_addUpSets 15 = .ok (.if_icmp .ge 27, 3) := by decide +kernel
theorem dX3_addUpSets_18 : decode cX3_addUpSets 18 = .ok (.iload_n 1, 1) := by decide +kernel
theorem dX3_addUpSets_19 : decode cX3_addUpSets 19 = .ok (.iload_n 3, 1) := by decide +kernel
theorem dX3_addUpSets_20 : decode cX3_addUpSets 20 = .ok (.ishr, 1) := by decide +kernel
theorem dX3_addUpSets_21 : decode cX3_addUpSets 21 = .ok (.iconst 1, 1) := by decide +kernel
theorem dX3_addUpSets_22 : decode cX3_addUpSets 22 = .ok (.iand, 1) := by decide +kernel
theorem dX3_addUpSets_23 : decode cX3_addUpSets 23 = .ok (.iconst 1, 1) := by decide +kernel
theorem dX3_addUpSets_24 : decode cX3_addUpSets 24 = .ok (.if_icmp .ne 12, 3) := by decide +kernel
theorem dX3_addUpSets_27 : decode cX3_addUpSets 27 = .ok (.iload_n 2, 1) := by decide +kernel
theorem dX3_addUpSets_28 : decode cX3_addUpSets 28 = .ok (.aload_n 0, 1) := by decide +kernel
theorem dX3_addUpSets_29 : decode cX3_addUpSets 29 = .ok (.getfield 9, 3) := by decide +kernel
theorem dX3_addUpSets_32 : decode cX3_addUpSets 32 = .ok (.iload_n 3, 1) := by decide +kernel
theorem dX3_addUpSets_33 : decode cX3_addUpSets 33 = .ok (.iaload, 1) := by decide +kernel
theorem dX3_addUpSets_34 : decode cX3_addUpSets 34 = .ok (.iadd, 1) := by decide +kernel
theorem dX3_addUpSets_35 : decode cX3_addUpSets 35 = .ok (.istore_n 2, 1) := by decide +kernel
theorem dX3_addUpSets_36 : decode cX3_addUpSets 36 = .ok (.iinc 3 1, 3) := by decide +kernel
theorem dX3_addUpSets_39 : decode cX3_addUpSets 39 = .ok (.goto (-27), 3) := by decide +kernel
theorem dX3_addUpSets_42 : decode cX3_addUpSets 42 = .ok (.aload_n 0, 1) := by decide +kernel
theorem dX3_addUpSets_43 : decode cX3_addUpSets 43 = .ok (.getfield 18, 3) := by decide +kernel
theorem dX3_addUpSets_46 : decode cX3_addUpSets 46 = .ok (.iload_n 1, 1) := by decide +kernel
theorem dX3_addUpSets_47 : decode cX3_addUpSets 47 = .ok (.iload_n 2, 1) := by decide +kernel
theorem dX3_addUpSets_48 : decode cX3_addUpSets 48 = .ok (.iastore, 1) := by decide +kernel
theorem dX3_addUpSets_49 : decode cX3_addUpSets 49 = .ok (.iinc 1 1, 3) := by decide +kernel
theorem dX3_addUpSets_52 : decode cX3_addUpSets 52 = .ok (.goto (-50), 3) := by decide +kernel
theorem dX3_addUpSets_55 : decode cX3_addUpSets 55 = .ok (.return_, 1) := by decide +kernel
def fX3_addUpSets_L12 (k42 : Int32 → Option (Nat → Int32)) (u_balances : (Nat → Int32)) (x1 : Int32) : Nat → Int32 → Int32 → Option (Nat → Int32)
  | 0, _, _ => none
  | n + 1, x2, x3 => if 6 ≤ x3 then (k42 x2) else (if ((x1 >>> (x3 &&& 31)) &&& 1) = 1 then (gA x3 6 (fX3_addUpSets_L12 k42 u_balances x1 n (x2 + (u_balances (x3).toNatClampNeg)) (x3 + 1))) else (fX3_addUpSets_L12 k42 u_balances x1 n x2 (x3 + 1)))
def fX3_addUpSets_L2 (u_balances : (Nat → Int32)) : Nat → Int32 → (Nat → Int32) → Option (Nat → Int32)
  | 0, _, _ => none
  | n + 1, x1, u_sums => if 64 ≤ x1 then (some u_sums) else (fX3_addUpSets_L12 (fun (x2_5 : Int32) => gA x1 64 (fX3_addUpSets_L2 u_balances n (x1 + 1) (upd u_sums (x1 : Int32).toNatClampNeg x2_5))) u_balances x1 400 0 0)
def fX3_addUpSets (u_balances : (Nat → Int32)) (u_sums : (Nat → Int32)) : Option (Nat → Int32) := fX3_addUpSets_L2 u_balances 400 0 u_sums
set_option maxRecDepth 20000 in
theorem LX3_addUpSets_12 {p : Program} {l : Launch} {e : Env} {R : Room} {s : State} {m : MethodId} {args : Array Value} {below : List Frame} {meth : Method} {c : Code} {Q : State → Prop} {D : va_G} {C : Nat → ClassId} {A : Nat → Prop} (cx : CX p m c s args RX3 cX3_addUpSets 4 D C A R 1) {q_ q_balances q_left q_sums q_most q_groups q_payments : Nat} {u_groupCount : Int32} {u_balances : (Nat → Int32)} {u_sums : (Nat → Int32)} {x1 : Int32} {z : (Nat → Int32)} (hret : RT p l e R s m args below meth c Q D A cX3_addUpSets none [(q_, .inr (3, [.ref q_balances, .ref q_left, .ref q_sums, .ref q_most, .ref q_groups, .int u_groupCount, .ref q_payments])), (q_balances, .inl (C 0, 6, .inl u_balances)), (q_sums, .inl (C 0, 64, .inl z))] none) {k42 : Int32 → Option (Nat → Int32)} (hk42 : ∀ (x2 : Int32) (H : Heap) (locs : List Loc) (ls : Array Slot), k42 x2 = some z → HW D A s.heap H locs [(q_, .inr (3, [.ref q_balances, .ref q_left, .ref q_sums, .ref q_most, .ref q_groups, .int u_groupCount, .ref q_payments])), (q_balances, .inl (C 0, 6, .inl u_balances)), (q_sums, .inl (C 0, 64, .inl u_sums))] → lv_has ls 4 [(0, .ref q_), (1, .int x1), (2, .int x2)] → W p l e R s m args below meth c H locs 0 0 Q (F0 m 42 ls [])) :
    ∀ (n : Nat) (x2 : Int32) (x3 : Int32) (H : Heap) (locs : List Loc) (ls : Array Slot), fX3_addUpSets_L12 k42 u_balances x1 n x2 x3 = some z → HW D A s.heap H locs [(q_, .inr (3, [.ref q_balances, .ref q_left, .ref q_sums, .ref q_most, .ref q_groups, .int u_groupCount, .ref q_payments])), (q_balances, .inl (C 0, 6, .inl u_balances)), (q_sums, .inl (C 0, 64, .inl u_sums))] → lv_has ls 4 [(0, .ref q_), (1, .int x1), (2, .int x2), (3, .int x3)] → W p l e R s m args below meth c H locs 0 0 Q (F0 m 12 ls []) := by
  have hx := cx.1
  have hb := cx.2.1
  intro n
  induction n with
  | zero => intro x2 x3 H locs ls hF; cases hF
  | succ n ih =>
    intro x2 x3 H locs ls hF hw hl
    rw [fX3_addUpSets_L12.eq_2] at hF
    refine lv_iload_n hx hb dX3_addUpSets_12 rfl (lv_at hl 3 rfl) ?_
    refine lv_bipush (v := 6) hx hb dX3_addUpSets_13 (by decide) ?_
    refine lv_icmp_ge (tgt := 42) hx hb dX3_addUpSets_15 (by decide) (fun c2 => ?_) (fun c2 => ?_)
    · replace hF := oi_t c2 hF
      exact hk42 x2 H locs ls hF hw (lv_sub hl [0, 1, 2] rfl)
    · replace hF := oi_f c2 hF
      refine lv_iload_n hx hb dX3_addUpSets_18 rfl (lv_at hl 1 rfl) ?_
      refine lv_iload_n hx hb dX3_addUpSets_19 rfl (lv_at hl 3 rfl) ?_
      refine lv_ishr hx hb dX3_addUpSets_20 ?_
      refine lv_iconst (v := 1) hx hb dX3_addUpSets_21 (by decide) ?_
      refine lv_iand hx hb dX3_addUpSets_22 ?_
      refine lv_iconst (v := 1) hx hb dX3_addUpSets_23 (by decide) ?_
      refine lv_icmp_ne (tgt := 36) hx hb dX3_addUpSets_24 (by decide) (fun c3 => ?_) (fun c3 => ?_)
      · replace hF := oi_f c3 hF
        refine lv_iinc (v := x3 + 1) (lv' := [(3, .int (x3 + 1)), (0, .ref q_), (1, .int x1), (2, .int x2)]) hx hb dX3_addUpSets_36 hl (k := 3) rfl rfl (by decide) rfl (fun ls hl => ?_)
        refine lv_goto (tgt := 12) hx hb dX3_addUpSets_39 (by decide) ?_
        exact ih x2 (x3 + 1) H locs ls hF hw (lv_sub hl [1, 2, 3, 0] rfl)
      · replace hF := oi_t c3 hF
        refine lv_iload_n hx hb dX3_addUpSets_27 rfl (lv_at hl 2 rfl) ?_
        refine lv_aload_n hx hb dX3_addUpSets_28 rfl (lv_at hl 0 rfl) ?_
        refine r_get (ci := 3) (v := .ref q_balances) cx hw iX3 0 0 rfl rfl (by decide) wf_X3_9 rfl dX3_addUpSets_29 ?_
        refine lv_iload_n hx hb dX3_addUpSets_32 rfl (lv_at hl 3 rfl) ?_
        obtain ⟨g4, hF⟩ := gA_s hF
        refine r_iald cx hw 1 rfl g4 dX3_addUpSets_33 ?_
        refine lv_iadd hx hb dX3_addUpSets_34 ?_
        refine lv_istore_n (lv' := [(2, .int (x2 + (u_balances (x3).toNatClampNeg))), (0, .ref q_), (1, .int x1), (3, .int x3)]) hx hb dX3_addUpSets_35 rfl hl (by decide) rfl (fun ls hl => ?_)
        refine lv_iinc (v := x3 + 1) (lv' := [(3, .int (x3 + 1)), (2, .int (x2 + (u_balances (x3).toNatClampNeg))), (0, .ref q_), (1, .int x1)]) hx hb dX3_addUpSets_36 hl (k := 3) rfl rfl (by decide) rfl (fun ls hl => ?_)
        refine lv_goto (tgt := 12) hx hb dX3_addUpSets_39 (by decide) ?_
        exact ih (x2 + (u_balances (x3).toNatClampNeg)) (x3 + 1) H locs ls hF hw (lv_sub hl [2, 3, 1, 0] rfl)
set_option maxRecDepth 20000 in
theorem LX3_addUpSets_2 {p : Program} {l : Launch} {e : Env} {R : Room} {s : State} {m : MethodId} {args : Array Value} {below : List Frame} {meth : Method} {c : Code} {Q : State → Prop} {D : va_G} {C : Nat → ClassId} {A : Nat → Prop} (cx : CX p m c s args RX3 cX3_addUpSets 4 D C A R 1) {q_ q_balances q_left q_sums q_most q_groups q_payments : Nat} {u_groupCount : Int32} {u_balances : (Nat → Int32)} {z : (Nat → Int32)} (hret : RT p l e R s m args below meth c Q D A cX3_addUpSets none [(q_, .inr (3, [.ref q_balances, .ref q_left, .ref q_sums, .ref q_most, .ref q_groups, .int u_groupCount, .ref q_payments])), (q_balances, .inl (C 0, 6, .inl u_balances)), (q_sums, .inl (C 0, 64, .inl z))] none) :
    ∀ (n : Nat) (x1 : Int32) (u_sums : (Nat → Int32)) (H : Heap) (locs : List Loc) (ls : Array Slot), fX3_addUpSets_L2 u_balances n x1 u_sums = some z → HW D A s.heap H locs [(q_, .inr (3, [.ref q_balances, .ref q_left, .ref q_sums, .ref q_most, .ref q_groups, .int u_groupCount, .ref q_payments])), (q_balances, .inl (C 0, 6, .inl u_balances)), (q_sums, .inl (C 0, 64, .inl u_sums))] → lv_has ls 4 [(0, .ref q_), (1, .int x1)] → W p l e R s m args below meth c H locs 0 0 Q (F0 m 2 ls []) := by
  have hx := cx.1
  have hb := cx.2.1
  intro n
  induction n with
  | zero => intro x1 u_sums H locs ls hF; cases hF
  | succ n ih =>
    intro x1 u_sums H locs ls hF hw hl
    rw [fX3_addUpSets_L2.eq_2] at hF
    refine lv_iload_n hx hb dX3_addUpSets_2 rfl (lv_at hl 1 rfl) ?_
    refine lv_bipush (v := 64) hx hb dX3_addUpSets_3 (by decide) ?_
    refine lv_icmp_ge (tgt := 55) hx hb dX3_addUpSets_5 (by decide) (fun c1 => ?_) (fun c1 => ?_)
    · replace hF := oi_t c1 hF
      obtain rfl := Option.some.inj hF
      exact rt_v hret hw rfl dX3_addUpSets_55
    · replace hF := oi_f c1 hF
      refine lv_iconst (v := 0) hx hb dX3_addUpSets_8 (by decide) ?_
      refine lv_istore_n (lv' := [(2, .int 0), (0, .ref q_), (1, .int x1)]) hx hb dX3_addUpSets_9 rfl hl (by decide) rfl (fun ls hl => ?_)
      refine lv_iconst (v := 0) hx hb dX3_addUpSets_10 (by decide) ?_
      refine lv_istore_n (lv' := [(3, .int 0), (2, .int 0), (0, .ref q_), (1, .int x1)]) hx hb dX3_addUpSets_11 rfl hl (by decide) rfl (fun ls hl => ?_)
      refine LX3_addUpSets_12 cx hret (fun x2_5 H locs ls hF hw hl => ?_) 400 0 0 H locs ls hF hw (lv_sub hl [2, 3, 1, 0] rfl)
      · refine lv_aload_n hx hb dX3_addUpSets_42 rfl (lv_at hl 0 rfl) ?_
        refine r_get (ci := 3) (v := .ref q_sums) cx hw iX3 0 2 rfl rfl (by decide) wf_X3_18 rfl dX3_addUpSets_43 ?_
        refine lv_iload_n hx hb dX3_addUpSets_46 rfl (lv_at hl 1 rfl) ?_
        refine lv_iload_n hx hb dX3_addUpSets_47 rfl (lv_at hl 2 rfl) ?_
        obtain ⟨g6, hF⟩ := gA_s hF
        refine r_iast (w2 := [(q_, .inr (3, [.ref q_balances, .ref q_left, .ref q_sums, .ref q_most, .ref q_groups, .int u_groupCount, .ref q_payments])), (q_balances, .inl (C 0, 6, .inl u_balances)), (q_sums, .inl (C 0, 64, .inl (upd u_sums (x1 : Int32).toNatClampNeg x2_5)))]) cx hw 2 rfl g6 dX3_addUpSets_48 rfl (fun H locs hw => ?_)
        refine lv_iinc (v := x1 + 1) (lv' := [(1, .int (x1 + 1)), (0, .ref q_), (2, .int x2_5)]) hx hb dX3_addUpSets_49 hl (k := 1) rfl rfl (by decide) rfl (fun ls hl => ?_)
        refine lv_goto (tgt := 2) hx hb dX3_addUpSets_52 (by decide) ?_
        exact ih (x1 + 1) (upd u_sums (x1 : Int32).toNatClampNeg x2_5) H locs ls hF hw (lv_sub hl [1, 0] rfl)
set_option maxRecDepth 20000 in
theorem CX3_addUpSets (l : Launch) (D : va_G) (C : Nat → ClassId) (q_ q_balances q_left q_sums q_most q_groups q_payments : Nat) (u_groupCount : Int32) (u_balances : (Nat → Int32)) (u_sums : (Nat → Int32)) (z : (Nat → Int32)) (hF : fX3_addUpSets u_balances u_sums = some z) : Ct l yX3_addUpSets cX3_addUpSets 4 none 1 D C [.ref q_] [(q_, .inr (3, [.ref q_balances, .ref q_left, .ref q_sums, .ref q_most, .ref q_groups, .int u_groupCount, .ref q_payments])), (q_balances, .inl (C 0, 6, .inl u_balances)), (q_sums, .inl (C 0, 64, .inl u_sums))] [(q_, .inr (3, [.ref q_balances, .ref q_left, .ref q_sums, .ref q_most, .ref q_groups, .int u_groupCount, .ref q_payments])), (q_balances, .inl (C 0, 6, .inl u_balances)), (q_sums, .inl (C 0, 64, .inl z))] none := by
  refine Ct_of (by decide) (Nat.le_of_ble_eq_true rfl) ?_
  intro p e R s m args below meth c A Q H locs ls cx hw hl hret
  have cx : CX p m c s args RX3 cX3_addUpSets 4 D C A R 1 := cx
  have hx := cx.1
  have hb := cx.2.1
  have hl : lv_has ls 4 [(0, .ref q_)] := hl
  rw [fX3_addUpSets.eq_1] at hF
  refine lv_iconst (v := 0) hx hb dX3_addUpSets_0 (by decide) ?_
  refine lv_istore_n (lv' := [(1, .int 0), (0, .ref q_)]) hx hb dX3_addUpSets_1 rfl hl (by decide) rfl (fun ls hl => ?_)
  refine LX3_addUpSets_2 cx hret 400 0 u_sums H locs ls hF hw (lv_sub hl [1, 0] rfl)
theorem dX3_isGroupOfLeast_0 : decode cX3_isGroupOfLeast 0 = .ok (.iload_n 2, 1) := by decide +kernel
theorem dX3_isGroupOfLeast_1 : decode cX3_isGroupOfLeast 1 = .ok (.iload_n 2, 1) := by decide +kernel
theorem dX3_isGroupOfLeast_2 : decode cX3_isGroupOfLeast 2 = .ok (.ineg, 1) := by decide +kernel
theorem dX3_isGroupOfLeast_3 : decode cX3_isGroupOfLeast 3 = .ok (.iand, 1) := by decide +kernel
theorem dX3_isGroupOfLeast_4 : decode cX3_isGroupOfLeast 4 = .ok (.istore_n 3, 1) := by decide +kernel
theorem dX3_isGroupOfLeast_5 : decode cX3_isGroupOfLeast 5 = .ok (.iload_n 1, 1) := by decide +kernel
theorem dX3_isGroupOfLeast_6 : decode cX3_isGroupOfLeast 6 = .ok (.iload_n 2, 1) := by decide +kernel
theorem dX3_isGroupOfLeast_7 : decode cX3_isGroupOfLeast 7 = .ok (.iand, 1) := by decide +kernel
theorem dX3_isGroupOfLeast_8 : decode cX3_isGroupOfLeast 8 = .ok (.iload_n 1, 1) := by decide +kernel
theorem dX3_isGroupOfLeast_9 : decode cX3_isGroupOfLeast 9 = .ok (.if_icmp .ne 22, 3) := by decide +kernel
theorem dX3_isGroupOfLeast_12 : decode cX3_isGroupOfLeast 12 = .ok (.iload_n 1, 1) := by decide +kernel
theorem dX3_isGroupOfLeast_13 : decode cX3_isGroupOfLeast 13 = .ok (.iload_n 3, 1) := by decide +kernel
theorem dX3_isGroupOfLeast_14 : decode cX3_isGroupOfLeast 14 = .ok (.iand, 1) := by decide +kernel
theorem dX3_isGroupOfLeast_15 : decode cX3_isGroupOfLeast 15 = .ok (.ifCond .eq 16, 3) := by decide +kernel
theorem dX3_isGroupOfLeast_18 : decode cX3_isGroupOfLeast 18 = .ok (.aload_n 0, 1) := by decide +kernel
theorem dX3_isGroupOfLeast_19 : decode cX3_isGroupOfLeast 19 = .ok (.getfield 18, 3) := by decide +kernel
theorem dX3_isGroupOfLeast_22 : decode cX3_isGroupOfLeast 22 = .ok (.iload_n 1, 1) := by decide +kernel
theorem dX3_isGroupOfLeast_23 : decode cX3_isGroupOfLeast 23 = .ok (.iaload, 1) := by decide +kernel
theorem dX3_isGroupOfLeast_24 : decode cX3_isGroupOfLeast 24 = .ok (.ifCond .ne 7, 3) := by decide +kernel
theorem dX3_isGroupOfLeast_27 : decode cX3_isGroupOfLeast 27 = .ok (.iconst 1, 1) := by decide +kernel
theorem dX3_isGroupOfLeast_28 : decode cX3_isGroupOfLeast 28 = .ok (.goto 4, 3) := by decide +kernel
theorem dX3_isGroupOfLeast_31 : decode cX3_isGroupOfLeast 31 = .ok (.iconst 0, 1) := by decide +kernel
theorem dX3_isGroupOfLeast_32 : decode cX3_isGroupOfLeast 32 = .ok (.ireturn, 1) := by decide +kernel
def fX3_isGroupOfLeast (u_sums : (Nat → Int32)) (x1 : Int32) (x2 : Int32) : Option Int32 := if (x1 &&& x2) = x1 then (if (x1 &&& (x2 &&& (-x2))) = 0 then (some 0) else (gA x1 64 (if (u_sums (x1).toNatClampNeg) = 0 then (some 1) else (some 0)))) else (some 0)
set_option maxRecDepth 20000 in
theorem CX3_isGroupOfLeast (l : Launch) (D : va_G) (C : Nat → ClassId) (q_ q_balances q_left q_sums q_most q_groups q_payments : Nat) (u_groupCount : Int32) (u_sums : (Nat → Int32)) (x1 : Int32) (x2 : Int32) (z : Int32) (hF : fX3_isGroupOfLeast u_sums x1 x2 = some z) : Ct l yX3_isGroupOfLeast cX3_isGroupOfLeast 4 (some .boolean) 1 D C [.ref q_, .int x1, .int x2] [(q_, .inr (3, [.ref q_balances, .ref q_left, .ref q_sums, .ref q_most, .ref q_groups, .int u_groupCount, .ref q_payments])), (q_sums, .inl (C 0, 64, .inl u_sums))] [(q_, .inr (3, [.ref q_balances, .ref q_left, .ref q_sums, .ref q_most, .ref q_groups, .int u_groupCount, .ref q_payments])), (q_sums, .inl (C 0, 64, .inl u_sums))] (some (.int z)) := by
  refine Ct_of (by decide) (Nat.le_of_ble_eq_true rfl) ?_
  intro p e R s m args below meth c A Q H locs ls cx hw hl hret
  have cx : CX p m c s args RX3 cX3_isGroupOfLeast 4 D C A R 1 := cx
  have hx := cx.1
  have hb := cx.2.1
  have hl : lv_has ls 4 [(0, .ref q_), (1, .int x1), (2, .int x2)] := hl
  rw [fX3_isGroupOfLeast.eq_1] at hF
  refine lv_iload_n hx hb dX3_isGroupOfLeast_0 rfl (lv_at hl 2 rfl) ?_
  refine lv_iload_n hx hb dX3_isGroupOfLeast_1 rfl (lv_at hl 2 rfl) ?_
  refine lv_ineg hx hb dX3_isGroupOfLeast_2 ?_
  refine lv_iand hx hb dX3_isGroupOfLeast_3 ?_
  refine lv_istore_n (lv' := [(3, .int (x2 &&& (-x2))), (0, .ref q_), (1, .int x1), (2, .int x2)]) hx hb dX3_isGroupOfLeast_4 rfl hl (by decide) rfl (fun ls hl => ?_)
  refine lv_iload_n hx hb dX3_isGroupOfLeast_5 rfl (lv_at hl 2 rfl) ?_
  refine lv_iload_n hx hb dX3_isGroupOfLeast_6 rfl (lv_at hl 3 rfl) ?_
  refine lv_iand hx hb dX3_isGroupOfLeast_7 ?_
  refine lv_iload_n hx hb dX3_isGroupOfLeast_8 rfl (lv_at hl 2 rfl) ?_
  refine lv_icmp_ne (tgt := 31) hx hb dX3_isGroupOfLeast_9 (by decide) (fun c1 => ?_) (fun c1 => ?_)
  · replace hF := oi_f c1 hF
    refine lv_iconst (v := 0) hx hb dX3_isGroupOfLeast_31 (by decide) ?_
    obtain rfl := Option.some.inj hF
    exact rt_z hret hw rfl rfl dX3_isGroupOfLeast_32
  · replace hF := oi_t c1 hF
    refine lv_iload_n hx hb dX3_isGroupOfLeast_12 rfl (lv_at hl 2 rfl) ?_
    refine lv_iload_n hx hb dX3_isGroupOfLeast_13 rfl (lv_at hl 0 rfl) ?_
    refine lv_iand hx hb dX3_isGroupOfLeast_14 ?_
    refine lv_if_eq (tgt := 31) hx hb dX3_isGroupOfLeast_15 (by decide) (fun c2 => ?_) (fun c2 => ?_)
    · replace hF := oi_t c2 hF
      refine lv_iconst (v := 0) hx hb dX3_isGroupOfLeast_31 (by decide) ?_
      obtain rfl := Option.some.inj hF
      exact rt_z hret hw rfl rfl dX3_isGroupOfLeast_32
    · replace hF := oi_f c2 hF
      refine lv_aload_n hx hb dX3_isGroupOfLeast_18 rfl (lv_at hl 1 rfl) ?_
      refine r_get (ci := 3) (v := .ref q_sums) cx hw iX3 0 2 rfl rfl (by decide) wf_X3_18 rfl dX3_isGroupOfLeast_19 ?_
      refine lv_iload_n hx hb dX3_isGroupOfLeast_22 rfl (lv_at hl 2 rfl) ?_
      obtain ⟨g3, hF⟩ := gA_s hF
      refine r_iald cx hw 1 rfl g3 dX3_isGroupOfLeast_23 ?_
      refine lv_if_ne (tgt := 31) hx hb dX3_isGroupOfLeast_24 (by decide) (fun c4 => ?_) (fun c4 => ?_)
      · replace hF := oi_f c4 hF
        refine lv_iconst (v := 0) hx hb dX3_isGroupOfLeast_31 (by decide) ?_
        obtain rfl := Option.some.inj hF
        exact rt_z hret hw rfl rfl dX3_isGroupOfLeast_32
      · replace hF := oi_t c4 hF
        refine lv_iconst (v := 1) hx hb dX3_isGroupOfLeast_27 (by decide) ?_
        refine lv_goto (tgt := 32) hx hb dX3_isGroupOfLeast_28 (by decide) ?_
        obtain rfl := Option.some.inj hF
        exact rt_z hret hw rfl rfl dX3_isGroupOfLeast_32
theorem lk_X3_98 : Cond.methodLink RX3 98 yX3_isGroupOfLeast ∈ gdt := gdt_of 552 (by decide +kernel) (by decide +kernel)
theorem wf_X3_21 : Cond.fieldLink RX3 21 (TX3 3).1 (TX3 3).2.1 (TX3 3).2.2.1 ∈ gdt := gdt_of 211 (by decide +kernel) (by decide +kernel)
theorem my_X3_isGroupOfLeast : (yX3_isGroupOfLeast.cls ≠ "java/lang/invoke/MethodHandle" ∧ yX3_isGroupOfLeast.cls ≠ "java/lang/invoke/VarHandle") ∧ Cond.instanceMethod yX3_isGroupOfLeast ∈ gdt ∧ Cond.selects yX3_isGroupOfLeast.cls yX3_isGroupOfLeast yX3_isGroupOfLeast ∈ gdt ∧ Cond.initialized yX3_isGroupOfLeast.cls ∈ gdt ∧ Cond.code yX3_isGroupOfLeast cX3_isGroupOfLeast 4 (some .boolean) ∈ gdt := ⟨⟨by decide +kernel, by decide +kernel⟩, gdt_of 554 (by decide +kernel) (by decide +kernel), gdt_of 16 (by decide +kernel) (by decide +kernel), gdt_of 74 (by decide +kernel) (by decide +kernel), gdt_of 555 (by decide +kernel) (by decide +kernel)⟩
theorem ml_X3_isGroupOfLeast : (parseMethodDescriptor yX3_isGroupOfLeast.desc).map (fun d => d.parameters.length) = some 2 := by decide +kernel
theorem dX3_partsOf_0 : decode cX3_partsOf 0 = .ok (.iconst 0, 1) := by decide +kernel
theorem dX3_partsOf_1 : decode cX3_partsOf 1 = .ok (.istore_n 2, 1) := by decide +kernel
theorem dX3_partsOf_2 : decode cX3_partsOf 2 = .ok (.iconst 1, 1) := by decide +kernel
theorem dX3_partsOf_3 : decode cX3_partsOf 3 = .ok (.istore_n 3, 1) := by decide +kernel
theorem dX3_partsOf_4 : decode cX3_partsOf 4 = .ok (.iload_n 3, 1) := by decide +kernel
theorem dX3_partsOf_5 : decode cX3_partsOf 5 = .ok (.iload_n 1, 1) := by decide +kernel
theorem dX3_partsOf_6 : decode cX3_partsOf 6 = .ok (.if_icmp .gt 41, 3) := by decide +kernel
theorem dX3_partsOf_9 : decode cX3_partsOf 9 = .ok (.iload_n 3, 1) := by decide +kernel
theorem dX3_partsOf_10 : decode cX3_partsOf 10 = .ok (.bipush 64, 2) := by decide +kernel
theorem dX3_partsOf_12 : decode cX3_partsOf 12 = .ok (.if_icmp .ge 35, 3) := by decide +kernel
theorem dX3_partsOf_15 : decode cX3_partsOf 15 = .ok (.aload_n 0, 1) := by decide +kernel
theorem dX3_partsOf_16 : decode cX3_partsOf 16 = .ok (.iload_n 3, 1) := by decide +kernel
theorem dX3_partsOf_17 : decode cX3_partsOf 17 = .ok (.iload_n 1, 1) := by decide +kernel
theorem dX3_partsOf_18 : decode cX3_partsOf 18 = .ok (.invokevirtual 98, 3) := by decide +kernel
theorem dX3_partsOf_21 : decode cX3_partsOf 21 = .ok (.ifCond .eq 20, 3) := by decide +kernel
theorem dX3_partsOf_24 : decode cX3_partsOf 24 = .ok (.iload_n 2, 1) := by decide +kernel
theorem dX3_partsOf_25 : decode cX3_partsOf 25 = .ok (.iconst 1, 1) := by decide +kernel
theorem dX3_partsOf_26 : decode cX3_partsOf 26 = .ok (.aload_n 0, 1) := by decide +kernel
theorem dX3_partsOf_27 : decode cX3_partsOf 27 = .ok (.getfield 21, 3) := by decide +kernel
theorem dX3_partsOf_30 : decode cX3_partsOf 30 = .ok (.iload_n 1, 1) := by decide +kernel
theorem dX3_partsOf_31 : decode cX3_partsOf 31 = .ok (.iload_n 3, 1) := by decide +kernel
theorem dX3_partsOf_32 : decode cX3_partsOf 32 = .ok (.iconst (-1), 1) := by decide +kernel
theorem dX3_partsOf_33 : decode cX3_partsOf 33 = .ok (.ixor, 1) := by decide +kernel
theorem dX3_partsOf_34 : decode cX3_partsOf 34 = .ok (.iand, 1) := by decide +kernel
theorem dX3_partsOf_35 : decode cX3_partsOf 35 = .ok (.iaload, 1) := by decide +kernel
theorem dX3_partsOf_36 : decode cX3_partsOf 36 = .ok (.iadd, 1) := by decide +kernel
theorem dX3_partsOf_37 : decode cX3_partsOf 37 = .ok (.invokestatic 44, 3) := by decide +kernel
theorem dX3_partsOf_40 : decode cX3_partsOf 40 = .ok (.istore_n 2, 1) := by decide +kernel
theorem dX3_partsOf_41 : decode cX3_partsOf 41 = .ok (.iinc 3 1, 3) := by decide +kernel
theorem dX3_partsOf_44 : decode cX3_partsOf 44 = .ok (.goto (-40), 3) := by decide +kernel
theorem dX3_partsOf_47 : decode cX3_partsOf 47 = .ok (.iload_n 2, 1) := by decide +kernel
theorem dX3_partsOf_48 : decode cX3_partsOf 48 = .ok (.ireturn, 1) := by decide +kernel
def fX3_partsOf_L4 (u_sums : (Nat → Int32)) (u_most : (Nat → Int32)) (x1 : Int32) : Nat → Int32 → Int32 → Option Int32
  | 0, _, _ => none
  | n + 1, x2, x3 => if x1 < x3 then (some x2) else (if 64 ≤ x3 then (some x2) else ((fX3_isGroupOfLeast u_sums x3 x1).bind (fun z3 => if z3 = 0 then (fX3_partsOf_L4 u_sums u_most x1 n x2 (x3 + 1)) else (gA (x1 &&& (x3 ^^^ (-1))) 64 (fX3_partsOf_L4 u_sums u_most x1 n (if x2 < (1 + (u_most (x1 &&& (x3 ^^^ (-1))).toNatClampNeg)) then (1 + (u_most (x1 &&& (x3 ^^^ (-1))).toNatClampNeg)) else x2) (x3 + 1))))))
def fX3_partsOf (u_sums : (Nat → Int32)) (u_most : (Nat → Int32)) (x1 : Int32) : Option Int32 := fX3_partsOf_L4 u_sums u_most x1 400 0 1
set_option maxRecDepth 20000 in
theorem LX3_partsOf_4 {p : Program} {l : Launch} {e : Env} {R : Room} {s : State} {m : MethodId} {args : Array Value} {below : List Frame} {meth : Method} {c : Code} {Q : State → Prop} {D : va_G} {C : Nat → ClassId} {A : Nat → Prop} (cx : CX p m c s args RX3 cX3_partsOf 4 D C A R 2) {q_ q_balances q_left q_sums q_most q_groups q_payments : Nat} {u_groupCount : Int32} {u_sums : (Nat → Int32)} {u_most : (Nat → Int32)} {x1 : Int32} {z : Int32} (hret : RT p l e R s m args below meth c Q D A cX3_partsOf (some .int) [(q_, .inr (3, [.ref q_balances, .ref q_left, .ref q_sums, .ref q_most, .ref q_groups, .int u_groupCount, .ref q_payments])), (q_sums, .inl (C 0, 64, .inl u_sums)), (q_most, .inl (C 0, 64, .inl u_most))] (some (.int z))) :
    ∀ (n : Nat) (x2 : Int32) (x3 : Int32) (H : Heap) (locs : List Loc) (ls : Array Slot), fX3_partsOf_L4 u_sums u_most x1 n x2 x3 = some z → HW D A s.heap H locs [(q_, .inr (3, [.ref q_balances, .ref q_left, .ref q_sums, .ref q_most, .ref q_groups, .int u_groupCount, .ref q_payments])), (q_sums, .inl (C 0, 64, .inl u_sums)), (q_most, .inl (C 0, 64, .inl u_most))] → lv_has ls 4 [(0, .ref q_), (1, .int x1), (2, .int x2), (3, .int x3)] → W p l e R s m args below meth c H locs 0 0 Q (F0 m 4 ls []) := by
  have hx := cx.1
  have hb := cx.2.1
  intro n
  induction n with
  | zero => intro x2 x3 H locs ls hF; cases hF
  | succ n ih =>
    intro x2 x3 H locs ls hF hw hl
    rw [fX3_partsOf_L4.eq_2] at hF
    refine lv_iload_n hx hb dX3_partsOf_4 rfl (lv_at hl 3 rfl) ?_
    refine lv_iload_n hx hb dX3_partsOf_5 rfl (lv_at hl 1 rfl) ?_
    refine lv_icmp_gt (tgt := 47) hx hb dX3_partsOf_6 (by decide) (fun c1 => ?_) (fun c1 => ?_)
    · replace hF := oi_t c1 hF
      refine lv_iload_n hx hb dX3_partsOf_47 rfl (lv_at hl 2 rfl) ?_
      obtain rfl := Option.some.inj hF
      exact rt_i hret hw rfl dX3_partsOf_48
    · replace hF := oi_f c1 hF
      refine lv_iload_n hx hb dX3_partsOf_9 rfl (lv_at hl 3 rfl) ?_
      refine lv_bipush (v := 64) hx hb dX3_partsOf_10 (by decide) ?_
      refine lv_icmp_ge (tgt := 47) hx hb dX3_partsOf_12 (by decide) (fun c2 => ?_) (fun c2 => ?_)
      · replace hF := oi_t c2 hF
        refine lv_iload_n hx hb dX3_partsOf_47 rfl (lv_at hl 2 rfl) ?_
        obtain rfl := Option.some.inj hF
        exact rt_i hret hw rfl dX3_partsOf_48
      · replace hF := oi_f c2 hF
        refine lv_aload_n hx hb dX3_partsOf_15 rfl (lv_at hl 0 rfl) ?_
        refine lv_iload_n hx hb dX3_partsOf_16 rfl (lv_at hl 3 rfl) ?_
        refine lv_iload_n hx hb dX3_partsOf_17 rfl (lv_at hl 1 rfl) ?_
        obtain ⟨z3, hz3, hF⟩ := ob hF
        refine cV (wr := [(q_most, .inl (C 0, 64, .inl u_most))]) (w2 := [(q_, .inr (3, [.ref q_balances, .ref q_left, .ref q_sums, .ref q_most, .ref q_groups, .int u_groupCount, .ref q_payments])), (q_sums, .inl (C 0, 64, .inl u_sums)), (q_most, .inl (C 0, 64, .inl u_most))]) (st2 := [.int z3]) cx (CX3_isGroupOfLeast l D C q_ q_balances q_left q_sums q_most q_groups q_payments u_groupCount u_sums x3 x1 z3 hz3) lk_X3_98 my_X3_isGroupOfLeast ml_X3_isGroupOfLeast ⟨by decide, by decide⟩ hw [0, 1] [2] [1, 2, 0] rfl rfl (by decide) rfl rfl rfl rfl (Nat.le_of_ble_eq_true rfl) dX3_partsOf_18 rfl (fun H locs hw => ?_) hl.1
        refine lv_if_eq (tgt := 41) hx hb dX3_partsOf_21 (by decide) (fun c4 => ?_) (fun c4 => ?_)
        · replace hF := oi_t c4 hF
          refine lv_iinc (v := x3 + 1) (lv' := [(3, .int (x3 + 1)), (0, .ref q_), (1, .int x1), (2, .int x2)]) hx hb dX3_partsOf_41 hl (k := 3) rfl rfl (by decide) rfl (fun ls hl => ?_)
          refine lv_goto (tgt := 4) hx hb dX3_partsOf_44 (by decide) ?_
          exact ih x2 (x3 + 1) H locs ls hF hw (lv_sub hl [1, 2, 3, 0] rfl)
        · replace hF := oi_f c4 hF
          refine lv_iload_n hx hb dX3_partsOf_24 rfl (lv_at hl 2 rfl) ?_
          refine lv_iconst (v := 1) hx hb dX3_partsOf_25 (by decide) ?_
          refine lv_aload_n hx hb dX3_partsOf_26 rfl (lv_at hl 0 rfl) ?_
          refine r_get (ci := 3) (v := .ref q_most) cx hw iX3 0 3 rfl rfl (by decide) wf_X3_21 rfl dX3_partsOf_27 ?_
          refine lv_iload_n hx hb dX3_partsOf_30 rfl (lv_at hl 1 rfl) ?_
          refine lv_iload_n hx hb dX3_partsOf_31 rfl (lv_at hl 3 rfl) ?_
          refine lv_iconst (v := (-1)) hx hb dX3_partsOf_32 (by decide) ?_
          refine lv_ixor hx hb dX3_partsOf_33 ?_
          refine lv_iand hx hb dX3_partsOf_34 ?_
          obtain ⟨g5, hF⟩ := gA_s hF
          refine r_iald cx hw 2 rfl g5 dX3_partsOf_35 ?_
          refine lv_iadd hx hb dX3_partsOf_36 ?_
          refine va_mmax hx hb (cx.2.2.1.trans hl.1.symm) cx.2.2.2.1 (cx.2.2.2.2.1 _ lk_X3_44) (cx.2.2.2.2.1 _ mst_max) (cx.2.2.2.2.1 _ ini_Math) (cx.2.2.2.2.1 _ mco_max) (Nat.le_trans (by omega) cx.2.2.2.2.2.2.2.1) (Nat.le_trans (Nat.le_trans (m := 40) (Nat.le_of_ble_eq_true rfl) (by omega)) cx.2.2.2.2.2.2.2.2) (Nat.zero_le _) (Nat.zero_le _) dX3_partsOf_37 ?_
          refine lv_istore_n (lv' := [(2, .int (if x2 < (1 + (u_most (x1 &&& (x3 ^^^ (-1))).toNatClampNeg)) then (1 + (u_most (x1 &&& (x3 ^^^ (-1))).toNatClampNeg)) else x2)), (0, .ref q_), (1, .int x1), (3, .int x3)]) hx hb dX3_partsOf_40 rfl hl (by decide) rfl (fun ls hl => ?_)
          refine lv_iinc (v := x3 + 1) (lv' := [(3, .int (x3 + 1)), (2, .int (if x2 < (1 + (u_most (x1 &&& (x3 ^^^ (-1))).toNatClampNeg)) then (1 + (u_most (x1 &&& (x3 ^^^ (-1))).toNatClampNeg)) else x2)), (0, .ref q_), (1, .int x1)]) hx hb dX3_partsOf_41 hl (k := 3) rfl rfl (by decide) rfl (fun ls hl => ?_)
          refine lv_goto (tgt := 4) hx hb dX3_partsOf_44 (by decide) ?_
          exact ih (if x2 < (1 + (u_most (x1 &&& (x3 ^^^ (-1))).toNatClampNeg)) then (1 + (u_most (x1 &&& (x3 ^^^ (-1))).toNatClampNeg)) else x2) (x3 + 1) H locs ls hF hw (lv_sub hl [2, 3, 1, 0] rfl)
set_option maxRecDepth 20000 in
theorem CX3_partsOf (l : Launch) (D : va_G) (C : Nat → ClassId) (q_ q_balances q_left q_sums q_most q_groups q_payments : Nat) (u_groupCount : Int32) (u_sums : (Nat → Int32)) (u_most : (Nat → Int32)) (x1 : Int32) (z : Int32) (hF : fX3_partsOf u_sums u_most x1 = some z) : Ct l yX3_partsOf cX3_partsOf 4 (some .int) 2 D C [.ref q_, .int x1] [(q_, .inr (3, [.ref q_balances, .ref q_left, .ref q_sums, .ref q_most, .ref q_groups, .int u_groupCount, .ref q_payments])), (q_sums, .inl (C 0, 64, .inl u_sums)), (q_most, .inl (C 0, 64, .inl u_most))] [(q_, .inr (3, [.ref q_balances, .ref q_left, .ref q_sums, .ref q_most, .ref q_groups, .int u_groupCount, .ref q_payments])), (q_sums, .inl (C 0, 64, .inl u_sums)), (q_most, .inl (C 0, 64, .inl u_most))] (some (.int z)) := by
  refine Ct_of (by decide) (Nat.le_of_ble_eq_true rfl) ?_
  intro p e R s m args below meth c A Q H locs ls cx hw hl hret
  have cx : CX p m c s args RX3 cX3_partsOf 4 D C A R 2 := cx
  have hx := cx.1
  have hb := cx.2.1
  have hl : lv_has ls 4 [(0, .ref q_), (1, .int x1)] := hl
  rw [fX3_partsOf.eq_1] at hF
  refine lv_iconst (v := 0) hx hb dX3_partsOf_0 (by decide) ?_
  refine lv_istore_n (lv' := [(2, .int 0), (0, .ref q_), (1, .int x1)]) hx hb dX3_partsOf_1 rfl hl (by decide) rfl (fun ls hl => ?_)
  refine lv_iconst (v := 1) hx hb dX3_partsOf_2 (by decide) ?_
  refine lv_istore_n (lv' := [(3, .int 1), (2, .int 0), (0, .ref q_), (1, .int x1)]) hx hb dX3_partsOf_3 rfl hl (by decide) rfl (fun ls hl => ?_)
  refine LX3_partsOf_4 cx hret 400 0 1 H locs ls hF hw (lv_sub hl [2, 3, 1, 0] rfl)
theorem lk_X3_88 : Cond.methodLink RX3 88 yX3_open ∈ gdt := gdt_of 544 (by decide +kernel) (by decide +kernel)
theorem lk_X3_95 : Cond.methodLink RX3 95 yX3_partsOf ∈ gdt := gdt_of 548 (by decide +kernel) (by decide +kernel)
theorem my_X3_open : (yX3_open.cls ≠ "java/lang/invoke/MethodHandle" ∧ yX3_open.cls ≠ "java/lang/invoke/VarHandle") ∧ Cond.instanceMethod yX3_open ∈ gdt ∧ Cond.selects yX3_open.cls yX3_open yX3_open ∈ gdt ∧ Cond.initialized yX3_open.cls ∈ gdt ∧ Cond.code yX3_open cX3_open 3 (some .int) ∈ gdt := ⟨⟨by decide +kernel, by decide +kernel⟩, gdt_of 545 (by decide +kernel) (by decide +kernel), gdt_of 546 (by decide +kernel) (by decide +kernel), gdt_of 74 (by decide +kernel) (by decide +kernel), gdt_of 547 (by decide +kernel) (by decide +kernel)⟩
theorem ml_X3_open : (parseMethodDescriptor yX3_open.desc).map (fun d => d.parameters.length) = some 0 := by decide +kernel
theorem my_X3_partsOf : (yX3_partsOf.cls ≠ "java/lang/invoke/MethodHandle" ∧ yX3_partsOf.cls ≠ "java/lang/invoke/VarHandle") ∧ Cond.instanceMethod yX3_partsOf ∈ gdt ∧ Cond.selects yX3_partsOf.cls yX3_partsOf yX3_partsOf ∈ gdt ∧ Cond.initialized yX3_partsOf.cls ∈ gdt ∧ Cond.code yX3_partsOf cX3_partsOf 4 (some .int) ∈ gdt := ⟨⟨by decide +kernel, by decide +kernel⟩, gdt_of 550 (by decide +kernel) (by decide +kernel), gdt_of 15 (by decide +kernel) (by decide +kernel), gdt_of 74 (by decide +kernel) (by decide +kernel), gdt_of 551 (by decide +kernel) (by decide +kernel)⟩
theorem ml_X3_partsOf : (parseMethodDescriptor yX3_partsOf.desc).map (fun d => d.parameters.length) = some 1 := by decide +kernel
theorem dX3_countParts_0 : decode cX3_countParts 0 = .ok (.aload_n 0, 1) := by decide +kernel
theorem dX3_countParts_1 : decode cX3_countParts 1 = .ok (.invokevirtual 88, 3) := by decide +kernel
theorem dX3_countParts_4 : decode cX3_countParts 4 = .ok (.istore_n 1, 1) := by decide +kernel
theorem dX3_countParts_5 : decode cX3_countParts 5 = .ok (.aload_n 0, 1) := by decide +kernel
theorem dX3_countParts_6 : decode cX3_countParts 6 = .ok (.getfield 21, 3) := by decide +kernel
theorem dX3_countParts_9 : decode cX3_countParts 9 = .ok (.iconst 0, 1) := by decide +kernel
theorem dX3_countParts_10 : decode cX3_countParts 10 = .ok (.iconst 0, 1) := by decide +kernel
theorem dX3_countParts_11 : decode cX3_countParts 11 = .ok (.iastore, 1) := by decide +kernel
theorem dX3_countParts_12 : decode cX3_countParts 12 = .ok (.iconst 1, 1) := by decide +kernel
theorem dX3_countParts_13 : decode cX3_countParts 13 = .ok (.istore_n 2, 1) := by decide +kernel
theorem dX3_countParts_14 : decode cX3_countParts 14 = .ok (.iload_n 2, 1) := by decide +kernel
theorem dX3_countParts_15 : decode cX3_countParts 15 = .ok (.bipush 64, 2) := by decide +kernel
theorem dX3_countParts_17 : decode cX3_countParts 17 = .ok (.if_icmp .ge 43, 3) := by decide +kernel
theorem dX3_countParts_20 : decode cX3_countParts 20 = .ok (.aload_n 0, 1) := by decide +kernel
theorem dX3_countParts_21 : decode cX3_countParts 21 = .ok (.getfield 21, 3) := by decide +kernel
theorem dX3_countParts_24 : decode cX3_countParts 24 = .ok (.iload_n 2, 1) := by decide +kernel
theorem dX3_countParts_25 : decode cX3_countParts 25 = .ok (.iconst 0, 1) := by decide +kernel
theorem dX3_countParts_26 : decode cX3_countParts 26 = .ok (.iastore, 1) := by decide +kernel
theorem dX3_countParts_27 : decode cX3_countParts 27 = .ok (.iload_n 2, 1) := by decide +kernel
theorem dX3_countParts_28 : decode cX3_countParts 28 = .ok (.iload_n 1, 1) := by decide +kernel
theorem dX3_countParts_29 : decode cX3_countParts 29 = .ok (.iand, 1) := by decide +kernel
theorem dX3_countParts_30 : decode cX3_countParts 30 = .ok (.iload_n 2, 1) := by decide +kernel
theorem dX3_countParts_31 : decode cX3_countParts 31 = .ok (.if_icmp .ne 23, 3) := by decide +kernel
theorem dX3_countParts_34 : decode cX3_countParts 34 = .ok (.aload_n 0, 1) := by decide +kernel
theorem dX3_countParts_35 : decode cX3_countParts 35 = .ok (.getfield 18, 3) := by decide +kernel
theorem dX3_countParts_38 : decode cX3_countParts 38 = .ok (.iload_n 2, 1) := by decide +kernel
theorem dX3_countParts_39 : decode cX3_countParts 39 = .ok (.iaload, 1) := by decide +kernel
theorem dX3_countParts_40 : decode cX3_countParts 40 = .ok (.ifCond .ne 14, 3) := by decide +kernel
theorem dX3_countParts_43 : decode cX3_countParts 43 = .ok (.aload_n 0, 1) := by decide +kernel
theorem dX3_countParts_44 : decode cX3_countParts 44 = .ok (.getfield 21, 3) := by decide +kernel
theorem dX3_countParts_47 : decode cX3_countParts 47 = .ok (.iload_n 2, 1) := by decide +kernel
theorem dX3_countParts_48 : decode cX3_countParts 48 = .ok (.aload_n 0, 1) := by decide +kernel
theorem dX3_countParts_49 : decode cX3_countParts 49 = .ok (.iload_n 2, 1) := by decide +kernel
theorem dX3_countParts_50 : decode cX3_countParts 50 = .ok (.invokevirtual 95, 3) := by decide +kernel
theorem dX3_countParts_53 : decode cX3_countParts 53 = .ok (.iastore, 1) := by decide +kernel
theorem dX3_countParts_54 : decode cX3_countParts 54 = .ok (.iinc 2 1, 3) := by decide +kernel
theorem dX3_countParts_57 : decode cX3_countParts 57 = .ok (.goto (-43), 3) := by decide +kernel
theorem dX3_countParts_60 : decode cX3_countParts 60 = .ok (.return_, 1) := by decide +kernel
def fX3_countParts_L14 (u_sums : (Nat → Int32)) (x1 : Int32) : Nat → Int32 → (Nat → Int32) → Option (Nat → Int32)
  | 0, _, _ => none
  | n + 1, x2, u_most => if 64 ≤ x2 then (some u_most) else (gA x2 64 (if (x2 &&& x1) = x2 then (gA x2 64 (if (u_sums (x2).toNatClampNeg) = 0 then ((fX3_partsOf u_sums (upd u_most (x2 : Int32).toNatClampNeg 0) x2).bind (fun z8 => gA x2 64 (fX3_countParts_L14 u_sums x1 n (x2 + 1) (upd (upd u_most (x2 : Int32).toNatClampNeg 0) (x2 : Int32).toNatClampNeg z8)))) else (fX3_countParts_L14 u_sums x1 n (x2 + 1) (upd u_most (x2 : Int32).toNatClampNeg 0)))) else (fX3_countParts_L14 u_sums x1 n (x2 + 1) (upd u_most (x2 : Int32).toNatClampNeg 0))))
def fX3_countParts (u_balances : (Nat → Int32)) (u_sums : (Nat → Int32)) (u_most : (Nat → Int32)) : Option (Nat → Int32) := (fX3_open u_balances).bind (fun z1 => gA 0 64 (fX3_countParts_L14 u_sums z1 400 1 (upd u_most (0 : Int32).toNatClampNeg 0)))
set_option maxRecDepth 20000 in
theorem LX3_countParts_14 {p : Program} {l : Launch} {e : Env} {R : Room} {s : State} {m : MethodId} {args : Array Value} {below : List Frame} {meth : Method} {c : Code} {Q : State → Prop} {D : va_G} {C : Nat → ClassId} {A : Nat → Prop} (cx : CX p m c s args RX3 cX3_countParts 3 D C A R 3) {q_ q_balances q_left q_sums q_most q_groups q_payments : Nat} {u_groupCount : Int32} {u_balances : (Nat → Int32)} {u_sums : (Nat → Int32)} {x1 : Int32} {z : (Nat → Int32)} (hret : RT p l e R s m args below meth c Q D A cX3_countParts none [(q_, .inr (3, [.ref q_balances, .ref q_left, .ref q_sums, .ref q_most, .ref q_groups, .int u_groupCount, .ref q_payments])), (q_balances, .inl (C 0, 6, .inl u_balances)), (q_sums, .inl (C 0, 64, .inl u_sums)), (q_most, .inl (C 0, 64, .inl z))] none) :
    ∀ (n : Nat) (x2 : Int32) (u_most : (Nat → Int32)) (H : Heap) (locs : List Loc) (ls : Array Slot), fX3_countParts_L14 u_sums x1 n x2 u_most = some z → HW D A s.heap H locs [(q_, .inr (3, [.ref q_balances, .ref q_left, .ref q_sums, .ref q_most, .ref q_groups, .int u_groupCount, .ref q_payments])), (q_balances, .inl (C 0, 6, .inl u_balances)), (q_sums, .inl (C 0, 64, .inl u_sums)), (q_most, .inl (C 0, 64, .inl u_most))] → lv_has ls 3 [(0, .ref q_), (1, .int x1), (2, .int x2)] → W p l e R s m args below meth c H locs 0 0 Q (F0 m 14 ls []) := by
  have hx := cx.1
  have hb := cx.2.1
  intro n
  induction n with
  | zero => intro x2 u_most H locs ls hF; cases hF
  | succ n ih =>
    intro x2 u_most H locs ls hF hw hl
    rw [fX3_countParts_L14.eq_2] at hF
    refine lv_iload_n hx hb dX3_countParts_14 rfl (lv_at hl 2 rfl) ?_
    refine lv_bipush (v := 64) hx hb dX3_countParts_15 (by decide) ?_
    refine lv_icmp_ge (tgt := 60) hx hb dX3_countParts_17 (by decide) (fun c3 => ?_) (fun c3 => ?_)
    · replace hF := oi_t c3 hF
      obtain rfl := Option.some.inj hF
      exact rt_v hret hw rfl dX3_countParts_60
    · replace hF := oi_f c3 hF
      refine lv_aload_n hx hb dX3_countParts_20 rfl (lv_at hl 0 rfl) ?_
      refine r_get (ci := 3) (v := .ref q_most) cx hw iX3 0 3 rfl rfl (by decide) wf_X3_21 rfl dX3_countParts_21 ?_
      refine lv_iload_n hx hb dX3_countParts_24 rfl (lv_at hl 2 rfl) ?_
      refine lv_iconst (v := 0) hx hb dX3_countParts_25 (by decide) ?_
      obtain ⟨g4, hF⟩ := gA_s hF
      refine r_iast (w2 := [(q_, .inr (3, [.ref q_balances, .ref q_left, .ref q_sums, .ref q_most, .ref q_groups, .int u_groupCount, .ref q_payments])), (q_balances, .inl (C 0, 6, .inl u_balances)), (q_sums, .inl (C 0, 64, .inl u_sums)), (q_most, .inl (C 0, 64, .inl (upd u_most (x2 : Int32).toNatClampNeg 0)))]) cx hw 3 rfl g4 dX3_countParts_26 rfl (fun H locs hw => ?_)
      refine lv_iload_n hx hb dX3_countParts_27 rfl (lv_at hl 2 rfl) ?_
      refine lv_iload_n hx hb dX3_countParts_28 rfl (lv_at hl 1 rfl) ?_
      refine lv_iand hx hb dX3_countParts_29 ?_
      refine lv_iload_n hx hb dX3_countParts_30 rfl (lv_at hl 2 rfl) ?_
      refine lv_icmp_ne (tgt := 54) hx hb dX3_countParts_31 (by decide) (fun c5 => ?_) (fun c5 => ?_)
      · replace hF := oi_f c5 hF
        refine lv_iinc (v := x2 + 1) (lv' := [(2, .int (x2 + 1)), (0, .ref q_), (1, .int x1)]) hx hb dX3_countParts_54 hl (k := 2) rfl rfl (by decide) rfl (fun ls hl => ?_)
        refine lv_goto (tgt := 14) hx hb dX3_countParts_57 (by decide) ?_
        exact ih (x2 + 1) (upd u_most (x2 : Int32).toNatClampNeg 0) H locs ls hF hw (lv_sub hl [1, 2, 0] rfl)
      · replace hF := oi_t c5 hF
        refine lv_aload_n hx hb dX3_countParts_34 rfl (lv_at hl 0 rfl) ?_
        refine r_get (ci := 3) (v := .ref q_sums) cx hw iX3 0 2 rfl rfl (by decide) wf_X3_18 rfl dX3_countParts_35 ?_
        refine lv_iload_n hx hb dX3_countParts_38 rfl (lv_at hl 2 rfl) ?_
        obtain ⟨g6, hF⟩ := gA_s hF
        refine r_iald cx hw 2 rfl g6 dX3_countParts_39 ?_
        refine lv_if_ne (tgt := 54) hx hb dX3_countParts_40 (by decide) (fun c7 => ?_) (fun c7 => ?_)
        · replace hF := oi_f c7 hF
          refine lv_iinc (v := x2 + 1) (lv' := [(2, .int (x2 + 1)), (0, .ref q_), (1, .int x1)]) hx hb dX3_countParts_54 hl (k := 2) rfl rfl (by decide) rfl (fun ls hl => ?_)
          refine lv_goto (tgt := 14) hx hb dX3_countParts_57 (by decide) ?_
          exact ih (x2 + 1) (upd u_most (x2 : Int32).toNatClampNeg 0) H locs ls hF hw (lv_sub hl [1, 2, 0] rfl)
        · replace hF := oi_t c7 hF
          refine lv_aload_n hx hb dX3_countParts_43 rfl (lv_at hl 0 rfl) ?_
          refine r_get (ci := 3) (v := .ref q_most) cx hw iX3 0 3 rfl rfl (by decide) wf_X3_21 rfl dX3_countParts_44 ?_
          refine lv_iload_n hx hb dX3_countParts_47 rfl (lv_at hl 2 rfl) ?_
          refine lv_aload_n hx hb dX3_countParts_48 rfl (lv_at hl 0 rfl) ?_
          refine lv_iload_n hx hb dX3_countParts_49 rfl (lv_at hl 2 rfl) ?_
          obtain ⟨z8, hz8, hF⟩ := ob hF
          refine cV (wr := [(q_balances, .inl (C 0, 6, .inl u_balances))]) (w2 := [(q_, .inr (3, [.ref q_balances, .ref q_left, .ref q_sums, .ref q_most, .ref q_groups, .int u_groupCount, .ref q_payments])), (q_balances, .inl (C 0, 6, .inl u_balances)), (q_sums, .inl (C 0, 64, .inl u_sums)), (q_most, .inl (C 0, 64, .inl (upd u_most (x2 : Int32).toNatClampNeg 0)))]) (st2 := [.int z8, .int x2, .ref q_most]) cx (CX3_partsOf l D C q_ q_balances q_left q_sums q_most q_groups q_payments u_groupCount u_sums (upd u_most (x2 : Int32).toNatClampNeg 0) x2 z8 hz8) lk_X3_95 my_X3_partsOf ml_X3_partsOf ⟨by decide, by decide⟩ hw [0, 2, 3] [1] [1, 0, 2, 3] rfl rfl (by decide) rfl rfl rfl rfl (Nat.le_of_ble_eq_true rfl) dX3_countParts_50 rfl (fun H locs hw => ?_) hl.1
          obtain ⟨g9, hF⟩ := gA_s hF
          refine r_iast (w2 := [(q_, .inr (3, [.ref q_balances, .ref q_left, .ref q_sums, .ref q_most, .ref q_groups, .int u_groupCount, .ref q_payments])), (q_balances, .inl (C 0, 6, .inl u_balances)), (q_sums, .inl (C 0, 64, .inl u_sums)), (q_most, .inl (C 0, 64, .inl (upd (upd u_most (x2 : Int32).toNatClampNeg 0) (x2 : Int32).toNatClampNeg z8)))]) cx hw 3 rfl g9 dX3_countParts_53 rfl (fun H locs hw => ?_)
          refine lv_iinc (v := x2 + 1) (lv' := [(2, .int (x2 + 1)), (0, .ref q_), (1, .int x1)]) hx hb dX3_countParts_54 hl (k := 2) rfl rfl (by decide) rfl (fun ls hl => ?_)
          refine lv_goto (tgt := 14) hx hb dX3_countParts_57 (by decide) ?_
          exact ih (x2 + 1) (upd (upd u_most (x2 : Int32).toNatClampNeg 0) (x2 : Int32).toNatClampNeg z8) H locs ls hF hw (lv_sub hl [1, 2, 0] rfl)
set_option maxRecDepth 20000 in
theorem CX3_countParts (l : Launch) (D : va_G) (C : Nat → ClassId) (q_ q_balances q_left q_sums q_most q_groups q_payments : Nat) (u_groupCount : Int32) (u_balances : (Nat → Int32)) (u_sums : (Nat → Int32)) (u_most : (Nat → Int32)) (z : (Nat → Int32)) (hF : fX3_countParts u_balances u_sums u_most = some z) : Ct l yX3_countParts cX3_countParts 3 none 3 D C [.ref q_] [(q_, .inr (3, [.ref q_balances, .ref q_left, .ref q_sums, .ref q_most, .ref q_groups, .int u_groupCount, .ref q_payments])), (q_balances, .inl (C 0, 6, .inl u_balances)), (q_sums, .inl (C 0, 64, .inl u_sums)), (q_most, .inl (C 0, 64, .inl u_most))] [(q_, .inr (3, [.ref q_balances, .ref q_left, .ref q_sums, .ref q_most, .ref q_groups, .int u_groupCount, .ref q_payments])), (q_balances, .inl (C 0, 6, .inl u_balances)), (q_sums, .inl (C 0, 64, .inl u_sums)), (q_most, .inl (C 0, 64, .inl z))] none := by
  refine Ct_of (by decide) (Nat.le_of_ble_eq_true rfl) ?_
  intro p e R s m args below meth c A Q H locs ls cx hw hl hret
  have cx : CX p m c s args RX3 cX3_countParts 3 D C A R 3 := cx
  have hx := cx.1
  have hb := cx.2.1
  have hl : lv_has ls 3 [(0, .ref q_)] := hl
  rw [fX3_countParts.eq_1] at hF
  refine lv_aload_n hx hb dX3_countParts_0 rfl (lv_at hl 0 rfl) ?_
  obtain ⟨z1, hz1, hF⟩ := ob hF
  refine cV (wr := [(q_sums, .inl (C 0, 64, .inl u_sums)), (q_most, .inl (C 0, 64, .inl u_most))]) (w2 := [(q_, .inr (3, [.ref q_balances, .ref q_left, .ref q_sums, .ref q_most, .ref q_groups, .int u_groupCount, .ref q_payments])), (q_balances, .inl (C 0, 6, .inl u_balances)), (q_sums, .inl (C 0, 64, .inl u_sums)), (q_most, .inl (C 0, 64, .inl u_most))]) (st2 := [.int z1]) cx (CX3_open l D C q_ q_balances q_left q_sums q_most q_groups q_payments u_groupCount u_balances z1 hz1) lk_X3_88 my_X3_open ml_X3_open ⟨by decide, by decide⟩ hw [0, 1] [2, 3] [2, 3, 0, 1] rfl rfl (by decide) rfl rfl rfl rfl (Nat.le_of_ble_eq_true rfl) dX3_countParts_1 rfl (fun H locs hw => ?_) hl.1
  refine lv_istore_n (lv' := [(1, .int z1), (0, .ref q_)]) hx hb dX3_countParts_4 rfl hl (by decide) rfl (fun ls hl => ?_)
  refine lv_aload_n hx hb dX3_countParts_5 rfl (lv_at hl 1 rfl) ?_
  refine r_get (ci := 3) (v := .ref q_most) cx hw iX3 0 3 rfl rfl (by decide) wf_X3_21 rfl dX3_countParts_6 ?_
  refine lv_iconst (v := 0) hx hb dX3_countParts_9 (by decide) ?_
  refine lv_iconst (v := 0) hx hb dX3_countParts_10 (by decide) ?_
  obtain ⟨g2, hF⟩ := gA_s hF
  refine r_iast (w2 := [(q_, .inr (3, [.ref q_balances, .ref q_left, .ref q_sums, .ref q_most, .ref q_groups, .int u_groupCount, .ref q_payments])), (q_balances, .inl (C 0, 6, .inl u_balances)), (q_sums, .inl (C 0, 64, .inl u_sums)), (q_most, .inl (C 0, 64, .inl (upd u_most (0 : Int32).toNatClampNeg 0)))]) cx hw 3 rfl g2 dX3_countParts_11 rfl (fun H locs hw => ?_)
  refine lv_iconst (v := 1) hx hb dX3_countParts_12 (by decide) ?_
  refine lv_istore_n (lv' := [(2, .int 1), (1, .int z1), (0, .ref q_)]) hx hb dX3_countParts_13 rfl hl (by decide) rfl (fun ls hl => ?_)
  refine LX3_countParts_14 cx hret 400 1 (upd u_most (0 : Int32).toNatClampNeg 0) H locs ls hF hw (lv_sub hl [2, 1, 0] rfl)
theorem dX3_firstGroup_0 : decode cX3_firstGroup 0 = .ok (.iconst 1, 1) := by decide +kernel
theorem dX3_firstGroup_1 : decode cX3_firstGroup 1 = .ok (.istore_n 2, 1) := by decide +kernel
theorem dX3_firstGroup_2 : decode cX3_firstGroup 2 = .ok (.iload_n 2, 1) := by decide +kernel
theorem dX3_firstGroup_3 : decode cX3_firstGroup 3 = .ok (.iload_n 1, 1) := by decide +kernel
theorem dX3_firstGroup_4 : decode cX3_firstGroup 4 = .ok (.if_icmp .ge 47, 3) := by decide +kernel
theorem dX3_firstGroup_7 : decode cX3_firstGroup 7 = .ok (.iload_n 2, 1) := by decide +kernel
theorem dX3_firstGroup_8 : decode cX3_firstGroup 8 = .ok (.bipush 64, 2) := by decide +kernel
theorem dX3_firstGroup_10 : decode cX3_firstGroup 10 = .ok (.if_icmp .ge 41, 3) := by decide +kernel
theorem dX3_firstGroup_13 : decode cX3_firstGroup 13 = .ok (.aload_n 0, 1) := by decide +kernel
theorem dX3_firstGroup_14 : decode cX3_firstGroup 14 = .ok (.iload_n 2, 1) := by decide +kernel
theorem dX3_firstGroup_15 : decode cX3_firstGroup 15 = .ok (.iload_n 1, 1) := by decide +kernel
theorem dX3_firstGroup_16 : decode cX3_firstGroup 16 = .ok (.invokevirtual 98, 3) := by decide +kernel
theorem dX3_firstGroup_19 : decode cX3_firstGroup 19 = .ok (.ifCond .eq 26, 3) := by decide +kernel
theorem dX3_firstGroup_22 : decode cX3_firstGroup 22 = .ok (.iconst 1, 1) := by decide +kernel
theorem dX3_firstGroup_23 : decode cX3_firstGroup 23 = .ok (.aload_n 0, 1) := by decide +kernel
theorem dX3_firstGroup_24 : decode cX3_firstGroup 24 = .ok (.getfield 21, 3) := by decide +kernel
theorem dX3_firstGroup_27 : decode cX3_firstGroup 27 = .ok (.iload_n 1, 1) := by decide +kernel
theorem dX3_firstGroup_28 : decode cX3_firstGroup 28 = .ok (.iload_n 2, 1) := by decide +kernel
theorem dX3_firstGroup_29 : decode cX3_firstGroup 29 = .ok (.iconst (-1), 1) := by decide +kernel
theorem dX3_firstGroup_30 : decode cX3_firstGroup 30 = .ok (.ixor, 1) := by decide +kernel
theorem dX3_firstGroup_31 : decode cX3_firstGroup 31 = .ok (.iand, 1) := by decide +kernel
theorem dX3_firstGroup_32 : decode cX3_firstGroup 32 = .ok (.iaload, 1) := by decide +kernel
theorem dX3_firstGroup_33 : decode cX3_firstGroup 33 = .ok (.iadd, 1) := by decide +kernel
theorem dX3_firstGroup_34 : decode cX3_firstGroup 34 = .ok (.aload_n 0, 1) := by decide +kernel
theorem dX3_firstGroup_35 : decode cX3_firstGroup 35 = .ok (.getfield 21, 3) := by decide +kernel
theorem dX3_firstGroup_38 : decode cX3_firstGroup 38 = .ok (.iload_n 1, 1) := by decide +kernel
theorem dX3_firstGroup_39 : decode cX3_firstGroup 39 = .ok (.iaload, 1) := by decide +kernel
theorem dX3_firstGroup_40 : decode cX3_firstGroup 40 = .ok (.if_icmp .ne 5, 3) := by decide +kernel
theorem dX3_firstGroup_43 : decode cX3_firstGroup 43 = .ok (.iload_n 2, 1) := by decide +kernel
theorem dX3_firstGroup_44 : decode cX3_firstGroup 44 = .ok (.ireturn, 1) := by decide +kernel
theorem dX3_firstGroup_45 : decode cX3_firstGroup 45 = .ok (.iinc 2 1, 3) := by decide +kernel
theorem dX3_firstGroup_48 : decode cX3_firstGroup 48 = .ok (.goto (-46), 3) := by decide +kernel
theorem dX3_firstGroup_51 : decode cX3_firstGroup 51 = .ok (.iload_n 1, 1) := by decide +kernel
theorem dX3_firstGroup_52 : decode cX3_firstGroup 52 = .ok (.ireturn, 1) := by decide +kernel
def fX3_firstGroup_L2 (u_sums : (Nat → Int32)) (u_most : (Nat → Int32)) (x1 : Int32) : Nat → Int32 → Option Int32
  | 0, _ => none
  | n + 1, x2 => if x1 ≤ x2 then (some x1) else (if 64 ≤ x2 then (some x1) else ((fX3_isGroupOfLeast u_sums x2 x1).bind (fun z3 => if z3 = 0 then (fX3_firstGroup_L2 u_sums u_most x1 n (x2 + 1)) else (gA (x1 &&& (x2 ^^^ (-1))) 64 (gA x1 64 (if (1 + (u_most (x1 &&& (x2 ^^^ (-1))).toNatClampNeg)) = (u_most (x1).toNatClampNeg) then (some x2) else (fX3_firstGroup_L2 u_sums u_most x1 n (x2 + 1))))))))
def fX3_firstGroup (u_sums : (Nat → Int32)) (u_most : (Nat → Int32)) (x1 : Int32) : Option Int32 := fX3_firstGroup_L2 u_sums u_most x1 400 1
set_option maxRecDepth 20000 in
theorem LX3_firstGroup_2 {p : Program} {l : Launch} {e : Env} {R : Room} {s : State} {m : MethodId} {args : Array Value} {below : List Frame} {meth : Method} {c : Code} {Q : State → Prop} {D : va_G} {C : Nat → ClassId} {A : Nat → Prop} (cx : CX p m c s args RX3 cX3_firstGroup 3 D C A R 2) {q_ q_balances q_left q_sums q_most q_groups q_payments : Nat} {u_groupCount : Int32} {u_sums : (Nat → Int32)} {u_most : (Nat → Int32)} {x1 : Int32} {z : Int32} (hret : RT p l e R s m args below meth c Q D A cX3_firstGroup (some .int) [(q_, .inr (3, [.ref q_balances, .ref q_left, .ref q_sums, .ref q_most, .ref q_groups, .int u_groupCount, .ref q_payments])), (q_sums, .inl (C 0, 64, .inl u_sums)), (q_most, .inl (C 0, 64, .inl u_most))] (some (.int z))) :
    ∀ (n : Nat) (x2 : Int32) (H : Heap) (locs : List Loc) (ls : Array Slot), fX3_firstGroup_L2 u_sums u_most x1 n x2 = some z → HW D A s.heap H locs [(q_, .inr (3, [.ref q_balances, .ref q_left, .ref q_sums, .ref q_most, .ref q_groups, .int u_groupCount, .ref q_payments])), (q_sums, .inl (C 0, 64, .inl u_sums)), (q_most, .inl (C 0, 64, .inl u_most))] → lv_has ls 3 [(0, .ref q_), (1, .int x1), (2, .int x2)] → W p l e R s m args below meth c H locs 0 0 Q (F0 m 2 ls []) := by
  have hx := cx.1
  have hb := cx.2.1
  intro n
  induction n with
  | zero => intro x2 H locs ls hF; cases hF
  | succ n ih =>
    intro x2 H locs ls hF hw hl
    rw [fX3_firstGroup_L2.eq_2] at hF
    refine lv_iload_n hx hb dX3_firstGroup_2 rfl (lv_at hl 2 rfl) ?_
    refine lv_iload_n hx hb dX3_firstGroup_3 rfl (lv_at hl 1 rfl) ?_
    refine lv_icmp_ge (tgt := 51) hx hb dX3_firstGroup_4 (by decide) (fun c1 => ?_) (fun c1 => ?_)
    · replace hF := oi_t c1 hF
      refine lv_iload_n hx hb dX3_firstGroup_51 rfl (lv_at hl 1 rfl) ?_
      obtain rfl := Option.some.inj hF
      exact rt_i hret hw rfl dX3_firstGroup_52
    · replace hF := oi_f c1 hF
      refine lv_iload_n hx hb dX3_firstGroup_7 rfl (lv_at hl 2 rfl) ?_
      refine lv_bipush (v := 64) hx hb dX3_firstGroup_8 (by decide) ?_
      refine lv_icmp_ge (tgt := 51) hx hb dX3_firstGroup_10 (by decide) (fun c2 => ?_) (fun c2 => ?_)
      · replace hF := oi_t c2 hF
        refine lv_iload_n hx hb dX3_firstGroup_51 rfl (lv_at hl 1 rfl) ?_
        obtain rfl := Option.some.inj hF
        exact rt_i hret hw rfl dX3_firstGroup_52
      · replace hF := oi_f c2 hF
        refine lv_aload_n hx hb dX3_firstGroup_13 rfl (lv_at hl 0 rfl) ?_
        refine lv_iload_n hx hb dX3_firstGroup_14 rfl (lv_at hl 2 rfl) ?_
        refine lv_iload_n hx hb dX3_firstGroup_15 rfl (lv_at hl 1 rfl) ?_
        obtain ⟨z3, hz3, hF⟩ := ob hF
        refine cV (wr := [(q_most, .inl (C 0, 64, .inl u_most))]) (w2 := [(q_, .inr (3, [.ref q_balances, .ref q_left, .ref q_sums, .ref q_most, .ref q_groups, .int u_groupCount, .ref q_payments])), (q_sums, .inl (C 0, 64, .inl u_sums)), (q_most, .inl (C 0, 64, .inl u_most))]) (st2 := [.int z3]) cx (CX3_isGroupOfLeast l D C q_ q_balances q_left q_sums q_most q_groups q_payments u_groupCount u_sums x2 x1 z3 hz3) lk_X3_98 my_X3_isGroupOfLeast ml_X3_isGroupOfLeast ⟨by decide, by decide⟩ hw [0, 1] [2] [1, 2, 0] rfl rfl (by decide) rfl rfl rfl rfl (Nat.le_of_ble_eq_true rfl) dX3_firstGroup_16 rfl (fun H locs hw => ?_) hl.1
        refine lv_if_eq (tgt := 45) hx hb dX3_firstGroup_19 (by decide) (fun c4 => ?_) (fun c4 => ?_)
        · replace hF := oi_t c4 hF
          refine lv_iinc (v := x2 + 1) (lv' := [(2, .int (x2 + 1)), (0, .ref q_), (1, .int x1)]) hx hb dX3_firstGroup_45 hl (k := 2) rfl rfl (by decide) rfl (fun ls hl => ?_)
          refine lv_goto (tgt := 2) hx hb dX3_firstGroup_48 (by decide) ?_
          exact ih (x2 + 1) H locs ls hF hw (lv_sub hl [1, 2, 0] rfl)
        · replace hF := oi_f c4 hF
          refine lv_iconst (v := 1) hx hb dX3_firstGroup_22 (by decide) ?_
          refine lv_aload_n hx hb dX3_firstGroup_23 rfl (lv_at hl 0 rfl) ?_
          refine r_get (ci := 3) (v := .ref q_most) cx hw iX3 0 3 rfl rfl (by decide) wf_X3_21 rfl dX3_firstGroup_24 ?_
          refine lv_iload_n hx hb dX3_firstGroup_27 rfl (lv_at hl 1 rfl) ?_
          refine lv_iload_n hx hb dX3_firstGroup_28 rfl (lv_at hl 2 rfl) ?_
          refine lv_iconst (v := (-1)) hx hb dX3_firstGroup_29 (by decide) ?_
          refine lv_ixor hx hb dX3_firstGroup_30 ?_
          refine lv_iand hx hb dX3_firstGroup_31 ?_
          obtain ⟨g5, hF⟩ := gA_s hF
          refine r_iald cx hw 2 rfl g5 dX3_firstGroup_32 ?_
          refine lv_iadd hx hb dX3_firstGroup_33 ?_
          refine lv_aload_n hx hb dX3_firstGroup_34 rfl (lv_at hl 0 rfl) ?_
          refine r_get (ci := 3) (v := .ref q_most) cx hw iX3 0 3 rfl rfl (by decide) wf_X3_21 rfl dX3_firstGroup_35 ?_
          refine lv_iload_n hx hb dX3_firstGroup_38 rfl (lv_at hl 1 rfl) ?_
          obtain ⟨g6, hF⟩ := gA_s hF
          refine r_iald cx hw 2 rfl g6 dX3_firstGroup_39 ?_
          refine lv_icmp_ne (tgt := 45) hx hb dX3_firstGroup_40 (by decide) (fun c7 => ?_) (fun c7 => ?_)
          · replace hF := oi_f c7 hF
            refine lv_iinc (v := x2 + 1) (lv' := [(2, .int (x2 + 1)), (0, .ref q_), (1, .int x1)]) hx hb dX3_firstGroup_45 hl (k := 2) rfl rfl (by decide) rfl (fun ls hl => ?_)
            refine lv_goto (tgt := 2) hx hb dX3_firstGroup_48 (by decide) ?_
            exact ih (x2 + 1) H locs ls hF hw (lv_sub hl [1, 2, 0] rfl)
          · replace hF := oi_t c7 hF
            refine lv_iload_n hx hb dX3_firstGroup_43 rfl (lv_at hl 2 rfl) ?_
            obtain rfl := Option.some.inj hF
            exact rt_i hret hw rfl dX3_firstGroup_44
set_option maxRecDepth 20000 in
theorem CX3_firstGroup (l : Launch) (D : va_G) (C : Nat → ClassId) (q_ q_balances q_left q_sums q_most q_groups q_payments : Nat) (u_groupCount : Int32) (u_sums : (Nat → Int32)) (u_most : (Nat → Int32)) (x1 : Int32) (z : Int32) (hF : fX3_firstGroup u_sums u_most x1 = some z) : Ct l yX3_firstGroup cX3_firstGroup 3 (some .int) 2 D C [.ref q_, .int x1] [(q_, .inr (3, [.ref q_balances, .ref q_left, .ref q_sums, .ref q_most, .ref q_groups, .int u_groupCount, .ref q_payments])), (q_sums, .inl (C 0, 64, .inl u_sums)), (q_most, .inl (C 0, 64, .inl u_most))] [(q_, .inr (3, [.ref q_balances, .ref q_left, .ref q_sums, .ref q_most, .ref q_groups, .int u_groupCount, .ref q_payments])), (q_sums, .inl (C 0, 64, .inl u_sums)), (q_most, .inl (C 0, 64, .inl u_most))] (some (.int z)) := by
  refine Ct_of (by decide) (Nat.le_of_ble_eq_true rfl) ?_
  intro p e R s m args below meth c A Q H locs ls cx hw hl hret
  have cx : CX p m c s args RX3 cX3_firstGroup 3 D C A R 2 := cx
  have hx := cx.1
  have hb := cx.2.1
  have hl : lv_has ls 3 [(0, .ref q_), (1, .int x1)] := hl
  rw [fX3_firstGroup.eq_1] at hF
  refine lv_iconst (v := 1) hx hb dX3_firstGroup_0 (by decide) ?_
  refine lv_istore_n (lv' := [(2, .int 1), (0, .ref q_), (1, .int x1)]) hx hb dX3_firstGroup_1 rfl hl (by decide) rfl (fun ls hl => ?_)
  refine LX3_firstGroup_2 cx hret 400 1 H locs ls hF hw (lv_sub hl [1, 2, 0] rfl)
theorem lk_X3_92 : Cond.methodLink RX3 92 yX3_firstGroup ∈ gdt := gdt_of 561 (by decide +kernel) (by decide +kernel)
theorem my_X3_firstGroup : (yX3_firstGroup.cls ≠ "java/lang/invoke/MethodHandle" ∧ yX3_firstGroup.cls ≠ "java/lang/invoke/VarHandle") ∧ Cond.instanceMethod yX3_firstGroup ∈ gdt ∧ Cond.selects yX3_firstGroup.cls yX3_firstGroup yX3_firstGroup ∈ gdt ∧ Cond.initialized yX3_firstGroup.cls ∈ gdt ∧ Cond.code yX3_firstGroup cX3_firstGroup 3 (some .int) ∈ gdt := ⟨⟨by decide +kernel, by decide +kernel⟩, gdt_of 563 (by decide +kernel) (by decide +kernel), gdt_of 18 (by decide +kernel) (by decide +kernel), gdt_of 74 (by decide +kernel) (by decide +kernel), gdt_of 564 (by decide +kernel) (by decide +kernel)⟩
theorem ml_X3_firstGroup : (parseMethodDescriptor yX3_firstGroup.desc).map (fun d => d.parameters.length) = some 1 := by decide +kernel
theorem dX3_partOpen_0 : decode cX3_partOpen 0 = .ok (.aload_n 0, 1) := by decide +kernel
theorem dX3_partOpen_1 : decode cX3_partOpen 1 = .ok (.invokevirtual 88, 3) := by decide +kernel
theorem dX3_partOpen_4 : decode cX3_partOpen 4 = .ok (.istore_n 1, 1) := by decide +kernel
theorem dX3_partOpen_5 : decode cX3_partOpen 5 = .ok (.aload_n 0, 1) := by decide +kernel
theorem dX3_partOpen_6 : decode cX3_partOpen 6 = .ok (.iconst 0, 1) := by decide +kernel
theorem dX3_partOpen_7 : decode cX3_partOpen 7 = .ok (.putfield 27, 3) := by decide +kernel
theorem dX3_partOpen_10 : decode cX3_partOpen 10 = .ok (.iconst 0, 1) := by decide +kernel
theorem dX3_partOpen_11 : decode cX3_partOpen 11 = .ok (.istore_n 2, 1) := by decide +kernel
theorem dX3_partOpen_12 : decode cX3_partOpen 12 = .ok (.iload_n 2, 1) := by decide +kernel
theorem dX3_partOpen_13 : decode cX3_partOpen 13 = .ok (.bipush 6, 2) := by decide +kernel
theorem dX3_partOpen_15 : decode cX3_partOpen 15 = .ok (.if_icmp .ge 39, 3) := by decide +kernel
theorem dX3_partOpen_18 : decode cX3_partOpen 18 = .ok (.iload_n 1, 1) := by decide +kernel
theorem dX3_partOpen_19 : decode cX3_partOpen 19 = .ok (.ifCond .eq 35, 3) := by decide +kernel
theorem dX3_partOpen_22 : decode cX3_partOpen 22 = .ok (.aload_n 0, 1) := by decide +kernel
theorem dX3_partOpen_23 : decode cX3_partOpen 23 = .ok (.iload_n 1, 1) := by decide +kernel
theorem dX3_partOpen_24 : decode cX3_partOpen 24 = .ok (.invokevirtual 92, 3) := by decide +kernel
theorem dX3_partOpen_27 : decode cX3_partOpen 27 = .ok (.istore_n 3, 1) := by decide +kernel
theorem dX3_partOpen_28 : decode cX3_partOpen 28 = .ok (.aload_n 0, 1) := by decide +kernel
theorem dX3_partOpen_29 : decode cX3_partOpen 29 = .ok (.getfield 24, 3) := by decide +kernel
theorem dX3_partOpen_32 : decode cX3_partOpen 32 = .ok (.iload_n 2, 1) := by decide +kernel
theorem dX3_partOpen_33 : decode cX3_partOpen 33 = .ok (.iload_n 3, 1) := by decide +kernel
theorem dX3_partOpen_34 : decode cX3_partOpen 34 = .ok (.iastore, 1) := by decide +kernel
theorem dX3_partOpen_35 : decode cX3_partOpen 35 = .ok (.aload_n 0, 1) := by decide +kernel
theorem dX3_partOpen_36 : decode cX3_partOpen 36 = .ok (.iload_n 2, 1) := by decide +kernel
theorem dX3_partOpen_37 : decode cX3_partOpen 37 = .ok (.iconst 1, 1) := by decide +kernel
theorem dX3_partOpen_38 : decode cX3_partOpen 38 = .ok (.iadd, 1) := by decide +kernel
theorem dX3_partOpen_39 : decode cX3_partOpen 39 = .ok (.putfield 27, 3) := by decide +kernel
theorem dX3_partOpen_42 : decode cX3_partOpen 42 = .ok (.iload_n 1, 1) := by decide +kernel
theorem dX3_partOpen_43 : decode cX3_partOpen 43 = .ok (.iload_n 3, 1) := by decide +kernel
theorem dX3_partOpen_44 : decode cX3_partOpen 44 = .ok (.iconst (-1), 1) := by decide +kernel
theorem dX3_partOpen_45 : decode cX3_partOpen 45 = .ok (.ixor, 1) := by decide +kernel
theorem dX3_partOpen_46 : decode cX3_partOpen 46 = .ok (.iand, 1) := by decide +kernel
theorem dX3_partOpen_47 : decode cX3_partOpen 47 = .ok (.istore_n 1, 1) := by decide +kernel
theorem dX3_partOpen_48 : decode cX3_partOpen 48 = .ok (.iinc 2 1, 3) := by decide +kernel
theorem dX3_partOpen_51 : decode cX3_partOpen 51 = .ok (.goto (-39), 3) := by decide +kernel
theorem dX3_partOpen_54 : decode cX3_partOpen 54 = .ok (.return_, 1) := by decide +kernel
def fX3_partOpen_L12 (u_sums : (Nat → Int32)) (u_most : (Nat → Int32)) : Nat → Int32 → Int32 → Int32 → (Nat → Int32) → Option (Int32 × (Nat → Int32))
  | 0, _, _, _, _ => none
  | n + 1, x1, x2, u_groupCount, u_groups => if 6 ≤ x2 then (some (u_groupCount, u_groups)) else (if x1 = 0 then (some (u_groupCount, u_groups)) else ((fX3_firstGroup u_sums u_most x1).bind (fun z4 => gA x2 6 (fX3_partOpen_L12 u_sums u_most n (x1 &&& (z4 ^^^ (-1))) (x2 + 1) (x2 + 1) (upd u_groups (x2 : Int32).toNatClampNeg z4)))))
def fX3_partOpen (u_balances : (Nat → Int32)) (u_sums : (Nat → Int32)) (u_most : (Nat → Int32)) (u_groups : (Nat → Int32)) : Option (Int32 × (Nat → Int32)) := (fX3_open u_balances).bind (fun z1 => fX3_partOpen_L12 u_sums u_most 400 z1 0 0 u_groups)
set_option maxRecDepth 20000 in
theorem LX3_partOpen_12 {p : Program} {l : Launch} {e : Env} {R : Room} {s : State} {m : MethodId} {args : Array Value} {below : List Frame} {meth : Method} {c : Code} {Q : State → Prop} {D : va_G} {C : Nat → ClassId} {A : Nat → Prop} (cx : CX p m c s args RX3 cX3_partOpen 4 D C A R 3) {q_ q_balances q_left q_sums q_most q_groups q_payments : Nat} {u_balances : (Nat → Int32)} {u_sums : (Nat → Int32)} {u_most : (Nat → Int32)} {z : (Int32 × (Nat → Int32))} (hret : RT p l e R s m args below meth c Q D A cX3_partOpen none [(q_, .inr (3, [.ref q_balances, .ref q_left, .ref q_sums, .ref q_most, .ref q_groups, .int z.1, .ref q_payments])), (q_balances, .inl (C 0, 6, .inl u_balances)), (q_sums, .inl (C 0, 64, .inl u_sums)), (q_most, .inl (C 0, 64, .inl u_most)), (q_groups, .inl (C 0, 6, .inl z.2))] none) :
    ∀ (n : Nat) (x1 : Int32) (x2 : Int32) (u_groupCount : Int32) (u_groups : (Nat → Int32)) (H : Heap) (locs : List Loc) (ls : Array Slot), fX3_partOpen_L12 u_sums u_most n x1 x2 u_groupCount u_groups = some z → HW D A s.heap H locs [(q_, .inr (3, [.ref q_balances, .ref q_left, .ref q_sums, .ref q_most, .ref q_groups, .int u_groupCount, .ref q_payments])), (q_balances, .inl (C 0, 6, .inl u_balances)), (q_sums, .inl (C 0, 64, .inl u_sums)), (q_most, .inl (C 0, 64, .inl u_most)), (q_groups, .inl (C 0, 6, .inl u_groups))] → lv_has ls 4 [(0, .ref q_), (1, .int x1), (2, .int x2)] → W p l e R s m args below meth c H locs 0 0 Q (F0 m 12 ls []) := by
  have hx := cx.1
  have hb := cx.2.1
  intro n
  induction n with
  | zero => intro x1 x2 u_groupCount u_groups H locs ls hF; cases hF
  | succ n ih =>
    intro x1 x2 u_groupCount u_groups H locs ls hF hw hl
    rw [fX3_partOpen_L12.eq_2] at hF
    refine lv_iload_n hx hb dX3_partOpen_12 rfl (lv_at hl 2 rfl) ?_
    refine lv_bipush (v := 6) hx hb dX3_partOpen_13 (by decide) ?_
    refine lv_icmp_ge (tgt := 54) hx hb dX3_partOpen_15 (by decide) (fun c2 => ?_) (fun c2 => ?_)
    · replace hF := oi_t c2 hF
      obtain rfl := Option.some.inj hF
      exact rt_v hret hw rfl dX3_partOpen_54
    · replace hF := oi_f c2 hF
      refine lv_iload_n hx hb dX3_partOpen_18 rfl (lv_at hl 1 rfl) ?_
      refine lv_if_eq (tgt := 54) hx hb dX3_partOpen_19 (by decide) (fun c3 => ?_) (fun c3 => ?_)
      · replace hF := oi_t c3 hF
        obtain rfl := Option.some.inj hF
        exact rt_v hret hw rfl dX3_partOpen_54
      · replace hF := oi_f c3 hF
        refine lv_aload_n hx hb dX3_partOpen_22 rfl (lv_at hl 0 rfl) ?_
        refine lv_iload_n hx hb dX3_partOpen_23 rfl (lv_at hl 1 rfl) ?_
        obtain ⟨z4, hz4, hF⟩ := ob hF
        refine cV (wr := [(q_balances, .inl (C 0, 6, .inl u_balances)), (q_groups, .inl (C 0, 6, .inl u_groups))]) (w2 := [(q_, .inr (3, [.ref q_balances, .ref q_left, .ref q_sums, .ref q_most, .ref q_groups, .int u_groupCount, .ref q_payments])), (q_balances, .inl (C 0, 6, .inl u_balances)), (q_sums, .inl (C 0, 64, .inl u_sums)), (q_most, .inl (C 0, 64, .inl u_most)), (q_groups, .inl (C 0, 6, .inl u_groups))]) (st2 := [.int z4]) cx (CX3_firstGroup l D C q_ q_balances q_left q_sums q_most q_groups q_payments u_groupCount u_sums u_most x1 z4 hz4) lk_X3_92 my_X3_firstGroup ml_X3_firstGroup ⟨by decide, by decide⟩ hw [0, 2, 3] [1, 4] [2, 0, 3, 4, 1] rfl rfl (by decide) rfl rfl rfl rfl (Nat.le_of_ble_eq_true rfl) dX3_partOpen_24 rfl (fun H locs hw => ?_) hl.1
        refine lv_istore_n (lv' := [(3, .int z4), (0, .ref q_), (1, .int x1), (2, .int x2)]) hx hb dX3_partOpen_27 rfl hl (by decide) rfl (fun ls hl => ?_)
        refine lv_aload_n hx hb dX3_partOpen_28 rfl (lv_at hl 1 rfl) ?_
        refine r_get (ci := 3) (v := .ref q_groups) cx hw iX3 0 4 rfl rfl (by decide) wf_X3_24 rfl dX3_partOpen_29 ?_
        refine lv_iload_n hx hb dX3_partOpen_32 rfl (lv_at hl 3 rfl) ?_
        refine lv_iload_n hx hb dX3_partOpen_33 rfl (lv_at hl 0 rfl) ?_
        obtain ⟨g5, hF⟩ := gA_s hF
        refine r_iast (w2 := [(q_, .inr (3, [.ref q_balances, .ref q_left, .ref q_sums, .ref q_most, .ref q_groups, .int u_groupCount, .ref q_payments])), (q_balances, .inl (C 0, 6, .inl u_balances)), (q_sums, .inl (C 0, 64, .inl u_sums)), (q_most, .inl (C 0, 64, .inl u_most)), (q_groups, .inl (C 0, 6, .inl (upd u_groups (x2 : Int32).toNatClampNeg z4)))]) cx hw 4 rfl g5 dX3_partOpen_34 rfl (fun H locs hw => ?_)
        refine lv_aload_n hx hb dX3_partOpen_35 rfl (lv_at hl 1 rfl) ?_
        refine lv_iload_n hx hb dX3_partOpen_36 rfl (lv_at hl 3 rfl) ?_
        refine lv_iconst (v := 1) hx hb dX3_partOpen_37 (by decide) ?_
        refine lv_iadd hx hb dX3_partOpen_38 ?_
        refine r_put (ci := 3) (w2 := [(q_, .inr (3, [.ref q_balances, .ref q_left, .ref q_sums, .ref q_most, .ref q_groups, .int (x2 + 1), .ref q_payments])), (q_balances, .inl (C 0, 6, .inl u_balances)), (q_sums, .inl (C 0, 64, .inl u_sums)), (q_most, .inl (C 0, 64, .inl u_most)), (q_groups, .inl (C 0, 6, .inl (upd u_groups (x2 : Int32).toNatClampNeg z4)))]) cx hw iX3 tyX3_ok nmX3 0 5 rfl rfl (by decide) wf_X3_27 rfl rfl rfl rfl (Nat.le_of_ble_eq_true rfl) dX3_partOpen_39 rfl (fun H locs hw => ?_)
        refine lv_iload_n hx hb dX3_partOpen_42 rfl (lv_at hl 2 rfl) ?_
        refine lv_iload_n hx hb dX3_partOpen_43 rfl (lv_at hl 0 rfl) ?_
        refine lv_iconst (v := (-1)) hx hb dX3_partOpen_44 (by decide) ?_
        refine lv_ixor hx hb dX3_partOpen_45 ?_
        refine lv_iand hx hb dX3_partOpen_46 ?_
        refine lv_istore_n (lv' := [(1, .int (x1 &&& (z4 ^^^ (-1)))), (3, .int z4), (0, .ref q_), (2, .int x2)]) hx hb dX3_partOpen_47 rfl hl (by decide) rfl (fun ls hl => ?_)
        refine lv_iinc (v := x2 + 1) (lv' := [(2, .int (x2 + 1)), (1, .int (x1 &&& (z4 ^^^ (-1)))), (3, .int z4), (0, .ref q_)]) hx hb dX3_partOpen_48 hl (k := 3) rfl rfl (by decide) rfl (fun ls hl => ?_)
        refine lv_goto (tgt := 12) hx hb dX3_partOpen_51 (by decide) ?_
        exact ih (x1 &&& (z4 ^^^ (-1))) (x2 + 1) (x2 + 1) (upd u_groups (x2 : Int32).toNatClampNeg z4) H locs ls hF hw (lv_sub hl [3, 1, 0] rfl)
set_option maxRecDepth 20000 in
theorem CX3_partOpen (l : Launch) (D : va_G) (C : Nat → ClassId) (q_ q_balances q_left q_sums q_most q_groups q_payments : Nat) (u_groupCount : Int32) (u_balances : (Nat → Int32)) (u_sums : (Nat → Int32)) (u_most : (Nat → Int32)) (u_groups : (Nat → Int32)) (z : (Int32 × (Nat → Int32))) (hF : fX3_partOpen u_balances u_sums u_most u_groups = some z) : Ct l yX3_partOpen cX3_partOpen 4 none 3 D C [.ref q_] [(q_, .inr (3, [.ref q_balances, .ref q_left, .ref q_sums, .ref q_most, .ref q_groups, .int u_groupCount, .ref q_payments])), (q_balances, .inl (C 0, 6, .inl u_balances)), (q_sums, .inl (C 0, 64, .inl u_sums)), (q_most, .inl (C 0, 64, .inl u_most)), (q_groups, .inl (C 0, 6, .inl u_groups))] [(q_, .inr (3, [.ref q_balances, .ref q_left, .ref q_sums, .ref q_most, .ref q_groups, .int z.1, .ref q_payments])), (q_balances, .inl (C 0, 6, .inl u_balances)), (q_sums, .inl (C 0, 64, .inl u_sums)), (q_most, .inl (C 0, 64, .inl u_most)), (q_groups, .inl (C 0, 6, .inl z.2))] none := by
  refine Ct_of (by decide) (Nat.le_of_ble_eq_true rfl) ?_
  intro p e R s m args below meth c A Q H locs ls cx hw hl hret
  have cx : CX p m c s args RX3 cX3_partOpen 4 D C A R 3 := cx
  have hx := cx.1
  have hb := cx.2.1
  have hl : lv_has ls 4 [(0, .ref q_)] := hl
  rw [fX3_partOpen.eq_1] at hF
  refine lv_aload_n hx hb dX3_partOpen_0 rfl (lv_at hl 0 rfl) ?_
  obtain ⟨z1, hz1, hF⟩ := ob hF
  refine cV (wr := [(q_sums, .inl (C 0, 64, .inl u_sums)), (q_most, .inl (C 0, 64, .inl u_most)), (q_groups, .inl (C 0, 6, .inl u_groups))]) (w2 := [(q_, .inr (3, [.ref q_balances, .ref q_left, .ref q_sums, .ref q_most, .ref q_groups, .int u_groupCount, .ref q_payments])), (q_balances, .inl (C 0, 6, .inl u_balances)), (q_sums, .inl (C 0, 64, .inl u_sums)), (q_most, .inl (C 0, 64, .inl u_most)), (q_groups, .inl (C 0, 6, .inl u_groups))]) (st2 := [.int z1]) cx (CX3_open l D C q_ q_balances q_left q_sums q_most q_groups q_payments u_groupCount u_balances z1 hz1) lk_X3_88 my_X3_open ml_X3_open ⟨by decide, by decide⟩ hw [0, 1] [2, 3, 4] [3, 4, 0, 1, 2] rfl rfl (by decide) rfl rfl rfl rfl (Nat.le_of_ble_eq_true rfl) dX3_partOpen_1 rfl (fun H locs hw => ?_) hl.1
  refine lv_istore_n (lv' := [(1, .int z1), (0, .ref q_)]) hx hb dX3_partOpen_4 rfl hl (by decide) rfl (fun ls hl => ?_)
  refine lv_aload_n hx hb dX3_partOpen_5 rfl (lv_at hl 1 rfl) ?_
  refine lv_iconst (v := 0) hx hb dX3_partOpen_6 (by decide) ?_
  refine r_put (ci := 3) (w2 := [(q_, .inr (3, [.ref q_balances, .ref q_left, .ref q_sums, .ref q_most, .ref q_groups, .int 0, .ref q_payments])), (q_balances, .inl (C 0, 6, .inl u_balances)), (q_sums, .inl (C 0, 64, .inl u_sums)), (q_most, .inl (C 0, 64, .inl u_most)), (q_groups, .inl (C 0, 6, .inl u_groups))]) cx hw iX3 tyX3_ok nmX3 0 5 rfl rfl (by decide) wf_X3_27 rfl rfl rfl rfl (Nat.le_of_ble_eq_true rfl) dX3_partOpen_7 rfl (fun H locs hw => ?_)
  refine lv_iconst (v := 0) hx hb dX3_partOpen_10 (by decide) ?_
  refine lv_istore_n (lv' := [(2, .int 0), (1, .int z1), (0, .ref q_)]) hx hb dX3_partOpen_11 rfl hl (by decide) rfl (fun ls hl => ?_)
  refine LX3_partOpen_12 cx hret 400 z1 0 0 u_groups H locs ls hF hw (lv_sub hl [2, 1, 0] rfl)
theorem lk_X3_101 : Cond.methodLink RX3 101 Lib.Math.min.name ∈ gdt := gdt_of 578 (by decide +kernel) (by decide +kernel)
theorem wf_X3_36 : Cond.fieldLink RX3 36 (TX3 6).1 (TX3 6).2.1 (TX3 6).2.2.1 ∈ gdt := gdt_of 214 (by decide +kernel) (by decide +kernel)
theorem lk_X3_104 : Cond.methodLink RX3 104 yX5_add ∈ gdt := gdt_of 579 (by decide +kernel) (by decide +kernel)
theorem dX3_payWhatBothHave_0 : decode cX3_payWhatBothHave 0 = .ok (.aload_n 0, 1) := by decide +kernel
theorem dX3_payWhatBothHave_1 : decode cX3_payWhatBothHave 1 = .ok (.getfield 15, 3) := by decide +kernel
theorem dX3_payWhatBothHave_4 : decode cX3_payWhatBothHave 4 = .ok (.iload_n 1, 1) := by decide +kernel
theorem dX3_payWhatBothHave_5 : decode cX3_payWhatBothHave 5 = .ok (.iaload, 1) := by decide +kernel
theorem dX3_payWhatBothHave_6 : decode cX3_payWhatBothHave 6 = .ok (.ineg, 1) := by decide +kernel
theorem dX3_payWhatBothHave_7 : decode cX3_payWhatBothHave 7 = .ok (.aload_n 0, 1) := by decide +kernel
theorem dX3_payWhatBothHave_8 : decode cX3_payWhatBothHave 8 = .ok (.getfield 15, 3) := by decide +kernel
theorem dX3_payWhatBothHave_11 : decode cX3_payWhatBothHave 11 = .ok (.iload_n 2, 1) := by decide +kernel
theorem dX3_payWhatBothHave_12 : decode cX3_payWhatBothHave 12 = .ok (.iaload, 1) := by decide +kernel
theorem dX3_payWhatBothHave_13 : decode cX3_payWhatBothHave 13 = .ok (.invokestatic 101, 3) := by decide +kernel
theorem dX3_payWhatBothHave_16 : decode cX3_payWhatBothHave 16 = .ok (.istore_n 3, 1) := by decide +kernel
theorem dX3_payWhatBothHave_17 : decode cX3_payWhatBothHave 17 = .ok (.iload_n 3, 1) := by decide +kernel
theorem dX3_payWhatBothHave_18 : decode cX3_payWhatBothHave 18 = .ok (.ifCond .le 34, 3) := by decide +kernel
theorem dX3_payWhatBothHave_21 : decode cX3_payWhatBothHave 21 = .ok (.aload_n 0, 1) := by decide +kernel
theorem dX3_payWhatBothHave_22 : decode cX3_payWhatBothHave 22 = .ok (.getfield 15, 3) := by decide +kernel
theorem dX3_payWhatBothHave_25 : decode cX3_payWhatBothHave 25 = .ok (.iload_n 1, 1) := by decide +kernel
theorem dX3_payWhatBothHave_26 : decode cX3_payWhatBothHave 26 = .ok (.dup2, 1) := by decide +kernel
theorem dX3_payWhatBothHave_27 : decode cX3_payWhatBothHave 27 = .ok (.iaload, 1) := by decide +kernel
theorem dX3_payWhatBothHave_28 : decode cX3_payWhatBothHave 28 = .ok (.iload_n 3, 1) := by decide +kernel
theorem dX3_payWhatBothHave_29 : decode cX3_payWhatBothHave 29 = .ok (.iadd, 1) := by decide +kernel
theorem dX3_payWhatBothHave_30 : decode cX3_payWhatBothHave 30 = .ok (.iastore, 1) := by decide +kernel
theorem dX3_payWhatBothHave_31 : decode cX3_payWhatBothHave 31 = .ok (.aload_n 0, 1) := by decide +kernel
theorem dX3_payWhatBothHave_32 : decode cX3_payWhatBothHave 32 = .ok (.getfield 15, 3) := by decide +kernel
theorem dX3_payWhatBothHave_35 : decode cX3_payWhatBothHave 35 = .ok (.iload_n 2, 1) := by decide +kernel
theorem dX3_payWhatBothHave_36 : decode cX3_payWhatBothHave 36 = .ok (.dup2, 1) := by decide +kernel
theorem dX3_payWhatBothHave_37 : decode cX3_payWhatBothHave 37 = .ok (.iaload, 1) := by decide +kernel
theorem dX3_payWhatBothHave_38 : decode cX3_payWhatBothHave 38 = .ok (.iload_n 3, 1) := by decide +kernel
theorem dX3_payWhatBothHave_39 : decode cX3_payWhatBothHave 39 = .ok (.isub, 1) := by decide +kernel
theorem dX3_payWhatBothHave_40 : decode cX3_payWhatBothHave 40 = .ok (.iastore, 1) := by decide +kernel
theorem dX3_payWhatBothHave_41 : decode cX3_payWhatBothHave 41 = .ok (.aload_n 0, 1) := by decide +kernel
theorem dX3_payWhatBothHave_42 : decode cX3_payWhatBothHave 42 = .ok (.getfield 36, 3) := by decide +kernel
theorem dX3_payWhatBothHave_45 : decode cX3_payWhatBothHave 45 = .ok (.iload_n 1, 1) := by decide +kernel
theorem dX3_payWhatBothHave_46 : decode cX3_payWhatBothHave 46 = .ok (.iload_n 2, 1) := by decide +kernel
theorem dX3_payWhatBothHave_47 : decode cX3_payWhatBothHave 47 = .ok (.iload_n 3, 1) := by decide +kernel
theorem dX3_payWhatBothHave_48 : decode cX3_payWhatBothHave 48 = .ok (.invokevirtual 104, 3) := by decide +kernel
theorem dX3_payWhatBothHave_51 : decode cX3_payWhatBothHave 51 = .ok (.pop, 1) := by decide +kernel
theorem dX3_payWhatBothHave_52 : decode cX3_payWhatBothHave 52 = .ok (.return_, 1) := by decide +kernel
def fX3_payWhatBothHave (n_payments_numbers : Nat) (u_left : (Nat → Int32)) (u_payments_room : Int32) (u_payments_size : Int32) (u_payments_numbers : (Nat → Int32)) (x1 : Int32) (x2 : Int32) : Option ((Nat → Int32) × Int32 × (Nat → Int32)) := gA x1 6 (gA x2 6 (if (if (u_left (x2).toNatClampNeg) < (-(u_left (x1).toNatClampNeg)) then (u_left (x2).toNatClampNeg) else (-(u_left (x1).toNatClampNeg))) ≤ 0 then (some (u_left, u_payments_size, u_payments_numbers)) else (gA x1 6 (gA x1 6 (gA x2 6 (gA x2 6 ((fX5_add n_payments_numbers u_payments_room u_payments_size u_payments_numbers x1 x2 (if (u_left (x2).toNatClampNeg) < (-(u_left (x1).toNatClampNeg)) then (u_left (x2).toNatClampNeg) else (-(u_left (x1).toNatClampNeg)))).bind (fun z8 => some (upd (upd u_left (x1 : Int32).toNatClampNeg ((u_left (x1).toNatClampNeg) + (if (u_left (x2).toNatClampNeg) < (-(u_left (x1).toNatClampNeg)) then (u_left (x2).toNatClampNeg) else (-(u_left (x1).toNatClampNeg))))) (x2 : Int32).toNatClampNeg (((upd u_left (x1 : Int32).toNatClampNeg ((u_left (x1).toNatClampNeg) + (if (u_left (x2).toNatClampNeg) < (-(u_left (x1).toNatClampNeg)) then (u_left (x2).toNatClampNeg) else (-(u_left (x1).toNatClampNeg))))) (x2).toNatClampNeg) - (if (u_left (x2).toNatClampNeg) < (-(u_left (x1).toNatClampNeg)) then (u_left (x2).toNatClampNeg) else (-(u_left (x1).toNatClampNeg)))), z8.2.1, z8.2.2)))))))))
set_option maxRecDepth 20000 in
theorem CX3_payWhatBothHave (l : Launch) (D : va_G) (C : Nat → ClassId) (q_ q_balances q_left q_sums q_most q_groups q_payments q_payments_numbers n_payments_numbers : Nat) (u_groupCount : Int32) (u_left : (Nat → Int32)) (u_payments_room : Int32) (u_payments_size : Int32) (u_payments_numbers : (Nat → Int32)) (x1 : Int32) (x2 : Int32) (z : ((Nat → Int32) × Int32 × (Nat → Int32))) (hF : fX3_payWhatBothHave n_payments_numbers u_left u_payments_room u_payments_size u_payments_numbers x1 x2 = some z) : Ct l yX3_payWhatBothHave cX3_payWhatBothHave 4 none 2 D C [.ref q_, .int x1, .int x2] [(q_, .inr (3, [.ref q_balances, .ref q_left, .ref q_sums, .ref q_most, .ref q_groups, .int u_groupCount, .ref q_payments])), (q_left, .inl (C 0, 6, .inl u_left)), (q_payments, .inr (5, [.ref q_payments_numbers, .int u_payments_room, .int u_payments_size])), (q_payments_numbers, .inl (C 0, n_payments_numbers, .inl u_payments_numbers))] [(q_, .inr (3, [.ref q_balances, .ref q_left, .ref q_sums, .ref q_most, .ref q_groups, .int u_groupCount, .ref q_payments])), (q_left, .inl (C 0, 6, .inl z.1)), (q_payments, .inr (5, [.ref q_payments_numbers, .int u_payments_room, .int z.2.1])), (q_payments_numbers, .inl (C 0, n_payments_numbers, .inl z.2.2))] none := by
  refine Ct_of (by decide) (Nat.le_of_ble_eq_true rfl) ?_
  intro p e R s m args below meth c A Q H locs ls cx hw hl hret
  have cx : CX p m c s args RX3 cX3_payWhatBothHave 4 D C A R 2 := cx
  have hx := cx.1
  have hb := cx.2.1
  have hl : lv_has ls 4 [(0, .ref q_), (1, .int x1), (2, .int x2)] := hl
  rw [fX3_payWhatBothHave.eq_1] at hF
  refine lv_aload_n hx hb dX3_payWhatBothHave_0 rfl (lv_at hl 0 rfl) ?_
  refine r_get (ci := 3) (v := .ref q_left) cx hw iX3 0 1 rfl rfl (by decide) wf_X3_15 rfl dX3_payWhatBothHave_1 ?_
  refine lv_iload_n hx hb dX3_payWhatBothHave_4 rfl (lv_at hl 1 rfl) ?_
  obtain ⟨g1, hF⟩ := gA_s hF
  refine r_iald cx hw 1 rfl g1 dX3_payWhatBothHave_5 ?_
  refine lv_ineg hx hb dX3_payWhatBothHave_6 ?_
  refine lv_aload_n hx hb dX3_payWhatBothHave_7 rfl (lv_at hl 0 rfl) ?_
  refine r_get (ci := 3) (v := .ref q_left) cx hw iX3 0 1 rfl rfl (by decide) wf_X3_15 rfl dX3_payWhatBothHave_8 ?_
  refine lv_iload_n hx hb dX3_payWhatBothHave_11 rfl (lv_at hl 2 rfl) ?_
  obtain ⟨g2, hF⟩ := gA_s hF
  refine r_iald cx hw 1 rfl g2 dX3_payWhatBothHave_12 ?_
  refine va_mmin hx hb (cx.2.2.1.trans hl.1.symm) cx.2.2.2.1 (cx.2.2.2.2.1 _ lk_X3_101) (cx.2.2.2.2.1 _ mst_min) (cx.2.2.2.2.1 _ ini_Math) (cx.2.2.2.2.1 _ mco_min) (Nat.le_trans (by omega) cx.2.2.2.2.2.2.2.1) (Nat.le_trans (Nat.le_trans (m := 40) (Nat.le_of_ble_eq_true rfl) (by omega)) cx.2.2.2.2.2.2.2.2) (Nat.zero_le _) (Nat.zero_le _) dX3_payWhatBothHave_13 ?_
  refine lv_istore_n (lv' := [(3, .int (if (u_left (x2).toNatClampNeg) < (-(u_left (x1).toNatClampNeg)) then (u_left (x2).toNatClampNeg) else (-(u_left (x1).toNatClampNeg)))), (0, .ref q_), (1, .int x1), (2, .int x2)]) hx hb dX3_payWhatBothHave_16 rfl hl (by decide) rfl (fun ls hl => ?_)
  refine lv_iload_n hx hb dX3_payWhatBothHave_17 rfl (lv_at hl 0 rfl) ?_
  refine lv_if_le (tgt := 52) hx hb dX3_payWhatBothHave_18 (by decide) (fun c3 => ?_) (fun c3 => ?_)
  · replace hF := oi_t c3 hF
    obtain rfl := Option.some.inj hF
    exact rt_v hret hw rfl dX3_payWhatBothHave_52
  · replace hF := oi_f c3 hF
    refine lv_aload_n hx hb dX3_payWhatBothHave_21 rfl (lv_at hl 1 rfl) ?_
    refine r_get (ci := 3) (v := .ref q_left) cx hw iX3 0 1 rfl rfl (by decide) wf_X3_15 rfl dX3_payWhatBothHave_22 ?_
    refine lv_iload_n hx hb dX3_payWhatBothHave_25 rfl (lv_at hl 2 rfl) ?_
    refine lv_dup2_11 hx hb dX3_payWhatBothHave_26 rfl rfl ?_
    obtain ⟨g4, hF⟩ := gA_s hF
    refine r_iald cx hw 1 rfl g4 dX3_payWhatBothHave_27 ?_
    refine lv_iload_n hx hb dX3_payWhatBothHave_28 rfl (lv_at hl 0 rfl) ?_
    refine lv_iadd hx hb dX3_payWhatBothHave_29 ?_
    obtain ⟨g5, hF⟩ := gA_s hF
    refine r_iast (w2 := [(q_, .inr (3, [.ref q_balances, .ref q_left, .ref q_sums, .ref q_most, .ref q_groups, .int u_groupCount, .ref q_payments])), (q_left, .inl (C 0, 6, .inl (upd u_left (x1 : Int32).toNatClampNeg ((u_left (x1).toNatClampNeg) + (if (u_left (x2).toNatClampNeg) < (-(u_left (x1).toNatClampNeg)) then (u_left (x2).toNatClampNeg) else (-(u_left (x1).toNatClampNeg))))))), (q_payments, .inr (5, [.ref q_payments_numbers, .int u_payments_room, .int u_payments_size])), (q_payments_numbers, .inl (C 0, n_payments_numbers, .inl u_payments_numbers))]) cx hw 1 rfl g5 dX3_payWhatBothHave_30 rfl (fun H locs hw => ?_)
    refine lv_aload_n hx hb dX3_payWhatBothHave_31 rfl (lv_at hl 1 rfl) ?_
    refine r_get (ci := 3) (v := .ref q_left) cx hw iX3 0 1 rfl rfl (by decide) wf_X3_15 rfl dX3_payWhatBothHave_32 ?_
    refine lv_iload_n hx hb dX3_payWhatBothHave_35 rfl (lv_at hl 3 rfl) ?_
    refine lv_dup2_11 hx hb dX3_payWhatBothHave_36 rfl rfl ?_
    obtain ⟨g6, hF⟩ := gA_s hF
    refine r_iald cx hw 1 rfl g6 dX3_payWhatBothHave_37 ?_
    refine lv_iload_n hx hb dX3_payWhatBothHave_38 rfl (lv_at hl 0 rfl) ?_
    refine lv_isub hx hb dX3_payWhatBothHave_39 ?_
    obtain ⟨g7, hF⟩ := gA_s hF
    refine r_iast (w2 := [(q_, .inr (3, [.ref q_balances, .ref q_left, .ref q_sums, .ref q_most, .ref q_groups, .int u_groupCount, .ref q_payments])), (q_left, .inl (C 0, 6, .inl (upd (upd u_left (x1 : Int32).toNatClampNeg ((u_left (x1).toNatClampNeg) + (if (u_left (x2).toNatClampNeg) < (-(u_left (x1).toNatClampNeg)) then (u_left (x2).toNatClampNeg) else (-(u_left (x1).toNatClampNeg))))) (x2 : Int32).toNatClampNeg (((upd u_left (x1 : Int32).toNatClampNeg ((u_left (x1).toNatClampNeg) + (if (u_left (x2).toNatClampNeg) < (-(u_left (x1).toNatClampNeg)) then (u_left (x2).toNatClampNeg) else (-(u_left (x1).toNatClampNeg))))) (x2).toNatClampNeg) - (if (u_left (x2).toNatClampNeg) < (-(u_left (x1).toNatClampNeg)) then (u_left (x2).toNatClampNeg) else (-(u_left (x1).toNatClampNeg))))))), (q_payments, .inr (5, [.ref q_payments_numbers, .int u_payments_room, .int u_payments_size])), (q_payments_numbers, .inl (C 0, n_payments_numbers, .inl u_payments_numbers))]) cx hw 1 rfl g7 dX3_payWhatBothHave_40 rfl (fun H locs hw => ?_)
    refine lv_aload_n hx hb dX3_payWhatBothHave_41 rfl (lv_at hl 1 rfl) ?_
    refine r_get (ci := 3) (v := .ref q_payments) cx hw iX3 0 6 rfl rfl (by decide) wf_X3_36 rfl dX3_payWhatBothHave_42 ?_
    refine lv_iload_n hx hb dX3_payWhatBothHave_45 rfl (lv_at hl 2 rfl) ?_
    refine lv_iload_n hx hb dX3_payWhatBothHave_46 rfl (lv_at hl 3 rfl) ?_
    refine lv_iload_n hx hb dX3_payWhatBothHave_47 rfl (lv_at hl 0 rfl) ?_
    obtain ⟨z8, hz8, hF⟩ := ob hF
    refine cV (wr := [(q_, .inr (3, [.ref q_balances, .ref q_left, .ref q_sums, .ref q_most, .ref q_groups, .int u_groupCount, .ref q_payments])), (q_left, .inl (C 0, 6, .inl (upd (upd u_left (x1 : Int32).toNatClampNeg ((u_left (x1).toNatClampNeg) + (if (u_left (x2).toNatClampNeg) < (-(u_left (x1).toNatClampNeg)) then (u_left (x2).toNatClampNeg) else (-(u_left (x1).toNatClampNeg))))) (x2 : Int32).toNatClampNeg (((upd u_left (x1 : Int32).toNatClampNeg ((u_left (x1).toNatClampNeg) + (if (u_left (x2).toNatClampNeg) < (-(u_left (x1).toNatClampNeg)) then (u_left (x2).toNatClampNeg) else (-(u_left (x1).toNatClampNeg))))) (x2).toNatClampNeg) - (if (u_left (x2).toNatClampNeg) < (-(u_left (x1).toNatClampNeg)) then (u_left (x2).toNatClampNeg) else (-(u_left (x1).toNatClampNeg)))))))]) (w2 := [(q_, .inr (3, [.ref q_balances, .ref q_left, .ref q_sums, .ref q_most, .ref q_groups, .int u_groupCount, .ref q_payments])), (q_left, .inl (C 0, 6, .inl (upd (upd u_left (x1 : Int32).toNatClampNeg ((u_left (x1).toNatClampNeg) + (if (u_left (x2).toNatClampNeg) < (-(u_left (x1).toNatClampNeg)) then (u_left (x2).toNatClampNeg) else (-(u_left (x1).toNatClampNeg))))) (x2 : Int32).toNatClampNeg (((upd u_left (x1 : Int32).toNatClampNeg ((u_left (x1).toNatClampNeg) + (if (u_left (x2).toNatClampNeg) < (-(u_left (x1).toNatClampNeg)) then (u_left (x2).toNatClampNeg) else (-(u_left (x1).toNatClampNeg))))) (x2).toNatClampNeg) - (if (u_left (x2).toNatClampNeg) < (-(u_left (x1).toNatClampNeg)) then (u_left (x2).toNatClampNeg) else (-(u_left (x1).toNatClampNeg))))))), (q_payments, .inr (5, [.ref q_payments_numbers, .int u_payments_room, .int z8.2.1])), (q_payments_numbers, .inl (C 0, n_payments_numbers, .inl z8.2.2))]) (st2 := [.int z8.1]) cx (CX5_add l D C q_payments q_payments_numbers n_payments_numbers u_payments_room u_payments_size u_payments_numbers x1 x2 (if (u_left (x2).toNatClampNeg) < (-(u_left (x1).toNatClampNeg)) then (u_left (x2).toNatClampNeg) else (-(u_left (x1).toNatClampNeg))) z8 hz8) lk_X3_104 my_X5_add ml_X5_add ⟨by decide, by decide⟩ hw [2, 3] [0, 1] [0, 1, 2, 3] rfl rfl (by decide) rfl rfl rfl rfl (Nat.le_of_ble_eq_true rfl) dX3_payWhatBothHave_48 rfl (fun H locs hw => ?_) hl.1
    refine lv_pop hx hb dX3_payWhatBothHave_51 rfl ?_
    obtain rfl := Option.some.inj hF
    exact rt_v hret hw rfl dX3_payWhatBothHave_52
theorem lk_X3_79 : Cond.methodLink RX3 79 yX3_payWhatBothHave ∈ gdt := gdt_of 574 (by decide +kernel) (by decide +kernel)
theorem my_X3_payWhatBothHave : (yX3_payWhatBothHave.cls ≠ "java/lang/invoke/MethodHandle" ∧ yX3_payWhatBothHave.cls ≠ "java/lang/invoke/VarHandle") ∧ Cond.instanceMethod yX3_payWhatBothHave ∈ gdt ∧ Cond.selects yX3_payWhatBothHave.cls yX3_payWhatBothHave yX3_payWhatBothHave ∈ gdt ∧ Cond.initialized yX3_payWhatBothHave.cls ∈ gdt ∧ Cond.code yX3_payWhatBothHave cX3_payWhatBothHave 4 none ∈ gdt := ⟨⟨by decide +kernel, by decide +kernel⟩, gdt_of 576 (by decide +kernel) (by decide +kernel), gdt_of 20 (by decide +kernel) (by decide +kernel), gdt_of 74 (by decide +kernel) (by decide +kernel), gdt_of 577 (by decide +kernel) (by decide +kernel)⟩
theorem ml_X3_payWhatBothHave : (parseMethodDescriptor yX3_payWhatBothHave.desc).map (fun d => d.parameters.length) = some 2 := by decide +kernel
theorem dX3_payInGroup_0 : decode cX3_payInGroup 0 = .ok (.iconst 0, 1) := by decide +kernel
theorem dX3_payInGroup_1 : decode cX3_payInGroup 1 = .ok (.istore_n 2, 1) := by decide +kernel
theorem dX3_payInGroup_2 : decode cX3_payInGroup 2 = .ok (.iload_n 2, 1) := by decide +kernel
theorem dX3_payInGroup_3 : decode cX3_payInGroup 3 = .ok (.bipush 6, 2) := by decide +kernel
theorem dX3_payInGroup_5 : decode cX3_payInGroup 5 = .ok (.if_icmp .ge 42, 3) := by decide +kernel
theorem dX3_payInGroup_8 : decode cX3_payInGroup 8 = .ok (.iconst 0, 1) := by decide +kernel
theorem dX3_payInGroup_9 : decode cX3_payInGroup 9 = .ok (.istore_n 3, 1) := by decide +kernel
theorem dX3_payInGroup_10 : decode cX3_payInGroup 10 = .ok (.iload_n 3, 1) := by decide +kernel
theorem dX3_payInGroup_11 : decode cX3_payInGroup 11 = .ok (.bipush 6, 2) := by decide +kernel
theorem dX3_payInGroup_13 : decode cX3_payInGroup 13 = .ok (.if_icmp .ge 28, 3) := by decide +kernel
theorem dX3_payInGroup_16 : decode cX3_payInGroup 16 = .ok (.iload_n 1, 1) := by decide +kernel
theorem dX3_payInGroup_17 : decode cX3_payInGroup 17 = .ok (.iload_n 2, 1) := by decide +kernel
theorem dX3_payInGroup_18 : decode cX3_payInGroup 18 = .ok (.ishr, 1) := by decide +kernel
theorem dX3_payInGroup_19 : decode cX3_payInGroup 19 = .ok (.iload_n 1, 1) := by decide +kernel
theorem dX3_payInGroup_20 : decode cX3_payInGroup 20 = .ok (.iload_n 3, 1) := by decide +kernel
theorem dX3_payInGroup_21 : decode cX3_payInGroup 21 = .ok (.ishr, 1) := by decide +kernel
theorem dX3_payInGroup_22 : decode cX3_payInGroup 22 = .ok (.iand, 1) := by decide +kernel
theorem dX3_payInGroup_23 : decode cX3_payInGroup 23 = .ok (.iconst 1, 1) := by decide +kernel
theorem dX3_payInGroup_24 : decode cX3_payInGroup 24 = .ok (.iand, 1) := by decide +kernel
theorem dX3_payInGroup_25 : decode cX3_payInGroup 25 = .ok (.iconst 1, 1) := by decide +kernel
theorem dX3_payInGroup_26 : decode cX3_payInGroup 26 = .ok (.if_icmp .ne 9, 3) := by decide +kernel
theorem dX3_payInGroup_29 : decode cX3_payInGroup 29 = .ok (.aload_n 0, 1) := by decide +kernel
theorem dX3_payInGroup_30 : decode cX3_payInGroup 30 = .ok (.iload_n 2, 1) := by decide +kernel
theorem dX3_payInGroup_31 : decode cX3_payInGroup 31 = .ok (.iload_n 3, 1) := by decide +kernel
theorem dX3_payInGroup_32 : decode cX3_payInGroup 32 = .ok (.invokevirtual 79, 3) := by decide +kernel
theorem dX3_payInGroup_35 : decode cX3_payInGroup 35 = .ok (.iinc 3 1, 3) := by decide +kernel
theorem dX3_payInGroup_38 : decode cX3_payInGroup 38 = .ok (.goto (-28), 3) := by decide +kernel
theorem dX3_payInGroup_41 : decode cX3_payInGroup 41 = .ok (.iinc 2 1, 3) := by decide +kernel
theorem dX3_payInGroup_44 : decode cX3_payInGroup 44 = .ok (.goto (-42), 3) := by decide +kernel
theorem dX3_payInGroup_47 : decode cX3_payInGroup 47 = .ok (.return_, 1) := by decide +kernel
def fX3_payInGroup_L10 (k41 : (Nat → Int32) → Int32 → (Nat → Int32) → Option ((Nat → Int32) × Int32 × (Nat → Int32))) (n_payments_numbers : Nat) (u_payments_room : Int32) (x1 : Int32) (x2 : Int32) : Nat → Int32 → (Nat → Int32) → Int32 → (Nat → Int32) → Option ((Nat → Int32) × Int32 × (Nat → Int32))
  | 0, _, _, _, _ => none
  | n + 1, x3, u_left, u_payments_size, u_payments_numbers => if 6 ≤ x3 then (k41 u_left u_payments_size u_payments_numbers) else (if (((x1 >>> (x2 &&& 31)) &&& (x1 >>> (x3 &&& 31))) &&& 1) = 1 then ((fX3_payWhatBothHave n_payments_numbers u_left u_payments_room u_payments_size u_payments_numbers x2 x3).bind (fun z4 => fX3_payInGroup_L10 k41 n_payments_numbers u_payments_room x1 x2 n (x3 + 1) z4.1 z4.2.1 z4.2.2)) else (fX3_payInGroup_L10 k41 n_payments_numbers u_payments_room x1 x2 n (x3 + 1) u_left u_payments_size u_payments_numbers))
def fX3_payInGroup_L2 (n_payments_numbers : Nat) (u_payments_room : Int32) (x1 : Int32) : Nat → Int32 → (Nat → Int32) → Int32 → (Nat → Int32) → Option ((Nat → Int32) × Int32 × (Nat → Int32))
  | 0, _, _, _, _ => none
  | n + 1, x2, u_left, u_payments_size, u_payments_numbers => if 6 ≤ x2 then (some (u_left, u_payments_size, u_payments_numbers)) else (fX3_payInGroup_L10 (fun (u_left_5 : (Nat → Int32)) (u_payments_size_5 : Int32) (u_payments_numbers_5 : (Nat → Int32)) => fX3_payInGroup_L2 n_payments_numbers u_payments_room x1 n (x2 + 1) u_left_5 u_payments_size_5 u_payments_numbers_5) n_payments_numbers u_payments_room x1 x2 400 0 u_left u_payments_size u_payments_numbers)
def fX3_payInGroup (n_payments_numbers : Nat) (u_left : (Nat → Int32)) (u_payments_room : Int32) (u_payments_size : Int32) (u_payments_numbers : (Nat → Int32)) (x1 : Int32) : Option ((Nat → Int32) × Int32 × (Nat → Int32)) := fX3_payInGroup_L2 n_payments_numbers u_payments_room x1 400 0 u_left u_payments_size u_payments_numbers
set_option maxRecDepth 20000 in
theorem LX3_payInGroup_10 {p : Program} {l : Launch} {e : Env} {R : Room} {s : State} {m : MethodId} {args : Array Value} {below : List Frame} {meth : Method} {c : Code} {Q : State → Prop} {D : va_G} {C : Nat → ClassId} {A : Nat → Prop} (cx : CX p m c s args RX3 cX3_payInGroup 4 D C A R 3) {q_ q_balances q_left q_sums q_most q_groups q_payments q_payments_numbers n_payments_numbers : Nat} {u_groupCount : Int32} {u_payments_room : Int32} {x1 : Int32} {x2 : Int32} {z : ((Nat → Int32) × Int32 × (Nat → Int32))} (hret : RT p l e R s m args below meth c Q D A cX3_payInGroup none [(q_, .inr (3, [.ref q_balances, .ref q_left, .ref q_sums, .ref q_most, .ref q_groups, .int u_groupCount, .ref q_payments])), (q_left, .inl (C 0, 6, .inl z.1)), (q_payments, .inr (5, [.ref q_payments_numbers, .int u_payments_room, .int z.2.1])), (q_payments_numbers, .inl (C 0, n_payments_numbers, .inl z.2.2))] none) {k41 : (Nat → Int32) → Int32 → (Nat → Int32) → Option ((Nat → Int32) × Int32 × (Nat → Int32))} (hk41 : ∀ (u_left : (Nat → Int32)) (u_payments_size : Int32) (u_payments_numbers : (Nat → Int32)) (H : Heap) (locs : List Loc) (ls : Array Slot), k41 u_left u_payments_size u_payments_numbers = some z → HW D A s.heap H locs [(q_, .inr (3, [.ref q_balances, .ref q_left, .ref q_sums, .ref q_most, .ref q_groups, .int u_groupCount, .ref q_payments])), (q_left, .inl (C 0, 6, .inl u_left)), (q_payments, .inr (5, [.ref q_payments_numbers, .int u_payments_room, .int u_payments_size])), (q_payments_numbers, .inl (C 0, n_payments_numbers, .inl u_payments_numbers))] → lv_has ls 4 [(0, .ref q_), (1, .int x1), (2, .int x2)] → W p l e R s m args below meth c H locs 0 0 Q (F0 m 41 ls [])) :
    ∀ (n : Nat) (x3 : Int32) (u_left : (Nat → Int32)) (u_payments_size : Int32) (u_payments_numbers : (Nat → Int32)) (H : Heap) (locs : List Loc) (ls : Array Slot), fX3_payInGroup_L10 k41 n_payments_numbers u_payments_room x1 x2 n x3 u_left u_payments_size u_payments_numbers = some z → HW D A s.heap H locs [(q_, .inr (3, [.ref q_balances, .ref q_left, .ref q_sums, .ref q_most, .ref q_groups, .int u_groupCount, .ref q_payments])), (q_left, .inl (C 0, 6, .inl u_left)), (q_payments, .inr (5, [.ref q_payments_numbers, .int u_payments_room, .int u_payments_size])), (q_payments_numbers, .inl (C 0, n_payments_numbers, .inl u_payments_numbers))] → lv_has ls 4 [(0, .ref q_), (1, .int x1), (2, .int x2), (3, .int x3)] → W p l e R s m args below meth c H locs 0 0 Q (F0 m 10 ls []) := by
  have hx := cx.1
  have hb := cx.2.1
  intro n
  induction n with
  | zero => intro x3 u_left u_payments_size u_payments_numbers H locs ls hF; cases hF
  | succ n ih =>
    intro x3 u_left u_payments_size u_payments_numbers H locs ls hF hw hl
    rw [fX3_payInGroup_L10.eq_2] at hF
    refine lv_iload_n hx hb dX3_payInGroup_10 rfl (lv_at hl 3 rfl) ?_
    refine lv_bipush (v := 6) hx hb dX3_payInGroup_11 (by decide) ?_
    refine lv_icmp_ge (tgt := 41) hx hb dX3_payInGroup_13 (by decide) (fun c2 => ?_) (fun c2 => ?_)
    · replace hF := oi_t c2 hF
      exact hk41 u_left u_payments_size u_payments_numbers H locs ls hF hw (lv_sub hl [0, 1, 2] rfl)
    · replace hF := oi_f c2 hF
      refine lv_iload_n hx hb dX3_payInGroup_16 rfl (lv_at hl 1 rfl) ?_
      refine lv_iload_n hx hb dX3_payInGroup_17 rfl (lv_at hl 2 rfl) ?_
      refine lv_ishr hx hb dX3_payInGroup_18 ?_
      refine lv_iload_n hx hb dX3_payInGroup_19 rfl (lv_at hl 1 rfl) ?_
      refine lv_iload_n hx hb dX3_payInGroup_20 rfl (lv_at hl 3 rfl) ?_
      refine lv_ishr hx hb dX3_payInGroup_21 ?_
      refine lv_iand hx hb dX3_payInGroup_22 ?_
      refine lv_iconst (v := 1) hx hb dX3_payInGroup_23 (by decide) ?_
      refine lv_iand hx hb dX3_payInGroup_24 ?_
      refine lv_iconst (v := 1) hx hb dX3_payInGroup_25 (by decide) ?_
      refine lv_icmp_ne (tgt := 35) hx hb dX3_payInGroup_26 (by decide) (fun c3 => ?_) (fun c3 => ?_)
      · replace hF := oi_f c3 hF
        refine lv_iinc (v := x3 + 1) (lv' := [(3, .int (x3 + 1)), (0, .ref q_), (1, .int x1), (2, .int x2)]) hx hb dX3_payInGroup_35 hl (k := 3) rfl rfl (by decide) rfl (fun ls hl => ?_)
        refine lv_goto (tgt := 10) hx hb dX3_payInGroup_38 (by decide) ?_
        exact ih (x3 + 1) u_left u_payments_size u_payments_numbers H locs ls hF hw (lv_sub hl [1, 2, 3, 0] rfl)
      · replace hF := oi_t c3 hF
        refine lv_aload_n hx hb dX3_payInGroup_29 rfl (lv_at hl 0 rfl) ?_
        refine lv_iload_n hx hb dX3_payInGroup_30 rfl (lv_at hl 2 rfl) ?_
        refine lv_iload_n hx hb dX3_payInGroup_31 rfl (lv_at hl 3 rfl) ?_
        obtain ⟨z4, hz4, hF⟩ := ob hF
        refine cV (wr := []) (w2 := [(q_, .inr (3, [.ref q_balances, .ref q_left, .ref q_sums, .ref q_most, .ref q_groups, .int u_groupCount, .ref q_payments])), (q_left, .inl (C 0, 6, .inl z4.1)), (q_payments, .inr (5, [.ref q_payments_numbers, .int u_payments_room, .int z4.2.1])), (q_payments_numbers, .inl (C 0, n_payments_numbers, .inl z4.2.2))]) (st2 := []) cx (CX3_payWhatBothHave l D C q_ q_balances q_left q_sums q_most q_groups q_payments q_payments_numbers n_payments_numbers u_groupCount u_left u_payments_room u_payments_size u_payments_numbers x2 x3 z4 hz4) lk_X3_79 my_X3_payWhatBothHave ml_X3_payWhatBothHave ⟨by decide, by decide⟩ hw [0, 1, 2, 3] [] [0, 1, 2, 3] rfl rfl (by decide) rfl rfl rfl rfl (Nat.le_of_ble_eq_true rfl) dX3_payInGroup_32 rfl (fun H locs hw => ?_) hl.1
        refine lv_iinc (v := x3 + 1) (lv' := [(3, .int (x3 + 1)), (0, .ref q_), (1, .int x1), (2, .int x2)]) hx hb dX3_payInGroup_35 hl (k := 3) rfl rfl (by decide) rfl (fun ls hl => ?_)
        refine lv_goto (tgt := 10) hx hb dX3_payInGroup_38 (by decide) ?_
        exact ih (x3 + 1) z4.1 z4.2.1 z4.2.2 H locs ls hF hw (lv_sub hl [1, 2, 3, 0] rfl)
set_option maxRecDepth 20000 in
theorem LX3_payInGroup_2 {p : Program} {l : Launch} {e : Env} {R : Room} {s : State} {m : MethodId} {args : Array Value} {below : List Frame} {meth : Method} {c : Code} {Q : State → Prop} {D : va_G} {C : Nat → ClassId} {A : Nat → Prop} (cx : CX p m c s args RX3 cX3_payInGroup 4 D C A R 3) {q_ q_balances q_left q_sums q_most q_groups q_payments q_payments_numbers n_payments_numbers : Nat} {u_groupCount : Int32} {u_payments_room : Int32} {x1 : Int32} {z : ((Nat → Int32) × Int32 × (Nat → Int32))} (hret : RT p l e R s m args below meth c Q D A cX3_payInGroup none [(q_, .inr (3, [.ref q_balances, .ref q_left, .ref q_sums, .ref q_most, .ref q_groups, .int u_groupCount, .ref q_payments])), (q_left, .inl (C 0, 6, .inl z.1)), (q_payments, .inr (5, [.ref q_payments_numbers, .int u_payments_room, .int z.2.1])), (q_payments_numbers, .inl (C 0, n_payments_numbers, .inl z.2.2))] none) :
    ∀ (n : Nat) (x2 : Int32) (u_left : (Nat → Int32)) (u_payments_size : Int32) (u_payments_numbers : (Nat → Int32)) (H : Heap) (locs : List Loc) (ls : Array Slot), fX3_payInGroup_L2 n_payments_numbers u_payments_room x1 n x2 u_left u_payments_size u_payments_numbers = some z → HW D A s.heap H locs [(q_, .inr (3, [.ref q_balances, .ref q_left, .ref q_sums, .ref q_most, .ref q_groups, .int u_groupCount, .ref q_payments])), (q_left, .inl (C 0, 6, .inl u_left)), (q_payments, .inr (5, [.ref q_payments_numbers, .int u_payments_room, .int u_payments_size])), (q_payments_numbers, .inl (C 0, n_payments_numbers, .inl u_payments_numbers))] → lv_has ls 4 [(0, .ref q_), (1, .int x1), (2, .int x2)] → W p l e R s m args below meth c H locs 0 0 Q (F0 m 2 ls []) := by
  have hx := cx.1
  have hb := cx.2.1
  intro n
  induction n with
  | zero => intro x2 u_left u_payments_size u_payments_numbers H locs ls hF; cases hF
  | succ n ih =>
    intro x2 u_left u_payments_size u_payments_numbers H locs ls hF hw hl
    rw [fX3_payInGroup_L2.eq_2] at hF
    refine lv_iload_n hx hb dX3_payInGroup_2 rfl (lv_at hl 2 rfl) ?_
    refine lv_bipush (v := 6) hx hb dX3_payInGroup_3 (by decide) ?_
    refine lv_icmp_ge (tgt := 47) hx hb dX3_payInGroup_5 (by decide) (fun c1 => ?_) (fun c1 => ?_)
    · replace hF := oi_t c1 hF
      obtain rfl := Option.some.inj hF
      exact rt_v hret hw rfl dX3_payInGroup_47
    · replace hF := oi_f c1 hF
      refine lv_iconst (v := 0) hx hb dX3_payInGroup_8 (by decide) ?_
      refine lv_istore_n (lv' := [(3, .int 0), (0, .ref q_), (1, .int x1), (2, .int x2)]) hx hb dX3_payInGroup_9 rfl hl (by decide) rfl (fun ls hl => ?_)
      refine LX3_payInGroup_10 cx hret (fun u_left_5 u_payments_size_5 u_payments_numbers_5 H locs ls hF hw hl => ?_) 400 0 u_left u_payments_size u_payments_numbers H locs ls hF hw (lv_sub hl [1, 2, 3, 0] rfl)
      · refine lv_iinc (v := x2 + 1) (lv' := [(2, .int (x2 + 1)), (0, .ref q_), (1, .int x1)]) hx hb dX3_payInGroup_41 hl (k := 2) rfl rfl (by decide) rfl (fun ls hl => ?_)
        refine lv_goto (tgt := 2) hx hb dX3_payInGroup_44 (by decide) ?_
        exact ih (x2 + 1) u_left_5 u_payments_size_5 u_payments_numbers_5 H locs ls hF hw (lv_sub hl [1, 2, 0] rfl)
set_option maxRecDepth 20000 in
theorem CX3_payInGroup (l : Launch) (D : va_G) (C : Nat → ClassId) (q_ q_balances q_left q_sums q_most q_groups q_payments q_payments_numbers n_payments_numbers : Nat) (u_groupCount : Int32) (u_left : (Nat → Int32)) (u_payments_room : Int32) (u_payments_size : Int32) (u_payments_numbers : (Nat → Int32)) (x1 : Int32) (z : ((Nat → Int32) × Int32 × (Nat → Int32))) (hF : fX3_payInGroup n_payments_numbers u_left u_payments_room u_payments_size u_payments_numbers x1 = some z) : Ct l yX3_payInGroup cX3_payInGroup 4 none 3 D C [.ref q_, .int x1] [(q_, .inr (3, [.ref q_balances, .ref q_left, .ref q_sums, .ref q_most, .ref q_groups, .int u_groupCount, .ref q_payments])), (q_left, .inl (C 0, 6, .inl u_left)), (q_payments, .inr (5, [.ref q_payments_numbers, .int u_payments_room, .int u_payments_size])), (q_payments_numbers, .inl (C 0, n_payments_numbers, .inl u_payments_numbers))] [(q_, .inr (3, [.ref q_balances, .ref q_left, .ref q_sums, .ref q_most, .ref q_groups, .int u_groupCount, .ref q_payments])), (q_left, .inl (C 0, 6, .inl z.1)), (q_payments, .inr (5, [.ref q_payments_numbers, .int u_payments_room, .int z.2.1])), (q_payments_numbers, .inl (C 0, n_payments_numbers, .inl z.2.2))] none := by
  refine Ct_of (by decide) (Nat.le_of_ble_eq_true rfl) ?_
  intro p e R s m args below meth c A Q H locs ls cx hw hl hret
  have cx : CX p m c s args RX3 cX3_payInGroup 4 D C A R 3 := cx
  have hx := cx.1
  have hb := cx.2.1
  have hl : lv_has ls 4 [(0, .ref q_), (1, .int x1)] := hl
  rw [fX3_payInGroup.eq_1] at hF
  refine lv_iconst (v := 0) hx hb dX3_payInGroup_0 (by decide) ?_
  refine lv_istore_n (lv' := [(2, .int 0), (0, .ref q_), (1, .int x1)]) hx hb dX3_payInGroup_1 rfl hl (by decide) rfl (fun ls hl => ?_)
  refine LX3_payInGroup_2 cx hret 400 0 u_left u_payments_size u_payments_numbers H locs ls hF hw (lv_sub hl [1, 2, 0] rfl)
theorem lk_X3_50 : Cond.methodLink RX3 50 yX3_weigh ∈ gdt := gdt_of 535 (by decide +kernel) (by decide +kernel)
theorem lk_X3_54 : Cond.methodLink RX3 54 yX3_addUpSets ∈ gdt := gdt_of 536 (by decide +kernel) (by decide +kernel)
theorem lk_X3_57 : Cond.methodLink RX3 57 yX3_countParts ∈ gdt := gdt_of 540 (by decide +kernel) (by decide +kernel)
theorem lk_X3_60 : Cond.methodLink RX3 60 yX3_partOpen ∈ gdt := gdt_of 557 (by decide +kernel) (by decide +kernel)
theorem lk_X3_63 : Cond.methodLink RX3 63 yX5_clear ∈ gdt := gdt_of 565 (by decide +kernel) (by decide +kernel)
theorem lk_X3_66 : Cond.methodLink RX3 66 yX3_groupAt ∈ gdt := gdt_of 566 (by decide +kernel) (by decide +kernel)
theorem lk_X3_70 : Cond.methodLink RX3 70 yX3_payInGroup ∈ gdt := gdt_of 570 (by decide +kernel) (by decide +kernel)
theorem my_X3_weigh : (yX3_weigh.cls ≠ "java/lang/invoke/MethodHandle" ∧ yX3_weigh.cls ≠ "java/lang/invoke/VarHandle") ∧ Cond.instanceMethod yX3_weigh ∈ gdt ∧ Cond.selects yX3_weigh.cls yX3_weigh yX3_weigh ∈ gdt ∧ Cond.initialized yX3_weigh.cls ∈ gdt ∧ Cond.code yX3_weigh cX3_weigh 5 none ∈ gdt := ⟨⟨by decide +kernel, by decide +kernel⟩, gdt_of 519 (by decide +kernel) (by decide +kernel), gdt_of 520 (by decide +kernel) (by decide +kernel), gdt_of 74 (by decide +kernel) (by decide +kernel), gdt_of 521 (by decide +kernel) (by decide +kernel)⟩
theorem ml_X3_weigh : (parseMethodDescriptor yX3_weigh.desc).map (fun d => d.parameters.length) = some 1 := by decide +kernel
theorem my_X3_addUpSets : (yX3_addUpSets.cls ≠ "java/lang/invoke/MethodHandle" ∧ yX3_addUpSets.cls ≠ "java/lang/invoke/VarHandle") ∧ Cond.instanceMethod yX3_addUpSets ∈ gdt ∧ Cond.selects yX3_addUpSets.cls yX3_addUpSets yX3_addUpSets ∈ gdt ∧ Cond.initialized yX3_addUpSets.cls ∈ gdt ∧ Cond.code yX3_addUpSets cX3_addUpSets 4 none ∈ gdt := ⟨⟨by decide +kernel, by decide +kernel⟩, gdt_of 538 (by decide +kernel) (by decide +kernel), gdt_of 13 (by decide +kernel) (by decide +kernel), gdt_of 74 (by decide +kernel) (by decide +kernel), gdt_of 539 (by decide +kernel) (by decide +kernel)⟩
theorem ml_X3_addUpSets : (parseMethodDescriptor yX3_addUpSets.desc).map (fun d => d.parameters.length) = some 0 := by decide +kernel
theorem my_X3_countParts : (yX3_countParts.cls ≠ "java/lang/invoke/MethodHandle" ∧ yX3_countParts.cls ≠ "java/lang/invoke/VarHandle") ∧ Cond.instanceMethod yX3_countParts ∈ gdt ∧ Cond.selects yX3_countParts.cls yX3_countParts yX3_countParts ∈ gdt ∧ Cond.initialized yX3_countParts.cls ∈ gdt ∧ Cond.code yX3_countParts cX3_countParts 3 none ∈ gdt := ⟨⟨by decide +kernel, by decide +kernel⟩, gdt_of 542 (by decide +kernel) (by decide +kernel), gdt_of 14 (by decide +kernel) (by decide +kernel), gdt_of 74 (by decide +kernel) (by decide +kernel), gdt_of 543 (by decide +kernel) (by decide +kernel)⟩
theorem ml_X3_countParts : (parseMethodDescriptor yX3_countParts.desc).map (fun d => d.parameters.length) = some 0 := by decide +kernel
theorem my_X3_partOpen : (yX3_partOpen.cls ≠ "java/lang/invoke/MethodHandle" ∧ yX3_partOpen.cls ≠ "java/lang/invoke/VarHandle") ∧ Cond.instanceMethod yX3_partOpen ∈ gdt ∧ Cond.selects yX3_partOpen.cls yX3_partOpen yX3_partOpen ∈ gdt ∧ Cond.initialized yX3_partOpen.cls ∈ gdt ∧ Cond.code yX3_partOpen cX3_partOpen 4 none ∈ gdt := ⟨⟨by decide +kernel, by decide +kernel⟩, gdt_of 559 (by decide +kernel) (by decide +kernel), gdt_of 17 (by decide +kernel) (by decide +kernel), gdt_of 74 (by decide +kernel) (by decide +kernel), gdt_of 560 (by decide +kernel) (by decide +kernel)⟩
theorem ml_X3_partOpen : (parseMethodDescriptor yX3_partOpen.desc).map (fun d => d.parameters.length) = some 0 := by decide +kernel
theorem my_X3_groupAt : (yX3_groupAt.cls ≠ "java/lang/invoke/MethodHandle" ∧ yX3_groupAt.cls ≠ "java/lang/invoke/VarHandle") ∧ Cond.instanceMethod yX3_groupAt ∈ gdt ∧ Cond.selects yX3_groupAt.cls yX3_groupAt yX3_groupAt ∈ gdt ∧ Cond.initialized yX3_groupAt.cls ∈ gdt ∧ Cond.code yX3_groupAt cX3_groupAt 2 (some .int) ∈ gdt := ⟨⟨by decide +kernel, by decide +kernel⟩, gdt_of 567 (by decide +kernel) (by decide +kernel), gdt_of 568 (by decide +kernel) (by decide +kernel), gdt_of 74 (by decide +kernel) (by decide +kernel), gdt_of 569 (by decide +kernel) (by decide +kernel)⟩
theorem ml_X3_groupAt : (parseMethodDescriptor yX3_groupAt.desc).map (fun d => d.parameters.length) = some 1 := by decide +kernel
theorem my_X3_payInGroup : (yX3_payInGroup.cls ≠ "java/lang/invoke/MethodHandle" ∧ yX3_payInGroup.cls ≠ "java/lang/invoke/VarHandle") ∧ Cond.instanceMethod yX3_payInGroup ∈ gdt ∧ Cond.selects yX3_payInGroup.cls yX3_payInGroup yX3_payInGroup ∈ gdt ∧ Cond.initialized yX3_payInGroup.cls ∈ gdt ∧ Cond.code yX3_payInGroup cX3_payInGroup 4 none ∈ gdt := ⟨⟨by decide +kernel, by decide +kernel⟩, gdt_of 572 (by decide +kernel) (by decide +kernel), gdt_of 19 (by decide +kernel) (by decide +kernel), gdt_of 74 (by decide +kernel) (by decide +kernel), gdt_of 573 (by decide +kernel) (by decide +kernel)⟩
theorem ml_X3_payInGroup : (parseMethodDescriptor yX3_payInGroup.desc).map (fun d => d.parameters.length) = some 1 := by decide +kernel
theorem dX3_net_0 : decode cX3_net 0 = .ok (.aload_n 0, 1) := by decide +kernel
theorem dX3_net_1 : decode cX3_net 1 = .ok (.aload_n 1, 1) := by decide +kernel
theorem dX3_net_2 : decode cX3_net 2 = .ok (.invokevirtual 50, 3) := by decide +kernel
theorem dX3_net_5 : decode cX3_net 5 = .ok (.aload_n 0, 1) := by decide +kernel
theorem dX3_net_6 : decode cX3_net 6 = .ok (.invokevirtual 54, 3) := by decide +kernel
theorem dX3_net_9 : decode cX3_net 9 = .ok (.aload_n 0, 1) := by decide +kernel
theorem dX3_net_10 : decode cX3_net 10 = .ok (.invokevirtual 57, 3) := by decide +kernel
theorem dX3_net_13 : decode cX3_net 13 = .ok (.aload_n 0, 1) := by decide +kernel
theorem dX3_net_14 : decode cX3_net 14 = .ok (.invokevirtual 60, 3) := by decide +kernel
theorem dX3_net_17 : decode cX3_net 17 = .ok (.aload_n 0, 1) := by decide +kernel
theorem dX3_net_18 : decode cX3_net 18 = .ok (.getfield 36, 3) := by decide +kernel
theorem dX3_net_21 : decode cX3_net 21 = .ok (.invokevirtual 63, 3) := by decide +kernel
theorem dX3_net_24 : decode cX3_net 24 = .ok (.iconst 0, 1) := by decide +kernel
theorem dX3_net_25 : decode cX3_net 25 = .ok (.istore_n 2, 1) := by decide +kernel
theorem dX3_net_26 : decode cX3_net 26 = .ok (.iload_n 2, 1) := by decide +kernel
theorem dX3_net_27 : decode cX3_net 27 = .ok (.aload_n 0, 1) := by decide +kernel
theorem dX3_net_28 : decode cX3_net 28 = .ok (.getfield 27, 3) := by decide +kernel
theorem dX3_net_31 : decode cX3_net 31 = .ok (.if_icmp .ge 18, 3) := by decide +kernel
theorem dX3_net_34 : decode cX3_net 34 = .ok (.aload_n 0, 1) := by decide +kernel
theorem dX3_net_35 : decode cX3_net 35 = .ok (.aload_n 0, 1) := by decide +kernel
theorem dX3_net_36 : decode cX3_net 36 = .ok (.iload_n 2, 1) := by decide +kernel
theorem dX3_net_37 : decode cX3_net 37 = .ok (.invokevirtual 66, 3) := by decide +kernel
theorem dX3_net_40 : decode cX3_net 40 = .ok (.invokevirtual 70, 3) := by decide +kernel
theorem dX3_net_43 : decode cX3_net 43 = .ok (.iinc 2 1, 3) := by decide +kernel
theorem dX3_net_46 : decode cX3_net 46 = .ok (.goto (-20), 3) := by decide +kernel
theorem dX3_net_49 : decode cX3_net 49 = .ok (.return_, 1) := by decide +kernel
def fX3_net_L26 (n_payments_numbers : Nat) (u_groupCount : Int32) (u_balances : (Nat → Int32)) (u_sums : (Nat → Int32)) (u_most : (Nat → Int32)) (u_groups : (Nat → Int32)) (u_payments_room : Int32) : Nat → Int32 → (Nat → Int32) → Int32 → (Nat → Int32) → Option (Int32 × (Nat → Int32) × (Nat → Int32) × (Nat → Int32) × (Nat → Int32) × (Nat → Int32) × Int32 × (Nat → Int32))
  | 0, _, _, _, _ => none
  | n + 1, x2, u_left, u_payments_size, u_payments_numbers => if u_groupCount ≤ x2 then (some (u_groupCount, u_balances, u_left, u_sums, u_most, u_groups, u_payments_size, u_payments_numbers)) else ((fX3_groupAt u_groupCount u_groups x2).bind (fun z7 => (fX3_payInGroup n_payments_numbers u_left u_payments_room u_payments_size u_payments_numbers z7).bind (fun z8 => fX3_net_L26 n_payments_numbers u_groupCount u_balances u_sums u_most u_groups u_payments_room n (x2 + 1) z8.1 z8.2.1 z8.2.2)))
def fX3_net (n_payments_numbers : Nat) (u_balances : (Nat → Int32)) (u_left : (Nat → Int32)) (u_sums : (Nat → Int32)) (u_most : (Nat → Int32)) (u_groups : (Nat → Int32)) (u_payments_room : Int32) (u_payments_numbers : (Nat → Int32)) (ua1_owed : (Nat → Int32)) : Option (Int32 × (Nat → Int32) × (Nat → Int32) × (Nat → Int32) × (Nat → Int32) × (Nat → Int32) × Int32 × (Nat → Int32)) := (fX3_weigh u_balances u_left ua1_owed).bind (fun z1 => (fX3_addUpSets z1.1 u_sums).bind (fun z2 => (fX3_countParts z1.1 z2 u_most).bind (fun z3 => (fX3_partOpen z1.1 z2 z3 u_groups).bind (fun z4 => (fX5_clear).bind (fun z5 => fX3_net_L26 n_payments_numbers z4.1 z1.1 z2 z3 z4.2 u_payments_room 400 0 z1.2 z5 u_payments_numbers)))))
set_option maxRecDepth 20000 in
theorem LX3_net_26 {p : Program} {l : Launch} {e : Env} {R : Room} {s : State} {m : MethodId} {args : Array Value} {below : List Frame} {meth : Method} {c : Code} {Q : State → Prop} {D : va_G} {C : Nat → ClassId} {A : Nat → Prop} (cx : CX p m c s args RX3 cX3_net 3 D C A R 4) {q_ q_balances q_left q_sums q_most q_groups q_payments q_payments_numbers qa1_ qa1_owed qa1_order n_payments_numbers : Nat} {u_groupCount : Int32} {u_balances : (Nat → Int32)} {u_sums : (Nat → Int32)} {u_most : (Nat → Int32)} {u_groups : (Nat → Int32)} {u_payments_room : Int32} {ua1_size : Int32} {ua1_owed : (Nat → Int32)} {z : (Int32 × (Nat → Int32) × (Nat → Int32) × (Nat → Int32) × (Nat → Int32) × (Nat → Int32) × Int32 × (Nat → Int32))} (hret : RT p l e R s m args below meth c Q D A cX3_net none [(q_, .inr (3, [.ref q_balances, .ref q_left, .ref q_sums, .ref q_most, .ref q_groups, .int z.1, .ref q_payments])), (q_balances, .inl (C 0, 6, .inl z.2.1)), (q_left, .inl (C 0, 6, .inl z.2.2.1)), (q_sums, .inl (C 0, 64, .inl z.2.2.2.1)), (q_most, .inl (C 0, 64, .inl z.2.2.2.2.1)), (q_groups, .inl (C 0, 6, .inl z.2.2.2.2.2.1)), (q_payments, .inr (5, [.ref q_payments_numbers, .int u_payments_room, .int z.2.2.2.2.2.2.1])), (q_payments_numbers, .inl (C 0, n_payments_numbers, .inl z.2.2.2.2.2.2.2)), (qa1_, .inr (2, [.ref qa1_owed, .ref qa1_order, .int ua1_size])), (qa1_owed, .inl (C 0, 36, .inl ua1_owed))] none) :
    ∀ (n : Nat) (x2 : Int32) (u_left : (Nat → Int32)) (u_payments_size : Int32) (u_payments_numbers : (Nat → Int32)) (H : Heap) (locs : List Loc) (ls : Array Slot), fX3_net_L26 n_payments_numbers u_groupCount u_balances u_sums u_most u_groups u_payments_room n x2 u_left u_payments_size u_payments_numbers = some z → HW D A s.heap H locs [(q_, .inr (3, [.ref q_balances, .ref q_left, .ref q_sums, .ref q_most, .ref q_groups, .int u_groupCount, .ref q_payments])), (q_balances, .inl (C 0, 6, .inl u_balances)), (q_left, .inl (C 0, 6, .inl u_left)), (q_sums, .inl (C 0, 64, .inl u_sums)), (q_most, .inl (C 0, 64, .inl u_most)), (q_groups, .inl (C 0, 6, .inl u_groups)), (q_payments, .inr (5, [.ref q_payments_numbers, .int u_payments_room, .int u_payments_size])), (q_payments_numbers, .inl (C 0, n_payments_numbers, .inl u_payments_numbers)), (qa1_, .inr (2, [.ref qa1_owed, .ref qa1_order, .int ua1_size])), (qa1_owed, .inl (C 0, 36, .inl ua1_owed))] → lv_has ls 3 [(0, .ref q_), (2, .int x2)] → W p l e R s m args below meth c H locs 0 0 Q (F0 m 26 ls []) := by
  have hx := cx.1
  have hb := cx.2.1
  intro n
  induction n with
  | zero => intro x2 u_left u_payments_size u_payments_numbers H locs ls hF; cases hF
  | succ n ih =>
    intro x2 u_left u_payments_size u_payments_numbers H locs ls hF hw hl
    rw [fX3_net_L26.eq_2] at hF
    refine lv_iload_n hx hb dX3_net_26 rfl (lv_at hl 1 rfl) ?_
    refine lv_aload_n hx hb dX3_net_27 rfl (lv_at hl 0 rfl) ?_
    refine r_get (ci := 3) (v := .int u_groupCount) cx hw iX3 0 5 rfl rfl (by decide) wf_X3_27 rfl dX3_net_28 ?_
    refine lv_icmp_ge (tgt := 49) hx hb dX3_net_31 (by decide) (fun c6 => ?_) (fun c6 => ?_)
    · replace hF := oi_t c6 hF
      obtain rfl := Option.some.inj hF
      exact rt_v hret hw rfl dX3_net_49
    · replace hF := oi_f c6 hF
      refine lv_aload_n hx hb dX3_net_34 rfl (lv_at hl 0 rfl) ?_
      refine lv_aload_n hx hb dX3_net_35 rfl (lv_at hl 0 rfl) ?_
      refine lv_iload_n hx hb dX3_net_36 rfl (lv_at hl 1 rfl) ?_
      obtain ⟨z7, hz7, hF⟩ := ob hF
      refine cV (wr := [(q_balances, .inl (C 0, 6, .inl u_balances)), (q_left, .inl (C 0, 6, .inl u_left)), (q_sums, .inl (C 0, 64, .inl u_sums)), (q_most, .inl (C 0, 64, .inl u_most)), (q_payments, .inr (5, [.ref q_payments_numbers, .int u_payments_room, .int u_payments_size])), (q_payments_numbers, .inl (C 0, n_payments_numbers, .inl u_payments_numbers)), (qa1_, .inr (2, [.ref qa1_owed, .ref qa1_order, .int ua1_size])), (qa1_owed, .inl (C 0, 36, .inl ua1_owed))]) (w2 := [(q_, .inr (3, [.ref q_balances, .ref q_left, .ref q_sums, .ref q_most, .ref q_groups, .int u_groupCount, .ref q_payments])), (q_balances, .inl (C 0, 6, .inl u_balances)), (q_left, .inl (C 0, 6, .inl u_left)), (q_sums, .inl (C 0, 64, .inl u_sums)), (q_most, .inl (C 0, 64, .inl u_most)), (q_groups, .inl (C 0, 6, .inl u_groups)), (q_payments, .inr (5, [.ref q_payments_numbers, .int u_payments_room, .int u_payments_size])), (q_payments_numbers, .inl (C 0, n_payments_numbers, .inl u_payments_numbers)), (qa1_, .inr (2, [.ref qa1_owed, .ref qa1_order, .int ua1_size])), (qa1_owed, .inl (C 0, 36, .inl ua1_owed))]) (st2 := [.int z7, .ref q_]) cx (CX3_groupAt l D C q_ q_balances q_left q_sums q_most q_groups q_payments u_groupCount u_groups x2 z7 hz7) lk_X3_66 my_X3_groupAt ml_X3_groupAt ⟨by decide, by decide⟩ hw [0, 5] [1, 2, 3, 4, 6, 7, 8, 9] [8, 0, 1, 2, 3, 9, 4, 5, 6, 7] rfl rfl (by decide) rfl rfl rfl rfl (Nat.le_of_ble_eq_true rfl) dX3_net_37 rfl (fun H locs hw => ?_) hl.1
      obtain ⟨z8, hz8, hF⟩ := ob hF
      refine cV (wr := [(q_balances, .inl (C 0, 6, .inl u_balances)), (q_sums, .inl (C 0, 64, .inl u_sums)), (q_most, .inl (C 0, 64, .inl u_most)), (q_groups, .inl (C 0, 6, .inl u_groups)), (qa1_, .inr (2, [.ref qa1_owed, .ref qa1_order, .int ua1_size])), (qa1_owed, .inl (C 0, 36, .inl ua1_owed))]) (w2 := [(q_, .inr (3, [.ref q_balances, .ref q_left, .ref q_sums, .ref q_most, .ref q_groups, .int u_groupCount, .ref q_payments])), (q_balances, .inl (C 0, 6, .inl u_balances)), (q_left, .inl (C 0, 6, .inl z8.1)), (q_sums, .inl (C 0, 64, .inl u_sums)), (q_most, .inl (C 0, 64, .inl u_most)), (q_groups, .inl (C 0, 6, .inl u_groups)), (q_payments, .inr (5, [.ref q_payments_numbers, .int u_payments_room, .int z8.2.1])), (q_payments_numbers, .inl (C 0, n_payments_numbers, .inl z8.2.2)), (qa1_, .inr (2, [.ref qa1_owed, .ref qa1_order, .int ua1_size])), (qa1_owed, .inl (C 0, 36, .inl ua1_owed))]) (st2 := []) cx (CX3_payInGroup l D C q_ q_balances q_left q_sums q_most q_groups q_payments q_payments_numbers n_payments_numbers u_groupCount u_left u_payments_room u_payments_size u_payments_numbers z7 z8 hz8) lk_X3_70 my_X3_payInGroup ml_X3_payInGroup ⟨by decide, by decide⟩ hw [0, 2, 6, 7] [1, 3, 4, 5, 8, 9] [6, 0, 7, 1, 2, 3, 8, 9, 4, 5] rfl rfl (by decide) rfl rfl rfl rfl (Nat.le_of_ble_eq_true rfl) dX3_net_40 rfl (fun H locs hw => ?_) hl.1
      refine lv_iinc (v := x2 + 1) (lv' := [(2, .int (x2 + 1)), (0, .ref q_)]) hx hb dX3_net_43 hl (k := 1) rfl rfl (by decide) rfl (fun ls hl => ?_)
      refine lv_goto (tgt := 26) hx hb dX3_net_46 (by decide) ?_
      exact ih (x2 + 1) z8.1 z8.2.1 z8.2.2 H locs ls hF hw (lv_sub hl [1, 0] rfl)
set_option maxRecDepth 20000 in
theorem CX3_net (l : Launch) (D : va_G) (C : Nat → ClassId) (q_ q_balances q_left q_sums q_most q_groups q_payments q_payments_numbers qa1_ qa1_owed qa1_order n_payments_numbers : Nat) (u_groupCount : Int32) (u_balances : (Nat → Int32)) (u_left : (Nat → Int32)) (u_sums : (Nat → Int32)) (u_most : (Nat → Int32)) (u_groups : (Nat → Int32)) (u_payments_room : Int32) (u_payments_size : Int32) (u_payments_numbers : (Nat → Int32)) (ua1_size : Int32) (ua1_owed : (Nat → Int32)) (z : (Int32 × (Nat → Int32) × (Nat → Int32) × (Nat → Int32) × (Nat → Int32) × (Nat → Int32) × Int32 × (Nat → Int32))) (hF : fX3_net n_payments_numbers u_balances u_left u_sums u_most u_groups u_payments_room u_payments_numbers ua1_owed = some z) : Ct l yX3_net cX3_net 3 none 4 D C [.ref q_, .ref qa1_] [(q_, .inr (3, [.ref q_balances, .ref q_left, .ref q_sums, .ref q_most, .ref q_groups, .int u_groupCount, .ref q_payments])), (q_balances, .inl (C 0, 6, .inl u_balances)), (q_left, .inl (C 0, 6, .inl u_left)), (q_sums, .inl (C 0, 64, .inl u_sums)), (q_most, .inl (C 0, 64, .inl u_most)), (q_groups, .inl (C 0, 6, .inl u_groups)), (q_payments, .inr (5, [.ref q_payments_numbers, .int u_payments_room, .int u_payments_size])), (q_payments_numbers, .inl (C 0, n_payments_numbers, .inl u_payments_numbers)), (qa1_, .inr (2, [.ref qa1_owed, .ref qa1_order, .int ua1_size])), (qa1_owed, .inl (C 0, 36, .inl ua1_owed))] [(q_, .inr (3, [.ref q_balances, .ref q_left, .ref q_sums, .ref q_most, .ref q_groups, .int z.1, .ref q_payments])), (q_balances, .inl (C 0, 6, .inl z.2.1)), (q_left, .inl (C 0, 6, .inl z.2.2.1)), (q_sums, .inl (C 0, 64, .inl z.2.2.2.1)), (q_most, .inl (C 0, 64, .inl z.2.2.2.2.1)), (q_groups, .inl (C 0, 6, .inl z.2.2.2.2.2.1)), (q_payments, .inr (5, [.ref q_payments_numbers, .int u_payments_room, .int z.2.2.2.2.2.2.1])), (q_payments_numbers, .inl (C 0, n_payments_numbers, .inl z.2.2.2.2.2.2.2)), (qa1_, .inr (2, [.ref qa1_owed, .ref qa1_order, .int ua1_size])), (qa1_owed, .inl (C 0, 36, .inl ua1_owed))] none := by
  refine Ct_of (by decide) (Nat.le_of_ble_eq_true rfl) ?_
  intro p e R s m args below meth c A Q H locs ls cx hw hl hret
  have cx : CX p m c s args RX3 cX3_net 3 D C A R 4 := cx
  have hx := cx.1
  have hb := cx.2.1
  have hl : lv_has ls 3 [(0, .ref q_), (1, .ref qa1_)] := hl
  rw [fX3_net.eq_1] at hF
  refine lv_aload_n hx hb dX3_net_0 rfl (lv_at hl 0 rfl) ?_
  refine lv_aload_n hx hb dX3_net_1 rfl (lv_at hl 1 rfl) ?_
  obtain ⟨z1, hz1, hF⟩ := ob hF
  refine cV (wr := [(q_sums, .inl (C 0, 64, .inl u_sums)), (q_most, .inl (C 0, 64, .inl u_most)), (q_groups, .inl (C 0, 6, .inl u_groups)), (q_payments, .inr (5, [.ref q_payments_numbers, .int u_payments_room, .int u_payments_size])), (q_payments_numbers, .inl (C 0, n_payments_numbers, .inl u_payments_numbers))]) (w2 := [(q_, .inr (3, [.ref q_balances, .ref q_left, .ref q_sums, .ref q_most, .ref q_groups, .int u_groupCount, .ref q_payments])), (q_balances, .inl (C 0, 6, .inl z1.1)), (q_left, .inl (C 0, 6, .inl z1.2)), (q_sums, .inl (C 0, 64, .inl u_sums)), (q_most, .inl (C 0, 64, .inl u_most)), (q_groups, .inl (C 0, 6, .inl u_groups)), (q_payments, .inr (5, [.ref q_payments_numbers, .int u_payments_room, .int u_payments_size])), (q_payments_numbers, .inl (C 0, n_payments_numbers, .inl u_payments_numbers)), (qa1_, .inr (2, [.ref qa1_owed, .ref qa1_order, .int ua1_size])), (qa1_owed, .inl (C 0, 36, .inl ua1_owed))]) (st2 := []) cx (CX3_weigh l D C q_ q_balances q_left q_sums q_most q_groups q_payments qa1_ qa1_owed qa1_order u_groupCount u_balances u_left ua1_size ua1_owed z1 hz1) lk_X3_50 my_X3_weigh ml_X3_weigh ⟨by decide, by decide⟩ hw [0, 1, 2, 8, 9] [3, 4, 5, 6, 7] [5, 6, 7, 0, 1, 2, 3, 4, 8, 9] rfl rfl (by decide) rfl rfl rfl rfl (Nat.le_of_ble_eq_true rfl) dX3_net_2 rfl (fun H locs hw => ?_) hl.1
  refine lv_aload_n hx hb dX3_net_5 rfl (lv_at hl 0 rfl) ?_
  obtain ⟨z2, hz2, hF⟩ := ob hF
  refine cV (wr := [(q_left, .inl (C 0, 6, .inl z1.2)), (q_most, .inl (C 0, 64, .inl u_most)), (q_groups, .inl (C 0, 6, .inl u_groups)), (q_payments, .inr (5, [.ref q_payments_numbers, .int u_payments_room, .int u_payments_size])), (q_payments_numbers, .inl (C 0, n_payments_numbers, .inl u_payments_numbers)), (qa1_, .inr (2, [.ref qa1_owed, .ref qa1_order, .int ua1_size])), (qa1_owed, .inl (C 0, 36, .inl ua1_owed))]) (w2 := [(q_, .inr (3, [.ref q_balances, .ref q_left, .ref q_sums, .ref q_most, .ref q_groups, .int u_groupCount, .ref q_payments])), (q_balances, .inl (C 0, 6, .inl z1.1)), (q_left, .inl (C 0, 6, .inl z1.2)), (q_sums, .inl (C 0, 64, .inl z2)), (q_most, .inl (C 0, 64, .inl u_most)), (q_groups, .inl (C 0, 6, .inl u_groups)), (q_payments, .inr (5, [.ref q_payments_numbers, .int u_payments_room, .int u_payments_size])), (q_payments_numbers, .inl (C 0, n_payments_numbers, .inl u_payments_numbers)), (qa1_, .inr (2, [.ref qa1_owed, .ref qa1_order, .int ua1_size])), (qa1_owed, .inl (C 0, 36, .inl ua1_owed))]) (st2 := []) cx (CX3_addUpSets l D C q_ q_balances q_left q_sums q_most q_groups q_payments u_groupCount z1.1 u_sums z2 hz2) lk_X3_54 my_X3_addUpSets ml_X3_addUpSets ⟨by decide, by decide⟩ hw [0, 1, 3] [2, 4, 5, 6, 7, 8, 9] [7, 8, 0, 9, 1, 2, 3, 4, 5, 6] rfl rfl (by decide) rfl rfl rfl rfl (Nat.le_of_ble_eq_true rfl) dX3_net_6 rfl (fun H locs hw => ?_) hl.1
  refine lv_aload_n hx hb dX3_net_9 rfl (lv_at hl 0 rfl) ?_
  obtain ⟨z3, hz3, hF⟩ := ob hF
  refine cV (wr := [(q_left, .inl (C 0, 6, .inl z1.2)), (q_groups, .inl (C 0, 6, .inl u_groups)), (q_payments, .inr (5, [.ref q_payments_numbers, .int u_payments_room, .int u_payments_size])), (q_payments_numbers, .inl (C 0, n_payments_numbers, .inl u_payments_numbers)), (qa1_, .inr (2, [.ref qa1_owed, .ref qa1_order, .int ua1_size])), (qa1_owed, .inl (C 0, 36, .inl ua1_owed))]) (w2 := [(q_, .inr (3, [.ref q_balances, .ref q_left, .ref q_sums, .ref q_most, .ref q_groups, .int u_groupCount, .ref q_payments])), (q_balances, .inl (C 0, 6, .inl z1.1)), (q_left, .inl (C 0, 6, .inl z1.2)), (q_sums, .inl (C 0, 64, .inl z2)), (q_most, .inl (C 0, 64, .inl z3)), (q_groups, .inl (C 0, 6, .inl u_groups)), (q_payments, .inr (5, [.ref q_payments_numbers, .int u_payments_room, .int u_payments_size])), (q_payments_numbers, .inl (C 0, n_payments_numbers, .inl u_payments_numbers)), (qa1_, .inr (2, [.ref qa1_owed, .ref qa1_order, .int ua1_size])), (qa1_owed, .inl (C 0, 36, .inl ua1_owed))]) (st2 := []) cx (CX3_countParts l D C q_ q_balances q_left q_sums q_most q_groups q_payments u_groupCount z1.1 z2 u_most z3 hz3) lk_X3_57 my_X3_countParts ml_X3_countParts ⟨by decide, by decide⟩ hw [0, 1, 3, 4] [2, 5, 6, 7, 8, 9] [6, 7, 0, 8, 9, 1, 2, 3, 4, 5] rfl rfl (by decide) rfl rfl rfl rfl (Nat.le_of_ble_eq_true rfl) dX3_net_10 rfl (fun H locs hw => ?_) hl.1
  refine lv_aload_n hx hb dX3_net_13 rfl (lv_at hl 0 rfl) ?_
  obtain ⟨z4, hz4, hF⟩ := ob hF
  refine cV (wr := [(q_left, .inl (C 0, 6, .inl z1.2)), (q_payments, .inr (5, [.ref q_payments_numbers, .int u_payments_room, .int u_payments_size])), (q_payments_numbers, .inl (C 0, n_payments_numbers, .inl u_payments_numbers)), (qa1_, .inr (2, [.ref qa1_owed, .ref qa1_order, .int ua1_size])), (qa1_owed, .inl (C 0, 36, .inl ua1_owed))]) (w2 := [(q_, .inr (3, [.ref q_balances, .ref q_left, .ref q_sums, .ref q_most, .ref q_groups, .int z4.1, .ref q_payments])), (q_balances, .inl (C 0, 6, .inl z1.1)), (q_left, .inl (C 0, 6, .inl z1.2)), (q_sums, .inl (C 0, 64, .inl z2)), (q_most, .inl (C 0, 64, .inl z3)), (q_groups, .inl (C 0, 6, .inl z4.2)), (q_payments, .inr (5, [.ref q_payments_numbers, .int u_payments_room, .int u_payments_size])), (q_payments_numbers, .inl (C 0, n_payments_numbers, .inl u_payments_numbers)), (qa1_, .inr (2, [.ref qa1_owed, .ref qa1_order, .int ua1_size])), (qa1_owed, .inl (C 0, 36, .inl ua1_owed))]) (st2 := []) cx (CX3_partOpen l D C q_ q_balances q_left q_sums q_most q_groups q_payments u_groupCount z1.1 z2 z3 u_groups z4 hz4) lk_X3_60 my_X3_partOpen ml_X3_partOpen ⟨by decide, by decide⟩ hw [0, 1, 3, 4, 5] [2, 6, 7, 8, 9] [5, 6, 0, 7, 8, 9, 1, 2, 3, 4] rfl rfl (by decide) rfl rfl rfl rfl (Nat.le_of_ble_eq_true rfl) dX3_net_14 rfl (fun H locs hw => ?_) hl.1
  refine lv_aload_n hx hb dX3_net_17 rfl (lv_at hl 0 rfl) ?_
  refine r_get (ci := 3) (v := .ref q_payments) cx hw iX3 0 6 rfl rfl (by decide) wf_X3_36 rfl dX3_net_18 ?_
  obtain ⟨z5, hz5, hF⟩ := ob hF
  refine cV (wr := [(q_, .inr (3, [.ref q_balances, .ref q_left, .ref q_sums, .ref q_most, .ref q_groups, .int z4.1, .ref q_payments])), (q_balances, .inl (C 0, 6, .inl z1.1)), (q_left, .inl (C 0, 6, .inl z1.2)), (q_sums, .inl (C 0, 64, .inl z2)), (q_most, .inl (C 0, 64, .inl z3)), (q_groups, .inl (C 0, 6, .inl z4.2)), (q_payments_numbers, .inl (C 0, n_payments_numbers, .inl u_payments_numbers)), (qa1_, .inr (2, [.ref qa1_owed, .ref qa1_order, .int ua1_size])), (qa1_owed, .inl (C 0, 36, .inl ua1_owed))]) (w2 := [(q_, .inr (3, [.ref q_balances, .ref q_left, .ref q_sums, .ref q_most, .ref q_groups, .int z4.1, .ref q_payments])), (q_balances, .inl (C 0, 6, .inl z1.1)), (q_left, .inl (C 0, 6, .inl z1.2)), (q_sums, .inl (C 0, 64, .inl z2)), (q_most, .inl (C 0, 64, .inl z3)), (q_groups, .inl (C 0, 6, .inl z4.2)), (q_payments, .inr (5, [.ref q_payments_numbers, .int u_payments_room, .int z5])), (q_payments_numbers, .inl (C 0, n_payments_numbers, .inl u_payments_numbers)), (qa1_, .inr (2, [.ref qa1_owed, .ref qa1_order, .int ua1_size])), (qa1_owed, .inl (C 0, 36, .inl ua1_owed))]) (st2 := []) cx (CX5_clear l D C q_payments q_payments_numbers u_payments_room u_payments_size z5 hz5) lk_X3_63 my_X5_clear ml_X5_clear ⟨by decide, by decide⟩ hw [6] [0, 1, 2, 3, 4, 5, 7, 8, 9] [0, 1, 2, 3, 4, 5, 9, 6, 7, 8] rfl rfl (by decide) rfl rfl rfl rfl (Nat.le_of_ble_eq_true rfl) dX3_net_21 rfl (fun H locs hw => ?_) hl.1
  refine lv_iconst (v := 0) hx hb dX3_net_24 (by decide) ?_
  refine lv_istore_n (lv' := [(2, .int 0), (0, .ref q_), (1, .ref qa1_)]) hx hb dX3_net_25 rfl hl (by decide) rfl (fun ls hl => ?_)
  refine LX3_net_26 cx hret 400 0 z1.2 z5 u_payments_numbers H locs ls hF hw (lv_sub hl [1, 0] rfl)
theorem lk_X3_73 : Cond.methodLink RX3 73 yX1_isGiven ∈ gdt := gdt_of 593 (by decide +kernel) (by decide +kernel)
theorem dX3_netWilling_0 : decode cX3_netWilling 0 = .ok (.aload_n 0, 1) := by decide +kernel
theorem dX3_netWilling_1 : decode cX3_netWilling 1 = .ok (.aload_n 1, 1) := by decide +kernel
theorem dX3_netWilling_2 : decode cX3_netWilling 2 = .ok (.invokevirtual 50, 3) := by decide +kernel
theorem dX3_netWilling_5 : decode cX3_netWilling 5 = .ok (.aload_n 0, 1) := by decide +kernel
theorem dX3_netWilling_6 : decode cX3_netWilling 6 = .ok (.getfield 36, 3) := by decide +kernel
theorem dX3_netWilling_9 : decode cX3_netWilling 9 = .ok (.invokevirtual 63, 3) := by decide +kernel
theorem dX3_netWilling_12 : decode cX3_netWilling 12 = .ok (.iconst 0, 1) := by decide +kernel
theorem dX3_netWilling_13 : decode cX3_netWilling 13 = .ok (.istore_n 3, 1) := by decide +kernel
theorem dX3_netWilling_14 : decode cX3_netWilling 14 = .ok (.iload_n 3, 1) := by decide +kernel
theorem dX3_netWilling_15 : decode cX3_netWilling 15 = .ok (.bipush 6, 2) := by decide +kernel
theorem dX3_netWilling_17 : decode cX3_netWilling 17 = .ok (.if_icmp .ge 42, 3) := by decide +kernel
theorem dX3_netWilling_20 : decode cX3_netWilling 20 = .ok (.iconst 0, 1) := by decide +kernel
theorem dX3_netWilling_21 : decode cX3_netWilling 21 = .ok (.istore 4, 2) := by decide +kernel
theorem dX3_netWilling_23 : decode cX3_netWilling 23 = .ok (.iload 4, 2) := by decide +kernel
theorem dX3_netWilling_25 : decode cX3_netWilling 25 = .ok (.bipush 6, 2) := by decide +kernel
theorem dX3_netWilling_27 : decode cX3_netWilling 27 = .ok (.if_icmp .ge 26, 3) := by decide +kernel
theorem dX3_netWilling_30 : decode cX3_netWilling 30 = .ok (.aload_n 2, 1) := by decide +kernel
theorem dX3_netWilling_31 : decode cX3_netWilling 31 = .ok (.iload_n 3, 1) := by decide +kernel
theorem dX3_netWilling_32 : decode cX3_netWilling 32 = .ok (.iload 4, 2) := by decide +kernel
theorem dX3_netWilling_34 : decode cX3_netWilling 34 = .ok (.invokevirtual 73, 3) := by decide +kernel
theorem dX3_netWilling_37 : decode cX3_netWilling 37 = .ok (.ifCond .eq 10, 3) := by decide +kernel
theorem dX3_netWilling_40 : decode cX3_netWilling 40 = .ok (.aload_n 0, 1) := by decide +kernel
theorem dX3_netWilling_41 : decode cX3_netWilling 41 = .ok (.iload_n 3, 1) := by decide +kernel
theorem dX3_netWilling_42 : decode cX3_netWilling 42 = .ok (.iload 4, 2) := by decide +kernel
theorem dX3_netWilling_44 : decode cX3_netWilling 44 = .ok (.invokevirtual 79, 3) := by decide +kernel
theorem dX3_netWilling_47 : decode cX3_netWilling 47 = .ok (.iinc 4 1, 3) := by decide +kernel
theorem dX3_netWilling_50 : decode cX3_netWilling 50 = .ok (.goto (-27), 3) := by decide +kernel
theorem dX3_netWilling_53 : decode cX3_netWilling 53 = .ok (.iinc 3 1, 3) := by decide +kernel
theorem dX3_netWilling_56 : decode cX3_netWilling 56 = .ok (.goto (-42), 3) := by decide +kernel
theorem dX3_netWilling_59 : decode cX3_netWilling 59 = .ok (.return_, 1) := by decide +kernel
def fX3_netWilling_L23 (k53 : (Nat → Int32) → Int32 → (Nat → Int32) → Option ((Nat → Int32) × (Nat → Int32) × Int32 × (Nat → Int32))) (n_payments_numbers : Nat) (u_payments_room : Int32) (ua2_refused : (Nat → Int32)) (x3 : Int32) : Nat → Int32 → (Nat → Int32) → Int32 → (Nat → Int32) → Option ((Nat → Int32) × (Nat → Int32) × Int32 × (Nat → Int32))
  | 0, _, _, _, _ => none
  | n + 1, x4, u_left, u_payments_size, u_payments_numbers => if 6 ≤ x4 then (k53 u_left u_payments_size u_payments_numbers) else ((fX1_isGiven ua2_refused x3 x4).bind (fun z5 => if z5 = 0 then (fX3_netWilling_L23 k53 n_payments_numbers u_payments_room ua2_refused x3 n (x4 + 1) u_left u_payments_size u_payments_numbers) else ((fX3_payWhatBothHave n_payments_numbers u_left u_payments_room u_payments_size u_payments_numbers x3 x4).bind (fun z7 => fX3_netWilling_L23 k53 n_payments_numbers u_payments_room ua2_refused x3 n (x4 + 1) z7.1 z7.2.1 z7.2.2))))
def fX3_netWilling_L14 (n_payments_numbers : Nat) (u_balances : (Nat → Int32)) (u_payments_room : Int32) (ua2_refused : (Nat → Int32)) : Nat → Int32 → (Nat → Int32) → Int32 → (Nat → Int32) → Option ((Nat → Int32) × (Nat → Int32) × Int32 × (Nat → Int32))
  | 0, _, _, _, _ => none
  | n + 1, x3, u_left, u_payments_size, u_payments_numbers => if 6 ≤ x3 then (some (u_balances, u_left, u_payments_size, u_payments_numbers)) else (fX3_netWilling_L23 (fun (u_left_8 : (Nat → Int32)) (u_payments_size_8 : Int32) (u_payments_numbers_8 : (Nat → Int32)) => fX3_netWilling_L14 n_payments_numbers u_balances u_payments_room ua2_refused n (x3 + 1) u_left_8 u_payments_size_8 u_payments_numbers_8) n_payments_numbers u_payments_room ua2_refused x3 400 0 u_left u_payments_size u_payments_numbers)
def fX3_netWilling (n_payments_numbers : Nat) (u_balances : (Nat → Int32)) (u_left : (Nat → Int32)) (u_payments_room : Int32) (u_payments_numbers : (Nat → Int32)) (ua1_owed : (Nat → Int32)) (ua2_refused : (Nat → Int32)) : Option ((Nat → Int32) × (Nat → Int32) × Int32 × (Nat → Int32)) := (fX3_weigh u_balances u_left ua1_owed).bind (fun z1 => (fX5_clear).bind (fun z2 => fX3_netWilling_L14 n_payments_numbers z1.1 u_payments_room ua2_refused 400 0 z1.2 z2 u_payments_numbers))
set_option maxRecDepth 20000 in
theorem LX3_netWilling_23 {p : Program} {l : Launch} {e : Env} {R : Room} {s : State} {m : MethodId} {args : Array Value} {below : List Frame} {meth : Method} {c : Code} {Q : State → Prop} {D : va_G} {C : Nat → ClassId} {A : Nat → Prop} (cx : CX p m c s args RX3 cX3_netWilling 5 D C A R 4) {q_ q_balances q_left q_sums q_most q_groups q_payments q_payments_numbers qa1_ qa1_owed qa1_order qa2_ qa2_refused n_payments_numbers : Nat} {u_groupCount : Int32} {u_balances : (Nat → Int32)} {u_payments_room : Int32} {ua1_size : Int32} {ua1_owed : (Nat → Int32)} {ua2_refused : (Nat → Int32)} {x3 : Int32} {z : ((Nat → Int32) × (Nat → Int32) × Int32 × (Nat → Int32))} (hret : RT p l e R s m args below meth c Q D A cX3_netWilling none [(q_, .inr (3, [.ref q_balances, .ref q_left, .ref q_sums, .ref q_most, .ref q_groups, .int u_groupCount, .ref q_payments])), (q_balances, .inl (C 0, 6, .inl z.1)), (q_left, .inl (C 0, 6, .inl z.2.1)), (q_payments, .inr (5, [.ref q_payments_numbers, .int u_payments_room, .int z.2.2.1])), (q_payments_numbers, .inl (C 0, n_payments_numbers, .inl z.2.2.2)), (qa1_, .inr (2, [.ref qa1_owed, .ref qa1_order, .int ua1_size])), (qa1_owed, .inl (C 0, 36, .inl ua1_owed)), (qa2_, .inr (1, [.ref qa2_refused])), (qa2_refused, .inl (C 2, 36, .inl ua2_refused))] none) {k53 : (Nat → Int32) → Int32 → (Nat → Int32) → Option ((Nat → Int32) × (Nat → Int32) × Int32 × (Nat → Int32))} (hk53 : ∀ (u_left : (Nat → Int32)) (u_payments_size : Int32) (u_payments_numbers : (Nat → Int32)) (H : Heap) (locs : List Loc) (ls : Array Slot), k53 u_left u_payments_size u_payments_numbers = some z → HW D A s.heap H locs [(q_, .inr (3, [.ref q_balances, .ref q_left, .ref q_sums, .ref q_most, .ref q_groups, .int u_groupCount, .ref q_payments])), (q_balances, .inl (C 0, 6, .inl u_balances)), (q_left, .inl (C 0, 6, .inl u_left)), (q_payments, .inr (5, [.ref q_payments_numbers, .int u_payments_room, .int u_payments_size])), (q_payments_numbers, .inl (C 0, n_payments_numbers, .inl u_payments_numbers)), (qa1_, .inr (2, [.ref qa1_owed, .ref qa1_order, .int ua1_size])), (qa1_owed, .inl (C 0, 36, .inl ua1_owed)), (qa2_, .inr (1, [.ref qa2_refused])), (qa2_refused, .inl (C 2, 36, .inl ua2_refused))] → lv_has ls 5 [(0, .ref q_), (2, .ref qa2_), (3, .int x3)] → W p l e R s m args below meth c H locs 0 0 Q (F0 m 53 ls [])) :
    ∀ (n : Nat) (x4 : Int32) (u_left : (Nat → Int32)) (u_payments_size : Int32) (u_payments_numbers : (Nat → Int32)) (H : Heap) (locs : List Loc) (ls : Array Slot), fX3_netWilling_L23 k53 n_payments_numbers u_payments_room ua2_refused x3 n x4 u_left u_payments_size u_payments_numbers = some z → HW D A s.heap H locs [(q_, .inr (3, [.ref q_balances, .ref q_left, .ref q_sums, .ref q_most, .ref q_groups, .int u_groupCount, .ref q_payments])), (q_balances, .inl (C 0, 6, .inl u_balances)), (q_left, .inl (C 0, 6, .inl u_left)), (q_payments, .inr (5, [.ref q_payments_numbers, .int u_payments_room, .int u_payments_size])), (q_payments_numbers, .inl (C 0, n_payments_numbers, .inl u_payments_numbers)), (qa1_, .inr (2, [.ref qa1_owed, .ref qa1_order, .int ua1_size])), (qa1_owed, .inl (C 0, 36, .inl ua1_owed)), (qa2_, .inr (1, [.ref qa2_refused])), (qa2_refused, .inl (C 2, 36, .inl ua2_refused))] → lv_has ls 5 [(0, .ref q_), (2, .ref qa2_), (3, .int x3), (4, .int x4)] → W p l e R s m args below meth c H locs 0 0 Q (F0 m 23 ls []) := by
  have hx := cx.1
  have hb := cx.2.1
  intro n
  induction n with
  | zero => intro x4 u_left u_payments_size u_payments_numbers H locs ls hF; cases hF
  | succ n ih =>
    intro x4 u_left u_payments_size u_payments_numbers H locs ls hF hw hl
    rw [fX3_netWilling_L23.eq_2] at hF
    refine lv_iload hx hb dX3_netWilling_23 (lv_at hl 3 rfl) ?_
    refine lv_bipush (v := 6) hx hb dX3_netWilling_25 (by decide) ?_
    refine lv_icmp_ge (tgt := 53) hx hb dX3_netWilling_27 (by decide) (fun c4 => ?_) (fun c4 => ?_)
    · replace hF := oi_t c4 hF
      exact hk53 u_left u_payments_size u_payments_numbers H locs ls hF hw (lv_sub hl [0, 1, 2] rfl)
    · replace hF := oi_f c4 hF
      refine lv_aload_n hx hb dX3_netWilling_30 rfl (lv_at hl 1 rfl) ?_
      refine lv_iload_n hx hb dX3_netWilling_31 rfl (lv_at hl 2 rfl) ?_
      refine lv_iload hx hb dX3_netWilling_32 (lv_at hl 3 rfl) ?_
      obtain ⟨z5, hz5, hF⟩ := ob hF
      refine cV (wr := [(q_, .inr (3, [.ref q_balances, .ref q_left, .ref q_sums, .ref q_most, .ref q_groups, .int u_groupCount, .ref q_payments])), (q_balances, .inl (C 0, 6, .inl u_balances)), (q_left, .inl (C 0, 6, .inl u_left)), (q_payments, .inr (5, [.ref q_payments_numbers, .int u_payments_room, .int u_payments_size])), (q_payments_numbers, .inl (C 0, n_payments_numbers, .inl u_payments_numbers)), (qa1_, .inr (2, [.ref qa1_owed, .ref qa1_order, .int ua1_size])), (qa1_owed, .inl (C 0, 36, .inl ua1_owed))]) (w2 := [(q_, .inr (3, [.ref q_balances, .ref q_left, .ref q_sums, .ref q_most, .ref q_groups, .int u_groupCount, .ref q_payments])), (q_balances, .inl (C 0, 6, .inl u_balances)), (q_left, .inl (C 0, 6, .inl u_left)), (q_payments, .inr (5, [.ref q_payments_numbers, .int u_payments_room, .int u_payments_size])), (q_payments_numbers, .inl (C 0, n_payments_numbers, .inl u_payments_numbers)), (qa1_, .inr (2, [.ref qa1_owed, .ref qa1_order, .int ua1_size])), (qa1_owed, .inl (C 0, 36, .inl ua1_owed)), (qa2_, .inr (1, [.ref qa2_refused])), (qa2_refused, .inl (C 2, 36, .inl ua2_refused))]) (st2 := [.int z5]) cx (CX1_isGiven l D C qa2_ qa2_refused ua2_refused x3 x4 z5 hz5) lk_X3_73 my_X1_isGiven ml_X1_isGiven ⟨by decide, by decide⟩ hw [7, 8] [0, 1, 2, 3, 4, 5, 6] [0, 1, 2, 3, 4, 5, 6, 7, 8] rfl rfl (by decide) rfl rfl rfl rfl (Nat.le_of_ble_eq_true rfl) dX3_netWilling_34 rfl (fun H locs hw => ?_) hl.1
      refine lv_if_eq (tgt := 47) hx hb dX3_netWilling_37 (by decide) (fun c6 => ?_) (fun c6 => ?_)
      · replace hF := oi_t c6 hF
        refine lv_iinc (v := x4 + 1) (lv' := [(4, .int (x4 + 1)), (0, .ref q_), (2, .ref qa2_), (3, .int x3)]) hx hb dX3_netWilling_47 hl (k := 3) rfl rfl (by decide) rfl (fun ls hl => ?_)
        refine lv_goto (tgt := 23) hx hb dX3_netWilling_50 (by decide) ?_
        exact ih (x4 + 1) u_left u_payments_size u_payments_numbers H locs ls hF hw (lv_sub hl [1, 2, 3, 0] rfl)
      · replace hF := oi_f c6 hF
        refine lv_aload_n hx hb dX3_netWilling_40 rfl (lv_at hl 0 rfl) ?_
        refine lv_iload_n hx hb dX3_netWilling_41 rfl (lv_at hl 2 rfl) ?_
        refine lv_iload hx hb dX3_netWilling_42 (lv_at hl 3 rfl) ?_
        obtain ⟨z7, hz7, hF⟩ := ob hF
        refine cV (wr := [(q_balances, .inl (C 0, 6, .inl u_balances)), (qa1_, .inr (2, [.ref qa1_owed, .ref qa1_order, .int ua1_size])), (qa1_owed, .inl (C 0, 36, .inl ua1_owed)), (qa2_, .inr (1, [.ref qa2_refused])), (qa2_refused, .inl (C 2, 36, .inl ua2_refused))]) (w2 := [(q_, .inr (3, [.ref q_balances, .ref q_left, .ref q_sums, .ref q_most, .ref q_groups, .int u_groupCount, .ref q_payments])), (q_balances, .inl (C 0, 6, .inl u_balances)), (q_left, .inl (C 0, 6, .inl z7.1)), (q_payments, .inr (5, [.ref q_payments_numbers, .int u_payments_room, .int z7.2.1])), (q_payments_numbers, .inl (C 0, n_payments_numbers, .inl z7.2.2)), (qa1_, .inr (2, [.ref qa1_owed, .ref qa1_order, .int ua1_size])), (qa1_owed, .inl (C 0, 36, .inl ua1_owed)), (qa2_, .inr (1, [.ref qa2_refused])), (qa2_refused, .inl (C 2, 36, .inl ua2_refused))]) (st2 := []) cx (CX3_payWhatBothHave l D C q_ q_balances q_left q_sums q_most q_groups q_payments q_payments_numbers n_payments_numbers u_groupCount u_left u_payments_room u_payments_size u_payments_numbers x3 x4 z7 hz7) lk_X3_79 my_X3_payWhatBothHave ml_X3_payWhatBothHave ⟨by decide, by decide⟩ hw [0, 2, 3, 4] [1, 5, 6, 7, 8] [5, 0, 6, 7, 8, 1, 2, 3, 4] rfl rfl (by decide) rfl rfl rfl rfl (Nat.le_of_ble_eq_true rfl) dX3_netWilling_44 rfl (fun H locs hw => ?_) hl.1
        refine lv_iinc (v := x4 + 1) (lv' := [(4, .int (x4 + 1)), (0, .ref q_), (2, .ref qa2_), (3, .int x3)]) hx hb dX3_netWilling_47 hl (k := 3) rfl rfl (by decide) rfl (fun ls hl => ?_)
        refine lv_goto (tgt := 23) hx hb dX3_netWilling_50 (by decide) ?_
        exact ih (x4 + 1) z7.1 z7.2.1 z7.2.2 H locs ls hF hw (lv_sub hl [1, 2, 3, 0] rfl)
set_option maxRecDepth 20000 in
theorem LX3_netWilling_14 {p : Program} {l : Launch} {e : Env} {R : Room} {s : State} {m : MethodId} {args : Array Value} {below : List Frame} {meth : Method} {c : Code} {Q : State → Prop} {D : va_G} {C : Nat → ClassId} {A : Nat → Prop} (cx : CX p m c s args RX3 cX3_netWilling 5 D C A R 4) {q_ q_balances q_left q_sums q_most q_groups q_payments q_payments_numbers qa1_ qa1_owed qa1_order qa2_ qa2_refused n_payments_numbers : Nat} {u_groupCount : Int32} {u_balances : (Nat → Int32)} {u_payments_room : Int32} {ua1_size : Int32} {ua1_owed : (Nat → Int32)} {ua2_refused : (Nat → Int32)} {z : ((Nat → Int32) × (Nat → Int32) × Int32 × (Nat → Int32))} (hret : RT p l e R s m args below meth c Q D A cX3_netWilling none [(q_, .inr (3, [.ref q_balances, .ref q_left, .ref q_sums, .ref q_most, .ref q_groups, .int u_groupCount, .ref q_payments])), (q_balances, .inl (C 0, 6, .inl z.1)), (q_left, .inl (C 0, 6, .inl z.2.1)), (q_payments, .inr (5, [.ref q_payments_numbers, .int u_payments_room, .int z.2.2.1])), (q_payments_numbers, .inl (C 0, n_payments_numbers, .inl z.2.2.2)), (qa1_, .inr (2, [.ref qa1_owed, .ref qa1_order, .int ua1_size])), (qa1_owed, .inl (C 0, 36, .inl ua1_owed)), (qa2_, .inr (1, [.ref qa2_refused])), (qa2_refused, .inl (C 2, 36, .inl ua2_refused))] none) :
    ∀ (n : Nat) (x3 : Int32) (u_left : (Nat → Int32)) (u_payments_size : Int32) (u_payments_numbers : (Nat → Int32)) (H : Heap) (locs : List Loc) (ls : Array Slot), fX3_netWilling_L14 n_payments_numbers u_balances u_payments_room ua2_refused n x3 u_left u_payments_size u_payments_numbers = some z → HW D A s.heap H locs [(q_, .inr (3, [.ref q_balances, .ref q_left, .ref q_sums, .ref q_most, .ref q_groups, .int u_groupCount, .ref q_payments])), (q_balances, .inl (C 0, 6, .inl u_balances)), (q_left, .inl (C 0, 6, .inl u_left)), (q_payments, .inr (5, [.ref q_payments_numbers, .int u_payments_room, .int u_payments_size])), (q_payments_numbers, .inl (C 0, n_payments_numbers, .inl u_payments_numbers)), (qa1_, .inr (2, [.ref qa1_owed, .ref qa1_order, .int ua1_size])), (qa1_owed, .inl (C 0, 36, .inl ua1_owed)), (qa2_, .inr (1, [.ref qa2_refused])), (qa2_refused, .inl (C 2, 36, .inl ua2_refused))] → lv_has ls 5 [(0, .ref q_), (2, .ref qa2_), (3, .int x3)] → W p l e R s m args below meth c H locs 0 0 Q (F0 m 14 ls []) := by
  have hx := cx.1
  have hb := cx.2.1
  intro n
  induction n with
  | zero => intro x3 u_left u_payments_size u_payments_numbers H locs ls hF; cases hF
  | succ n ih =>
    intro x3 u_left u_payments_size u_payments_numbers H locs ls hF hw hl
    rw [fX3_netWilling_L14.eq_2] at hF
    refine lv_iload_n hx hb dX3_netWilling_14 rfl (lv_at hl 2 rfl) ?_
    refine lv_bipush (v := 6) hx hb dX3_netWilling_15 (by decide) ?_
    refine lv_icmp_ge (tgt := 59) hx hb dX3_netWilling_17 (by decide) (fun c3 => ?_) (fun c3 => ?_)
    · replace hF := oi_t c3 hF
      obtain rfl := Option.some.inj hF
      exact rt_v hret hw rfl dX3_netWilling_59
    · replace hF := oi_f c3 hF
      refine lv_iconst (v := 0) hx hb dX3_netWilling_20 (by decide) ?_
      refine lv_istore (lv' := [(4, .int 0), (0, .ref q_), (2, .ref qa2_), (3, .int x3)]) hx hb dX3_netWilling_21 hl (by decide) rfl (fun ls hl => ?_)
      refine LX3_netWilling_23 cx hret (fun u_left_8 u_payments_size_8 u_payments_numbers_8 H locs ls hF hw hl => ?_) 400 0 u_left u_payments_size u_payments_numbers H locs ls hF hw (lv_sub hl [1, 2, 3, 0] rfl)
      · refine lv_iinc (v := x3 + 1) (lv' := [(3, .int (x3 + 1)), (0, .ref q_), (2, .ref qa2_)]) hx hb dX3_netWilling_53 hl (k := 2) rfl rfl (by decide) rfl (fun ls hl => ?_)
        refine lv_goto (tgt := 14) hx hb dX3_netWilling_56 (by decide) ?_
        exact ih (x3 + 1) u_left_8 u_payments_size_8 u_payments_numbers_8 H locs ls hF hw (lv_sub hl [1, 2, 0] rfl)
set_option maxRecDepth 20000 in
theorem CX3_netWilling (l : Launch) (D : va_G) (C : Nat → ClassId) (q_ q_balances q_left q_sums q_most q_groups q_payments q_payments_numbers qa1_ qa1_owed qa1_order qa2_ qa2_refused n_payments_numbers : Nat) (u_groupCount : Int32) (u_balances : (Nat → Int32)) (u_left : (Nat → Int32)) (u_payments_room : Int32) (u_payments_size : Int32) (u_payments_numbers : (Nat → Int32)) (ua1_size : Int32) (ua1_owed : (Nat → Int32)) (ua2_refused : (Nat → Int32)) (z : ((Nat → Int32) × (Nat → Int32) × Int32 × (Nat → Int32))) (hF : fX3_netWilling n_payments_numbers u_balances u_left u_payments_room u_payments_numbers ua1_owed ua2_refused = some z) : Ct l yX3_netWilling cX3_netWilling 5 none 4 D C [.ref q_, .ref qa1_, .ref qa2_] [(q_, .inr (3, [.ref q_balances, .ref q_left, .ref q_sums, .ref q_most, .ref q_groups, .int u_groupCount, .ref q_payments])), (q_balances, .inl (C 0, 6, .inl u_balances)), (q_left, .inl (C 0, 6, .inl u_left)), (q_payments, .inr (5, [.ref q_payments_numbers, .int u_payments_room, .int u_payments_size])), (q_payments_numbers, .inl (C 0, n_payments_numbers, .inl u_payments_numbers)), (qa1_, .inr (2, [.ref qa1_owed, .ref qa1_order, .int ua1_size])), (qa1_owed, .inl (C 0, 36, .inl ua1_owed)), (qa2_, .inr (1, [.ref qa2_refused])), (qa2_refused, .inl (C 2, 36, .inl ua2_refused))] [(q_, .inr (3, [.ref q_balances, .ref q_left, .ref q_sums, .ref q_most, .ref q_groups, .int u_groupCount, .ref q_payments])), (q_balances, .inl (C 0, 6, .inl z.1)), (q_left, .inl (C 0, 6, .inl z.2.1)), (q_payments, .inr (5, [.ref q_payments_numbers, .int u_payments_room, .int z.2.2.1])), (q_payments_numbers, .inl (C 0, n_payments_numbers, .inl z.2.2.2)), (qa1_, .inr (2, [.ref qa1_owed, .ref qa1_order, .int ua1_size])), (qa1_owed, .inl (C 0, 36, .inl ua1_owed)), (qa2_, .inr (1, [.ref qa2_refused])), (qa2_refused, .inl (C 2, 36, .inl ua2_refused))] none := by
  refine Ct_of (by decide) (Nat.le_of_ble_eq_true rfl) ?_
  intro p e R s m args below meth c A Q H locs ls cx hw hl hret
  have cx : CX p m c s args RX3 cX3_netWilling 5 D C A R 4 := cx
  have hx := cx.1
  have hb := cx.2.1
  have hl : lv_has ls 5 [(0, .ref q_), (1, .ref qa1_), (2, .ref qa2_)] := hl
  rw [fX3_netWilling.eq_1] at hF
  refine lv_aload_n hx hb dX3_netWilling_0 rfl (lv_at hl 0 rfl) ?_
  refine lv_aload_n hx hb dX3_netWilling_1 rfl (lv_at hl 1 rfl) ?_
  obtain ⟨z1, hz1, hF⟩ := ob hF
  refine cV (wr := [(q_payments, .inr (5, [.ref q_payments_numbers, .int u_payments_room, .int u_payments_size])), (q_payments_numbers, .inl (C 0, n_payments_numbers, .inl u_payments_numbers)), (qa2_, .inr (1, [.ref qa2_refused])), (qa2_refused, .inl (C 2, 36, .inl ua2_refused))]) (w2 := [(q_, .inr (3, [.ref q_balances, .ref q_left, .ref q_sums, .ref q_most, .ref q_groups, .int u_groupCount, .ref q_payments])), (q_balances, .inl (C 0, 6, .inl z1.1)), (q_left, .inl (C 0, 6, .inl z1.2)), (q_payments, .inr (5, [.ref q_payments_numbers, .int u_payments_room, .int u_payments_size])), (q_payments_numbers, .inl (C 0, n_payments_numbers, .inl u_payments_numbers)), (qa1_, .inr (2, [.ref qa1_owed, .ref qa1_order, .int ua1_size])), (qa1_owed, .inl (C 0, 36, .inl ua1_owed)), (qa2_, .inr (1, [.ref qa2_refused])), (qa2_refused, .inl (C 2, 36, .inl ua2_refused))]) (st2 := []) cx (CX3_weigh l D C q_ q_balances q_left q_sums q_most q_groups q_payments qa1_ qa1_owed qa1_order u_groupCount u_balances u_left ua1_size ua1_owed z1 hz1) lk_X3_50 my_X3_weigh ml_X3_weigh ⟨by decide, by decide⟩ hw [0, 1, 2, 5, 6] [3, 4, 7, 8] [4, 5, 6, 0, 1, 7, 8, 2, 3] rfl rfl (by decide) rfl rfl rfl rfl (Nat.le_of_ble_eq_true rfl) dX3_netWilling_2 rfl (fun H locs hw => ?_) hl.1
  refine lv_aload_n hx hb dX3_netWilling_5 rfl (lv_at hl 0 rfl) ?_
  refine r_get (ci := 3) (v := .ref q_payments) cx hw iX3 0 6 rfl rfl (by decide) wf_X3_36 rfl dX3_netWilling_6 ?_
  obtain ⟨z2, hz2, hF⟩ := ob hF
  refine cV (wr := [(q_, .inr (3, [.ref q_balances, .ref q_left, .ref q_sums, .ref q_most, .ref q_groups, .int u_groupCount, .ref q_payments])), (q_balances, .inl (C 0, 6, .inl z1.1)), (q_left, .inl (C 0, 6, .inl z1.2)), (q_payments_numbers, .inl (C 0, n_payments_numbers, .inl u_payments_numbers)), (qa1_, .inr (2, [.ref qa1_owed, .ref qa1_order, .int ua1_size])), (qa1_owed, .inl (C 0, 36, .inl ua1_owed)), (qa2_, .inr (1, [.ref qa2_refused])), (qa2_refused, .inl (C 2, 36, .inl ua2_refused))]) (w2 := [(q_, .inr (3, [.ref q_balances, .ref q_left, .ref q_sums, .ref q_most, .ref q_groups, .int u_groupCount, .ref q_payments])), (q_balances, .inl (C 0, 6, .inl z1.1)), (q_left, .inl (C 0, 6, .inl z1.2)), (q_payments, .inr (5, [.ref q_payments_numbers, .int u_payments_room, .int z2])), (q_payments_numbers, .inl (C 0, n_payments_numbers, .inl u_payments_numbers)), (qa1_, .inr (2, [.ref qa1_owed, .ref qa1_order, .int ua1_size])), (qa1_owed, .inl (C 0, 36, .inl ua1_owed)), (qa2_, .inr (1, [.ref qa2_refused])), (qa2_refused, .inl (C 2, 36, .inl ua2_refused))]) (st2 := []) cx (CX5_clear l D C q_payments q_payments_numbers u_payments_room u_payments_size z2 hz2) lk_X3_63 my_X5_clear ml_X5_clear ⟨by decide, by decide⟩ hw [3] [0, 1, 2, 4, 5, 6, 7, 8] [0, 1, 2, 8, 3, 4, 5, 6, 7] rfl rfl (by decide) rfl rfl rfl rfl (Nat.le_of_ble_eq_true rfl) dX3_netWilling_9 rfl (fun H locs hw => ?_) hl.1
  refine lv_iconst (v := 0) hx hb dX3_netWilling_12 (by decide) ?_
  refine lv_istore_n (lv' := [(3, .int 0), (0, .ref q_), (1, .ref qa1_), (2, .ref qa2_)]) hx hb dX3_netWilling_13 rfl hl (by decide) rfl (fun ls hl => ?_)
  refine LX3_netWilling_14 cx hret 400 0 z1.2 z2 u_payments_numbers H locs ls hF hw (lv_sub hl [1, 3, 0] rfl)
