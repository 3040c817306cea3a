theorem wf_X6_9 : Cond.fieldLink RX6 9 (TX6 0).1 (TX6 0).2.1 (TX6 0).2.2.1 ∈ gdt := gdt_of 252 (by decide +kernel) (by decide +kernel)
theorem dX6_sort_0 : decode cX6_sort 0 = .ok (.aload_n 0, 1) := by decide +kernel
theorem dX6_sort_1 : decode cX6_sort 1 = .ok (.getfield 9, 3) := by decide +kernel
theorem dX6_sort_4 : decode cX6_sort 4 = .ok (.ireturn, 1) := by decide +kernel
def fX6_sort (u_sort : Int32) : Option Int32 := some u_sort
set_option maxRecDepth 20000 in
theorem CX6_sort (l : Launch) (D : va_G) (C : Nat → ClassId) (q_ q_items : Nat) (u_sort : Int32) (u_length : Int32) (z : Int32) (hF : fX6_sort u_sort = some z) : Ct l yX6_sort cX6_sort 1 (some .int) 1 D C [.ref q_] [(q_, .inr (6, [.int u_sort, .int u_length, .ref q_items]))] [(q_, .inr (6, [.int u_sort, .int u_length, .ref q_items]))] (some (.int z)) := by
  refine Ct_of (by decide) (Nat.le_of_ble_eq_true rfl) ?_
  intro p e R s m args below meth c A Q H locs ls cx hw hl hret
  have cx : CX p m c s args RX6 cX6_sort 1 D C A R 1 := cx
  have hx := cx.1
  have hb := cx.2.1
  have hl : lv_has ls 1 [(0, .ref q_)] := hl
  rw [fX6_sort.eq_1] at hF
  refine lv_aload_n hx hb dX6_sort_0 rfl (lv_at hl 0 rfl) ?_
  refine r_get (ci := 6) (v := .int u_sort) cx hw iX6 0 0 rfl rfl (by decide) wf_X6_9 rfl dX6_sort_1 ?_
  obtain rfl := Option.some.inj hF
  exact rt_i hret hw rfl dX6_sort_4
theorem wf_X6_15 : Cond.fieldLink RX6 15 (TX6 1).1 (TX6 1).2.1 (TX6 1).2.2.1 ∈ gdt := gdt_of 253 (by decide +kernel) (by decide +kernel)
theorem dX6_length_0 : decode cX6_length 0 = .ok (.aload_n 0, 1) := by decide +kernel
theorem dX6_length_1 : decode cX6_length 1 = .ok (.getfield 15, 3) := by decide +kernel
theorem dX6_length_4 : decode cX6_length 4 = .ok (.ireturn, 1) := by decide +kernel
def fX6_length (u_length : Int32) : Option Int32 := some u_length
set_option maxRecDepth 20000 in
theorem CX6_length (l : Launch) (D : va_G) (C : Nat → ClassId) (q_ q_items : Nat) (u_sort : Int32) (u_length : Int32) (z : Int32) (hF : fX6_length u_length = some z) : Ct l yX6_length cX6_length 1 (some .int) 1 D C [.ref q_] [(q_, .inr (6, [.int u_sort, .int u_length, .ref q_items]))] [(q_, .inr (6, [.int u_sort, .int u_length, .ref q_items]))] (some (.int z)) := by
  refine Ct_of (by decide) (Nat.le_of_ble_eq_true rfl) ?_
  intro p e R s m args below meth c A Q H locs ls cx hw hl hret
  have cx : CX p m c s args RX6 cX6_length 1 D C A R 1 := cx
  have hx := cx.1
  have hb := cx.2.1
  have hl : lv_has ls 1 [(0, .ref q_)] := hl
  rw [fX6_length.eq_1] at hF
  refine lv_aload_n hx hb dX6_length_0 rfl (lv_at hl 0 rfl) ?_
  refine r_get (ci := 6) (v := .int u_length) cx hw iX6 0 1 rfl rfl (by decide) wf_X6_15 rfl dX6_length_1 ?_
  obtain rfl := Option.some.inj hF
  exact rt_i hret hw rfl dX6_length_4
theorem wf_X6_18 : Cond.fieldLink RX6 18 (TX6 2).1 (TX6 2).2.1 (TX6 2).2.2.1 ∈ gdt := gdt_of 254 (by decide +kernel) (by decide +kernel)
theorem dX6_become_0 : decode cX6_become 0 = .ok (.aload_n 0, 1) := by decide +kernel
theorem dX6_become_1 : decode cX6_become 1 = .ok (.iload_n 1, 1) := by decide +kernel
theorem dX6_become_2 : decode cX6_become 2 = .ok (.putfield 9, 3) := by decide +kernel
theorem dX6_become_5 : decode cX6_become 5 = .ok (.aload_n 0, 1) := by decide +kernel
theorem dX6_become_6 : decode cX6_become 6 = .ok (.iload_n 2, 1) := by decide +kernel
theorem dX6_become_7 : decode cX6_become 7 = .ok (.putfield 15, 3) := by decide +kernel
theorem dX6_become_10 : decode cX6_become 10 = .ok (.iconst 0, 1) := by decide +kernel
theorem dX6_become_11 : decode cX6_become 11 = .ok (.istore_n 3, 1) := by decide +kernel
theorem dX6_become_12 : decode cX6_become 12 = .ok (.iload_n 3, 1) := by decide +kernel
theorem dX6_become_13 : decode cX6_become 13 = .ok (.bipush 60, 2) := by decide +kernel
theorem dX6_become_15 : decode cX6_become 15 = .ok (.if_icmp .ge 16, 3) := by decide +kernel
theorem dX6_become_18 : decode cX6_become 18 = .ok (.aload_n 0, 1) := by decide +kernel
theorem dX6_become_19 : decode cX6_become 19 = .ok (.getfield 18, 3) := by decide +kernel
theorem dX6_become_22 : decode cX6_become 22 = .ok (.iload_n 3, 1) := by decide +kernel
theorem dX6_become_23 : decode cX6_become 23 = .ok (.lconst 0, 1) := by decide +kernel
theorem dX6_become_24 : decode cX6_become 24 = .ok (.lastore, 1) := by decide +kernel
theorem dX6_become_25 : decode cX6_become 25 = .ok (.iinc 3 1, 3) := by decide +kernel
theorem dX6_become_28 : decode cX6_become 28 = .ok (.goto (-16), 3) := by decide +kernel
theorem dX6_become_31 : decode cX6_become 31 = .ok (.return_, 1) := by decide +kernel
def fX6_become_L12 (u_sort : Int32) (u_length : Int32) : Nat → Int32 → (Nat → Int64) → Option (Int32 × Int32 × (Nat → Int64))
  | 0, _, _ => none
  | n + 1, x3, u_items => if 60 ≤ x3 then (some (u_sort, u_length, u_items)) else (gA x3 60 (fX6_become_L12 u_sort u_length n (x3 + 1) (vp_updL u_items (x3 : Int32).toNatClampNeg 0)))
def fX6_become (u_items : (Nat → Int64)) (x1 : Int32) (x2 : Int32) : Option (Int32 × Int32 × (Nat → Int64)) := fX6_become_L12 x1 x2 400 0 u_items
set_option maxRecDepth 20000 in
theorem LX6_become_12 {p : Program} {l : Launch} {e : Env} {R : Room} {s : State} {m : MethodId} {args : Array Value} {below : List Frame} {meth : Method} {c : Code} {Q : State → Prop} {D : va_G} {C : Nat → ClassId} {A : Nat → Prop} (cx : CX p m c s args RX6 cX6_become 4 D C A R 1) {q_ q_items : Nat} {u_sort : Int32} {u_length : Int32} {z : (Int32 × Int32 × (Nat → Int64))} (hret : RT p l e R s m args below meth c Q D A cX6_become none [(q_, .inr (6, [.int z.1, .int z.2.1, .ref q_items])), (q_items, .inl (C 1, 60, .inr (.inl z.2.2)))] none) :
    ∀ (n : Nat) (x3 : Int32) (u_items : (Nat → Int64)) (H : Heap) (locs : List Loc) (ls : Array Slot), fX6_become_L12 u_sort u_length n x3 u_items = some z → HW D A s.heap H locs [(q_, .inr (6, [.int u_sort, .int u_length, .ref q_items])), (q_items, .inl (C 1, 60, .inr (.inl u_items)))] → lv_has ls 4 [(0, .ref q_), (3, .int x3)] → W p l e R s m args below meth c H locs 0 0 Q (F0 m 12 ls []) := by
  have hx := cx.1
  have hb := cx.2.1
  intro n
  induction n with
  | zero => intro x3 u_items H locs ls hF; cases hF
  | succ n ih =>
    intro x3 u_items H locs ls hF hw hl
    rw [fX6_become_L12.eq_2] at hF
    refine lv_iload_n hx hb dX6_become_12 rfl (lv_at hl 1 rfl) ?_
    refine lv_bipush (v := 60) hx hb dX6_become_13 (by decide) ?_
    refine lv_icmp_ge (tgt := 31) hx hb dX6_become_15 (by decide) (fun c1 => ?_) (fun c1 => ?_)
    · replace hF := oi_t c1 hF
      obtain rfl := Option.some.inj hF
      exact rt_v hret hw rfl dX6_become_31
    · replace hF := oi_f c1 hF
      refine lv_aload_n hx hb dX6_become_18 rfl (lv_at hl 0 rfl) ?_
      refine r_get (ci := 6) (v := .ref q_items) cx hw iX6 0 2 rfl rfl (by decide) wf_X6_18 rfl dX6_become_19 ?_
      refine lv_iload_n hx hb dX6_become_22 rfl (lv_at hl 1 rfl) ?_
      refine lv_lconst (v := 0) hx hb dX6_become_23 (by decide) ?_
      obtain ⟨g2, hF⟩ := gA_s hF
      refine r_last (w2 := [(q_, .inr (6, [.int u_sort, .int u_length, .ref q_items])), (q_items, .inl (C 1, 60, .inr (.inl (vp_updL u_items (x3 : Int32).toNatClampNeg 0))))]) cx hw 1 rfl g2 dX6_become_24 rfl (fun H locs hw => ?_)
      refine lv_iinc (v := x3 + 1) (lv' := [(3, .int (x3 + 1)), (0, .ref q_)]) hx hb dX6_become_25 hl (k := 1) rfl rfl (by decide) rfl (fun ls hl => ?_)
      refine lv_goto (tgt := 12) hx hb dX6_become_28 (by decide) ?_
      exact ih (x3 + 1) (vp_updL u_items (x3 : Int32).toNatClampNeg 0) H locs ls hF hw (lv_sub hl [1, 0] rfl)
set_option maxRecDepth 20000 in
theorem CX6_become (l : Launch) (D : va_G) (C : Nat → ClassId) (q_ q_items : Nat) (u_sort : Int32) (u_length : Int32) (u_items : (Nat → Int64)) (x1 : Int32) (x2 : Int32) (z : (Int32 × Int32 × (Nat → Int64))) (hF : fX6_become u_items x1 x2 = some z) : Ct l yX6_become cX6_become 4 none 1 D C [.ref q_, .int x1, .int x2] [(q_, .inr (6, [.int u_sort, .int u_length, .ref q_items])), (q_items, .inl (C 1, 60, .inr (.inl u_items)))] [(q_, .inr (6, [.int z.1, .int z.2.1, .ref q_items])), (q_items, .inl (C 1, 60, .inr (.inl z.2.2)))] none := by
  refine Ct_of (by decide) (Nat.le_of_ble_eq_true rfl) ?_
  intro p e R s m args below meth c A Q H locs ls cx hw hl hret
  have cx : CX p m c s args RX6 cX6_become 4 D C A R 1 := cx
  have hx := cx.1
  have hb := cx.2.1
  have hl : lv_has ls 4 [(0, .ref q_), (1, .int x1), (2, .int x2)] := hl
  rw [fX6_become.eq_1] at hF
  refine lv_aload_n hx hb dX6_become_0 rfl (lv_at hl 0 rfl) ?_
  refine lv_iload_n hx hb dX6_become_1 rfl (lv_at hl 1 rfl) ?_
  refine r_put (ci := 6) (w2 := [(q_, .inr (6, [.int x1, .int u_length, .ref q_items])), (q_items, .inl (C 1, 60, .inr (.inl u_items)))]) cx hw iX6 tyX6_ok nmX6 0 0 rfl rfl (by decide) wf_X6_9 rfl rfl rfl rfl (Nat.le_of_ble_eq_true rfl) dX6_become_2 rfl (fun H locs hw => ?_)
  refine lv_aload_n hx hb dX6_become_5 rfl (lv_at hl 0 rfl) ?_
  refine lv_iload_n hx hb dX6_become_6 rfl (lv_at hl 2 rfl) ?_
  refine r_put (ci := 6) (w2 := [(q_, .inr (6, [.int x1, .int x2, .ref q_items])), (q_items, .inl (C 1, 60, .inr (.inl u_items)))]) cx hw iX6 tyX6_ok nmX6 0 1 rfl rfl (by decide) wf_X6_15 rfl rfl rfl rfl (Nat.le_of_ble_eq_true rfl) dX6_become_7 rfl (fun H locs hw => ?_)
  refine lv_iconst (v := 0) hx hb dX6_become_10 (by decide) ?_
  refine lv_istore_n (lv' := [(3, .int 0), (0, .ref q_), (1, .int x1), (2, .int x2)]) hx hb dX6_become_11 rfl hl (by decide) rfl (fun ls hl => ?_)
  refine LX6_become_12 cx hret 400 0 u_items H locs ls hF hw (lv_sub hl [1, 0] rfl)
theorem dX6_hasPlace_0 : decode cX6_hasPlace 0 = .ok (.iload_n 1, 1) := by decide +kernel
theorem dX6_hasPlace_1 : decode cX6_hasPlace 1 = .ok (.ifCond .lt 21, 3) := by decide +kernel
theorem dX6_hasPlace_4 : decode cX6_hasPlace 4 = .ok (.iload_n 1, 1) := by decide +kernel
theorem dX6_hasPlace_5 : decode cX6_hasPlace 5 = .ok (.aload_n 0, 1) := by decide +kernel
theorem dX6_hasPlace_6 : decode cX6_hasPlace 6 = .ok (.getfield 15, 3) := by decide +kernel
theorem dX6_hasPlace_9 : decode cX6_hasPlace 9 = .ok (.if_icmp .ge 13, 3) := by decide +kernel
theorem dX6_hasPlace_12 : decode cX6_hasPlace 12 = .ok (.iload_n 1, 1) := by decide +kernel
theorem dX6_hasPlace_13 : decode cX6_hasPlace 13 = .ok (.bipush 60, 2) := by decide +kernel
theorem dX6_hasPlace_15 : decode cX6_hasPlace 15 = .ok (.if_icmp .ge 7, 3) := by decide +kernel
theorem dX6_hasPlace_18 : decode cX6_hasPlace 18 = .ok (.iconst 1, 1) := by decide +kernel
theorem dX6_hasPlace_19 : decode cX6_hasPlace 19 = .ok (.goto 4, 3) := by decide +kernel
theorem dX6_hasPlace_22 : decode cX6_hasPlace 22 = .ok (.iconst 0, 1) := by decide +kernel
theorem dX6_hasPlace_23 : decode cX6_hasPlace 23 = .ok (.ireturn, 1) := by decide +kernel
def fX6_hasPlace (u_length : Int32) (x1 : Int32) : Option Int32 := if x1 < 0 then (some 0) else (if u_length ≤ x1 then (some 0) else (if 60 ≤ x1 then (some 0) else (some 1)))
set_option maxRecDepth 20000 in
theorem CX6_hasPlace (l : Launch) (D : va_G) (C : Nat → ClassId) (q_ q_items : Nat) (u_sort : Int32) (u_length : Int32) (x1 : Int32) (z : Int32) (hF : fX6_hasPlace u_length x1 = some z) : Ct l yX6_hasPlace cX6_hasPlace 2 (some .boolean) 1 D C [.ref q_, .int x1] [(q_, .inr (6, [.int u_sort, .int u_length, .ref q_items]))] [(q_, .inr (6, [.int u_sort, .int u_length, .ref q_items]))] (some (.int z)) := by
  refine Ct_of (by decide) (Nat.le_of_ble_eq_true rfl) ?_
  intro p e R s m args below meth c A Q H locs ls cx hw hl hret
  have cx : CX p m c s args RX6 cX6_hasPlace 2 D C A R 1 := cx
  have hx := cx.1
  have hb := cx.2.1
  have hl : lv_has ls 2 [(0, .ref q_), (1, .int x1)] := hl
  rw [fX6_hasPlace.eq_1] at hF
  refine lv_iload_n hx hb dX6_hasPlace_0 rfl (lv_at hl 1 rfl) ?_
  refine lv_if_lt (tgt := 22) hx hb dX6_hasPlace_1 (by decide) (fun c1 => ?_) (fun c1 => ?_)
  · replace hF := oi_t c1 hF
    refine lv_iconst (v := 0) hx hb dX6_hasPlace_22 (by decide) ?_
    obtain rfl := Option.some.inj hF
    exact rt_z hret hw rfl rfl dX6_hasPlace_23
  · replace hF := oi_f c1 hF
    refine lv_iload_n hx hb dX6_hasPlace_4 rfl (lv_at hl 1 rfl) ?_
    refine lv_aload_n hx hb dX6_hasPlace_5 rfl (lv_at hl 0 rfl) ?_
    refine r_get (ci := 6) (v := .int u_length) cx hw iX6 0 1 rfl rfl (by decide) wf_X6_15 rfl dX6_hasPlace_6 ?_
    refine lv_icmp_ge (tgt := 22) hx hb dX6_hasPlace_9 (by decide) (fun c2 => ?_) (fun c2 => ?_)
    · replace hF := oi_t c2 hF
      refine lv_iconst (v := 0) hx hb dX6_hasPlace_22 (by decide) ?_
      obtain rfl := Option.some.inj hF
      exact rt_z hret hw rfl rfl dX6_hasPlace_23
    · replace hF := oi_f c2 hF
      refine lv_iload_n hx hb dX6_hasPlace_12 rfl (lv_at hl 1 rfl) ?_
      refine lv_bipush (v := 60) hx hb dX6_hasPlace_13 (by decide) ?_
      refine lv_icmp_ge (tgt := 22) hx hb dX6_hasPlace_15 (by decide) (fun c3 => ?_) (fun c3 => ?_)
      · replace hF := oi_t c3 hF
        refine lv_iconst (v := 0) hx hb dX6_hasPlace_22 (by decide) ?_
        obtain rfl := Option.some.inj hF
        exact rt_z hret hw rfl rfl dX6_hasPlace_23
      · replace hF := oi_f c3 hF
        refine lv_iconst (v := 1) hx hb dX6_hasPlace_18 (by decide) ?_
        refine lv_goto (tgt := 23) hx hb dX6_hasPlace_19 (by decide) ?_
        obtain rfl := Option.some.inj hF
        exact rt_z hret hw rfl rfl dX6_hasPlace_23
theorem dX6_hasStretch_0 : decode cX6_hasStretch 0 = .ok (.iload_n 2, 1) := by decide +kernel
theorem dX6_hasStretch_1 : decode cX6_hasStretch 1 = .ok (.ifCond .lt 29, 3) := by decide +kernel
theorem dX6_hasStretch_4 : decode cX6_hasStretch 4 = .ok (.iload_n 2, 1) := by decide +kernel
theorem dX6_hasStretch_5 : decode cX6_hasStretch 5 = .ok (.aload_n 0, 1) := by decide +kernel
theorem dX6_hasStretch_6 : decode cX6_hasStretch 6 = .ok (.getfield 15, 3) := by decide +kernel
theorem dX6_hasStretch_9 : decode cX6_hasStretch 9 = .ok (.if_icmp .gt 21, 3) := by decide +kernel
theorem dX6_hasStretch_12 : decode cX6_hasStretch 12 = .ok (.iload_n 1, 1) := by decide +kernel
theorem dX6_hasStretch_13 : decode cX6_hasStretch 13 = .ok (.ifCond .lt 17, 3) := by decide +kernel
theorem dX6_hasStretch_16 : decode cX6_hasStretch 16 = .ok (.iload_n 1, 1) := by decide +kernel
theorem dX6_hasStretch_17 : decode cX6_hasStretch 17 = .ok (.aload_n 0, 1) := by decide +kernel
theorem dX6_hasStretch_18 : decode cX6_hasStretch 18 = .ok (.getfield 15, 3) := by decide +kernel
theorem dX6_hasStretch_21 : decode cX6_hasStretch 21 = .ok (.iload_n 2, 1) := by decide +kernel
theorem dX6_hasStretch_22 : decode cX6_hasStretch 22 = .ok (.isub, 1) := by decide +kernel
theorem dX6_hasStretch_23 : decode cX6_hasStretch 23 = .ok (.if_icmp .gt 7, 3) := by decide +kernel
theorem dX6_hasStretch_26 : decode cX6_hasStretch 26 = .ok (.iconst 1, 1) := by decide +kernel
theorem dX6_hasStretch_27 : decode cX6_hasStretch 27 = .ok (.goto 4, 3) := by decide +kernel
theorem dX6_hasStretch_30 : decode cX6_hasStretch 30 = .ok (.iconst 0, 1) := by decide +kernel
theorem dX6_hasStretch_31 : decode cX6_hasStretch 31 = .ok (.ireturn, 1) := by decide +kernel
def fX6_hasStretch (u_length : Int32) (x1 : Int32) (x2 : Int32) : Option Int32 := if x2 < 0 then (some 0) else (if u_length < x2 then (some 0) else (if x1 < 0 then (some 0) else (if (u_length - x2) < x1 then (some 0) else (some 1))))
set_option maxRecDepth 20000 in
theorem CX6_hasStretch (l : Launch) (D : va_G) (C : Nat → ClassId) (q_ q_items : Nat) (u_sort : Int32) (u_length : Int32) (x1 : Int32) (x2 : Int32) (z : Int32) (hF : fX6_hasStretch u_length x1 x2 = some z) : Ct l yX6_hasStretch cX6_hasStretch 3 (some .boolean) 1 D C [.ref q_, .int x1, .int x2] [(q_, .inr (6, [.int u_sort, .int u_length, .ref q_items]))] [(q_, .inr (6, [.int u_sort, .int u_length, .ref q_items]))] (some (.int z)) := by
  refine Ct_of (by decide) (Nat.le_of_ble_eq_true rfl) ?_
  intro p e R s m args below meth c A Q H locs ls cx hw hl hret
  have cx : CX p m c s args RX6 cX6_hasStretch 3 D C A R 1 := cx
  have hx := cx.1
  have hb := cx.2.1
  have hl : lv_has ls 3 [(0, .ref q_), (1, .int x1), (2, .int x2)] := hl
  rw [fX6_hasStretch.eq_1] at hF
  refine lv_iload_n hx hb dX6_hasStretch_0 rfl (lv_at hl 2 rfl) ?_
  refine lv_if_lt (tgt := 30) hx hb dX6_hasStretch_1 (by decide) (fun c1 => ?_) (fun c1 => ?_)
  · replace hF := oi_t c1 hF
    refine lv_iconst (v := 0) hx hb dX6_hasStretch_30 (by decide) ?_
    obtain rfl := Option.some.inj hF
    exact rt_z hret hw rfl rfl dX6_hasStretch_31
  · replace hF := oi_f c1 hF
    refine lv_iload_n hx hb dX6_hasStretch_4 rfl (lv_at hl 2 rfl) ?_
    refine lv_aload_n hx hb dX6_hasStretch_5 rfl (lv_at hl 0 rfl) ?_
    refine r_get (ci := 6) (v := .int u_length) cx hw iX6 0 1 rfl rfl (by decide) wf_X6_15 rfl dX6_hasStretch_6 ?_
    refine lv_icmp_gt (tgt := 30) hx hb dX6_hasStretch_9 (by decide) (fun c2 => ?_) (fun c2 => ?_)
    · replace hF := oi_t c2 hF
      refine lv_iconst (v := 0) hx hb dX6_hasStretch_30 (by decide) ?_
      obtain rfl := Option.some.inj hF
      exact rt_z hret hw rfl rfl dX6_hasStretch_31
    · replace hF := oi_f c2 hF
      refine lv_iload_n hx hb dX6_hasStretch_12 rfl (lv_at hl 1 rfl) ?_
      refine lv_if_lt (tgt := 30) hx hb dX6_hasStretch_13 (by decide) (fun c3 => ?_) (fun c3 => ?_)
      · replace hF := oi_t c3 hF
        refine lv_iconst (v := 0) hx hb dX6_hasStretch_30 (by decide) ?_
        obtain rfl := Option.some.inj hF
        exact rt_z hret hw rfl rfl dX6_hasStretch_31
      · replace hF := oi_f c3 hF
        refine lv_iload_n hx hb dX6_hasStretch_16 rfl (lv_at hl 1 rfl) ?_
        refine lv_aload_n hx hb dX6_hasStretch_17 rfl (lv_at hl 0 rfl) ?_
        refine r_get (ci := 6) (v := .int u_length) cx hw iX6 0 1 rfl rfl (by decide) wf_X6_15 rfl dX6_hasStretch_18 ?_
        refine lv_iload_n hx hb dX6_hasStretch_21 rfl (lv_at hl 2 rfl) ?_
        refine lv_isub hx hb dX6_hasStretch_22 ?_
        refine lv_icmp_gt (tgt := 30) hx hb dX6_hasStretch_23 (by decide) (fun c4 => ?_) (fun c4 => ?_)
        · replace hF := oi_t c4 hF
          refine lv_iconst (v := 0) hx hb dX6_hasStretch_30 (by decide) ?_
          obtain rfl := Option.some.inj hF
          exact rt_z hret hw rfl rfl dX6_hasStretch_31
        · replace hF := oi_f c4 hF
          refine lv_iconst (v := 1) hx hb dX6_hasStretch_26 (by decide) ?_
          refine lv_goto (tgt := 31) hx hb dX6_hasStretch_27 (by decide) ?_
          obtain rfl := Option.some.inj hF
          exact rt_z hret hw rfl rfl dX6_hasStretch_31
theorem lk_X6_22 : Cond.methodLink RX6 22 yX6_hasPlace ∈ gdt := gdt_of 756 (by decide +kernel) (by decide +kernel)
theorem my_X6_hasPlace : (yX6_hasPlace.cls ≠ "java/lang/invoke/MethodHandle" ∧ yX6_hasPlace.cls ≠ "java/lang/invoke/VarHandle") ∧ Cond.instanceMethod yX6_hasPlace ∈ gdt ∧ Cond.selects yX6_hasPlace.cls yX6_hasPlace yX6_hasPlace ∈ gdt ∧ Cond.initialized yX6_hasPlace.cls ∈ gdt ∧ Cond.code yX6_hasPlace cX6_hasPlace 2 (some .boolean) ∈ gdt := ⟨⟨by decide +kernel, by decide +kernel⟩, gdt_of 757 (by decide +kernel) (by decide +kernel), gdt_of 758 (by decide +kernel) (by decide +kernel), gdt_of 76 (by decide +kernel) (by decide +kernel), gdt_of 759 (by decide +kernel) (by decide +kernel)⟩
theorem ml_X6_hasPlace : (parseMethodDescriptor yX6_hasPlace.desc).map (fun d => d.parameters.length) = some 1 := by decide +kernel
theorem dX6_at_0 : decode cX6_at 0 = .ok (.aload_n 0, 1) := by decide +kernel
theorem dX6_at_1 : decode cX6_at 1 = .ok (.iload_n 1, 1) := by decide +kernel
theorem dX6_at_2 : decode cX6_at 2 = .ok (.invokevirtual 22, 3) := by decide +kernel
theorem dX6_at_5 : decode cX6_at 5 = .ok (.ifCond .eq 12, 3) := by decide +kernel
theorem dX6_at_8 : decode cX6_at 8 = .ok (.aload_n 0, 1) := by decide +kernel
theorem dX6_at_9 : decode cX6_at 9 = .ok (.getfield 18, 3) := by decide +kernel
theorem dX6_at_12 : decode cX6_at 12 = .ok (.iload_n 1, 1) := by decide +kernel
theorem dX6_at_13 : decode cX6_at 13 = .ok (.laload, 1) := by decide +kernel
theorem dX6_at_14 : decode cX6_at 14 = .ok (.goto 4, 3) := by decide +kernel
theorem dX6_at_17 : decode cX6_at 17 = .ok (.lconst 0, 1) := by decide +kernel
theorem dX6_at_18 : decode cX6_at 18 = .ok (.lreturn, 1) := by decide +kernel
def fX6_at (u_length : Int32) (u_items : (Nat → Int64)) (x1 : Int32) : Option Int64 := (fX6_hasPlace u_length x1).bind (fun z1 => if z1 = 0 then (some 0) else (gA x1 60 (some (u_items (x1).toNatClampNeg))))
set_option maxRecDepth 20000 in
theorem CX6_at (l : Launch) (D : va_G) (C : Nat → ClassId) (q_ q_items : Nat) (u_sort : Int32) (u_length : Int32) (u_items : (Nat → Int64)) (x1 : Int32) (z : Int64) (hF : fX6_at u_length u_items x1 = some z) : Ct l yX6_at cX6_at 2 (some .long) 2 D C [.ref q_, .int x1] [(q_, .inr (6, [.int u_sort, .int u_length, .ref q_items])), (q_items, .inl (C 1, 60, .inr (.inl u_items)))] [(q_, .inr (6, [.int u_sort, .int u_length, .ref q_items])), (q_items, .inl (C 1, 60, .inr (.inl u_items)))] (some (.long z)) := by
  refine Ct_of (by decide) (Nat.le_of_ble_eq_true rfl) ?_
  intro p e R s m args below meth c A Q H locs ls cx hw hl hret
  have cx : CX p m c s args RX6 cX6_at 2 D C A R 2 := cx
  have hx := cx.1
  have hb := cx.2.1
  have hl : lv_has ls 2 [(0, .ref q_), (1, .int x1)] := hl
  rw [fX6_at.eq_1] at hF
  refine lv_aload_n hx hb dX6_at_0 rfl (lv_at hl 0 rfl) ?_
  refine lv_iload_n hx hb dX6_at_1 rfl (lv_at hl 1 rfl) ?_
  obtain ⟨z1, hz1, hF⟩ := ob hF
  refine cV (wr := [(q_items, .inl (C 1, 60, .inr (.inl u_items)))]) (w2 := [(q_, .inr (6, [.int u_sort, .int u_length, .ref q_items])), (q_items, .inl (C 1, 60, .inr (.inl u_items)))]) (st2 := [.int z1]) cx (CX6_hasPlace l D C q_ q_items u_sort u_length x1 z1 hz1) lk_X6_22 my_X6_hasPlace ml_X6_hasPlace ⟨by decide, by decide⟩ hw [0] [1] [1, 0] rfl rfl (by decide) rfl rfl rfl rfl (Nat.le_of_ble_eq_true rfl) dX6_at_2 rfl (fun H locs hw => ?_) hl.1
  refine lv_if_eq (tgt := 17) hx hb dX6_at_5 (by decide) (fun c2 => ?_) (fun c2 => ?_)
  · replace hF := oi_t c2 hF
    refine lv_lconst (v := 0) hx hb dX6_at_17 (by decide) ?_
    obtain rfl := Option.some.inj hF
    exact rt_l hret hw rfl dX6_at_18
  · replace hF := oi_f c2 hF
    refine lv_aload_n hx hb dX6_at_8 rfl (lv_at hl 0 rfl) ?_
    refine r_get (ci := 6) (v := .ref q_items) cx hw iX6 0 2 rfl rfl (by decide) wf_X6_18 rfl dX6_at_9 ?_
    refine lv_iload_n hx hb dX6_at_12 rfl (lv_at hl 1 rfl) ?_
    obtain ⟨g3, hF⟩ := gA_s hF
    refine r_lald cx hw 1 rfl g3 dX6_at_13 ?_
    refine lv_goto (tgt := 18) hx hb dX6_at_14 (by decide) ?_
    obtain rfl := Option.some.inj hF
    exact rt_l hret hw rfl dX6_at_18
theorem dX6_asItem_0 : decode cX6_asItem 0 = .ok (.aload_n 0, 1) := by decide +kernel
theorem dX6_asItem_1 : decode cX6_asItem 1 = .ok (.getfield 9, 3) := by decide +kernel
theorem dX6_asItem_4 : decode cX6_asItem 4 = .ok (.tableswitch 62 0 4 #[36, 41, 46, 62, 50], 36) := by decide +kernel
theorem dX6_asItem_40 : decode cX6_asItem 40 = .ok (.lload_n 1, 1) := by decide +kernel
theorem dX6_asItem_41 : decode cX6_asItem 41 = .ok (.l2i, 1) := by decide +kernel
theorem dX6_asItem_42 : decode cX6_asItem 42 = .ok (.i2b, 1) := by decide +kernel
theorem dX6_asItem_43 : decode cX6_asItem 43 = .ok (.i2l, 1) := by decide +kernel
theorem dX6_asItem_44 : decode cX6_asItem 44 = .ok (.lreturn, 1) := by decide +kernel
theorem dX6_asItem_45 : decode cX6_asItem 45 = .ok (.lload_n 1, 1) := by decide +kernel
theorem dX6_asItem_46 : decode cX6_asItem 46 = .ok (.l2i, 1) := by decide +kernel
theorem dX6_asItem_47 : decode cX6_asItem 47 = .ok (.i2s, 1) := by decide +kernel
theorem dX6_asItem_48 : decode cX6_asItem 48 = .ok (.i2l, 1) := by decide +kernel
theorem dX6_asItem_49 : decode cX6_asItem 49 = .ok (.lreturn, 1) := by decide +kernel
theorem dX6_asItem_50 : decode cX6_asItem 50 = .ok (.lload_n 1, 1) := by decide +kernel
theorem dX6_asItem_51 : decode cX6_asItem 51 = .ok (.l2i, 1) := by decide +kernel
theorem dX6_asItem_52 : decode cX6_asItem 52 = .ok (.i2l, 1) := by decide +kernel
theorem dX6_asItem_53 : decode cX6_asItem 53 = .ok (.lreturn, 1) := by decide +kernel
theorem dX6_asItem_54 : decode cX6_asItem 54 = .ok (.lload_n 1, 1) := by decide +kernel
theorem dX6_asItem_55 : decode cX6_asItem 55 = .ok (.lconst 0, 1) := by decide +kernel
theorem dX6_asItem_56 : decode cX6_asItem 56 = .ok (.lcmp, 1) := by decide +kernel
theorem dX6_asItem_57 : decode cX6_asItem 57 = .ok (.ifCond .eq 7, 3) := by decide +kernel
theorem dX6_asItem_60 : decode cX6_asItem 60 = .ok (.lconst 1, 1) := by decide +kernel
theorem dX6_asItem_61 : decode cX6_asItem 61 = .ok (.goto 4, 3) := by decide +kernel
theorem dX6_asItem_64 : decode cX6_asItem 64 = .ok (.lconst 0, 1) := by decide +kernel
theorem dX6_asItem_65 : decode cX6_asItem 65 = .ok (.lreturn, 1) := by decide +kernel
theorem dX6_asItem_66 : decode cX6_asItem 66 = .ok (.lload_n 1, 1) := by decide +kernel
theorem dX6_asItem_67 : decode cX6_asItem 67 = .ok (.lreturn, 1) := by decide +kernel
def fX6_asItem (u_sort : Int32) (x1 : Int64) : Option Int64 := if u_sort = 0 then (some ((((x1 : Int64).toInt32 : Int32).toInt8.toInt32 : Int32).toInt64)) else (if u_sort = 1 then (some ((((x1 : Int64).toInt32 : Int32).toInt16.toInt32 : Int32).toInt64)) else (if u_sort = 2 then (some (((x1 : Int64).toInt32 : Int32).toInt64)) else (if u_sort = 4 then (if (lg_cmp x1 0) = 0 then (some 0) else (some 1)) else (some x1))))
set_option maxRecDepth 20000 in
theorem CX6_asItem (l : Launch) (D : va_G) (C : Nat → ClassId) (q_ q_items : Nat) (u_sort : Int32) (u_length : Int32) (x1 : Int64) (z : Int64) (hF : fX6_asItem u_sort x1 = some z) : Ct l yX6_asItem cX6_asItem 3 (some .long) 1 D C [.ref q_, .long x1] [(q_, .inr (6, [.int u_sort, .int u_length, .ref q_items]))] [(q_, .inr (6, [.int u_sort, .int u_length, .ref q_items]))] (some (.long z)) := by
  refine Ct_of (by decide) (Nat.le_of_ble_eq_true rfl) ?_
  intro p e R s m args below meth c A Q H locs ls cx hw hl hret
  have cx : CX p m c s args RX6 cX6_asItem 3 D C A R 1 := cx
  have hx := cx.1
  have hb := cx.2.1
  have hl : lv_has ls 3 [(0, .ref q_), (1, .long x1)] := hl
  rw [fX6_asItem.eq_1] at hF
  refine lv_aload_n hx hb dX6_asItem_0 rfl (lv_at hl 0 rfl) ?_
  refine r_get (ci := 6) (v := .int u_sort) cx hw iX6 0 0 rfl rfl (by decide) wf_X6_9 rfl dX6_asItem_1 ?_
  by_cases c1 : u_sort = 0
  · replace hF := oi_t c1 hF
    refine lv_tableIn (tgt := 40) (off := 36) hx hb dX6_asItem_4 (by rw [c1]; decide) (by rw [c1]; decide) (by rw [c1]; decide +kernel) (by decide) ?_
    refine lv_lload_n hx hb dX6_asItem_40 rfl (lv_at hl 1 rfl) ?_
    refine lv_l2i (v := (x1 : Int64).toInt32) hx hb dX6_asItem_41 rfl ?_
    refine lv_i2b (v := ((x1 : Int64).toInt32 : Int32).toInt8.toInt32) hx hb dX6_asItem_42 rfl ?_
    refine lv_i2l (v := (((x1 : Int64).toInt32 : Int32).toInt8.toInt32 : Int32).toInt64) hx hb dX6_asItem_43 rfl ?_
    obtain rfl := Option.some.inj hF
    exact rt_l hret hw rfl dX6_asItem_44
  replace hF := oi_f c1 hF
  by_cases c2 : u_sort = 1
  · replace hF := oi_t c2 hF
    refine lv_tableIn (tgt := 45) (off := 41) hx hb dX6_asItem_4 (by rw [c2]; decide) (by rw [c2]; decide) (by rw [c2]; decide +kernel) (by decide) ?_
    refine lv_lload_n hx hb dX6_asItem_45 rfl (lv_at hl 1 rfl) ?_
    refine lv_l2i (v := (x1 : Int64).toInt32) hx hb dX6_asItem_46 rfl ?_
    refine lv_i2s (v := ((x1 : Int64).toInt32 : Int32).toInt16.toInt32) hx hb dX6_asItem_47 rfl ?_
    refine lv_i2l (v := (((x1 : Int64).toInt32 : Int32).toInt16.toInt32 : Int32).toInt64) hx hb dX6_asItem_48 rfl ?_
    obtain rfl := Option.some.inj hF
    exact rt_l hret hw rfl dX6_asItem_49
  replace hF := oi_f c2 hF
  by_cases c3 : u_sort = 2
  · replace hF := oi_t c3 hF
    refine lv_tableIn (tgt := 50) (off := 46) hx hb dX6_asItem_4 (by rw [c3]; decide) (by rw [c3]; decide) (by rw [c3]; decide +kernel) (by decide) ?_
    refine lv_lload_n hx hb dX6_asItem_50 rfl (lv_at hl 1 rfl) ?_
    refine lv_l2i (v := (x1 : Int64).toInt32) hx hb dX6_asItem_51 rfl ?_
    refine lv_i2l (v := ((x1 : Int64).toInt32 : Int32).toInt64) hx hb dX6_asItem_52 rfl ?_
    obtain rfl := Option.some.inj hF
    exact rt_l hret hw rfl dX6_asItem_53
  replace hF := oi_f c3 hF
  by_cases c4 : u_sort = 4
  · replace hF := oi_t c4 hF
    refine lv_tableIn (tgt := 54) (off := 50) hx hb dX6_asItem_4 (by rw [c4]; decide) (by rw [c4]; decide) (by rw [c4]; decide +kernel) (by decide) ?_
    refine lv_lload_n hx hb dX6_asItem_54 rfl (lv_at hl 1 rfl) ?_
    refine lv_lconst (v := 0) hx hb dX6_asItem_55 (by decide) ?_
    refine W.lcmp hx hb dX6_asItem_56 ?_
    refine lv_if_eq (tgt := 64) hx hb dX6_asItem_57 (by decide) (fun c5 => ?_) (fun c5 => ?_)
    · replace hF := oi_t c5 hF
      refine lv_lconst (v := 0) hx hb dX6_asItem_64 (by decide) ?_
      obtain rfl := Option.some.inj hF
      exact rt_l hret hw rfl dX6_asItem_65
    · replace hF := oi_f c5 hF
      refine lv_lconst (v := 1) hx hb dX6_asItem_60 (by decide) ?_
      refine lv_goto (tgt := 65) hx hb dX6_asItem_61 (by decide) ?_
      obtain rfl := Option.some.inj hF
      exact rt_l hret hw rfl dX6_asItem_65
  replace hF := oi_f c4 hF
  have t1 := ti_ne (n := 0) (by decide) c1
  have t2 := ti_ne (n := 1) (by decide) c2
  have t3 := ti_ne (n := 2) (by decide) c3
  have t4 := ti_ne (n := 4) (by decide) c4
  by_cases c6 : u_sort = 3
  · refine lv_tableIn (tgt := 66) (off := 62) hx hb dX6_asItem_4 (by rw [c6]; decide) (by rw [c6]; decide) (by rw [c6]; decide +kernel) (by decide) ?_
    refine lv_lload_n hx hb dX6_asItem_66 rfl (lv_at hl 1 rfl) ?_
    obtain rfl := Option.some.inj hF
    exact rt_l hret hw rfl dX6_asItem_67
  have t6 := ti_ne (n := 3) (by decide) c6
  refine lv_tableOut (tgt := 66) hx hb dX6_asItem_4 (by omega) (by decide) ?_
  refine lv_lload_n hx hb dX6_asItem_66 rfl (lv_at hl 1 rfl) ?_
  obtain rfl := Option.some.inj hF
  exact rt_l hret hw rfl dX6_asItem_67
theorem lk_X6_26 : Cond.methodLink RX6 26 yX6_asItem ∈ gdt := gdt_of 810 (by decide +kernel) (by decide +kernel)
theorem my_X6_asItem : (yX6_asItem.cls ≠ "java/lang/invoke/MethodHandle" ∧ yX6_asItem.cls ≠ "java/lang/invoke/VarHandle") ∧ Cond.instanceMethod yX6_asItem ∈ gdt ∧ Cond.selects yX6_asItem.cls yX6_asItem yX6_asItem ∈ gdt ∧ Cond.initialized yX6_asItem.cls ∈ gdt ∧ Cond.code yX6_asItem cX6_asItem 3 (some .long) ∈ gdt := ⟨⟨by decide +kernel, by decide +kernel⟩, gdt_of 812 (by decide +kernel) (by decide +kernel), gdt_of 31 (by decide +kernel) (by decide +kernel), gdt_of 76 (by decide +kernel) (by decide +kernel), gdt_of 813 (by decide +kernel) (by decide +kernel)⟩
theorem ml_X6_asItem : (parseMethodDescriptor yX6_asItem.desc).map (fun d => d.parameters.length) = some 1 := by decide +kernel
theorem dX6_put_0 : decode cX6_put 0 = .ok (.aload_n 0, 1) := by decide +kernel
theorem dX6_put_1 : decode cX6_put 1 = .ok (.iload_n 1, 1) := by decide +kernel
theorem dX6_put_2 : decode cX6_put 2 = .ok (.invokevirtual 22, 3) := by decide +kernel
theorem dX6_put_5 : decode cX6_put 5 = .ok (.ifCond .eq 14, 3) := by decide +kernel
theorem dX6_put_8 : decode cX6_put 8 = .ok (.aload_n 0, 1) := by decide +kernel
theorem dX6_put_9 : decode cX6_put 9 = .ok (.getfield 18, 3) := by decide +kernel
theorem dX6_put_12 : decode cX6_put 12 = .ok (.iload_n 1, 1) := by decide +kernel
theorem dX6_put_13 : decode cX6_put 13 = .ok (.aload_n 0, 1) := by decide +kernel
theorem dX6_put_14 : decode cX6_put 14 = .ok (.lload_n 2, 1) := by decide +kernel
theorem dX6_put_15 : decode cX6_put 15 = .ok (.invokevirtual 26, 3) := by decide +kernel
theorem dX6_put_18 : decode cX6_put 18 = .ok (.lastore, 1) := by decide +kernel
theorem dX6_put_19 : decode cX6_put 19 = .ok (.return_, 1) := by decide +kernel
def fX6_put (u_sort : Int32) (u_length : Int32) (u_items : (Nat → Int64)) (x1 : Int32) (x2 : Int64) : Option (Nat → Int64) := (fX6_hasPlace u_length x1).bind (fun z1 => if z1 = 0 then (some u_items) else ((fX6_asItem u_sort x2).bind (fun z3 => gA x1 60 (some (vp_updL u_items (x1 : Int32).toNatClampNeg z3)))))
set_option maxRecDepth 20000 in
theorem CX6_put (l : Launch) (D : va_G) (C : Nat → ClassId) (q_ q_items : Nat) (u_sort : Int32) (u_length : Int32) (u_items : (Nat → Int64)) (x1 : Int32) (x2 : Int64) (z : (Nat → Int64)) (hF : fX6_put u_sort u_length u_items x1 x2 = some z) : Ct l yX6_put cX6_put 4 none 2 D C [.ref q_, .int x1, .long x2] [(q_, .inr (6, [.int u_sort, .int u_length, .ref q_items])), (q_items, .inl (C 1, 60, .inr (.inl u_items)))] [(q_, .inr (6, [.int u_sort, .int u_length, .ref q_items])), (q_items, .inl (C 1, 60, .inr (.inl z)))] none := by
  refine Ct_of (by decide) (Nat.le_of_ble_eq_true rfl) ?_
  intro p e R s m args below meth c A Q H locs ls cx hw hl hret
  have cx : CX p m c s args RX6 cX6_put 4 D C A R 2 := cx
  have hx := cx.1
  have hb := cx.2.1
  have hl : lv_has ls 4 [(0, .ref q_), (1, .int x1), (2, .long x2)] := hl
  rw [fX6_put.eq_1] at hF
  refine lv_aload_n hx hb dX6_put_0 rfl (lv_at hl 0 rfl) ?_
  refine lv_iload_n hx hb dX6_put_1 rfl (lv_at hl 1 rfl) ?_
  obtain ⟨z1, hz1, hF⟩ := ob hF
  refine cV (wr := [(q_items, .inl (C 1, 60, .inr (.inl u_items)))]) (w2 := [(q_, .inr (6, [.int u_sort, .int u_length, .ref q_items])), (q_items, .inl (C 1, 60, .inr (.inl u_items)))]) (st2 := [.int z1]) cx (CX6_hasPlace l D C q_ q_items u_sort u_length x1 z1 hz1) lk_X6_22 my_X6_hasPlace ml_X6_hasPlace ⟨by decide, by decide⟩ hw [0] [1] [1, 0] rfl rfl (by decide) rfl rfl rfl rfl (Nat.le_of_ble_eq_true rfl) dX6_put_2 rfl (fun H locs hw => ?_) hl.1
  refine lv_if_eq (tgt := 19) hx hb dX6_put_5 (by decide) (fun c2 => ?_) (fun c2 => ?_)
  · replace hF := oi_t c2 hF
    obtain rfl := Option.some.inj hF
    exact rt_v hret hw rfl dX6_put_19
  · replace hF := oi_f c2 hF
    refine lv_aload_n hx hb dX6_put_8 rfl (lv_at hl 0 rfl) ?_
    refine r_get (ci := 6) (v := .ref q_items) cx hw iX6 0 2 rfl rfl (by decide) wf_X6_18 rfl dX6_put_9 ?_
    refine lv_iload_n hx hb dX6_put_12 rfl (lv_at hl 1 rfl) ?_
    refine lv_aload_n hx hb dX6_put_13 rfl (lv_at hl 0 rfl) ?_
    refine lv_lload_n hx hb dX6_put_14 rfl (lv_at hl 2 rfl) ?_
    obtain ⟨z3, hz3, hF⟩ := ob hF
    refine cV (wr := [(q_items, .inl (C 1, 60, .inr (.inl u_items)))]) (w2 := [(q_, .inr (6, [.int u_sort, .int u_length, .ref q_items])), (q_items, .inl (C 1, 60, .inr (.inl u_items)))]) (st2 := [.long z3, .int x1, .ref q_items]) cx (CX6_asItem l D C q_ q_items u_sort u_length x2 z3 hz3) lk_X6_26 my_X6_asItem ml_X6_asItem ⟨by decide, by decide⟩ hw [0] [1] [1, 0] rfl rfl (by decide) rfl rfl rfl rfl (Nat.le_of_ble_eq_true rfl) dX6_put_15 rfl (fun H locs hw => ?_) hl.1
    obtain ⟨g4, hF⟩ := gA_s hF
    refine r_last (w2 := [(q_, .inr (6, [.int u_sort, .int u_length, .ref q_items])), (q_items, .inl (C 1, 60, .inr (.inl (vp_updL u_items (x1 : Int32).toNatClampNeg z3))))]) cx hw 1 rfl g4 dX6_put_18 rfl (fun H locs hw => ?_)
    obtain rfl := Option.some.inj hF
    exact rt_v hret hw rfl dX6_put_19
theorem wf_X7_15 : Cond.fieldLink RX7 15 (TX7 1).1 (TX7 1).2.1 (TX7 1).2.2.1 ∈ gdt := gdt_of 238 (by decide +kernel) (by decide +kernel)
theorem dX7_size_0 : decode cX7_size 0 = .ok (.aload_n 0, 1) := by decide +kernel
theorem dX7_size_1 : decode cX7_size 1 = .ok (.getfield 15, 3) := by decide +kernel
theorem dX7_size_4 : decode cX7_size 4 = .ok (.ireturn, 1) := by decide +kernel
def fX7_size (u_size : Int32) : Option Int32 := some u_size
set_option maxRecDepth 20000 in
theorem CX7_size (l : Launch) (D : va_G) (C : Nat → ClassId) (q_ q_signs : Nat) (u_size : Int32) (z : Int32) (hF : fX7_size u_size = some z) : Ct l yX7_size cX7_size 1 (some .int) 1 D C [.ref q_] [(q_, .inr (7, [.ref q_signs, .int u_size]))] [(q_, .inr (7, [.ref q_signs, .int u_size]))] (some (.int z)) := by
  refine Ct_of (by decide) (Nat.le_of_ble_eq_true rfl) ?_
  intro p e R s m args below meth c A Q H locs ls cx hw hl hret
  have cx : CX p m c s args RX7 cX7_size 1 D C A R 1 := cx
  have hx := cx.1
  have hb := cx.2.1
  have hl : lv_has ls 1 [(0, .ref q_)] := hl
  rw [fX7_size.eq_1] at hF
  refine lv_aload_n hx hb dX7_size_0 rfl (lv_at hl 0 rfl) ?_
  refine r_get (ci := 7) (v := .int u_size) cx hw iX7 0 1 rfl rfl (by decide) wf_X7_15 rfl dX7_size_1 ?_
  obtain rfl := Option.some.inj hF
  exact rt_i hret hw rfl dX7_size_4
theorem dX7_clear_0 : decode cX7_clear 0 = .ok (.aload_n 0, 1) := by decide +kernel
theorem dX7_clear_1 : decode cX7_clear 1 = .ok (.iconst 0, 1) := by decide +kernel
theorem dX7_clear_2 : decode cX7_clear 2 = .ok (.putfield 15, 3) := by decide +kernel
theorem dX7_clear_5 : decode cX7_clear 5 = .ok (.return_, 1) := by decide +kernel
def fX7_clear : Option Int32 := some 0
set_option maxRecDepth 20000 in
theorem CX7_clear (l : Launch) (D : va_G) (C : Nat → ClassId) (q_ q_signs : Nat) (u_size : Int32) (z : Int32) (hF : fX7_clear = some z) : Ct l yX7_clear cX7_clear 1 none 1 D C [.ref q_] [(q_, .inr (7, [.ref q_signs, .int u_size]))] [(q_, .inr (7, [.ref q_signs, .int z]))] none := by
  refine Ct_of (by decide) (Nat.le_of_ble_eq_true rfl) ?_
  intro p e R s m args below meth c A Q H locs ls cx hw hl hret
  have cx : CX p m c s args RX7 cX7_clear 1 D C A R 1 := cx
  have hx := cx.1
  have hb := cx.2.1
  have hl : lv_has ls 1 [(0, .ref q_)] := hl
  rw [fX7_clear.eq_1] at hF
  refine lv_aload_n hx hb dX7_clear_0 rfl (lv_at hl 0 rfl) ?_
  refine lv_iconst (v := 0) hx hb dX7_clear_1 (by decide) ?_
  refine r_put (ci := 7) (w2 := [(q_, .inr (7, [.ref q_signs, .int 0]))]) cx hw iX7 tyX7_ok nmX7 0 1 rfl rfl (by decide) wf_X7_15 rfl rfl rfl rfl (Nat.le_of_ble_eq_true rfl) dX7_clear_2 rfl (fun H locs hw => ?_)
  obtain rfl := Option.some.inj hF
  exact rt_v hret hw rfl dX7_clear_5
theorem wf_X7_9 : Cond.fieldLink RX7 9 (TX7 0).1 (TX7 0).2.1 (TX7 0).2.2.1 ∈ gdt := gdt_of 237 (by decide +kernel) (by decide +kernel)
theorem dX7_add_0 : decode cX7_add 0 = .ok (.aload_n 0, 1) := by decide +kernel
theorem dX7_add_1 : decode cX7_add 1 = .ok (.getfield 15, 3) := by decide +kernel
theorem dX7_add_4 : decode cX7_add 4 = .ok (.bipush 100, 2) := by decide +kernel
theorem dX7_add_6 : decode cX7_add 6 = .ok (.if_icmp .lt 6, 3) := by decide +kernel
theorem dX7_add_9 : decode cX7_add 9 = .ok (.bipush (-4), 2) := by decide +kernel
theorem dX7_add_11 : decode cX7_add 11 = .ok (.ireturn, 1) := by decide +kernel
theorem dX7_add_12 : decode cX7_add 12 = .ok (.aload_n 0, 1) := by decide +kernel
theorem dX7_add_13 : decode cX7_add 13 = .ok (.getfield 9, 3) := by decide +kernel
theorem dX7_add_16 : decode cX7_add 16 = .ok (.aload_n 0, 1) := by decide +kernel
theorem dX7_add_17 : decode cX7_add 17 = .ok (.getfield 15, 3) := by decide +kernel
theorem dX7_add_20 : decode cX7_add 20 = .ok (.iload_n 1, 1) := by decide +kernel
theorem dX7_add_21 : decode cX7_add 21 = .ok (.i2b, 1) := by decide +kernel
theorem dX7_add_22 : decode cX7_add 22 = .ok (.bastore, 1) := by decide +kernel
theorem dX7_add_23 : decode cX7_add 23 = .ok (.aload_n 0, 1) := by decide +kernel
theorem dX7_add_24 : decode cX7_add 24 = .ok (.dup, 1) := by decide +kernel
theorem dX7_add_25 : decode cX7_add 25 = .ok (.getfield 15, 3) := by decide +kernel
theorem dX7_add_28 : decode cX7_add 28 = .ok (.iconst 1, 1) := by decide +kernel
theorem dX7_add_29 : decode cX7_add 29 = .ok (.iadd, 1) := by decide +kernel
theorem dX7_add_30 : decode cX7_add 30 = .ok (.putfield 15, 3) := by decide +kernel
theorem dX7_add_33 : decode cX7_add 33 = .ok (.aload_n 0, 1) := by decide +kernel
theorem dX7_add_34 : decode cX7_add 34 = .ok (.getfield 15, 3) := by decide +kernel
theorem dX7_add_37 : decode cX7_add 37 = .ok (.ireturn, 1) := by decide +kernel
def fX7_add (u_size : Int32) (u_signs : (Nat → Int32)) (x1 : Int32) : Option (Int32 × Int32 × (Nat → Int32)) := if u_size < 100 then (gA u_size 100 (some (u_size + 1, u_size + 1, upd u_signs (u_size : Int32).toNatClampNeg (vp_nar .byte ((x1 : Int32).toInt8.toInt32))))) else (some ((-4), u_size, u_signs))
set_option maxRecDepth 20000 in
theorem CX7_add (l : Launch) (D : va_G) (C : Nat → ClassId) (q_ q_signs : Nat) (u_size : Int32) (u_signs : (Nat → Int32)) (x1 : Int32) (z : (Int32 × Int32 × (Nat → Int32))) (hF : fX7_add u_size u_signs x1 = some z) : Ct l yX7_add cX7_add 2 (some .int) 1 D C [.ref q_, .int x1] [(q_, .inr (7, [.ref q_signs, .int u_size])), (q_signs, .inl (C 3, 100, .inl u_signs))] [(q_, .inr (7, [.ref q_signs, .int z.2.1])), (q_signs, .inl (C 3, 100, .inl z.2.2))] (some (.int z.1)) := by
  refine Ct_of (by decide) (Nat.le_of_ble_eq_true rfl) ?_
  intro p e R s m args below meth c A Q H locs ls cx hw hl hret
  have cx : CX p m c s args RX7 cX7_add 2 D C A R 1 := cx
  have hx := cx.1
  have hb := cx.2.1
  have hl : lv_has ls 2 [(0, .ref q_), (1, .int x1)] := hl
  rw [fX7_add.eq_1] at hF
  refine lv_aload_n hx hb dX7_add_0 rfl (lv_at hl 0 rfl) ?_
  refine r_get (ci := 7) (v := .int u_size) cx hw iX7 0 1 rfl rfl (by decide) wf_X7_15 rfl dX7_add_1 ?_
  refine lv_bipush (v := 100) hx hb dX7_add_4 (by decide) ?_
  refine lv_icmp_lt (tgt := 12) hx hb dX7_add_6 (by decide) (fun c1 => ?_) (fun c1 => ?_)
  · replace hF := oi_t c1 hF
    refine lv_aload_n hx hb dX7_add_12 rfl (lv_at hl 0 rfl) ?_
    refine r_get (ci := 7) (v := .ref q_signs) cx hw iX7 0 0 rfl rfl (by decide) wf_X7_9 rfl dX7_add_13 ?_
    refine lv_aload_n hx hb dX7_add_16 rfl (lv_at hl 0 rfl) ?_
    refine r_get (ci := 7) (v := .int u_size) cx hw iX7 0 1 rfl rfl (by decide) wf_X7_15 rfl dX7_add_17 ?_
    refine lv_iload_n hx hb dX7_add_20 rfl (lv_at hl 1 rfl) ?_
    refine lv_i2b (v := (x1 : Int32).toInt8.toInt32) hx hb dX7_add_21 rfl ?_
    obtain ⟨g2, hF⟩ := gA_s hF
    refine r_bast (w2 := [(q_, .inr (7, [.ref q_signs, .int u_size])), (q_signs, .inl (C 3, 100, .inl (upd u_signs (u_size : Int32).toNatClampNeg (vp_nar .byte ((x1 : Int32).toInt8.toInt32)))))]) cx hw 1 rfl g2 dX7_add_22 rfl (fun H locs hw => ?_)
    refine lv_aload_n hx hb dX7_add_23 rfl (lv_at hl 0 rfl) ?_
    refine lv_dup hx hb dX7_add_24 rfl ?_
    refine r_get (ci := 7) (v := .int u_size) cx hw iX7 0 1 rfl rfl (by decide) wf_X7_15 rfl dX7_add_25 ?_
    refine lv_iconst (v := 1) hx hb dX7_add_28 (by decide) ?_
    refine lv_iadd hx hb dX7_add_29 ?_
    refine r_put (ci := 7) (w2 := [(q_, .inr (7, [.ref q_signs, .int (u_size + 1)])), (q_signs, .inl (C 3, 100, .inl (upd u_signs (u_size : Int32).toNatClampNeg (vp_nar .byte ((x1 : Int32).toInt8.toInt32)))))]) cx hw iX7 tyX7_ok nmX7 0 1 rfl rfl (by decide) wf_X7_15 rfl rfl rfl rfl (Nat.le_of_ble_eq_true rfl) dX7_add_30 rfl (fun H locs hw => ?_)
    refine lv_aload_n hx hb dX7_add_33 rfl (lv_at hl 0 rfl) ?_
    refine r_get (ci := 7) (v := .int (u_size + 1)) cx hw iX7 0 1 rfl rfl (by decide) wf_X7_15 rfl dX7_add_34 ?_
    obtain rfl := Option.some.inj hF
    exact rt_i hret hw rfl dX7_add_37
  · replace hF := oi_f c1 hF
    refine lv_bipush (v := (-4)) hx hb dX7_add_9 (by decide) ?_
    obtain rfl := Option.some.inj hF
    exact rt_i hret hw rfl dX7_add_11
theorem dX7_signAt_0 : decode cX7_signAt 0 = .ok (.iload_n 1, 1) := by decide +kernel
theorem dX7_signAt_1 : decode cX7_signAt 1 = .ok (.ifCond .lt 26, 3) := by decide +kernel
theorem dX7_signAt_4 : decode cX7_signAt 4 = .ok (.iload_n 1, 1) := by decide +kernel
theorem dX7_signAt_5 : decode cX7_signAt 5 = .ok (.aload_n 0, 1) := by decide +kernel
theorem dX7_signAt_6 : decode cX7_signAt 6 = .ok (.getfield 15, 3) := by decide +kernel
theorem dX7_signAt_9 : decode cX7_signAt 9 = .ok (.if_icmp .ge 18, 3) := by decide +kernel
theorem dX7_signAt_12 : decode cX7_signAt 12 = .ok (.iload_n 1, 1) := by decide +kernel
theorem dX7_signAt_13 : decode cX7_signAt 13 = .ok (.bipush 100, 2) := by decide +kernel
theorem dX7_signAt_15 : decode cX7_signAt 15 = .ok (.if_icmp .ge 12, 3) := by decide +kernel
theorem dX7_signAt_18 : decode cX7_signAt 18 = .ok (.aload_n 0, 1) := by decide +kernel
theorem dX7_signAt_19 : decode cX7_signAt 19 = .ok (.getfield 9, 3) := by decide +kernel
theorem dX7_signAt_22 : decode cX7_signAt 22 = .ok (.iload_n 1, 1) := by decide +kernel
theorem dX7_signAt_23 : decode cX7_signAt 23 = .ok (.baload, 1) := by decide +kernel
theorem dX7_signAt_24 : decode cX7_signAt 24 = .ok (.goto 4, 3) := by decide +kernel
theorem dX7_signAt_27 : decode cX7_signAt 27 = .ok (.iconst (-1), 1) := by decide +kernel
theorem dX7_signAt_28 : decode cX7_signAt 28 = .ok (.ireturn, 1) := by decide +kernel
def fX7_signAt (u_size : Int32) (u_signs : (Nat → Int32)) (x1 : Int32) : Option Int32 := if x1 < 0 then (some (-1)) else (if u_size ≤ x1 then (some (-1)) else (if 100 ≤ x1 then (some (-1)) else (gA x1 100 (some (u_signs (x1).toNatClampNeg)))))
set_option maxRecDepth 20000 in
theorem CX7_signAt (l : Launch) (D : va_G) (C : Nat → ClassId) (q_ q_signs : Nat) (u_size : Int32) (u_signs : (Nat → Int32)) (x1 : Int32) (z : Int32) (hF : fX7_signAt u_size u_signs x1 = some z) : Ct l yX7_signAt cX7_signAt 2 (some .int) 1 D C [.ref q_, .int x1] [(q_, .inr (7, [.ref q_signs, .int u_size])), (q_signs, .inl (C 3, 100, .inl u_signs))] [(q_, .inr (7, [.ref q_signs, .int u_size])), (q_signs, .inl (C 3, 100, .inl u_signs))] (some (.int z)) := by
  refine Ct_of (by decide) (Nat.le_of_ble_eq_true rfl) ?_
  intro p e R s m args below meth c A Q H locs ls cx hw hl hret
  have cx : CX p m c s args RX7 cX7_signAt 2 D C A R 1 := cx
  have hx := cx.1
  have hb := cx.2.1
  have hl : lv_has ls 2 [(0, .ref q_), (1, .int x1)] := hl
  rw [fX7_signAt.eq_1] at hF
  refine lv_iload_n hx hb dX7_signAt_0 rfl (lv_at hl 1 rfl) ?_
  refine lv_if_lt (tgt := 27) hx hb dX7_signAt_1 (by decide) (fun c1 => ?_) (fun c1 => ?_)
  · replace hF := oi_t c1 hF
    refine lv_iconst (v := (-1)) hx hb dX7_signAt_27 (by decide) ?_
    obtain rfl := Option.some.inj hF
    exact rt_i hret hw rfl dX7_signAt_28
  · replace hF := oi_f c1 hF
    refine lv_iload_n hx hb dX7_signAt_4 rfl (lv_at hl 1 rfl) ?_
    refine lv_aload_n hx hb dX7_signAt_5 rfl (lv_at hl 0 rfl) ?_
    refine r_get (ci := 7) (v := .int u_size) cx hw iX7 0 1 rfl rfl (by decide) wf_X7_15 rfl dX7_signAt_6 ?_
    refine lv_icmp_ge (tgt := 27) hx hb dX7_signAt_9 (by decide) (fun c2 => ?_) (fun c2 => ?_)
    · replace hF := oi_t c2 hF
      refine lv_iconst (v := (-1)) hx hb dX7_signAt_27 (by decide) ?_
      obtain rfl := Option.some.inj hF
      exact rt_i hret hw rfl dX7_signAt_28
    · replace hF := oi_f c2 hF
      refine lv_iload_n hx hb dX7_signAt_12 rfl (lv_at hl 1 rfl) ?_
      refine lv_bipush (v := 100) hx hb dX7_signAt_13 (by decide) ?_
      refine lv_icmp_ge (tgt := 27) hx hb dX7_signAt_15 (by decide) (fun c3 => ?_) (fun c3 => ?_)
      · replace hF := oi_t c3 hF
        refine lv_iconst (v := (-1)) hx hb dX7_signAt_27 (by decide) ?_
        obtain rfl := Option.some.inj hF
        exact rt_i hret hw rfl dX7_signAt_28
      · replace hF := oi_f c3 hF
        refine lv_aload_n hx hb dX7_signAt_18 rfl (lv_at hl 0 rfl) ?_
        refine r_get (ci := 7) (v := .ref q_signs) cx hw iX7 0 0 rfl rfl (by decide) wf_X7_9 rfl dX7_signAt_19 ?_
        refine lv_iload_n hx hb dX7_signAt_22 rfl (lv_at hl 1 rfl) ?_
        obtain ⟨g4, hF⟩ := gA_s hF
        refine r_bald cx hw 1 rfl g4 dX7_signAt_23 ?_
        refine lv_goto (tgt := 28) hx hb dX7_signAt_24 (by decide) ?_
        obtain rfl := Option.some.inj hF
        exact rt_i hret hw rfl dX7_signAt_28
theorem lk_X7_19 : Cond.methodLink RX7 19 yX7_signAt ∈ gdt := gdt_of 377 (by decide +kernel) (by decide +kernel)
theorem my_X7_signAt : (yX7_signAt.cls ≠ "java/lang/invoke/MethodHandle" ∧ yX7_signAt.cls ≠ "java/lang/invoke/VarHandle") ∧ Cond.instanceMethod yX7_signAt ∈ gdt ∧ Cond.selects yX7_signAt.cls yX7_signAt yX7_signAt ∈ gdt ∧ Cond.initialized yX7_signAt.cls ∈ gdt ∧ Cond.code yX7_signAt cX7_signAt 2 (some .int) ∈ gdt := ⟨⟨by decide +kernel, by decide +kernel⟩, gdt_of 378 (by decide +kernel) (by decide +kernel), gdt_of 379 (by decide +kernel) (by decide +kernel), gdt_of 75 (by decide +kernel) (by decide +kernel), gdt_of 380 (by decide +kernel) (by decide +kernel)⟩
theorem ml_X7_signAt : (parseMethodDescriptor yX7_signAt.desc).map (fun d => d.parameters.length) = some 1 := by decide +kernel
theorem dX7_isDigit_0 : decode cX7_isDigit 0 = .ok (.aload_n 0, 1) := by decide +kernel
theorem dX7_isDigit_1 : decode cX7_isDigit 1 = .ok (.iload_n 1, 1) := by decide +kernel
theorem dX7_isDigit_2 : decode cX7_isDigit 2 = .ok (.invokevirtual 19, 3) := by decide +kernel
theorem dX7_isDigit_5 : decode cX7_isDigit 5 = .ok (.istore_n 2, 1) := by decide +kernel
theorem dX7_isDigit_6 : decode cX7_isDigit 6 = .ok (.iload_n 2, 1) := by decide +kernel
theorem dX7_isDigit_7 : decode cX7_isDigit 7 = .ok (.bipush 48, 2) := by decide +kernel
theorem dX7_isDigit_9 : decode cX7_isDigit 9 = .ok (.if_icmp .lt 13, 3) := by decide +kernel
theorem dX7_isDigit_12 : decode cX7_isDigit 12 = .ok (.iload_n 2, 1) := by decide +kernel
theorem dX7_isDigit_13 : decode cX7_isDigit 13 = .ok (.bipush 57, 2) := by decide +kernel
theorem dX7_isDigit_15 : decode cX7_isDigit 15 = .ok (.if_icmp .gt 7, 3) := by decide +kernel
theorem dX7_isDigit_18 : decode cX7_isDigit 18 = .ok (.iconst 1, 1) := by decide +kernel
theorem dX7_isDigit_19 : decode cX7_isDigit 19 = .ok (.goto 4, 3) := by decide +kernel
theorem dX7_isDigit_22 : decode cX7_isDigit 22 = .ok (.iconst 0, 1) := by decide +kernel
theorem dX7_isDigit_23 : decode cX7_isDigit 23 = .ok (.ireturn, 1) := by decide +kernel
def fX7_isDigit (u_size : Int32) (u_signs : (Nat → Int32)) (x1 : Int32) : Option Int32 := (fX7_signAt u_size u_signs x1).bind (fun z1 => if z1 < 48 then (some 0) else (if 57 < z1 then (some 0) else (some 1)))
set_option maxRecDepth 20000 in
theorem CX7_isDigit (l : Launch) (D : va_G) (C : Nat → ClassId) (q_ q_signs : Nat) (u_size : Int32) (u_signs : (Nat → Int32)) (x1 : Int32) (z : Int32) (hF : fX7_isDigit u_size u_signs x1 = some z) : Ct l yX7_isDigit cX7_isDigit 3 (some .boolean) 2 D C [.ref q_, .int x1] [(q_, .inr (7, [.ref q_signs, .int u_size])), (q_signs, .inl (C 3, 100, .inl u_signs))] [(q_, .inr (7, [.ref q_signs, .int u_size])), (q_signs, .inl (C 3, 100, .inl u_signs))] (some (.int z)) := by
  refine Ct_of (by decide) (Nat.le_of_ble_eq_true rfl) ?_
  intro p e R s m args below meth c A Q H locs ls cx hw hl hret
  have cx : CX p m c s args RX7 cX7_isDigit 3 D C A R 2 := cx
  have hx := cx.1
  have hb := cx.2.1
  have hl : lv_has ls 3 [(0, .ref q_), (1, .int x1)] := hl
  rw [fX7_isDigit.eq_1] at hF
  refine lv_aload_n hx hb dX7_isDigit_0 rfl (lv_at hl 0 rfl) ?_
  refine lv_iload_n hx hb dX7_isDigit_1 rfl (lv_at hl 1 rfl) ?_
  obtain ⟨z1, hz1, hF⟩ := ob hF
  refine cV (wr := []) (w2 := [(q_, .inr (7, [.ref q_signs, .int u_size])), (q_signs, .inl (C 3, 100, .inl u_signs))]) (st2 := [.int z1]) cx (CX7_signAt l D C q_ q_signs u_size u_signs x1 z1 hz1) lk_X7_19 my_X7_signAt ml_X7_signAt ⟨by decide, by decide⟩ hw [0, 1] [] [0, 1] rfl rfl (by decide) rfl rfl rfl rfl (Nat.le_of_ble_eq_true rfl) dX7_isDigit_2 rfl (fun H locs hw => ?_) hl.1
  refine lv_istore_n (lv' := [(2, .int z1), (0, .ref q_), (1, .int x1)]) hx hb dX7_isDigit_5 rfl hl (by decide) rfl (fun ls hl => ?_)
  refine lv_iload_n hx hb dX7_isDigit_6 rfl (lv_at hl 0 rfl) ?_
  refine lv_bipush (v := 48) hx hb dX7_isDigit_7 (by decide) ?_
  refine lv_icmp_lt (tgt := 22) hx hb dX7_isDigit_9 (by decide) (fun c2 => ?_) (fun c2 => ?_)
  · replace hF := oi_t c2 hF
    refine lv_iconst (v := 0) hx hb dX7_isDigit_22 (by decide) ?_
    obtain rfl := Option.some.inj hF
    exact rt_z hret hw rfl rfl dX7_isDigit_23
  · replace hF := oi_f c2 hF
    refine lv_iload_n hx hb dX7_isDigit_12 rfl (lv_at hl 0 rfl) ?_
    refine lv_bipush (v := 57) hx hb dX7_isDigit_13 (by decide) ?_
    refine lv_icmp_gt (tgt := 22) hx hb dX7_isDigit_15 (by decide) (fun c3 => ?_) (fun c3 => ?_)
    · replace hF := oi_t c3 hF
      refine lv_iconst (v := 0) hx hb dX7_isDigit_22 (by decide) ?_
      obtain rfl := Option.some.inj hF
      exact rt_z hret hw rfl rfl dX7_isDigit_23
    · replace hF := oi_f c3 hF
      refine lv_iconst (v := 1) hx hb dX7_isDigit_18 (by decide) ?_
      refine lv_goto (tgt := 23) hx hb dX7_isDigit_19 (by decide) ?_
      obtain rfl := Option.some.inj hF
      exact rt_z hret hw rfl rfl dX7_isDigit_23
theorem lk_X7_23 : Cond.methodLink RX7 23 yX7_isDigit ∈ gdt := gdt_of 384 (by decide +kernel) (by decide +kernel)
theorem my_X7_isDigit : (yX7_isDigit.cls ≠ "java/lang/invoke/MethodHandle" ∧ yX7_isDigit.cls ≠ "java/lang/invoke/VarHandle") ∧ Cond.instanceMethod yX7_isDigit ∈ gdt ∧ Cond.selects yX7_isDigit.cls yX7_isDigit yX7_isDigit ∈ gdt ∧ Cond.initialized yX7_isDigit.cls ∈ gdt ∧ Cond.code yX7_isDigit cX7_isDigit 3 (some .boolean) ∈ gdt := ⟨⟨by decide +kernel, by decide +kernel⟩, gdt_of 386 (by decide +kernel) (by decide +kernel), gdt_of 4 (by decide +kernel) (by decide +kernel), gdt_of 75 (by decide +kernel) (by decide +kernel), gdt_of 387 (by decide +kernel) (by decide +kernel)⟩
theorem ml_X7_isDigit : (parseMethodDescriptor yX7_isDigit.desc).map (fun d => d.parameters.length) = some 1 := by decide +kernel
theorem dX7_digitAt_0 : decode cX7_digitAt 0 = .ok (.aload_n 0, 1) := by decide +kernel
theorem dX7_digitAt_1 : decode cX7_digitAt 1 = .ok (.iload_n 1, 1) := by decide +kernel
theorem dX7_digitAt_2 : decode cX7_digitAt 2 = .ok (.invokevirtual 23, 3) := by decide +kernel
theorem dX7_digitAt_5 : decode cX7_digitAt 5 = .ok (.ifCond .eq 14, 3) := by decide +kernel
theorem dX7_digitAt_8 : decode cX7_digitAt 8 = .ok (.aload_n 0, 1) := by decide +kernel
theorem dX7_digitAt_9 : decode cX7_digitAt 9 = .ok (.iload_n 1, 1) := by decide +kernel
theorem dX7_digitAt_10 : decode cX7_digitAt 10 = .ok (.invokevirtual 19, 3) := by decide +kernel
theorem dX7_digitAt_13 : decode cX7_digitAt 13 = .ok (.bipush 48, 2) := by decide +kernel
theorem dX7_digitAt_15 : decode cX7_digitAt 15 = .ok (.isub, 1) := by decide +kernel
theorem dX7_digitAt_16 : decode cX7_digitAt 16 = .ok (.goto 4, 3) := by decide +kernel
theorem dX7_digitAt_19 : decode cX7_digitAt 19 = .ok (.iconst (-1), 1) := by decide +kernel
theorem dX7_digitAt_20 : decode cX7_digitAt 20 = .ok (.ireturn, 1) := by decide +kernel
def fX7_digitAt (u_size : Int32) (u_signs : (Nat → Int32)) (x1 : Int32) : Option Int32 := (fX7_isDigit u_size u_signs x1).bind (fun z1 => if z1 = 0 then (some (-1)) else ((fX7_signAt u_size u_signs x1).bind (fun z3 => some (z3 - 48))))
set_option maxRecDepth 20000 in
theorem CX7_digitAt (l : Launch) (D : va_G) (C : Nat → ClassId) (q_ q_signs : Nat) (u_size : Int32) (u_signs : (Nat → Int32)) (x1 : Int32) (z : Int32) (hF : fX7_digitAt u_size u_signs x1 = some z) : Ct l yX7_digitAt cX7_digitAt 2 (some .int) 3 D C [.ref q_, .int x1] [(q_, .inr (7, [.ref q_signs, .int u_size])), (q_signs, .inl (C 3, 100, .inl u_signs))] [(q_, .inr (7, [.ref q_signs, .int u_size])), (q_signs, .inl (C 3, 100, .inl u_signs))] (some (.int z)) := by
  refine Ct_of (by decide) (Nat.le_of_ble_eq_true rfl) ?_
  intro p e R s m args below meth c A Q H locs ls cx hw hl hret
  have cx : CX p m c s args RX7 cX7_digitAt 2 D C A R 3 := cx
  have hx := cx.1
  have hb := cx.2.1
  have hl : lv_has ls 2 [(0, .ref q_), (1, .int x1)] := hl
  rw [fX7_digitAt.eq_1] at hF
  refine lv_aload_n hx hb dX7_digitAt_0 rfl (lv_at hl 0 rfl) ?_
  refine lv_iload_n hx hb dX7_digitAt_1 rfl (lv_at hl 1 rfl) ?_
  obtain ⟨z1, hz1, hF⟩ := ob hF
  refine cV (wr := []) (w2 := [(q_, .inr (7, [.ref q_signs, .int u_size])), (q_signs, .inl (C 3, 100, .inl u_signs))]) (st2 := [.int z1]) cx (CX7_isDigit l D C q_ q_signs u_size u_signs x1 z1 hz1) lk_X7_23 my_X7_isDigit ml_X7_isDigit ⟨by decide, by decide⟩ hw [0, 1] [] [0, 1] rfl rfl (by decide) rfl rfl rfl rfl (Nat.le_of_ble_eq_true rfl) dX7_digitAt_2 rfl (fun H locs hw => ?_) hl.1
  refine lv_if_eq (tgt := 19) hx hb dX7_digitAt_5 (by decide) (fun c2 => ?_) (fun c2 => ?_)
  · replace hF := oi_t c2 hF
    refine lv_iconst (v := (-1)) hx hb dX7_digitAt_19 (by decide) ?_
    obtain rfl := Option.some.inj hF
    exact rt_i hret hw rfl dX7_digitAt_20
  · replace hF := oi_f c2 hF
    refine lv_aload_n hx hb dX7_digitAt_8 rfl (lv_at hl 0 rfl) ?_
    refine lv_iload_n hx hb dX7_digitAt_9 rfl (lv_at hl 1 rfl) ?_
    obtain ⟨z3, hz3, hF⟩ := ob hF
    refine cV (wr := []) (w2 := [(q_, .inr (7, [.ref q_signs, .int u_size])), (q_signs, .inl (C 3, 100, .inl u_signs))]) (st2 := [.int z3]) cx (CX7_signAt l D C q_ q_signs u_size u_signs x1 z3 hz3) lk_X7_19 my_X7_signAt ml_X7_signAt ⟨by decide, by decide⟩ hw [0, 1] [] [0, 1] rfl rfl (by decide) rfl rfl rfl rfl (Nat.le_of_ble_eq_true rfl) dX7_digitAt_10 rfl (fun H locs hw => ?_) hl.1
    refine lv_bipush (v := 48) hx hb dX7_digitAt_13 (by decide) ?_
    refine lv_isub hx hb dX7_digitAt_15 ?_
    refine lv_goto (tgt := 20) hx hb dX7_digitAt_16 (by decide) ?_
    obtain rfl := Option.some.inj hF
    exact rt_i hret hw rfl dX7_digitAt_20
theorem lk_X7_27 : Cond.methodLink RX7 27 yX7_digitAt ∈ gdt := gdt_of 406 (by decide +kernel) (by decide +kernel)
theorem my_X7_digitAt : (yX7_digitAt.cls ≠ "java/lang/invoke/MethodHandle" ∧ yX7_digitAt.cls ≠ "java/lang/invoke/VarHandle") ∧ Cond.instanceMethod yX7_digitAt ∈ gdt ∧ Cond.selects yX7_digitAt.cls yX7_digitAt yX7_digitAt ∈ gdt ∧ Cond.initialized yX7_digitAt.cls ∈ gdt ∧ Cond.code yX7_digitAt cX7_digitAt 2 (some .int) ∈ gdt := ⟨⟨by decide +kernel, by decide +kernel⟩, gdt_of 397 (by decide +kernel) (by decide +kernel), gdt_of 398 (by decide +kernel) (by decide +kernel), gdt_of 75 (by decide +kernel) (by decide +kernel), gdt_of 399 (by decide +kernel) (by decide +kernel)⟩
theorem ml_X7_digitAt : (parseMethodDescriptor yX7_digitAt.desc).map (fun d => d.parameters.length) = some 1 := by decide +kernel
theorem dX7_amountAt_0 : decode cX7_amountAt 0 = .ok (.aload_n 0, 1) := by decide +kernel
theorem dX7_amountAt_1 : decode cX7_amountAt 1 = .ok (.iload_n 1, 1) := by decide +kernel
theorem dX7_amountAt_2 : decode cX7_amountAt 2 = .ok (.invokevirtual 27, 3) := by decide +kernel
theorem dX7_amountAt_5 : decode cX7_amountAt 5 = .ok (.istore_n 2, 1) := by decide +kernel
theorem dX7_amountAt_6 : decode cX7_amountAt 6 = .ok (.aload_n 0, 1) := by decide +kernel
theorem dX7_amountAt_7 : decode cX7_amountAt 7 = .ok (.iload_n 1, 1) := by decide +kernel
theorem dX7_amountAt_8 : decode cX7_amountAt 8 = .ok (.iconst 1, 1) := by decide +kernel
theorem dX7_amountAt_9 : decode cX7_amountAt 9 = .ok (.iadd, 1) := by decide +kernel
theorem dX7_amountAt_10 : decode cX7_amountAt 10 = .ok (.invokevirtual 23, 3) := by decide +kernel
theorem dX7_amountAt_13 : decode cX7_amountAt 13 = .ok (.ifCond .eq 18, 3) := by decide +kernel
theorem dX7_amountAt_16 : decode cX7_amountAt 16 = .ok (.bipush 10, 2) := by decide +kernel
theorem dX7_amountAt_18 : decode cX7_amountAt 18 = .ok (.iload_n 2, 1) := by decide +kernel
theorem dX7_amountAt_19 : decode cX7_amountAt 19 = .ok (.imul, 1) := by decide +kernel
theorem dX7_amountAt_20 : decode cX7_amountAt 20 = .ok (.aload_n 0, 1) := by decide +kernel
theorem dX7_amountAt_21 : decode cX7_amountAt 21 = .ok (.iload_n 1, 1) := by decide +kernel
theorem dX7_amountAt_22 : decode cX7_amountAt 22 = .ok (.iconst 1, 1) := by decide +kernel
theorem dX7_amountAt_23 : decode cX7_amountAt 23 = .ok (.iadd, 1) := by decide +kernel
theorem dX7_amountAt_24 : decode cX7_amountAt 24 = .ok (.invokevirtual 27, 3) := by decide +kernel
theorem dX7_amountAt_27 : decode cX7_amountAt 27 = .ok (.iadd, 1) := by decide +kernel
theorem dX7_amountAt_28 : decode cX7_amountAt 28 = .ok (.goto 4, 3) := by decide +kernel
theorem dX7_amountAt_31 : decode cX7_amountAt 31 = .ok (.iload_n 2, 1) := by decide +kernel
theorem dX7_amountAt_32 : decode cX7_amountAt 32 = .ok (.ireturn, 1) := by decide +kernel
def fX7_amountAt (u_size : Int32) (u_signs : (Nat → Int32)) (x1 : Int32) : Option Int32 := (fX7_digitAt u_size u_signs x1).bind (fun z1 => (fX7_isDigit u_size u_signs (x1 + 1)).bind (fun z2 => if z2 = 0 then (some z1) else ((fX7_digitAt u_size u_signs (x1 + 1)).bind (fun z4 => some ((10 * z1) + z4)))))
set_option maxRecDepth 20000 in
theorem CX7_amountAt (l : Launch) (D : va_G) (C : Nat → ClassId) (q_ q_signs : Nat) (u_size : Int32) (u_signs : (Nat → Int32)) (x1 : Int32) (z : Int32) (hF : fX7_amountAt u_size u_signs x1 = some z) : Ct l yX7_amountAt cX7_amountAt 3 (some .int) 4 D C [.ref q_, .int x1] [(q_, .inr (7, [.ref q_signs, .int u_size])), (q_signs, .inl (C 3, 100, .inl u_signs))] [(q_, .inr (7, [.ref q_signs, .int u_size])), (q_signs, .inl (C 3, 100, .inl u_signs))] (some (.int z)) := by
  refine Ct_of (by decide) (Nat.le_of_ble_eq_true rfl) ?_
  intro p e R s m args below meth c A Q H locs ls cx hw hl hret
  have cx : CX p m c s args RX7 cX7_amountAt 3 D C A R 4 := cx
  have hx := cx.1
  have hb := cx.2.1
  have hl : lv_has ls 3 [(0, .ref q_), (1, .int x1)] := hl
  rw [fX7_amountAt.eq_1] at hF
  refine lv_aload_n hx hb dX7_amountAt_0 rfl (lv_at hl 0 rfl) ?_
  refine lv_iload_n hx hb dX7_amountAt_1 rfl (lv_at hl 1 rfl) ?_
  obtain ⟨z1, hz1, hF⟩ := ob hF
  refine cV (wr := []) (w2 := [(q_, .inr (7, [.ref q_signs, .int u_size])), (q_signs, .inl (C 3, 100, .inl u_signs))]) (st2 := [.int z1]) cx (CX7_digitAt l D C q_ q_signs u_size u_signs x1 z1 hz1) lk_X7_27 my_X7_digitAt ml_X7_digitAt ⟨by decide, by decide⟩ hw [0, 1] [] [0, 1] rfl rfl (by decide) rfl rfl rfl rfl (Nat.le_of_ble_eq_true rfl) dX7_amountAt_2 rfl (fun H locs hw => ?_) hl.1
  refine lv_istore_n (lv' := [(2, .int z1), (0, .ref q_), (1, .int x1)]) hx hb dX7_amountAt_5 rfl hl (by decide) rfl (fun ls hl => ?_)
  refine lv_aload_n hx hb dX7_amountAt_6 rfl (lv_at hl 1 rfl) ?_
  refine lv_iload_n hx hb dX7_amountAt_7 rfl (lv_at hl 2 rfl) ?_
  refine lv_iconst (v := 1) hx hb dX7_amountAt_8 (by decide) ?_
  refine lv_iadd hx hb dX7_amountAt_9 ?_
  obtain ⟨z2, hz2, hF⟩ := ob hF
  refine cV (wr := []) (w2 := [(q_, .inr (7, [.ref q_signs, .int u_size])), (q_signs, .inl (C 3, 100, .inl u_signs))]) (st2 := [.int z2]) cx (CX7_isDigit l D C q_ q_signs u_size u_signs (x1 + 1) z2 hz2) lk_X7_23 my_X7_isDigit ml_X7_isDigit ⟨by decide, by decide⟩ hw [0, 1] [] [0, 1] rfl rfl (by decide) rfl rfl rfl rfl (Nat.le_of_ble_eq_true rfl) dX7_amountAt_10 rfl (fun H locs hw => ?_) hl.1
  refine lv_if_eq (tgt := 31) hx hb dX7_amountAt_13 (by decide) (fun c3 => ?_) (fun c3 => ?_)
  · replace hF := oi_t c3 hF
    refine lv_iload_n hx hb dX7_amountAt_31 rfl (lv_at hl 0 rfl) ?_
    obtain rfl := Option.some.inj hF
    exact rt_i hret hw rfl dX7_amountAt_32
  · replace hF := oi_f c3 hF
    refine lv_bipush (v := 10) hx hb dX7_amountAt_16 (by decide) ?_
    refine lv_iload_n hx hb dX7_amountAt_18 rfl (lv_at hl 0 rfl) ?_
    refine lv_imul hx hb dX7_amountAt_19 ?_
    refine lv_aload_n hx hb dX7_amountAt_20 rfl (lv_at hl 1 rfl) ?_
    refine lv_iload_n hx hb dX7_amountAt_21 rfl (lv_at hl 2 rfl) ?_
    refine lv_iconst (v := 1) hx hb dX7_amountAt_22 (by decide) ?_
    refine lv_iadd hx hb dX7_amountAt_23 ?_
    obtain ⟨z4, hz4, hF⟩ := ob hF
    refine cV (wr := []) (w2 := [(q_, .inr (7, [.ref q_signs, .int u_size])), (q_signs, .inl (C 3, 100, .inl u_signs))]) (st2 := [.int z4, .int (10 * z1)]) cx (CX7_digitAt l D C q_ q_signs u_size u_signs (x1 + 1) z4 hz4) lk_X7_27 my_X7_digitAt ml_X7_digitAt ⟨by decide, by decide⟩ hw [0, 1] [] [0, 1] rfl rfl (by decide) rfl rfl rfl rfl (Nat.le_of_ble_eq_true rfl) dX7_amountAt_24 rfl (fun H locs hw => ?_) hl.1
    refine lv_iadd hx hb dX7_amountAt_27 ?_
    refine lv_goto (tgt := 32) hx hb dX7_amountAt_28 (by decide) ?_
    obtain rfl := Option.some.inj hF
    exact rt_i hret hw rfl dX7_amountAt_32
theorem dX7_nextClause_0 : decode cX7_nextClause 0 = .ok (.iload_n 1, 1) := by decide +kernel
theorem dX7_nextClause_1 : decode cX7_nextClause 1 = .ok (.istore_n 2, 1) := by decide +kernel
theorem dX7_nextClause_2 : decode cX7_nextClause 2 = .ok (.iload_n 2, 1) := by decide +kernel
theorem dX7_nextClause_3 : decode cX7_nextClause 3 = .ok (.aload_n 0, 1) := by decide +kernel
theorem dX7_nextClause_4 : decode cX7_nextClause 4 = .ok (.getfield 15, 3) := by decide +kernel
theorem dX7_nextClause_7 : decode cX7_nextClause 7 = .ok (.if_icmp .ge 23, 3) := by decide +kernel
theorem dX7_nextClause_10 : decode cX7_nextClause 10 = .ok (.aload_n 0, 1) := by decide +kernel
theorem dX7_nextClause_11 : decode cX7_nextClause 11 = .ok (.iload_n 2, 1) := by decide +kernel
theorem dX7_nextClause_12 : decode cX7_nextClause 12 = .ok (.invokevirtual 19, 3) := by decide +kernel
theorem dX7_nextClause_15 : decode cX7_nextClause 15 = .ok (.bipush 59, 2) := by decide +kernel
theorem dX7_nextClause_17 : decode cX7_nextClause 17 = .ok (.if_icmp .ne 7, 3) := by decide +kernel
theorem dX7_nextClause_20 : decode cX7_nextClause 20 = .ok (.iload_n 2, 1) := by decide +kernel
theorem dX7_nextClause_21 : decode cX7_nextClause 21 = .ok (.iconst 1, 1) := by decide +kernel
theorem dX7_nextClause_22 : decode cX7_nextClause 22 = .ok (.iadd, 1) := by decide +kernel
theorem dX7_nextClause_23 : decode cX7_nextClause 23 = .ok (.ireturn, 1) := by decide +kernel
theorem dX7_nextClause_24 : decode cX7_nextClause 24 = .ok (.iinc 2 1, 3) := by decide +kernel
theorem dX7_nextClause_27 : decode cX7_nextClause 27 = .ok (.goto (-25), 3) := by decide +kernel
theorem dX7_nextClause_30 : decode cX7_nextClause 30 = .ok (.aload_n 0, 1) := by decide +kernel
theorem dX7_nextClause_31 : decode cX7_nextClause 31 = .ok (.getfield 15, 3) := by decide +kernel
theorem dX7_nextClause_34 : decode cX7_nextClause 34 = .ok (.ireturn, 1) := by decide +kernel
def fX7_nextClause_L2 (k30 : Option Int32) (u_size : Int32) (u_signs : (Nat → Int32)) : Nat → Int32 → Option Int32
  | 0, _ => none
  | n + 1, x2 => if u_size ≤ x2 then (k30) else ((fX7_signAt u_size u_signs x2).bind (fun z2 => if z2 = 59 then (some (x2 + 1)) else (fX7_nextClause_L2 k30 u_size u_signs n (x2 + 1))))
def fX7_nextClause (u_size : Int32) (u_signs : (Nat → Int32)) (x1 : Int32) : Option Int32 := fX7_nextClause_L2 (some u_size) u_size u_signs 400 x1
set_option maxRecDepth 20000 in
theorem LX7_nextClause_2 {p : Program} {l : Launch} {e : Env} {R : Room} {s : State} {m : MethodId} {args : Array Value} {below : List Frame} {meth : Method} {c : Code} {Q : State → Prop} {D : va_G} {C : Nat → ClassId} {A : Nat → Prop} (cx : CX p m c s args RX7 cX7_nextClause 3 D C A R 2) {q_ q_signs : Nat} {u_size : Int32} {u_signs : (Nat → Int32)} {z : Int32} (hret : RT p l e R s m args below meth c Q D A cX7_nextClause (some .int) [(q_, .inr (7, [.ref q_signs, .int u_size])), (q_signs, .inl (C 3, 100, .inl u_signs))] (some (.int z))) {k30 : Option Int32} (hk30 : ∀ (H : Heap) (locs : List Loc) (ls : Array Slot), k30 = some z → HW D A s.heap H locs [(q_, .inr (7, [.ref q_signs, .int u_size])), (q_signs, .inl (C 3, 100, .inl u_signs))] → lv_has ls 3 [(0, .ref q_)] → W p l e R s m args below meth c H locs 0 0 Q (F0 m 30 ls [])) :
    ∀ (n : Nat) (x2 : Int32) (H : Heap) (locs : List Loc) (ls : Array Slot), fX7_nextClause_L2 k30 u_size u_signs n x2 = some z → HW D A s.heap H locs [(q_, .inr (7, [.ref q_signs, .int u_size])), (q_signs, .inl (C 3, 100, .inl u_signs))] → lv_has ls 3 [(0, .ref q_), (2, .int x2)] → W p l e R s m args below meth c H locs 0 0 Q (F0 m 2 ls []) := by
  have hx := cx.1
  have hb := cx.2.1
  intro n
  induction n with
  | zero => intro x2 H locs ls hF; cases hF
  | succ n ih =>
    intro x2 H locs ls hF hw hl
    rw [fX7_nextClause_L2.eq_2] at hF
    refine lv_iload_n hx hb dX7_nextClause_2 rfl (lv_at hl 1 rfl) ?_
    refine lv_aload_n hx hb dX7_nextClause_3 rfl (lv_at hl 0 rfl) ?_
    refine r_get (ci := 7) (v := .int u_size) cx hw iX7 0 1 rfl rfl (by decide) wf_X7_15 rfl dX7_nextClause_4 ?_
    refine lv_icmp_ge (tgt := 30) hx hb dX7_nextClause_7 (by decide) (fun c1 => ?_) (fun c1 => ?_)
    · replace hF := oi_t c1 hF
      exact hk30 H locs ls hF hw (lv_sub hl [0] rfl)
    · replace hF := oi_f c1 hF
      refine lv_aload_n hx hb dX7_nextClause_10 rfl (lv_at hl 0 rfl) ?_
      refine lv_iload_n hx hb dX7_nextClause_11 rfl (lv_at hl 1 rfl) ?_
      obtain ⟨z2, hz2, hF⟩ := ob hF
      refine cV (wr := []) (w2 := [(q_, .inr (7, [.ref q_signs, .int u_size])), (q_signs, .inl (C 3, 100, .inl u_signs))]) (st2 := [.int z2]) cx (CX7_signAt l D C q_ q_signs u_size u_signs x2 z2 hz2) lk_X7_19 my_X7_signAt ml_X7_signAt ⟨by decide, by decide⟩ hw [0, 1] [] [0, 1] rfl rfl (by decide) rfl rfl rfl rfl (Nat.le_of_ble_eq_true rfl) dX7_nextClause_12 rfl (fun H locs hw => ?_) hl.1
      refine lv_bipush (v := 59) hx hb dX7_nextClause_15 (by decide) ?_
      refine lv_icmp_ne (tgt := 24) hx hb dX7_nextClause_17 (by decide) (fun c3 => ?_) (fun c3 => ?_)
      · replace hF := oi_f c3 hF
        refine lv_iinc (v := x2 + 1) (lv' := [(2, .int (x2 + 1)), (0, .ref q_)]) hx hb dX7_nextClause_24 hl (k := 1) rfl rfl (by decide) rfl (fun ls hl => ?_)
        refine lv_goto (tgt := 2) hx hb dX7_nextClause_27 (by decide) ?_
        exact ih (x2 + 1) H locs ls hF hw (lv_sub hl [1, 0] rfl)
      · replace hF := oi_t c3 hF
        refine lv_iload_n hx hb dX7_nextClause_20 rfl (lv_at hl 1 rfl) ?_
        refine lv_iconst (v := 1) hx hb dX7_nextClause_21 (by decide) ?_
        refine lv_iadd hx hb dX7_nextClause_22 ?_
        obtain rfl := Option.some.inj hF
        exact rt_i hret hw rfl dX7_nextClause_23
set_option maxRecDepth 20000 in
theorem CX7_nextClause (l : Launch) (D : va_G) (C : Nat → ClassId) (q_ q_signs : Nat) (u_size : Int32) (u_signs : (Nat → Int32)) (x1 : Int32) (z : Int32) (hF : fX7_nextClause u_size u_signs x1 = some z) : Ct l yX7_nextClause cX7_nextClause 3 (some .int) 2 D C [.ref q_, .int x1] [(q_, .inr (7, [.ref q_signs, .int u_size])), (q_signs, .inl (C 3, 100, .inl u_signs))] [(q_, .inr (7, [.ref q_signs, .int u_size])), (q_signs, .inl (C 3, 100, .inl u_signs))] (some (.int z)) := by
  refine Ct_of (by decide) (Nat.le_of_ble_eq_true rfl) ?_
  intro p e R s m args below meth c A Q H locs ls cx hw hl hret
  have cx : CX p m c s args RX7 cX7_nextClause 3 D C A R 2 := cx
  have hx := cx.1
  have hb := cx.2.1
  have hl : lv_has ls 3 [(0, .ref q_), (1, .int x1)] := hl
  rw [fX7_nextClause.eq_1] at hF
  refine lv_iload_n hx hb dX7_nextClause_0 rfl (lv_at hl 1 rfl) ?_
  refine lv_istore_n (lv' := [(2, .int x1), (0, .ref q_), (1, .int x1)]) hx hb dX7_nextClause_1 rfl hl (by decide) rfl (fun ls hl => ?_)
  refine LX7_nextClause_2 cx hret (fun H locs ls hF hw hl => ?_) 400 x1 H locs ls hF hw (lv_sub hl [1, 0] rfl)
  · refine lv_aload_n hx hb dX7_nextClause_30 rfl (lv_at hl 0 rfl) ?_
    refine r_get (ci := 7) (v := .int u_size) cx hw iX7 0 1 rfl rfl (by decide) wf_X7_15 rfl dX7_nextClause_31 ?_
    obtain rfl := Option.some.inj hF
    exact rt_i hret hw rfl dX7_nextClause_34
theorem dX7_digitsOf_0 : decode cX7_digitsOf 0 = .ok (.iload_n 0, 1) := by decide +kernel
theorem dX7_digitsOf_1 : decode cX7_digitsOf 1 = .ok (.lookupswitch 59 #[(99, 53), (110, 55), (111, 57), (112, 51), (121, 55)], 51) := by decide +kernel
theorem dX7_digitsOf_52 : decode cX7_digitsOf 52 = .ok (.iconst 0, 1) := by decide +kernel
theorem dX7_digitsOf_53 : decode cX7_digitsOf 53 = .ok (.ireturn, 1) := by decide +kernel
theorem dX7_digitsOf_54 : decode cX7_digitsOf 54 = .ok (.iconst 1, 1) := by decide +kernel
theorem dX7_digitsOf_55 : decode cX7_digitsOf 55 = .ok (.ireturn, 1) := by decide +kernel
theorem dX7_digitsOf_56 : decode cX7_digitsOf 56 = .ok (.iconst 2, 1) := by decide +kernel
theorem dX7_digitsOf_57 : decode cX7_digitsOf 57 = .ok (.ireturn, 1) := by decide +kernel
theorem dX7_digitsOf_58 : decode cX7_digitsOf 58 = .ok (.iconst 3, 1) := by decide +kernel
theorem dX7_digitsOf_59 : decode cX7_digitsOf 59 = .ok (.ireturn, 1) := by decide +kernel
theorem dX7_digitsOf_60 : decode cX7_digitsOf 60 = .ok (.iconst (-1), 1) := by decide +kernel
theorem dX7_digitsOf_61 : decode cX7_digitsOf 61 = .ok (.ireturn, 1) := by decide +kernel
def fX7_digitsOf (x0 : Int32) : Option Int32 := if x0 = 99 then (some 1) else (if x0 = 110 then (some 2) else (if x0 = 111 then (some 3) else (if x0 = 112 then (some 0) else (if x0 = 121 then (some 2) else (some (-1))))))
set_option maxRecDepth 20000 in
theorem CX7_digitsOf (l : Launch) (D : va_G) (C : Nat → ClassId)  (x0 : Int32) (z : Int32) (hF : fX7_digitsOf x0 = some z) : Ct l yX7_digitsOf cX7_digitsOf 1 (some .int) 1 D C [.int x0] [] [] (some (.int z)) := by
  refine Ct_of (by decide) (Nat.le_of_ble_eq_true rfl) ?_
  intro p e R s m args below meth c A Q H locs ls cx hw hl hret
  have cx : CX p m c s args RX7 cX7_digitsOf 1 D C A R 1 := cx
  have hx := cx.1
  have hb := cx.2.1
  have hl : lv_has ls 1 [(0, .int x0)] := hl
  rw [fX7_digitsOf.eq_1] at hF
  refine lv_iload_n hx hb dX7_digitsOf_0 rfl (lv_at hl 0 rfl) ?_
  by_cases c1 : x0 = 99
  · replace hF := oi_t c1 hF
    refine lv_lookup (tgt := 54) (off := 53) hx hb dX7_digitsOf_1 (by decide) (by rw [c1]; decide +kernel) (by decide) ?_
    refine lv_iconst (v := 1) hx hb dX7_digitsOf_54 (by decide) ?_
    obtain rfl := Option.some.inj hF
    exact rt_i hret hw rfl dX7_digitsOf_55
  replace hF := oi_f c1 hF
  by_cases c2 : x0 = 110
  · replace hF := oi_t c2 hF
    refine lv_lookup (tgt := 56) (off := 55) hx hb dX7_digitsOf_1 (by decide) (by rw [c2]; decide +kernel) (by decide) ?_
    refine lv_iconst (v := 2) hx hb dX7_digitsOf_56 (by decide) ?_
    obtain rfl := Option.some.inj hF
    exact rt_i hret hw rfl dX7_digitsOf_57
  replace hF := oi_f c2 hF
  by_cases c3 : x0 = 111
  · replace hF := oi_t c3 hF
    refine lv_lookup (tgt := 58) (off := 57) hx hb dX7_digitsOf_1 (by decide) (by rw [c3]; decide +kernel) (by decide) ?_
    refine lv_iconst (v := 3) hx hb dX7_digitsOf_58 (by decide) ?_
    obtain rfl := Option.some.inj hF
    exact rt_i hret hw rfl dX7_digitsOf_59
  replace hF := oi_f c3 hF
  by_cases c4 : x0 = 112
  · replace hF := oi_t c4 hF
    refine lv_lookup (tgt := 52) (off := 51) hx hb dX7_digitsOf_1 (by decide) (by rw [c4]; decide +kernel) (by decide) ?_
    refine lv_iconst (v := 0) hx hb dX7_digitsOf_52 (by decide) ?_
    obtain rfl := Option.some.inj hF
    exact rt_i hret hw rfl dX7_digitsOf_53
  replace hF := oi_f c4 hF
  by_cases c5 : x0 = 121
  · replace hF := oi_t c5 hF
    refine lv_lookup (tgt := 56) (off := 55) hx hb dX7_digitsOf_1 (by decide) (by rw [c5]; decide +kernel) (by decide) ?_
    refine lv_iconst (v := 2) hx hb dX7_digitsOf_56 (by decide) ?_
    obtain rfl := Option.some.inj hF
    exact rt_i hret hw rfl dX7_digitsOf_57
  replace hF := oi_f c5 hF
  have t1 := ti_ne (n := 99) (by decide) c1
  have t2 := ti_ne (n := 110) (by decide) c2
  have t3 := ti_ne (n := 111) (by decide) c3
  have t4 := ti_ne (n := 112) (by decide) c4
  have t5 := ti_ne (n := 121) (by decide) c5
  refine lv_lookup (tgt := 60) (off := 59) hx hb dX7_digitsOf_1 (by decide) (by simp only [Op.lookupswitch.offset]; repeat (first | rfl | rw [if_neg (fun h => by omega)])) (by decide) ?_
  refine lv_iconst (v := (-1)) hx hb dX7_digitsOf_60 (by decide) ?_
  obtain rfl := Option.some.inj hF
  exact rt_i hret hw rfl dX7_digitsOf_61
theorem lk_X7_30 : Cond.methodLink RX7 30 yX7_digitsOf ∈ gdt := gdt_of 381 (by decide +kernel) (by decide +kernel)
theorem my_X7_digitsOf : (yX7_digitsOf.cls ≠ "java/lang/invoke/MethodHandle" ∧ yX7_digitsOf.cls ≠ "java/lang/invoke/VarHandle") ∧ Cond.static yX7_digitsOf ∈ gdt ∧ Cond.initialized yX7_digitsOf.cls ∈ gdt ∧ Cond.code yX7_digitsOf cX7_digitsOf 1 (some .int) ∈ gdt := ⟨⟨by decide +kernel, by decide +kernel⟩, gdt_of 382 (by decide +kernel) (by decide +kernel), gdt_of 75 (by decide +kernel) (by decide +kernel), gdt_of 383 (by decide +kernel) (by decide +kernel)⟩
theorem ml_X7_digitsOf : (parseMethodDescriptor yX7_digitsOf.desc).map (fun d => d.parameters.length) = some 1 := by decide +kernel
theorem dX7_fault_0 : decode cX7_fault 0 = .ok (.iconst 0, 1) := by decide +kernel
theorem dX7_fault_1 : decode cX7_fault 1 = .ok (.istore_n 1, 1) := by decide +kernel
theorem dX7_fault_2 : decode cX7_fault 2 = .ok (.iconst 0, 1) := by decide +kernel
theorem dX7_fault_3 : decode cX7_fault 3 = .ok (.istore_n 2, 1) := by decide +kernel
theorem dX7_fault_4 : decode cX7_fault 4 = .ok (.iload_n 2, 1) := by decide +kernel
theorem dX7_fault_5 : decode cX7_fault 5 = .ok (.bipush 12, 2) := by decide +kernel
theorem dX7_fault_7 : decode cX7_fault 7 = .ok (.if_icmp .ge 103, 3) := by decide +kernel
theorem dX7_fault_10 : decode cX7_fault 10 = .ok (.aload_n 0, 1) := by decide +kernel
theorem dX7_fault_11 : decode cX7_fault 11 = .ok (.iload_n 1, 1) := by decide +kernel
theorem dX7_fault_12 : decode cX7_fault 12 = .ok (.invokevirtual 19, 3) := by decide +kernel
theorem dX7_fault_15 : decode cX7_fault 15 = .ok (.istore_n 3, 1) := by decide +kernel
theorem dX7_fault_16 : decode cX7_fault 16 = .ok (.iload_n 3, 1) := by decide +kernel
theorem dX7_fault_17 : decode cX7_fault 17 = .ok (.invokestatic 30, 3) := by decide +kernel
theorem dX7_fault_20 : decode cX7_fault 20 = .ok (.istore 4, 2) := by decide +kernel
theorem dX7_fault_22 : decode cX7_fault 22 = .ok (.iload 4, 2) := by decide +kernel
theorem dX7_fault_24 : decode cX7_fault 24 = .ok (.ifCond .ge 5, 3) := by decide +kernel
theorem dX7_fault_27 : decode cX7_fault 27 = .ok (.iload_n 1, 1) := by decide +kernel
theorem dX7_fault_28 : decode cX7_fault 28 = .ok (.ireturn, 1) := by decide +kernel
theorem dX7_fault_29 : decode cX7_fault 29 = .ok (.iinc 1 1, 3) := by decide +kernel
theorem dX7_fault_32 : decode cX7_fault 32 = .ok (.iconst 0, 1) := by decide +kernel
theorem dX7_fault_33 : decode cX7_fault 33 = .ok (.istore 5, 2) := by decide +kernel
theorem dX7_fault_35 : decode cX7_fault 35 = .ok (.iload 5, 2) := by decide +kernel
theorem dX7_fault_37 : decode cX7_fault 37 = .ok (.iload 4, 2) := by decide +kernel
theorem dX7_fault_39 : decode cX7_fault 39 = .ok (.if_icmp .ge 22, 3) := by decide +kernel
theorem dX7_fault_42 : decode cX7_fault 42 = .ok (.aload_n 0, 1) := by decide +kernel
theorem dX7_fault_43 : decode cX7_fault 43 = .ok (.iload_n 1, 1) := by decide +kernel
theorem dX7_fault_44 : decode cX7_fault 44 = .ok (.invokevirtual 23, 3) := by decide +kernel
theorem dX7_fault_47 : decode cX7_fault 47 = .ok (.ifCond .ne 5, 3) := by decide +kernel
theorem dX7_fault_50 : decode cX7_fault 50 = .ok (.iload_n 1, 1) := by decide +kernel
theorem dX7_fault_51 : decode cX7_fault 51 = .ok (.ireturn, 1) := by decide +kernel
theorem dX7_fault_52 : decode cX7_fault 52 = .ok (.iinc 1 1, 3) := by decide +kernel
theorem dX7_fault_55 : decode cX7_fault 55 = .ok (.iinc 5 1, 3) := by decide +kernel
theorem dX7_fault_58 : decode cX7_fault 58 = .ok (.goto (-23), 3) := by decide +kernel
theorem dX7_fault_61 : decode cX7_fault 61 = .ok (.iload_n 3, 1) := by decide +kernel
theorem dX7_fault_62 : decode cX7_fault 62 = .ok (.bipush 111, 2) := by decide +kernel
theorem dX7_fault_64 : decode cX7_fault 64 = .ok (.if_icmp .ne 14, 3) := by decide +kernel
theorem dX7_fault_67 : decode cX7_fault 67 = .ok (.aload_n 0, 1) := by decide +kernel
theorem dX7_fault_68 : decode cX7_fault 68 = .ok (.iload_n 1, 1) := by decide +kernel
theorem dX7_fault_69 : decode cX7_fault 69 = .ok (.invokevirtual 23, 3) := by decide +kernel
theorem dX7_fault_72 : decode cX7_fault 72 = .ok (.ifCond .eq 6, 3) := by decide +kernel
theorem dX7_fault_75 : decode cX7_fault 75 = .ok (.iinc 1 1, 3) := by decide +kernel
theorem dX7_fault_78 : decode cX7_fault 78 = .ok (.iload_n 1, 1) := by decide +kernel
theorem dX7_fault_79 : decode cX7_fault 79 = .ok (.aload_n 0, 1) := by decide +kernel
theorem dX7_fault_80 : decode cX7_fault 80 = .ok (.getfield 15, 3) := by decide +kernel
theorem dX7_fault_83 : decode cX7_fault 83 = .ok (.if_icmp .ne 6, 3) := by decide +kernel
theorem dX7_fault_86 : decode cX7_fault 86 = .ok (.bipush (-5), 2) := by decide +kernel
theorem dX7_fault_88 : decode cX7_fault 88 = .ok (.ireturn, 1) := by decide +kernel
theorem dX7_fault_89 : decode cX7_fault 89 = .ok (.aload_n 0, 1) := by decide +kernel
theorem dX7_fault_90 : decode cX7_fault 90 = .ok (.iload_n 1, 1) := by decide +kernel
theorem dX7_fault_91 : decode cX7_fault 91 = .ok (.invokevirtual 19, 3) := by decide +kernel
theorem dX7_fault_94 : decode cX7_fault 94 = .ok (.bipush 59, 2) := by decide +kernel
theorem dX7_fault_96 : decode cX7_fault 96 = .ok (.if_icmp .eq 5, 3) := by decide +kernel
theorem dX7_fault_99 : decode cX7_fault 99 = .ok (.iload_n 1, 1) := by decide +kernel
theorem dX7_fault_100 : decode cX7_fault 100 = .ok (.ireturn, 1) := by decide +kernel
theorem dX7_fault_101 : decode cX7_fault 101 = .ok (.iinc 1 1, 3) := by decide +kernel
theorem dX7_fault_104 : decode cX7_fault 104 = .ok (.iinc 2 1, 3) := by decide +kernel
theorem dX7_fault_107 : decode cX7_fault 107 = .ok (.goto (-103), 3) := by decide +kernel
theorem dX7_fault_110 : decode cX7_fault 110 = .ok (.iload_n 1, 1) := by decide +kernel
theorem dX7_fault_111 : decode cX7_fault 111 = .ok (.iconst 1, 1) := by decide +kernel
theorem dX7_fault_112 : decode cX7_fault 112 = .ok (.isub, 1) := by decide +kernel
theorem dX7_fault_113 : decode cX7_fault 113 = .ok (.ireturn, 1) := by decide +kernel
def fX7_fault_L35 (k61 : Int32 → Option Int32) (u_size : Int32) (u_signs : (Nat → Int32)) (x4 : Int32) : Nat → Int32 → Int32 → Option Int32
  | 0, _, _ => none
  | n + 1, x1, x5 => if x4 ≤ x5 then (k61 x1) else ((fX7_isDigit u_size u_signs x1).bind (fun z6 => if z6 = 0 then (some x1) else (fX7_fault_L35 k61 u_size u_signs x4 n (x1 + 1) (x5 + 1))))
def fX7_fault_L4 (u_size : Int32) (u_signs : (Nat → Int32)) : Nat → Int32 → Int32 → Option Int32
  | 0, _, _ => none
  | n + 1, x1, x2 => if 12 ≤ x2 then (some (x1 - 1)) else ((fX7_signAt u_size u_signs x1).bind (fun z2 => (fX7_digitsOf z2).bind (fun z3 => if 0 ≤ z3 then (fX7_fault_L35 (fun (x1_8 : Int32) => jn (fun (x1_j78 : Int32) => if x1_j78 = u_size then (some (-5)) else ((fX7_signAt u_size u_signs x1_j78).bind (fun z10 => if z10 = 59 then (fX7_fault_L4 u_size u_signs n (x1_j78 + 1) (x2 + 1)) else (some x1_j78)))) (fun j78 => if z2 = 111 then ((fX7_isDigit u_size u_signs x1_8).bind (fun z13 => if z13 = 0 then (j78 x1_8) else (j78 (x1_8 + 1)))) else (j78 x1_8))) u_size u_signs z3 400 (x1 + 1) 0) else (some x1))))
def fX7_fault (u_size : Int32) (u_signs : (Nat → Int32)) : Option Int32 := fX7_fault_L4 u_size u_signs 400 0 0
set_option maxRecDepth 20000 in
theorem LX7_fault_35 {p : Program} {l : Launch} {e : Env} {R : Room} {s : State} {m : MethodId} {args : Array Value} {below : List Frame} {meth : Method} {c : Code} {Q : State → Prop} {D : va_G} {C : Nat → ClassId} {A : Nat → Prop} (cx : CX p m c s args RX7 cX7_fault 6 D C A R 3) {q_ q_signs : Nat} {u_size : Int32} {u_signs : (Nat → Int32)} {x2 : Int32} {x3 : Int32} {x4 : Int32} {z : Int32} (hret : RT p l e R s m args below meth c Q D A cX7_fault (some .int) [(q_, .inr (7, [.ref q_signs, .int u_size])), (q_signs, .inl (C 3, 100, .inl u_signs))] (some (.int z))) {k61 : Int32 → Option Int32} (hk61 : ∀ (x1 : Int32) (H : Heap) (locs : List Loc) (ls : Array Slot), k61 x1 = some z → HW D A s.heap H locs [(q_, .inr (7, [.ref q_signs, .int u_size])), (q_signs, .inl (C 3, 100, .inl u_signs))] → lv_has ls 6 [(0, .ref q_), (1, .int x1), (2, .int x2), (3, .int x3)] → W p l e R s m args below meth c H locs 0 0 Q (F0 m 61 ls [])) :
    ∀ (n : Nat) (x1 : Int32) (x5 : Int32) (H : Heap) (locs : List Loc) (ls : Array Slot), fX7_fault_L35 k61 u_size u_signs x4 n x1 x5 = some z → HW D A s.heap H locs [(q_, .inr (7, [.ref q_signs, .int u_size])), (q_signs, .inl (C 3, 100, .inl u_signs))] → lv_has ls 6 [(0, .ref q_), (1, .int x1), (2, .int x2), (3, .int x3), (4, .int x4), (5, .int x5)] → W p l e R s m args below meth c H locs 0 0 Q (F0 m 35 ls []) := by
  have hx := cx.1
  have hb := cx.2.1
  intro n
  induction n with
  | zero => intro x1 x5 H locs ls hF; cases hF
  | succ n ih =>
    intro x1 x5 H locs ls hF hw hl
    rw [fX7_fault_L35.eq_2] at hF
    refine lv_iload hx hb dX7_fault_35 (lv_at hl 5 rfl) ?_
    refine lv_iload hx hb dX7_fault_37 (lv_at hl 4 rfl) ?_
    refine lv_icmp_ge (tgt := 61) hx hb dX7_fault_39 (by decide) (fun c5 => ?_) (fun c5 => ?_)
    · replace hF := oi_t c5 hF
      exact hk61 x1 H locs ls hF hw (lv_sub hl [0, 1, 2, 3] rfl)
    · replace hF := oi_f c5 hF
      refine lv_aload_n hx hb dX7_fault_42 rfl (lv_at hl 0 rfl) ?_
      refine lv_iload_n hx hb dX7_fault_43 rfl (lv_at hl 1 rfl) ?_
      obtain ⟨z6, hz6, hF⟩ := ob hF
      refine cV (wr := []) (w2 := [(q_, .inr (7, [.ref q_signs, .int u_size])), (q_signs, .inl (C 3, 100, .inl u_signs))]) (st2 := [.int z6]) cx (CX7_isDigit l D C q_ q_signs u_size u_signs x1 z6 hz6) lk_X7_23 my_X7_isDigit ml_X7_isDigit ⟨by decide, by decide⟩ hw [0, 1] [] [0, 1] rfl rfl (by decide) rfl rfl rfl rfl (Nat.le_of_ble_eq_true rfl) dX7_fault_44 rfl (fun H locs hw => ?_) hl.1
      refine lv_if_ne (tgt := 52) hx hb dX7_fault_47 (by decide) (fun c7 => ?_) (fun c7 => ?_)
      · replace hF := oi_f c7 hF
        refine lv_iinc (v := x1 + 1) (lv' := [(1, .int (x1 + 1)), (0, .ref q_), (2, .int x2), (3, .int x3), (4, .int x4), (5, .int x5)]) hx hb dX7_fault_52 hl (k := 1) rfl rfl (by decide) rfl (fun ls hl => ?_)
        refine lv_iinc (v := x5 + 1) (lv' := [(5, .int (x5 + 1)), (1, .int (x1 + 1)), (0, .ref q_), (2, .int x2), (3, .int x3), (4, .int x4)]) hx hb dX7_fault_55 hl (k := 5) rfl rfl (by decide) rfl (fun ls hl => ?_)
        refine lv_goto (tgt := 35) hx hb dX7_fault_58 (by decide) ?_
        exact ih (x1 + 1) (x5 + 1) H locs ls hF hw (lv_sub hl [2, 1, 3, 4, 5, 0] rfl)
      · replace hF := oi_t c7 hF
        refine lv_iload_n hx hb dX7_fault_50 rfl (lv_at hl 1 rfl) ?_
        obtain rfl := Option.some.inj hF
        exact rt_i hret hw rfl dX7_fault_51
set_option maxRecDepth 20000 in
theorem LX7_fault_4 {p : Program} {l : Launch} {e : Env} {R : Room} {s : State} {m : MethodId} {args : Array Value} {below : List Frame} {meth : Method} {c : Code} {Q : State → Prop} {D : va_G} {C : Nat → ClassId} {A : Nat → Prop} (cx : CX p m c s args RX7 cX7_fault 6 D C A R 3) {q_ q_signs : Nat} {u_size : Int32} {u_signs : (Nat → Int32)} {z : Int32} (hret : RT p l e R s m args below meth c Q D A cX7_fault (some .int) [(q_, .inr (7, [.ref q_signs, .int u_size])), (q_signs, .inl (C 3, 100, .inl u_signs))] (some (.int z))) :
    ∀ (n : Nat) (x1 : Int32) (x2 : Int32) (H : Heap) (locs : List Loc) (ls : Array Slot), fX7_fault_L4 u_size u_signs n x1 x2 = some z → HW D A s.heap H locs [(q_, .inr (7, [.ref q_signs, .int u_size])), (q_signs, .inl (C 3, 100, .inl u_signs))] → lv_has ls 6 [(0, .ref q_), (1, .int x1), (2, .int x2)] → W p l e R s m args below meth c H locs 0 0 Q (F0 m 4 ls []) := by
  have hx := cx.1
  have hb := cx.2.1
  intro n
  induction n with
  | zero => intro x1 x2 H locs ls hF; cases hF
  | succ n ih =>
    intro x1 x2 H locs ls hF hw hl
    rw [fX7_fault_L4.eq_2] at hF
    refine lv_iload_n hx hb dX7_fault_4 rfl (lv_at hl 2 rfl) ?_
    refine lv_bipush (v := 12) hx hb dX7_fault_5 (by decide) ?_
    refine lv_icmp_ge (tgt := 110) hx hb dX7_fault_7 (by decide) (fun c1 => ?_) (fun c1 => ?_)
    · replace hF := oi_t c1 hF
      refine lv_iload_n hx hb dX7_fault_110 rfl (lv_at hl 1 rfl) ?_
      refine lv_iconst (v := 1) hx hb dX7_fault_111 (by decide) ?_
      refine lv_isub hx hb dX7_fault_112 ?_
      obtain rfl := Option.some.inj hF
      exact rt_i hret hw rfl dX7_fault_113
    · replace hF := oi_f c1 hF
      refine lv_aload_n hx hb dX7_fault_10 rfl (lv_at hl 0 rfl) ?_
      refine lv_iload_n hx hb dX7_fault_11 rfl (lv_at hl 1 rfl) ?_
      obtain ⟨z2, hz2, hF⟩ := ob hF
      refine cV (wr := []) (w2 := [(q_, .inr (7, [.ref q_signs, .int u_size])), (q_signs, .inl (C 3, 100, .inl u_signs))]) (st2 := [.int z2]) cx (CX7_signAt l D C q_ q_signs u_size u_signs x1 z2 hz2) lk_X7_19 my_X7_signAt ml_X7_signAt ⟨by decide, by decide⟩ hw [0, 1] [] [0, 1] rfl rfl (by decide) rfl rfl rfl rfl (Nat.le_of_ble_eq_true rfl) dX7_fault_12 rfl (fun H locs hw => ?_) hl.1
      refine lv_istore_n (lv' := [(3, .int z2), (0, .ref q_), (1, .int x1), (2, .int x2)]) hx hb dX7_fault_15 rfl hl (by decide) rfl (fun ls hl => ?_)
      refine lv_iload_n hx hb dX7_fault_16 rfl (lv_at hl 0 rfl) ?_
      obtain ⟨z3, hz3, hF⟩ := ob hF
      refine cS (wr := [(q_, .inr (7, [.ref q_signs, .int u_size])), (q_signs, .inl (C 3, 100, .inl u_signs))]) (w2 := [(q_, .inr (7, [.ref q_signs, .int u_size])), (q_signs, .inl (C 3, 100, .inl u_signs))]) (st2 := [.int z3]) cx (CX7_digitsOf l D C z2 z3 hz3) lk_X7_30 my_X7_digitsOf ml_X7_digitsOf ⟨by decide, by decide⟩ hw [] [0, 1] [0, 1] rfl rfl (by decide) rfl rfl (Nat.le_of_ble_eq_true rfl) dX7_fault_17 rfl (fun H locs hw => ?_) hl.1
      refine lv_istore (lv' := [(4, .int z3), (3, .int z2), (0, .ref q_), (1, .int x1), (2, .int x2)]) hx hb dX7_fault_20 hl (by decide) rfl (fun ls hl => ?_)
      refine lv_iload hx hb dX7_fault_22 (lv_at hl 0 rfl) ?_
      refine lv_if_ge (tgt := 29) hx hb dX7_fault_24 (by decide) (fun c4 => ?_) (fun c4 => ?_)
      · replace hF := oi_t c4 hF
        refine lv_iinc (v := x1 + 1) (lv' := [(1, .int (x1 + 1)), (4, .int z3), (3, .int z2), (0, .ref q_), (2, .int x2)]) hx hb dX7_fault_29 hl (k := 3) rfl rfl (by decide) rfl (fun ls hl => ?_)
        refine lv_iconst (v := 0) hx hb dX7_fault_32 (by decide) ?_
        refine lv_istore (lv' := [(5, .int 0), (1, .int (x1 + 1)), (4, .int z3), (3, .int z2), (0, .ref q_), (2, .int x2)]) hx hb dX7_fault_33 hl (by decide) rfl (fun ls hl => ?_)
        refine LX7_fault_35 cx hret (fun x1_8 H locs ls hF hw hl => ?_) 400 (x1 + 1) 0 H locs ls hF hw (lv_sub hl [4, 1, 5, 3, 2, 0] rfl)
        · refine lv_iload_n hx hb dX7_fault_61 rfl (lv_at hl 3 rfl) ?_
          refine lv_bipush (v := 111) hx hb dX7_fault_62 (by decide) ?_
          obtain ⟨j78, ej78, hF⟩ := jn_s hF
          have J78 : ∀ (x1_j78 : Int32) (H : Heap) (locs : List Loc) (ls : Array Slot), j78 x1_j78 = some z → HW D A s.heap H locs [(q_, .inr (7, [.ref q_signs, .int u_size])), (q_signs, .inl (C 3, 100, .inl u_signs))] → lv_has ls 6 [(0, .ref q_), (1, .int x1_j78), (2, .int x2)] → W p l e R s m args below meth c H locs 0 0 Q (F0 m 78 ls []) := by
            intro x1_j78 H locs ls hF hw hl
            rw [ej78] at hF
            refine lv_iload_n hx hb dX7_fault_78 rfl (lv_at hl 1 rfl) ?_
            refine lv_aload_n hx hb dX7_fault_79 rfl (lv_at hl 0 rfl) ?_
            refine r_get (ci := 7) (v := .int u_size) cx hw iX7 0 1 rfl rfl (by decide) wf_X7_15 rfl dX7_fault_80 ?_
            refine lv_icmp_ne (tgt := 89) hx hb dX7_fault_83 (by decide) (fun c9 => ?_) (fun c9 => ?_)
            · replace hF := oi_f c9 hF
              refine lv_aload_n hx hb dX7_fault_89 rfl (lv_at hl 0 rfl) ?_
              refine lv_iload_n hx hb dX7_fault_90 rfl (lv_at hl 1 rfl) ?_
              obtain ⟨z10, hz10, hF⟩ := ob hF
              refine cV (wr := []) (w2 := [(q_, .inr (7, [.ref q_signs, .int u_size])), (q_signs, .inl (C 3, 100, .inl u_signs))]) (st2 := [.int z10]) cx (CX7_signAt l D C q_ q_signs u_size u_signs x1_j78 z10 hz10) lk_X7_19 my_X7_signAt ml_X7_signAt ⟨by decide, by decide⟩ hw [0, 1] [] [0, 1] rfl rfl (by decide) rfl rfl rfl rfl (Nat.le_of_ble_eq_true rfl) dX7_fault_91 rfl (fun H locs hw => ?_) hl.1
              refine lv_bipush (v := 59) hx hb dX7_fault_94 (by decide) ?_
              refine lv_icmp_eq (tgt := 101) hx hb dX7_fault_96 (by decide) (fun c11 => ?_) (fun c11 => ?_)
              · replace hF := oi_t c11 hF
                refine lv_iinc (v := x1_j78 + 1) (lv' := [(1, .int (x1_j78 + 1)), (0, .ref q_), (2, .int x2)]) hx hb dX7_fault_101 hl (k := 1) rfl rfl (by decide) rfl (fun ls hl => ?_)
                refine lv_iinc (v := x2 + 1) (lv' := [(2, .int (x2 + 1)), (1, .int (x1_j78 + 1)), (0, .ref q_)]) hx hb dX7_fault_104 hl (k := 2) rfl rfl (by decide) rfl (fun ls hl => ?_)
                refine lv_goto (tgt := 4) hx hb dX7_fault_107 (by decide) ?_
                exact ih (x1_j78 + 1) (x2 + 1) H locs ls hF hw (lv_sub hl [2, 1, 0] rfl)
              · replace hF := oi_f c11 hF
                refine lv_iload_n hx hb dX7_fault_99 rfl (lv_at hl 1 rfl) ?_
                obtain rfl := Option.some.inj hF
                exact rt_i hret hw rfl dX7_fault_100
            · replace hF := oi_t c9 hF
              refine lv_bipush (v := (-5)) hx hb dX7_fault_86 (by decide) ?_
              obtain rfl := Option.some.inj hF
              exact rt_i hret hw rfl dX7_fault_88
          refine lv_icmp_ne (tgt := 78) hx hb dX7_fault_64 (by decide) (fun c12 => ?_) (fun c12 => ?_)
          · replace hF := oi_f c12 hF
            exact J78 x1_8 H locs ls hF hw (lv_sub hl [0, 1, 2] rfl)
          · replace hF := oi_t c12 hF
            refine lv_aload_n hx hb dX7_fault_67 rfl (lv_at hl 0 rfl) ?_
            refine lv_iload_n hx hb dX7_fault_68 rfl (lv_at hl 1 rfl) ?_
            obtain ⟨z13, hz13, hF⟩ := ob hF
            refine cV (wr := []) (w2 := [(q_, .inr (7, [.ref q_signs, .int u_size])), (q_signs, .inl (C 3, 100, .inl u_signs))]) (st2 := [.int z13]) cx (CX7_isDigit l D C q_ q_signs u_size u_signs x1_8 z13 hz13) lk_X7_23 my_X7_isDigit ml_X7_isDigit ⟨by decide, by decide⟩ hw [0, 1] [] [0, 1] rfl rfl (by decide) rfl rfl rfl rfl (Nat.le_of_ble_eq_true rfl) dX7_fault_69 rfl (fun H locs hw => ?_) hl.1
            refine lv_if_eq (tgt := 78) hx hb dX7_fault_72 (by decide) (fun c14 => ?_) (fun c14 => ?_)
            · replace hF := oi_t c14 hF
              exact J78 x1_8 H locs ls hF hw (lv_sub hl [0, 1, 2] rfl)
            · replace hF := oi_f c14 hF
              refine lv_iinc (v := x1_8 + 1) (lv' := [(1, .int (x1_8 + 1)), (0, .ref q_), (2, .int x2), (3, .int z2)]) hx hb dX7_fault_75 hl (k := 1) rfl rfl (by decide) rfl (fun ls hl => ?_)
              exact J78 (x1_8 + 1) H locs ls hF hw (lv_sub hl [1, 0, 2] rfl)
      · replace hF := oi_f c4 hF
        refine lv_iload_n hx hb dX7_fault_27 rfl (lv_at hl 3 rfl) ?_
        obtain rfl := Option.some.inj hF
        exact rt_i hret hw rfl dX7_fault_28
set_option maxRecDepth 20000 in
theorem CX7_fault (l : Launch) (D : va_G) (C : Nat → ClassId) (q_ q_signs : Nat) (u_size : Int32) (u_signs : (Nat → Int32)) (z : Int32) (hF : fX7_fault u_size u_signs = some z) : Ct l yX7_fault cX7_fault 6 (some .int) 3 D C [.ref q_] [(q_, .inr (7, [.ref q_signs, .int u_size])), (q_signs, .inl (C 3, 100, .inl u_signs))] [(q_, .inr (7, [.ref q_signs, .int u_size])), (q_signs, .inl (C 3, 100, .inl u_signs))] (some (.int z)) := by
  refine Ct_of (by decide) (Nat.le_of_ble_eq_true rfl) ?_
  intro p e R s m args below meth c A Q H locs ls cx hw hl hret
  have cx : CX p m c s args RX7 cX7_fault 6 D C A R 3 := cx
  have hx := cx.1
  have hb := cx.2.1
  have hl : lv_has ls 6 [(0, .ref q_)] := hl
  rw [fX7_fault.eq_1] at hF
  refine lv_iconst (v := 0) hx hb dX7_fault_0 (by decide) ?_
  refine lv_istore_n (lv' := [(1, .int 0), (0, .ref q_)]) hx hb dX7_fault_1 rfl hl (by decide) rfl (fun ls hl => ?_)
  refine lv_iconst (v := 0) hx hb dX7_fault_2 (by decide) ?_
  refine lv_istore_n (lv' := [(2, .int 0), (1, .int 0), (0, .ref q_)]) hx hb dX7_fault_3 rfl hl (by decide) rfl (fun ls hl => ?_)
  refine LX7_fault_4 cx hret 400 0 0 H locs ls hF hw (lv_sub hl [2, 1, 0] rfl)
