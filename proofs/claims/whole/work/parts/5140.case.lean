set_option maxRecDepth 20000 in
set_option maxHeartbeats 1000000 in
theorem lc_balance {p : Program} {l : Launch} {e : Env} {s : State} {m : MethodId} {below : List Frame} {meth : Method} {c : Code} {D : va_G} {C : Nat → ClassId} {b L i : Nat} {xs : Nat → Int32} {ad : Nat → Nat} {tp : Nat → Option Nat} (C0 : lw_At p s m meth c b L xs) (cx : CX p m c s #[Value.ref b] RL cL_law 4 D C (fun q : Nat => s.heap.size ≤ q) room_1 83) (hi : i + 6 ≤ L) (hL : L ≤ 3072) (hTp : LTape ad tp)
    (hk : ∀ (w : va_W) (H : Heap) (locs : List Loc) (ls : Array Slot), LI C ad tp w → HW D (fun q : Nat => s.heap.size ≤ q) s.heap H locs w → lv_has ls 4 [(0, .ref b), (1, .ref (ad 0)), (2, .ref (ad 59)), (3, .int (nI i))] → W p l e room_1 s m #[Value.ref b] below meth c H locs 81 2747 (lw_Z below #[Value.ref b] s) (F0 m 1303 ls []))
    {w : va_W} {H : Heap} {locs : List Loc} {ls : Array Slot} (hI : LI C ad tp w) (hw : HW D (fun q : Nat => s.heap.size ≤ q) s.heap H locs w) (hl : lv_has ls 4 [(0, .ref b), (1, .ref (ad 0)), (2, .ref (ad 59)), (3, .int (nI i))]) : W p l e room_1 s m #[Value.ref b] below meth c H locs 81 2747 (lw_Z below #[Value.ref b] s) (F0 m 570 ls []) := by
  obtain ⟨vi, va, vl, vj, ti, f, hR, rfl, F⟩ := hI
  have h0 := lf_h0 F
  have h1 := lf_h1 F
  have h2 := lf_h2 F
  have h3 := lf_h3 F
  have h4 := lf_h4 F
  have h5 := lf_h5 F
  have h6 := lf_h6 F
  have h7 := lf_h7 F
  have h8 := lf_h8 F
  have h9 := lf_h9 F
  have h10 := lf_h10 F
  have h11 := lf_h11 F
  have h12 := lf_h12 F
  have h13 := lf_h13 F
  have h14 := lf_h14 F
  have h15 := lf_h15 F
  have h16 := lf_h16 F
  have h17 := lf_h17 F
  have h18 := lf_h18 F
  have h19 := lf_h19 F
  have h20 := lf_h20 F
  have h21 := lf_h21 F
  have h22 := lf_h22 F
  have h23 := lf_h23 F
  have h24 := lf_h24 F
  have h25 := lf_h25 F
  have h26 := lf_h26 F
  have h27 := lf_h27 F
  have h28 := lf_h28 F
  have h29 := lf_h29 F
  have h30 := lf_h30 F
  have h31 := lf_h31 F
  have h32 := lf_h32 F
  have h33 := lf_h33 F
  have h34 := lf_h34 F
  have h35 := lf_h35 F
  have h36 := lf_h36 F
  have h37 := lf_h37 F
  have h38 := lf_h38 F
  have h39 := lf_h39 F
  have h40 := lf_h40 F
  have h41 := lf_h41 F
  have h42 := lf_h42 F
  have h43 := lf_h43 F
  have h44 := lf_h44 F
  have h45 := lf_h45 F
  have h46 := lf_h46 F
  have hT := lf_hT F
  have h59 := lf_h59 F
  have h60 := lf_h60 F
  have h61 := lf_h61 F
  have h62 := lf_h62 F
  have h63 := lf_h63 F
  have h64 := lf_h64 F
  have h65 := lf_h65 F
  have h66 := lf_h66 F
  have h67 := lf_h67 F
  have h68 := lf_h68 F
  have h69 := lf_h69 F
  have h70 := lf_h70 F
  have h71 := lf_h71 F
  have h72 := lf_h72 F
  have h73 := lf_h73 F
  have h74 := lf_h74 F
  have h75 := lf_h75 F
  have h76 := lf_h76 F
  have h77 := lf_h77 F
  have h78 := lf_h78 F
  have h79 := lf_h79 F
  have h80 := lf_h80 F
  have hx := cx.1
  have hb := cx.2.1
  obtain ⟨-, -, -, -, -, -, hX, hbl, -, -⟩ := id C0
  have hbA : ¬ (fun q : Nat => s.heap.size ≤ q) b := Nat.not_le.mpr hbl
  refine lv_aload_n hx hb dL_law_570 rfl (lv_at hl 1 rfl) ?_
  refine lv_aload_n hx hb dL_law_571 rfl (lv_at hl 0 rfl) ?_
  refine lv_iload_n hx hb dL_law_572 rfl (lv_at hl 3 rfl) ?_
  refine lv_iconst (v := 1) hx hb dL_law_573 (by decide) ?_
  refine lv_iadd hx hb dL_law_574 ?_
  refine va_sld hx hb hX hbl hbA hw.2.2 (lw_vin 1 1 rfl (by omega) hL) dL_law_575 ?_
  refine lv_topi (fun a1 ea1 => ?_)
  obtain ⟨zc, zm, hzc, hzm, he, hR2⟩ := p_balance a1 hR
  refine cVL2 [.long zc.1] cx (CX8_balance l D C (ad 0) (ad 1) (ad 15) (ad 29) (ad 32) (ad 36) (ad 44) (ad 46) (ad 2) (ad 5) (ad 7) (ad 9) (ad 11) (ad 13) (ad 3) (ad 4) (ad 37) (ad 38) (ad 39) (ad 40) (ad 41) (ad 42) (vi 0) (vi 1) (vi 2) (va 0) (vi 18) (va 19) (va 20) a1 zc hzc) lk_L_66 my_X8_balance ml_X8_balance ⟨by decide, by decide⟩ hw [0, 1, 2, 3, 36, 37, 38] (ce h0 (ce h1 (ce h2 (ce h3 (ce h36 (ce h37 (ce h38 rfl))))))) (by decide +kernel) rfl rfl rfl rfl (Nat.le_of_ble_eq_true rfl) dL_law_576 rfl (fun H locs hw => ?_) hl.1 ⟨Nat.le_of_ble_eq_true rfl, Nat.le_of_ble_eq_true rfl⟩
  refine lv_aload_n hx hb dL_law_579 rfl (lv_at hl 2 rfl) ?_
  refine lv_aload_n hx hb dL_law_580 rfl (lv_at hl 0 rfl) ?_
  refine lv_iload_n hx hb dL_law_581 rfl (lv_at hl 3 rfl) ?_
  refine lv_iconst (v := 1) hx hb dL_law_582 (by decide) ?_
  refine lv_iadd hx hb dL_law_583 ?_
  refine va_sld hx hb hX hbl hbA hw.2.2 (lw_vin 1 1 rfl (by omega) hL) dL_law_584 ?_
  refine lv_topi (fun y ey => ?_)
  obtain rfl : a1 = y := ea1.trans ey.symm
  refine cVL2 [.long zm.1, .long zc.1] cx (CX9_balance l D C (ad 59) (ad 60) (ad 61) (ad 62) (ad 63) (ad 64) (ad 65) (ad 66) (ad 67) (ad 68) (ad 69) (ad 70) (ad 71) (ad 72) (ad 73) (ad 74) (ad 75) (ad 76) (ad 77) (ad 78) (ad 79) (ad 80) (vi 21) (vi 22) (vi 23) (vi 24) (vi 25) (vi 26) (vi 27) (vi 28) (vi 29) (vi 30) (vi 31) vl (vi 32) (vi 33) (vi 34) (va 26) (va 36) a1 zm hzm) lk_L_70 my_X9_balance ml_X9_balance ⟨by decide, by decide⟩ hw [59, 60, 70] (ce h59 (ce h60 (ce h70 rfl))) (by decide +kernel) rfl rfl rfl rfl (Nat.le_of_ble_eq_true rfl) dL_law_585 rfl (fun H locs hw => ?_) hl.1 ⟨Nat.le_of_ble_eq_true rfl, Nat.le_of_ble_eq_true rfl⟩
  refine W.lcmp hx hb dL_law_588 ?_
  refine lv_if_eq (tgt := 1303) hx hb dL_law_589 (by decide) (fun _ => ?_) (fun c9 => absurd (lw_cmp he) c9)
  refine (fun q9 => hk _ H locs ls q9 hw hl) ?_
  exact ⟨vi, (ups (ups (ups va 19 zc.2.1) 20 zc.2.2) 36 zm.2), vl, vj, ti, _, hR2, rfl, rfl, rfl, rfl, rfl, h4, h5, h6, h7, h8, h9, h10, h11, h12, h13, h14, h15, h16, h17, h18, h19, h20, h21, h22, h23, h24, h25, h26, h27, h28, h29, h30, h31, h32, h33, h34, h35, rfl, rfl, rfl, h39, h40, h41, h42, h43, h44, h45, h46, fun k hk => ⟨(tput rfl rfl (by omega)).trans (hT k hk).1, (tput rfl rfl (by omega)).trans (hT k hk).2⟩, rfl, rfl, h61, h62, h63, h64, h65, h66, h67, h68, h69, rfl, h71, h72, h73, h74, h75, h76, h77, h78, h79, h80⟩
set_option maxRecDepth 20000 in
set_option maxHeartbeats 1000000 in
theorem lc_group {p : Program} {l : Launch} {e : Env} {s : State} {m : MethodId} {below : List Frame} {meth : Method} {c : Code} {D : va_G} {C : Nat → ClassId} {b L i : Nat} {xs : Nat → Int32} {ad : Nat → Nat} {tp : Nat → Option Nat} (C0 : lw_At p s m meth c b L xs) (cx : CX p m c s #[Value.ref b] RL cL_law 4 D C (fun q : Nat => s.heap.size ≤ q) room_1 83) (hi : i + 6 ≤ L) (hL : L ≤ 3072) (hTp : LTape ad tp)
    (hk : ∀ (w : va_W) (H : Heap) (locs : List Loc) (ls : Array Slot), LI C ad tp w → HW D (fun q : Nat => s.heap.size ≤ q) s.heap H locs w → lv_has ls 4 [(0, .ref b), (1, .ref (ad 0)), (2, .ref (ad 59)), (3, .int (nI i))] → W p l e room_1 s m #[Value.ref b] below meth c H locs 81 2747 (lw_Z below #[Value.ref b] s) (F0 m 1303 ls []))
    {w : va_W} {H : Heap} {locs : List Loc} {ls : Array Slot} (hI : LI C ad tp w) (hw : HW D (fun q : Nat => s.heap.size ≤ q) s.heap H locs w) (hl : lv_has ls 4 [(0, .ref b), (1, .ref (ad 0)), (2, .ref (ad 59)), (3, .int (nI i))]) : W p l e room_1 s m #[Value.ref b] below meth c H locs 81 2747 (lw_Z below #[Value.ref b] s) (F0 m 594 ls []) := by
  obtain ⟨vi, va, vl, vj, ti, f, hR, rfl, F⟩ := hI
  have h0 := lf_h0 F
  have h1 := lf_h1 F
  have h2 := lf_h2 F
  have h3 := lf_h3 F
  have h4 := lf_h4 F
  have h5 := lf_h5 F
  have h6 := lf_h6 F
  have h7 := lf_h7 F
  have h8 := lf_h8 F
  have h9 := lf_h9 F
  have h10 := lf_h10 F
  have h11 := lf_h11 F
  have h12 := lf_h12 F
  have h13 := lf_h13 F
  have h14 := lf_h14 F
  have h15 := lf_h15 F
  have h16 := lf_h16 F
  have h17 := lf_h17 F
  have h18 := lf_h18 F
  have h19 := lf_h19 F
  have h20 := lf_h20 F
  have h21 := lf_h21 F
  have h22 := lf_h22 F
  have h23 := lf_h23 F
  have h24 := lf_h24 F
  have h25 := lf_h25 F
  have h26 := lf_h26 F
  have h27 := lf_h27 F
  have h28 := lf_h28 F
  have h29 := lf_h29 F
  have h30 := lf_h30 F
  have h31 := lf_h31 F
  have h32 := lf_h32 F
  have h33 := lf_h33 F
  have h34 := lf_h34 F
  have h35 := lf_h35 F
  have h36 := lf_h36 F
  have h37 := lf_h37 F
  have h38 := lf_h38 F
  have h39 := lf_h39 F
  have h40 := lf_h40 F
  have h41 := lf_h41 F
  have h42 := lf_h42 F
  have h43 := lf_h43 F
  have h44 := lf_h44 F
  have h45 := lf_h45 F
  have h46 := lf_h46 F
  have hT := lf_hT F
  have h59 := lf_h59 F
  have h60 := lf_h60 F
  have h61 := lf_h61 F
  have h62 := lf_h62 F
  have h63 := lf_h63 F
  have h64 := lf_h64 F
  have h65 := lf_h65 F
  have h66 := lf_h66 F
  have h67 := lf_h67 F
  have h68 := lf_h68 F
  have h69 := lf_h69 F
  have h70 := lf_h70 F
  have h71 := lf_h71 F
  have h72 := lf_h72 F
  have h73 := lf_h73 F
  have h74 := lf_h74 F
  have h75 := lf_h75 F
  have h76 := lf_h76 F
  have h77 := lf_h77 F
  have h78 := lf_h78 F
  have h79 := lf_h79 F
  have h80 := lf_h80 F
  have hx := cx.1
  have hb := cx.2.1
  obtain ⟨-, -, -, -, -, -, hX, hbl, -, -⟩ := id C0
  have hbA : ¬ (fun q : Nat => s.heap.size ≤ q) b := Nat.not_le.mpr hbl
  refine lv_aload_n hx hb dL_law_594 rfl (lv_at hl 1 rfl) ?_
  refine lv_aload_n hx hb dL_law_595 rfl (lv_at hl 0 rfl) ?_
  refine lv_iload_n hx hb dL_law_596 rfl (lv_at hl 3 rfl) ?_
  refine lv_iconst (v := 1) hx hb dL_law_597 (by decide) ?_
  refine lv_iadd hx hb dL_law_598 ?_
  refine va_sld hx hb hX hbl hbA hw.2.2 (lw_vin 1 1 rfl (by omega) hL) dL_law_599 ?_
  refine lv_topi (fun a1 ea1 => ?_)
  obtain ⟨zc, zm, hzc, hzm, he, hR2⟩ := p_group a1 hR
  refine cVL2 [.int zc.1] cx (CX8_group l D C (ad 0) (ad 1) (ad 15) (ad 29) (ad 32) (ad 36) (ad 44) (ad 46) (ad 2) (ad 5) (ad 7) (ad 9) (ad 11) (ad 13) (ad 3) (ad 4) (ad 37) (ad 38) (ad 39) (ad 40) (ad 41) (ad 42) (ad 43) 18 (vi 0) (vi 1) (vi 2) (va 0) (vi 18) (va 19) (va 20) (va 21) (va 22) (va 23) 6 (vi 19) (va 24) a1 zc hzc) lk_L_71 my_X8_group ml_X8_group ⟨by decide, by decide⟩ hw [0, 1, 2, 3, 36, 37, 38, 39, 40, 41, 42, 43] (ce h0 (ce h1 (ce h2 (ce h3 (ce h36 (ce h37 (ce h38 (ce h39 (ce h40 (ce h41 (ce h42 (ce h43 rfl)))))))))))) (by decide +kernel) rfl rfl rfl rfl (Nat.le_of_ble_eq_true rfl) dL_law_600 rfl (fun H locs hw => ?_) hl.1 ⟨Nat.le_of_ble_eq_true rfl, Nat.le_of_ble_eq_true rfl⟩
  refine lv_aload_n hx hb dL_law_603 rfl (lv_at hl 2 rfl) ?_
  refine lv_aload_n hx hb dL_law_604 rfl (lv_at hl 0 rfl) ?_
  refine lv_iload_n hx hb dL_law_605 rfl (lv_at hl 3 rfl) ?_
  refine lv_iconst (v := 1) hx hb dL_law_606 (by decide) ?_
  refine lv_iadd hx hb dL_law_607 ?_
  refine va_sld hx hb hX hbl hbA hw.2.2 (lw_vin 1 1 rfl (by omega) hL) dL_law_608 ?_
  refine lv_topi (fun y ey => ?_)
  obtain rfl : a1 = y := ea1.trans ey.symm
  refine cVL2 [.int zm.1, .int zc.1] cx (CX9_group l D C (ad 59) (ad 60) (ad 61) (ad 62) (ad 63) (ad 64) (ad 65) (ad 66) (ad 67) (ad 68) (ad 69) (ad 70) (ad 71) (ad 72) (ad 73) (ad 74) (ad 75) (ad 76) (ad 77) (ad 78) (ad 79) (ad 80) (vi 21) (vi 22) (vi 23) (vi 24) (vi 25) (vi 26) (vi 27) (vi 28) (vi 29) (vi 30) (vi 31) vl (vi 32) (vi 33) (vi 34) (va 26) (va 36) (va 38) (va 39) (va 40) a1 zm hzm) lk_L_74 my_X9_group ml_X9_group ⟨by decide, by decide⟩ hw [59, 60, 70, 72, 73, 74] (ce h59 (ce h60 (ce h70 (ce h72 (ce h73 (ce h74 rfl)))))) (by decide +kernel) rfl rfl rfl rfl (Nat.le_of_ble_eq_true rfl) dL_law_609 rfl (fun H locs hw => ?_) hl.1 ⟨Nat.le_of_ble_eq_true rfl, Nat.le_of_ble_eq_true rfl⟩
  refine lv_icmp_eq (tgt := 1303) hx hb dL_law_612 (by decide) (fun _ => ?_) (fun c9 => absurd he c9)
  refine (fun q9 => hk _ H locs ls q9 hw hl) ?_
  exact ⟨(ups (ups (ups vi 18 zc.2.1) 19 zc.2.2.2.2.2.2.2.1) 32 zm.2.1), (ups (ups (ups (ups (ups (ups (ups (ups (ups (ups va 19 zc.2.2.1) 20 zc.2.2.2.1) 21 zc.2.2.2.2.1) 22 zc.2.2.2.2.2.1) 23 zc.2.2.2.2.2.2.1) 24 zc.2.2.2.2.2.2.2.2) 36 zm.2.2.1) 38 zm.2.2.2.1) 39 zm.2.2.2.2.1) 40 zm.2.2.2.2.2), vl, vj, ti, _, hR2, rfl, rfl, rfl, rfl, rfl, h4, h5, h6, h7, h8, h9, h10, h11, h12, h13, h14, h15, h16, h17, h18, h19, h20, h21, h22, h23, h24, h25, h26, h27, h28, h29, h30, h31, h32, h33, h34, h35, rfl, rfl, rfl, rfl, rfl, rfl, rfl, rfl, h44, h45, h46, fun k hk => ⟨(tput rfl rfl (by omega)).trans (hT k hk).1, (tput rfl rfl (by omega)).trans (hT k hk).2⟩, rfl, rfl, h61, h62, h63, h64, h65, h66, h67, h68, h69, rfl, h71, rfl, rfl, rfl, h75, h76, h77, h78, h79, h80⟩
set_option maxRecDepth 20000 in
set_option maxHeartbeats 1000000 in
theorem lc_payment {p : Program} {l : Launch} {e : Env} {s : State} {m : MethodId} {below : List Frame} {meth : Method} {c : Code} {D : va_G} {C : Nat → ClassId} {b L i : Nat} {xs : Nat → Int32} {ad : Nat → Nat} {tp : Nat → Option Nat} (C0 : lw_At p s m meth c b L xs) (cx : CX p m c s #[Value.ref b] RL cL_law 4 D C (fun q : Nat => s.heap.size ≤ q) room_1 83) (hi : i + 6 ≤ L) (hL : L ≤ 3072) (hTp : LTape ad tp)
    (hk : ∀ (w : va_W) (H : Heap) (locs : List Loc) (ls : Array Slot), LI C ad tp w → HW D (fun q : Nat => s.heap.size ≤ q) s.heap H locs w → lv_has ls 4 [(0, .ref b), (1, .ref (ad 0)), (2, .ref (ad 59)), (3, .int (nI i))] → W p l e room_1 s m #[Value.ref b] below meth c H locs 81 2747 (lw_Z below #[Value.ref b] s) (F0 m 1303 ls []))
    {w : va_W} {H : Heap} {locs : List Loc} {ls : Array Slot} (hI : LI C ad tp w) (hw : HW D (fun q : Nat => s.heap.size ≤ q) s.heap H locs w) (hl : lv_has ls 4 [(0, .ref b), (1, .ref (ad 0)), (2, .ref (ad 59)), (3, .int (nI i))]) : W p l e room_1 s m #[Value.ref b] below meth c H locs 81 2747 (lw_Z below #[Value.ref b] s) (F0 m 617 ls []) := by
  obtain ⟨vi, va, vl, vj, ti, f, hR, rfl, F⟩ := hI
  have h0 := lf_h0 F
  have h1 := lf_h1 F
  have h2 := lf_h2 F
  have h3 := lf_h3 F
  have h4 := lf_h4 F
  have h5 := lf_h5 F
  have h6 := lf_h6 F
  have h7 := lf_h7 F
  have h8 := lf_h8 F
  have h9 := lf_h9 F
  have h10 := lf_h10 F
  have h11 := lf_h11 F
  have h12 := lf_h12 F
  have h13 := lf_h13 F
  have h14 := lf_h14 F
  have h15 := lf_h15 F
  have h16 := lf_h16 F
  have h17 := lf_h17 F
  have h18 := lf_h18 F
  have h19 := lf_h19 F
  have h20 := lf_h20 F
  have h21 := lf_h21 F
  have h22 := lf_h22 F
  have h23 := lf_h23 F
  have h24 := lf_h24 F
  have h25 := lf_h25 F
  have h26 := lf_h26 F
  have h27 := lf_h27 F
  have h28 := lf_h28 F
  have h29 := lf_h29 F
  have h30 := lf_h30 F
  have h31 := lf_h31 F
  have h32 := lf_h32 F
  have h33 := lf_h33 F
  have h34 := lf_h34 F
  have h35 := lf_h35 F
  have h36 := lf_h36 F
  have h37 := lf_h37 F
  have h38 := lf_h38 F
  have h39 := lf_h39 F
  have h40 := lf_h40 F
  have h41 := lf_h41 F
  have h42 := lf_h42 F
  have h43 := lf_h43 F
  have h44 := lf_h44 F
  have h45 := lf_h45 F
  have h46 := lf_h46 F
  have hT := lf_hT F
  have h59 := lf_h59 F
  have h60 := lf_h60 F
  have h61 := lf_h61 F
  have h62 := lf_h62 F
  have h63 := lf_h63 F
  have h64 := lf_h64 F
  have h65 := lf_h65 F
  have h66 := lf_h66 F
  have h67 := lf_h67 F
  have h68 := lf_h68 F
  have h69 := lf_h69 F
  have h70 := lf_h70 F
  have h71 := lf_h71 F
  have h72 := lf_h72 F
  have h73 := lf_h73 F
  have h74 := lf_h74 F
  have h75 := lf_h75 F
  have h76 := lf_h76 F
  have h77 := lf_h77 F
  have h78 := lf_h78 F
  have h79 := lf_h79 F
  have h80 := lf_h80 F
  have hx := cx.1
  have hb := cx.2.1
  obtain ⟨-, -, -, -, -, -, hX, hbl, -, -⟩ := id C0
  have hbA : ¬ (fun q : Nat => s.heap.size ≤ q) b := Nat.not_le.mpr hbl
  refine lv_aload_n hx hb dL_law_617 rfl (lv_at hl 1 rfl) ?_
  refine lv_aload_n hx hb dL_law_618 rfl (lv_at hl 0 rfl) ?_
  refine lv_iload_n hx hb dL_law_619 rfl (lv_at hl 3 rfl) ?_
  refine lv_iconst (v := 1) hx hb dL_law_620 (by decide) ?_
  refine lv_iadd hx hb dL_law_621 ?_
  refine va_sld hx hb hX hbl hbA hw.2.2 (lw_vin 1 1 rfl (by omega) hL) dL_law_622 ?_
  refine lv_topi (fun a1 ea1 => ?_)
  refine lv_aload_n hx hb dL_law_623 rfl (lv_at hl 0 rfl) ?_
  refine lv_iload_n hx hb dL_law_624 rfl (lv_at hl 3 rfl) ?_
  refine lv_iconst (v := 2) hx hb dL_law_625 (by decide) ?_
  refine lv_iadd hx hb dL_law_626 ?_
  refine va_sld hx hb hX hbl hbA hw.2.2 (lw_vin 2 2 rfl (by omega) hL) dL_law_627 ?_
  refine lv_topi (fun a2 ea2 => ?_)
  obtain ⟨zc, zm, hzc, hzm, he, hR2⟩ := p_payment a1 a2 hR
  refine cVL2 [.int zc.1] cx (CX8_payment l D C (ad 0) (ad 1) (ad 15) (ad 29) (ad 32) (ad 36) (ad 44) (ad 46) (ad 2) (ad 5) (ad 7) (ad 9) (ad 11) (ad 13) (ad 3) (ad 4) (ad 37) (ad 38) (ad 39) (ad 40) (ad 41) (ad 42) (ad 43) 18 (vi 0) (vi 1) (vi 2) (va 0) (vi 18) (va 19) (va 20) (va 21) (va 22) (va 23) 6 (vi 19) (va 24) a1 a2 zc hzc) lk_L_75 my_X8_payment ml_X8_payment ⟨by decide, by decide⟩ hw [0, 1, 2, 3, 36, 37, 38, 39, 40, 41, 42, 43] (ce h0 (ce h1 (ce h2 (ce h3 (ce h36 (ce h37 (ce h38 (ce h39 (ce h40 (ce h41 (ce h42 (ce h43 rfl)))))))))))) (by decide +kernel) rfl rfl rfl rfl (Nat.le_of_ble_eq_true rfl) dL_law_628 rfl (fun H locs hw => ?_) hl.1 ⟨Nat.le_of_ble_eq_true rfl, Nat.le_of_ble_eq_true rfl⟩
  refine lv_aload_n hx hb dL_law_631 rfl (lv_at hl 2 rfl) ?_
  refine lv_aload_n hx hb dL_law_632 rfl (lv_at hl 0 rfl) ?_
  refine lv_iload_n hx hb dL_law_633 rfl (lv_at hl 3 rfl) ?_
  refine lv_iconst (v := 1) hx hb dL_law_634 (by decide) ?_
  refine lv_iadd hx hb dL_law_635 ?_
  refine va_sld hx hb hX hbl hbA hw.2.2 (lw_vin 1 1 rfl (by omega) hL) dL_law_636 ?_
  refine lv_topi (fun y ey => ?_)
  obtain rfl : a1 = y := ea1.trans ey.symm
  refine lv_aload_n hx hb dL_law_637 rfl (lv_at hl 0 rfl) ?_
  refine lv_iload_n hx hb dL_law_638 rfl (lv_at hl 3 rfl) ?_
  refine lv_iconst (v := 2) hx hb dL_law_639 (by decide) ?_
  refine lv_iadd hx hb dL_law_640 ?_
  refine va_sld hx hb hX hbl hbA hw.2.2 (lw_vin 2 2 rfl (by omega) hL) dL_law_641 ?_
  refine lv_topi (fun y ey => ?_)
  obtain rfl : a2 = y := ea2.trans ey.symm
  refine cVL2 [.int zm.1, .int zc.1] cx (CX9_payment l D C (ad 59) (ad 60) (ad 61) (ad 62) (ad 63) (ad 64) (ad 65) (ad 66) (ad 67) (ad 68) (ad 69) (ad 70) (ad 71) (ad 72) (ad 73) (ad 74) (ad 75) (ad 76) (ad 77) (ad 78) (ad 79) (ad 80) (vi 21) (vi 22) (vi 23) (vi 24) (vi 25) (vi 26) (vi 27) (vi 28) (vi 29) (vi 30) (vi 31) vl (vi 32) (vi 33) (vi 34) (va 26) (va 36) (va 37) (va 38) (va 39) (va 40) (va 41) a1 a2 zm hzm) lk_L_78 my_X9_payment ml_X9_payment ⟨by decide, by decide⟩ hw [59, 60, 70, 71, 72, 73, 74, 75] (ce h59 (ce h60 (ce h70 (ce h71 (ce h72 (ce h73 (ce h74 (ce h75 rfl)))))))) (by decide +kernel) rfl rfl rfl rfl (Nat.le_of_ble_eq_true rfl) dL_law_642 rfl (fun H locs hw => ?_) hl.1 ⟨Nat.le_of_ble_eq_true rfl, Nat.le_of_ble_eq_true rfl⟩
  refine lv_icmp_eq (tgt := 1303) hx hb dL_law_645 (by decide) (fun _ => ?_) (fun c9 => absurd he c9)
  refine (fun q9 => hk _ H locs ls q9 hw hl) ?_
  exact ⟨(ups (ups (ups (ups vi 18 zc.2.1) 19 zc.2.2.2.2.2.2.2.1) 32 zm.2.1) 33 zm.2.2.1), (ups (ups (ups (ups (ups (ups (ups (ups (ups (ups (ups (ups va 19 zc.2.2.1) 20 zc.2.2.2.1) 21 zc.2.2.2.2.1) 22 zc.2.2.2.2.2.1) 23 zc.2.2.2.2.2.2.1) 24 zc.2.2.2.2.2.2.2.2) 36 zm.2.2.2.1) 37 zm.2.2.2.2.1) 38 zm.2.2.2.2.2.1) 39 zm.2.2.2.2.2.2.1) 40 zm.2.2.2.2.2.2.2.1) 41 zm.2.2.2.2.2.2.2.2), vl, vj, ti, _, hR2, rfl, rfl, rfl, rfl, rfl, h4, h5, h6, h7, h8, h9, h10, h11, h12, h13, h14, h15, h16, h17, h18, h19, h20, h21, h22, h23, h24, h25, h26, h27, h28, h29, h30, h31, h32, h33, h34, h35, rfl, rfl, rfl, rfl, rfl, rfl, rfl, rfl, h44, h45, h46, fun k hk => ⟨(tput rfl rfl (by omega)).trans (hT k hk).1, (tput rfl rfl (by omega)).trans (hT k hk).2⟩, rfl, rfl, h61, h62, h63, h64, h65, h66, h67, h68, h69, rfl, rfl, rfl, rfl, rfl, rfl, h76, h77, h78, h79, h80⟩
set_option maxRecDepth 20000 in
set_option maxHeartbeats 1000000 in
theorem lc_willing {p : Program} {l : Launch} {e : Env} {s : State} {m : MethodId} {below : List Frame} {meth : Method} {c : Code} {D : va_G} {C : Nat → ClassId} {b L i : Nat} {xs : Nat → Int32} {ad : Nat → Nat} {tp : Nat → Option Nat} (C0 : lw_At p s m meth c b L xs) (cx : CX p m c s #[Value.ref b] RL cL_law 4 D C (fun q : Nat => s.heap.size ≤ q) room_1 83) (hi : i + 6 ≤ L) (hL : L ≤ 3072) (hTp : LTape ad tp)
    (hk : ∀ (w : va_W) (H : Heap) (locs : List Loc) (ls : Array Slot), LI C ad tp w → HW D (fun q : Nat => s.heap.size ≤ q) s.heap H locs w → lv_has ls 4 [(0, .ref b), (1, .ref (ad 0)), (2, .ref (ad 59)), (3, .int (nI i))] → W p l e room_1 s m #[Value.ref b] below meth c H locs 81 2747 (lw_Z below #[Value.ref b] s) (F0 m 1303 ls []))
    {w : va_W} {H : Heap} {locs : List Loc} {ls : Array Slot} (hI : LI C ad tp w) (hw : HW D (fun q : Nat => s.heap.size ≤ q) s.heap H locs w) (hl : lv_has ls 4 [(0, .ref b), (1, .ref (ad 0)), (2, .ref (ad 59)), (3, .int (nI i))]) : W p l e room_1 s m #[Value.ref b] below meth c H locs 81 2747 (lw_Z below #[Value.ref b] s) (F0 m 650 ls []) := by
  obtain ⟨vi, va, vl, vj, ti, f, hR, rfl, F⟩ := hI
  have h0 := lf_h0 F
  have h1 := lf_h1 F
  have h2 := lf_h2 F
  have h3 := lf_h3 F
  have h4 := lf_h4 F
  have h5 := lf_h5 F
  have h6 := lf_h6 F
  have h7 := lf_h7 F
  have h8 := lf_h8 F
  have h9 := lf_h9 F
  have h10 := lf_h10 F
  have h11 := lf_h11 F
  have h12 := lf_h12 F
  have h13 := lf_h13 F
  have h14 := lf_h14 F
  have h15 := lf_h15 F
  have h16 := lf_h16 F
  have h17 := lf_h17 F
  have h18 := lf_h18 F
  have h19 := lf_h19 F
  have h20 := lf_h20 F
  have h21 := lf_h21 F
  have h22 := lf_h22 F
  have h23 := lf_h23 F
  have h24 := lf_h24 F
  have h25 := lf_h25 F
  have h26 := lf_h26 F
  have h27 := lf_h27 F
  have h28 := lf_h28 F
  have h29 := lf_h29 F
  have h30 := lf_h30 F
  have h31 := lf_h31 F
  have h32 := lf_h32 F
  have h33 := lf_h33 F
  have h34 := lf_h34 F
  have h35 := lf_h35 F
  have h36 := lf_h36 F
  have h37 := lf_h37 F
  have h38 := lf_h38 F
  have h39 := lf_h39 F
  have h40 := lf_h40 F
  have h41 := lf_h41 F
  have h42 := lf_h42 F
  have h43 := lf_h43 F
  have h44 := lf_h44 F
  have h45 := lf_h45 F
  have h46 := lf_h46 F
  have hT := lf_hT F
  have h59 := lf_h59 F
  have h60 := lf_h60 F
  have h61 := lf_h61 F
  have h62 := lf_h62 F
  have h63 := lf_h63 F
  have h64 := lf_h64 F
  have h65 := lf_h65 F
  have h66 := lf_h66 F
  have h67 := lf_h67 F
  have h68 := lf_h68 F
  have h69 := lf_h69 F
  have h70 := lf_h70 F
  have h71 := lf_h71 F
  have h72 := lf_h72 F
  have h73 := lf_h73 F
  have h74 := lf_h74 F
  have h75 := lf_h75 F
  have h76 := lf_h76 F
  have h77 := lf_h77 F
  have h78 := lf_h78 F
  have h79 := lf_h79 F
  have h80 := lf_h80 F
  have hx := cx.1
  have hb := cx.2.1
  obtain ⟨-, -, -, -, -, -, hX, hbl, -, -⟩ := id C0
  have hbA : ¬ (fun q : Nat => s.heap.size ≤ q) b := Nat.not_le.mpr hbl
  refine lv_aload_n hx hb dL_law_650 rfl (lv_at hl 1 rfl) ?_
  refine lv_aload_n hx hb dL_law_651 rfl (lv_at hl 0 rfl) ?_
  refine lv_iload_n hx hb dL_law_652 rfl (lv_at hl 3 rfl) ?_
  refine lv_iconst (v := 1) hx hb dL_law_653 (by decide) ?_
  refine lv_iadd hx hb dL_law_654 ?_
  refine va_sld hx hb hX hbl hbA hw.2.2 (lw_vin 1 1 rfl (by omega) hL) dL_law_655 ?_
  refine lv_topi (fun a1 ea1 => ?_)
  refine lv_aload_n hx hb dL_law_656 rfl (lv_at hl 0 rfl) ?_
  refine lv_iload_n hx hb dL_law_657 rfl (lv_at hl 3 rfl) ?_
  refine lv_iconst (v := 2) hx hb dL_law_658 (by decide) ?_
  refine lv_iadd hx hb dL_law_659 ?_
  refine va_sld hx hb hX hbl hbA hw.2.2 (lw_vin 2 2 rfl (by omega) hL) dL_law_660 ?_
  refine lv_topi (fun a2 ea2 => ?_)
  obtain ⟨zc, zm, hzc, hzm, he, hR2⟩ := p_willing a1 a2 hR
  refine cVL2 [.int zc.1] cx (CX8_willing l D C (ad 0) (ad 1) (ad 15) (ad 29) (ad 32) (ad 36) (ad 44) (ad 46) (ad 2) (ad 5) (ad 7) (ad 9) (ad 11) (ad 13) (ad 3) (ad 4) (ad 6) (ad 37) (ad 38) (ad 39) (ad 40) (ad 41) (ad 42) (ad 43) 18 (vi 0) (vi 1) (vi 2) (va 0) (va 2) (vi 18) (va 19) (va 20) 6 (vi 19) (va 24) a1 a2 zc hzc) lk_L_79 my_X8_willing ml_X8_willing ⟨by decide, by decide⟩ hw [0, 1, 2, 3, 5, 6, 36, 37, 38, 42, 43] (ce h0 (ce h1 (ce h2 (ce h3 (ce h5 (ce h6 (ce h36 (ce h37 (ce h38 (ce h42 (ce h43 rfl))))))))))) (by decide +kernel) rfl rfl rfl rfl (Nat.le_of_ble_eq_true rfl) dL_law_661 rfl (fun H locs hw => ?_) hl.1 ⟨Nat.le_of_ble_eq_true rfl, Nat.le_of_ble_eq_true rfl⟩
  refine lv_aload_n hx hb dL_law_664 rfl (lv_at hl 2 rfl) ?_
  refine lv_aload_n hx hb dL_law_665 rfl (lv_at hl 0 rfl) ?_
  refine lv_iload_n hx hb dL_law_666 rfl (lv_at hl 3 rfl) ?_
  refine lv_iconst (v := 1) hx hb dL_law_667 (by decide) ?_
  refine lv_iadd hx hb dL_law_668 ?_
  refine va_sld hx hb hX hbl hbA hw.2.2 (lw_vin 1 1 rfl (by omega) hL) dL_law_669 ?_
  refine lv_topi (fun y ey => ?_)
  obtain rfl : a1 = y := ea1.trans ey.symm
  refine lv_aload_n hx hb dL_law_670 rfl (lv_at hl 0 rfl) ?_
  refine lv_iload_n hx hb dL_law_671 rfl (lv_at hl 3 rfl) ?_
  refine lv_iconst (v := 2) hx hb dL_law_672 (by decide) ?_
  refine lv_iadd hx hb dL_law_673 ?_
  refine va_sld hx hb hX hbl hbA hw.2.2 (lw_vin 2 2 rfl (by omega) hL) dL_law_674 ?_
  refine lv_topi (fun y ey => ?_)
  obtain rfl : a2 = y := ea2.trans ey.symm
  refine cVL2 [.int zm.1, .int zc.1] cx (CX9_willing_ l D C (ad 59) (ad 60) (ad 61) (ad 62) (ad 63) (ad 64) (ad 65) (ad 66) (ad 67) (ad 68) (ad 69) (ad 70) (ad 71) (ad 72) (ad 73) (ad 74) (ad 75) (ad 76) (ad 77) (ad 78) (ad 79) (ad 80) (vi 21) (vi 22) (vi 23) (vi 24) (vi 25) (vi 26) (vi 27) (vi 28) (vi 29) (vi 30) (vi 31) vl (vi 32) (vi 33) (vi 34) (va 26) (va 27) (va 36) (va 37) (va 41) a1 a2 zm hzm) lk_L_82 my_X9_willing_ ml_X9_willing_ ⟨by decide, by decide⟩ hw [59, 60, 61, 70, 71, 75] (ce h59 (ce h60 (ce h61 (ce h70 (ce h71 (ce h75 rfl)))))) (by decide +kernel) rfl rfl rfl rfl (Nat.le_of_ble_eq_true rfl) dL_law_675 rfl (fun H locs hw => ?_) hl.1 ⟨Nat.le_of_ble_eq_true rfl, Nat.le_of_ble_eq_true rfl⟩
  refine lv_icmp_eq (tgt := 1303) hx hb dL_law_678 (by decide) (fun _ => ?_) (fun c9 => absurd he c9)
  refine (fun q9 => hk _ H locs ls q9 hw hl) ?_
  exact ⟨(ups (ups vi 19 zc.2.2.2.1) 33 zm.2.1), (ups (ups (ups (ups (ups (ups va 19 zc.2.1) 20 zc.2.2.1) 24 zc.2.2.2.2) 36 zm.2.2.1) 37 zm.2.2.2.1) 41 zm.2.2.2.2), vl, vj, ti, _, hR2, rfl, rfl, rfl, rfl, rfl, h4, rfl, rfl, h7, h8, h9, h10, h11, h12, h13, h14, h15, h16, h17, h18, h19, h20, h21, h22, h23, h24, h25, h26, h27, h28, h29, h30, h31, h32, h33, h34, h35, rfl, rfl, rfl, h39, h40, h41, rfl, rfl, h44, h45, h46, fun k hk => ⟨(tput rfl rfl (by omega)).trans (hT k hk).1, (tput rfl rfl (by omega)).trans (hT k hk).2⟩, rfl, rfl, rfl, h62, h63, h64, h65, h66, h67, h68, h69, rfl, rfl, h72, h73, h74, rfl, h76, h77, h78, h79, h80⟩
set_option maxRecDepth 20000 in
set_option maxHeartbeats 1000000 in
theorem lc_settle {p : Program} {l : Launch} {e : Env} {s : State} {m : MethodId} {below : List Frame} {meth : Method} {c : Code} {D : va_G} {C : Nat → ClassId} {b L i : Nat} {xs : Nat → Int32} {ad : Nat → Nat} {tp : Nat → Option Nat} (C0 : lw_At p s m meth c b L xs) (cx : CX p m c s #[Value.ref b] RL cL_law 4 D C (fun q : Nat => s.heap.size ≤ q) room_1 83) (hi : i + 6 ≤ L) (hL : L ≤ 3072) (hTp : LTape ad tp)
    (hk : ∀ (w : va_W) (H : Heap) (locs : List Loc) (ls : Array Slot), LI C ad tp w → HW D (fun q : Nat => s.heap.size ≤ q) s.heap H locs w → lv_has ls 4 [(0, .ref b), (1, .ref (ad 0)), (2, .ref (ad 59)), (3, .int (nI i))] → W p l e room_1 s m #[Value.ref b] below meth c H locs 81 2747 (lw_Z below #[Value.ref b] s) (F0 m 1303 ls []))
    {w : va_W} {H : Heap} {locs : List Loc} {ls : Array Slot} (hI : LI C ad tp w) (hw : HW D (fun q : Nat => s.heap.size ≤ q) s.heap H locs w) (hl : lv_has ls 4 [(0, .ref b), (1, .ref (ad 0)), (2, .ref (ad 59)), (3, .int (nI i))]) : W p l e room_1 s m #[Value.ref b] below meth c H locs 81 2747 (lw_Z below #[Value.ref b] s) (F0 m 683 ls []) := by
  obtain ⟨vi, va, vl, vj, ti, f, hR, rfl, F⟩ := hI
  have h0 := lf_h0 F
  have h1 := lf_h1 F
  have h2 := lf_h2 F
  have h3 := lf_h3 F
  have h4 := lf_h4 F
  have h5 := lf_h5 F
  have h6 := lf_h6 F
  have h7 := lf_h7 F
  have h8 := lf_h8 F
  have h9 := lf_h9 F
  have h10 := lf_h10 F
  have h11 := lf_h11 F
  have h12 := lf_h12 F
  have h13 := lf_h13 F
  have h14 := lf_h14 F
  have h15 := lf_h15 F
  have h16 := lf_h16 F
  have h17 := lf_h17 F
  have h18 := lf_h18 F
  have h19 := lf_h19 F
  have h20 := lf_h20 F
  have h21 := lf_h21 F
  have h22 := lf_h22 F
  have h23 := lf_h23 F
  have h24 := lf_h24 F
  have h25 := lf_h25 F
  have h26 := lf_h26 F
  have h27 := lf_h27 F
  have h28 := lf_h28 F
  have h29 := lf_h29 F
  have h30 := lf_h30 F
  have h31 := lf_h31 F
  have h32 := lf_h32 F
  have h33 := lf_h33 F
  have h34 := lf_h34 F
  have h35 := lf_h35 F
  have h36 := lf_h36 F
  have h37 := lf_h37 F
  have h38 := lf_h38 F
  have h39 := lf_h39 F
  have h40 := lf_h40 F
  have h41 := lf_h41 F
  have h42 := lf_h42 F
  have h43 := lf_h43 F
  have h44 := lf_h44 F
  have h45 := lf_h45 F
  have h46 := lf_h46 F
  have hT := lf_hT F
  have h59 := lf_h59 F
  have h60 := lf_h60 F
  have h61 := lf_h61 F
  have h62 := lf_h62 F
  have h63 := lf_h63 F
  have h64 := lf_h64 F
  have h65 := lf_h65 F
  have h66 := lf_h66 F
  have h67 := lf_h67 F
  have h68 := lf_h68 F
  have h69 := lf_h69 F
  have h70 := lf_h70 F
  have h71 := lf_h71 F
  have h72 := lf_h72 F
  have h73 := lf_h73 F
  have h74 := lf_h74 F
  have h75 := lf_h75 F
  have h76 := lf_h76 F
  have h77 := lf_h77 F
  have h78 := lf_h78 F
  have h79 := lf_h79 F
  have h80 := lf_h80 F
  have hx := cx.1
  have hb := cx.2.1
  obtain ⟨-, -, -, -, -, -, hX, hbl, -, -⟩ := id C0
  have hbA : ¬ (fun q : Nat => s.heap.size ≤ q) b := Nat.not_le.mpr hbl
  refine lv_aload_n hx hb dL_law_683 rfl (lv_at hl 1 rfl) ?_
  obtain ⟨zc, zm, hzc, hzm, he, hR2⟩ := p_settle hR
  refine cVL2 [.int zc.1] cx (CX8_settle l D C (ad 0) (ad 1) (ad 15) (ad 29) (ad 32) (ad 36) (ad 44) (ad 46) (ad 2) (ad 5) (ad 7) (ad 9) (ad 11) (ad 13) (ad 3) (ad 4) (ad 37) (ad 38) (ad 39) (ad 40) (ad 41) (ad 42) (ad 43) 18 (vi 0) (vi 1) (vi 2) (va 0) (va 1) (vi 18) (va 19) (va 20) (va 21) (va 22) (va 23) 6 (vi 19) (va 24) zc hzc) lk_L_83 my_X8_settle ml_X8_settle ⟨by decide, by decide⟩ hw [0, 1, 2, 3, 4, 36, 37, 38, 39, 40, 41, 42, 43] (ce h0 (ce h1 (ce h2 (ce h3 (ce h4 (ce h36 (ce h37 (ce h38 (ce h39 (ce h40 (ce h41 (ce h42 (ce h43 rfl))))))))))))) (by decide +kernel) rfl rfl rfl rfl (Nat.le_of_ble_eq_true rfl) dL_law_684 rfl (fun H locs hw => ?_) hl.1 ⟨Nat.le_of_ble_eq_true rfl, Nat.le_of_ble_eq_true rfl⟩
  refine lv_aload_n hx hb dL_law_687 rfl (lv_at hl 2 rfl) ?_
  refine cVL2 [.int zm.1, .int zc.1] cx (CX9_settle l D C (ad 59) (ad 60) (ad 61) (ad 62) (ad 63) (ad 64) (ad 65) (ad 66) (ad 67) (ad 68) (ad 69) (ad 70) (ad 71) (ad 72) (ad 73) (ad 74) (ad 75) (ad 76) (ad 77) (ad 78) (ad 79) (ad 80) (vi 21) (vi 22) (vi 23) (vi 24) (vi 25) (vi 26) (vi 27) (vi 28) (vi 29) (vi 30) (vi 31) vl (vi 32) (vi 33) (vi 34) (va 26) (va 28) (va 36) (va 37) (va 38) (va 39) (va 40) (va 41) zm hzm) lk_L_86 my_X9_settle ml_X9_settle ⟨by decide, by decide⟩ hw [59, 60, 62, 70, 71, 72, 73, 74, 75] (ce h59 (ce h60 (ce h62 (ce h70 (ce h71 (ce h72 (ce h73 (ce h74 (ce h75 rfl))))))))) (by decide +kernel) rfl rfl rfl rfl (Nat.le_of_ble_eq_true rfl) dL_law_688 rfl (fun H locs hw => ?_) hl.1 ⟨Nat.le_of_ble_eq_true rfl, Nat.le_of_ble_eq_true rfl⟩
  refine lv_icmp_eq (tgt := 1303) hx hb dL_law_691 (by decide) (fun _ => ?_) (fun c9 => absurd he c9)
  refine (fun q9 => hk _ H locs ls q9 hw hl) ?_
  exact ⟨(ups (ups (ups (ups (ups (ups vi 2 zc.2.1) 18 zc.2.2.2.2.1) 19 zc.2.2.2.2.2.2.2.2.2.2.1) 22 zm.2.1) 32 zm.2.2.1) 33 zm.2.2.2.1), (ups (ups (ups (ups (ups (ups (ups (ups (ups (ups (ups (ups (ups (ups (ups (ups va 0 zc.2.2.1) 1 zc.2.2.2.1) 19 zc.2.2.2.2.2.1) 20 zc.2.2.2.2.2.2.1) 21 zc.2.2.2.2.2.2.2.1) 22 zc.2.2.2.2.2.2.2.2.1) 23 zc.2.2.2.2.2.2.2.2.2.1) 24 zc.2.2.2.2.2.2.2.2.2.2.2) 26 zm.2.2.2.2.1) 28 zm.2.2.2.2.2.1) 36 zm.2.2.2.2.2.2.1) 37 zm.2.2.2.2.2.2.2.1) 38 zm.2.2.2.2.2.2.2.2.1) 39 zm.2.2.2.2.2.2.2.2.2.1) 40 zm.2.2.2.2.2.2.2.2.2.2.1) 41 zm.2.2.2.2.2.2.2.2.2.2.2), vl, vj, ti, _, hR2, rfl, rfl, rfl, rfl, rfl, rfl, h5, h6, h7, h8, h9, h10, h11, h12, h13, h14, h15, h16, h17, h18, h19, h20, h21, h22, h23, h24, h25, h26, h27, h28, h29, h30, h31, h32, h33, h34, h35, rfl, rfl, rfl, rfl, rfl, rfl, rfl, rfl, h44, h45, h46, fun k hk => ⟨(tput rfl rfl (by omega)).trans (hT k hk).1, (tput rfl rfl (by omega)).trans (hT k hk).2⟩, rfl, rfl, h61, rfl, h63, h64, h65, h66, h67, h68, h69, rfl, rfl, rfl, rfl, rfl, rfl, h76, h77, h78, h79, h80⟩
