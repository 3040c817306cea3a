set_option maxRecDepth 20000 in
set_option maxHeartbeats 1000000 in
theorem lc_feed {p : Program} {l : Launch} {e : Env} {s : State} {m : MethodId} {below : List Frame} {meth : Method} {c : Code} {D : va_G} {C : Nat → ClassId} {b L i : Nat} {xs : Nat → Int32} {ad : Nat → Nat} {tp : Nat → Option Nat} (C0 : lw_At p s m meth c b L xs) (cx : CX p m c s #[Value.ref b] RL cL_law 4 D C (fun q : Nat => s.heap.size ≤ q) room_1 83) (hi : i + 6 ≤ L) (hL : L ≤ 3072) (hTp : LTape ad tp)
    (hk : ∀ (w : va_W) (H : Heap) (locs : List Loc) (ls : Array Slot), LI C ad tp w → HW D (fun q : Nat => s.heap.size ≤ q) s.heap H locs w → lv_has ls 4 [(0, .ref b), (1, .ref (ad 0)), (2, .ref (ad 59)), (3, .int (nI i))] → W p l e room_1 s m #[Value.ref b] below meth c H locs 81 2747 (lw_Z below #[Value.ref b] s) (F0 m 1303 ls []))
    {w : va_W} {H : Heap} {locs : List Loc} {ls : Array Slot} (hI : LI C ad tp w) (hw : HW D (fun q : Nat => s.heap.size ≤ q) s.heap H locs w) (hl : lv_has ls 4 [(0, .ref b), (1, .ref (ad 0)), (2, .ref (ad 59)), (3, .int (nI i))]) : W p l e room_1 s m #[Value.ref b] below meth c H locs 81 2747 (lw_Z below #[Value.ref b] s) (F0 m 422 ls []) := by
  obtain ⟨vi, va, vl, vj, ti, f, hR, rfl, F⟩ := hI
  have h0 := lf_h0 F
  have h1 := lf_h1 F
  have h2 := lf_h2 F
  have h3 := lf_h3 F
  have h4 := lf_h4 F
  have h5 := lf_h5 F
  have h6 := lf_h6 F
  have h7 := lf_h7 F
  have h8 := lf_h8 F
  have h9 := lf_h9 F
  have h10 := lf_h10 F
  have h11 := lf_h11 F
  have h12 := lf_h12 F
  have h13 := lf_h13 F
  have h14 := lf_h14 F
  have h15 := lf_h15 F
  have h16 := lf_h16 F
  have h17 := lf_h17 F
  have h18 := lf_h18 F
  have h19 := lf_h19 F
  have h20 := lf_h20 F
  have h21 := lf_h21 F
  have h22 := lf_h22 F
  have h23 := lf_h23 F
  have h24 := lf_h24 F
  have h25 := lf_h25 F
  have h26 := lf_h26 F
  have h27 := lf_h27 F
  have h28 := lf_h28 F
  have h29 := lf_h29 F
  have h30 := lf_h30 F
  have h31 := lf_h31 F
  have h32 := lf_h32 F
  have h33 := lf_h33 F
  have h34 := lf_h34 F
  have h35 := lf_h35 F
  have h36 := lf_h36 F
  have h37 := lf_h37 F
  have h38 := lf_h38 F
  have h39 := lf_h39 F
  have h40 := lf_h40 F
  have h41 := lf_h41 F
  have h42 := lf_h42 F
  have h43 := lf_h43 F
  have h44 := lf_h44 F
  have h45 := lf_h45 F
  have h46 := lf_h46 F
  have hT := lf_hT F
  have h59 := lf_h59 F
  have h60 := lf_h60 F
  have h61 := lf_h61 F
  have h62 := lf_h62 F
  have h63 := lf_h63 F
  have h64 := lf_h64 F
  have h65 := lf_h65 F
  have h66 := lf_h66 F
  have h67 := lf_h67 F
  have h68 := lf_h68 F
  have h69 := lf_h69 F
  have h70 := lf_h70 F
  have h71 := lf_h71 F
  have h72 := lf_h72 F
  have h73 := lf_h73 F
  have h74 := lf_h74 F
  have h75 := lf_h75 F
  have h76 := lf_h76 F
  have h77 := lf_h77 F
  have h78 := lf_h78 F
  have h79 := lf_h79 F
  have h80 := lf_h80 F
  have hx := cx.1
  have hb := cx.2.1
  obtain ⟨-, -, -, -, -, -, hX, hbl, -, -⟩ := id C0
  have hbA : ¬ (fun q : Nat => s.heap.size ≤ q) b := Nat.not_le.mpr hbl
  refine lv_aload_n hx hb dL_law_422 rfl (lv_at hl 1 rfl) ?_
  refine lv_aload_n hx hb dL_law_423 rfl (lv_at hl 0 rfl) ?_
  refine lv_iload_n hx hb dL_law_424 rfl (lv_at hl 3 rfl) ?_
  refine lv_iconst (v := 1) hx hb dL_law_425 (by decide) ?_
  refine lv_iadd hx hb dL_law_426 ?_
  refine va_sld hx hb hX hbl hbA hw.2.2 (lw_vin 1 1 rfl (by omega) hL) dL_law_427 ?_
  refine lv_topi (fun a1 ea1 => ?_)
  obtain ⟨zc, zm, hzc, hzm, he, hR2⟩ := p_feed a1 hR
  refine cVL2 [.int zc.1] cx (CX8_feed l D C (ad 0) (ad 1) (ad 15) (ad 29) (ad 32) (ad 36) (ad 44) (ad 46) (ad 45) (vi 0) (vi 20) (va 25) a1 zc hzc) lk_L_41 my_X8_feed ml_X8_feed ⟨by decide, by decide⟩ hw [0, 44, 45] (ce h0 (ce h44 (ce h45 rfl))) (by decide +kernel) rfl rfl rfl rfl (Nat.le_of_ble_eq_true rfl) dL_law_428 rfl (fun H locs hw => ?_) hl.1 ⟨Nat.le_of_ble_eq_true rfl, Nat.le_of_ble_eq_true rfl⟩
  refine lv_aload_n hx hb dL_law_431 rfl (lv_at hl 2 rfl) ?_
  refine lv_aload_n hx hb dL_law_432 rfl (lv_at hl 0 rfl) ?_
  refine lv_iload_n hx hb dL_law_433 rfl (lv_at hl 3 rfl) ?_
  refine lv_iconst (v := 1) hx hb dL_law_434 (by decide) ?_
  refine lv_iadd hx hb dL_law_435 ?_
  refine va_sld hx hb hX hbl hbA hw.2.2 (lw_vin 1 1 rfl (by omega) hL) dL_law_436 ?_
  refine lv_topi (fun y ey => ?_)
  obtain rfl : a1 = y := ea1.trans ey.symm
  refine cVL2 [.int zm.1, .int zc.1] cx (CX9_feed l D C (ad 59) (ad 60) (ad 61) (ad 62) (ad 63) (ad 64) (ad 65) (ad 66) (ad 67) (ad 68) (ad 69) (ad 70) (ad 71) (ad 72) (ad 73) (ad 74) (ad 75) (ad 76) (ad 77) (ad 78) (ad 79) (ad 80) (vi 21) (vi 22) (vi 23) (vi 24) (vi 25) (vi 26) (vi 27) (vi 28) (vi 29) (vi 30) (vi 31) vl (vi 32) (vi 33) (vi 34) (va 33) a1 zm hzm) lk_L_45 my_X9_feed ml_X9_feed ⟨by decide, by decide⟩ hw [59, 67] (ce h59 (ce h67 rfl)) (by decide +kernel) rfl rfl rfl rfl (Nat.le_of_ble_eq_true rfl) dL_law_437 rfl (fun H locs hw => ?_) hl.1 ⟨Nat.le_of_ble_eq_true rfl, Nat.le_of_ble_eq_true rfl⟩
  refine lv_icmp_eq (tgt := 1303) hx hb dL_law_440 (by decide) (fun _ => ?_) (fun c9 => absurd he c9)
  refine (fun q9 => hk _ H locs ls q9 hw hl) ?_
  exact ⟨(ups (ups vi 20 zc.2.1) 27 zm.2.1), (ups (ups va 25 zc.2.2) 33 zm.2.2), vl, vj, ti, _, hR2, rfl, rfl, h1, h2, h3, h4, h5, h6, h7, h8, h9, h10, h11, h12, h13, h14, h15, h16, h17, h18, h19, h20, h21, h22, h23, h24, h25, h26, h27, h28, h29, h30, h31, h32, h33, h34, h35, h36, h37, h38, h39, h40, h41, h42, h43, rfl, rfl, h46, fun k hk => ⟨(tput rfl rfl (by omega)).trans (hT k hk).1, (tput rfl rfl (by omega)).trans (hT k hk).2⟩, rfl, h60, h61, h62, h63, h64, h65, h66, rfl, h68, h69, h70, h71, h72, h73, h74, h75, h76, h77, h78, h79, h80⟩
set_option maxRecDepth 20000 in
set_option maxHeartbeats 1000000 in
theorem lc_trail {p : Program} {l : Launch} {e : Env} {s : State} {m : MethodId} {below : List Frame} {meth : Method} {c : Code} {D : va_G} {C : Nat → ClassId} {b L i : Nat} {xs : Nat → Int32} {ad : Nat → Nat} {tp : Nat → Option Nat} (C0 : lw_At p s m meth c b L xs) (cx : CX p m c s #[Value.ref b] RL cL_law 4 D C (fun q : Nat => s.heap.size ≤ q) room_1 83) (hi : i + 6 ≤ L) (hL : L ≤ 3072) (hTp : LTape ad tp)
    (hk : ∀ (w : va_W) (H : Heap) (locs : List Loc) (ls : Array Slot), LI C ad tp w → HW D (fun q : Nat => s.heap.size ≤ q) s.heap H locs w → lv_has ls 4 [(0, .ref b), (1, .ref (ad 0)), (2, .ref (ad 59)), (3, .int (nI i))] → W p l e room_1 s m #[Value.ref b] below meth c H locs 81 2747 (lw_Z below #[Value.ref b] s) (F0 m 1303 ls []))
    {w : va_W} {H : Heap} {locs : List Loc} {ls : Array Slot} (hI : LI C ad tp w) (hw : HW D (fun q : Nat => s.heap.size ≤ q) s.heap H locs w) (hl : lv_has ls 4 [(0, .ref b), (1, .ref (ad 0)), (2, .ref (ad 59)), (3, .int (nI i))]) : W p l e room_1 s m #[Value.ref b] below meth c H locs 81 2747 (lw_Z below #[Value.ref b] s) (F0 m 524 ls []) := by
  obtain ⟨vi, va, vl, vj, ti, f, hR, rfl, F⟩ := hI
  have h0 := lf_h0 F
  have h1 := lf_h1 F
  have h2 := lf_h2 F
  have h3 := lf_h3 F
  have h4 := lf_h4 F
  have h5 := lf_h5 F
  have h6 := lf_h6 F
  have h7 := lf_h7 F
  have h8 := lf_h8 F
  have h9 := lf_h9 F
  have h10 := lf_h10 F
  have h11 := lf_h11 F
  have h12 := lf_h12 F
  have h13 := lf_h13 F
  have h14 := lf_h14 F
  have h15 := lf_h15 F
  have h16 := lf_h16 F
  have h17 := lf_h17 F
  have h18 := lf_h18 F
  have h19 := lf_h19 F
  have h20 := lf_h20 F
  have h21 := lf_h21 F
  have h22 := lf_h22 F
  have h23 := lf_h23 F
  have h24 := lf_h24 F
  have h25 := lf_h25 F
  have h26 := lf_h26 F
  have h27 := lf_h27 F
  have h28 := lf_h28 F
  have h29 := lf_h29 F
  have h30 := lf_h30 F
  have h31 := lf_h31 F
  have h32 := lf_h32 F
  have h33 := lf_h33 F
  have h34 := lf_h34 F
  have h35 := lf_h35 F
  have h36 := lf_h36 F
  have h37 := lf_h37 F
  have h38 := lf_h38 F
  have h39 := lf_h39 F
  have h40 := lf_h40 F
  have h41 := lf_h41 F
  have h42 := lf_h42 F
  have h43 := lf_h43 F
  have h44 := lf_h44 F
  have h45 := lf_h45 F
  have h46 := lf_h46 F
  have hT := lf_hT F
  have h59 := lf_h59 F
  have h60 := lf_h60 F
  have h61 := lf_h61 F
  have h62 := lf_h62 F
  have h63 := lf_h63 F
  have h64 := lf_h64 F
  have h65 := lf_h65 F
  have h66 := lf_h66 F
  have h67 := lf_h67 F
  have h68 := lf_h68 F
  have h69 := lf_h69 F
  have h70 := lf_h70 F
  have h71 := lf_h71 F
  have h72 := lf_h72 F
  have h73 := lf_h73 F
  have h74 := lf_h74 F
  have h75 := lf_h75 F
  have h76 := lf_h76 F
  have h77 := lf_h77 F
  have h78 := lf_h78 F
  have h79 := lf_h79 F
  have h80 := lf_h80 F
  have hx := cx.1
  have hb := cx.2.1
  obtain ⟨-, -, -, -, -, -, hX, hbl, -, -⟩ := id C0
  have hbA : ¬ (fun q : Nat => s.heap.size ≤ q) b := Nat.not_le.mpr hbl
  refine lv_aload_n hx hb dL_law_524 rfl (lv_at hl 1 rfl) ?_
  refine lv_aload_n hx hb dL_law_525 rfl (lv_at hl 0 rfl) ?_
  refine lv_iload_n hx hb dL_law_526 rfl (lv_at hl 3 rfl) ?_
  refine lv_iconst (v := 1) hx hb dL_law_527 (by decide) ?_
  refine lv_iadd hx hb dL_law_528 ?_
  refine va_sld hx hb hX hbl hbA hw.2.2 (lw_vin 1 1 rfl (by omega) hL) dL_law_529 ?_
  refine lv_topi (fun a1 ea1 => ?_)
  refine lv_aload_n hx hb dL_law_530 rfl (lv_at hl 0 rfl) ?_
  refine lv_iload_n hx hb dL_law_531 rfl (lv_at hl 3 rfl) ?_
  refine lv_iconst (v := 2) hx hb dL_law_532 (by decide) ?_
  refine lv_iadd hx hb dL_law_533 ?_
  refine va_sld hx hb hX hbl hbA hw.2.2 (lw_vin 2 2 rfl (by omega) hL) dL_law_534 ?_
  refine lv_topi (fun a2 ea2 => ?_)
  obtain ⟨zc, zm, hzc, hzm, he, hR2⟩ := p_trail a1 a2 hR
  refine cVL2 [.int zc] cx (CX8_trail l D C (ad 0) (ad 1) (ad 15) (ad 29) (ad 32) (ad 36) (ad 44) (ad 46) (ad 2) (ad 5) (ad 7) (ad 9) (ad 11) (ad 13) (ad 8) 120 (vi 0) (vi 1) 40 (vi 3) (va 3) a1 a2 zc hzc) lk_L_58 my_X8_trail ml_X8_trail ⟨by decide, by decide⟩ hw [0, 1, 7, 8] (ce h0 (ce h1 (ce h7 (ce h8 rfl)))) (by decide +kernel) rfl rfl rfl rfl (Nat.le_of_ble_eq_true rfl) dL_law_535 rfl (fun H locs hw => ?_) hl.1 ⟨Nat.le_of_ble_eq_true rfl, Nat.le_of_ble_eq_true rfl⟩
  refine lv_aload_n hx hb dL_law_538 rfl (lv_at hl 2 rfl) ?_
  refine lv_aload_n hx hb dL_law_539 rfl (lv_at hl 0 rfl) ?_
  refine lv_iload_n hx hb dL_law_540 rfl (lv_at hl 3 rfl) ?_
  refine lv_iconst (v := 1) hx hb dL_law_541 (by decide) ?_
  refine lv_iadd hx hb dL_law_542 ?_
  refine va_sld hx hb hX hbl hbA hw.2.2 (lw_vin 1 1 rfl (by omega) hL) dL_law_543 ?_
  refine lv_topi (fun y ey => ?_)
  obtain rfl : a1 = y := ea1.trans ey.symm
  refine lv_aload_n hx hb dL_law_544 rfl (lv_at hl 0 rfl) ?_
  refine lv_iload_n hx hb dL_law_545 rfl (lv_at hl 3 rfl) ?_
  refine lv_iconst (v := 2) hx hb dL_law_546 (by decide) ?_
  refine lv_iadd hx hb dL_law_547 ?_
  refine va_sld hx hb hX hbl hbA hw.2.2 (lw_vin 2 2 rfl (by omega) hL) dL_law_548 ?_
  refine lv_topi (fun y ey => ?_)
  obtain rfl : a2 = y := ea2.trans ey.symm
  refine cVL2 [.int zm, .int zc] cx (CX9_trail l D C (ad 59) (ad 60) (ad 61) (ad 62) (ad 63) (ad 64) (ad 65) (ad 66) (ad 67) (ad 68) (ad 69) (ad 70) (ad 71) (ad 72) (ad 73) (ad 74) (ad 75) (ad 76) (ad 77) (ad 78) (ad 79) (ad 80) (vi 21) (vi 22) (vi 23) (vi 24) (vi 25) (vi 26) (vi 27) (vi 28) (vi 29) (vi 30) (vi 31) vl (vi 32) (vi 33) (vi 34) (va 29) a1 a2 zm hzm) lk_L_61 my_X9_trail ml_X9_trail ⟨by decide, by decide⟩ hw [59, 63] (ce h59 (ce h63 rfl)) (by decide +kernel) rfl rfl rfl rfl (Nat.le_of_ble_eq_true rfl) dL_law_549 rfl (fun H locs hw => ?_) hl.1 ⟨Nat.le_of_ble_eq_true rfl, Nat.le_of_ble_eq_true rfl⟩
  refine lv_icmp_eq (tgt := 1303) hx hb dL_law_552 (by decide) (fun _ => ?_) (fun c9 => absurd he c9)
  refine (fun q9 => hk _ H locs ls q9 hw hl) ?_
  exact ⟨vi, va, vl, vj, ti, _, hR2, rfl, rfl, rfl, h2, h3, h4, h5, h6, rfl, rfl, h9, h10, h11, h12, h13, h14, h15, h16, h17, h18, h19, h20, h21, h22, h23, h24, h25, h26, h27, h28, h29, h30, h31, h32, h33, h34, h35, h36, h37, h38, h39, h40, h41, h42, h43, h44, h45, h46, fun k hk => ⟨(tput rfl rfl (by omega)).trans (hT k hk).1, (tput rfl rfl (by omega)).trans (hT k hk).2⟩, rfl, h60, h61, h62, rfl, h64, h65, h66, h67, h68, h69, h70, h71, h72, h73, h74, h75, h76, h77, h78, h79, h80⟩
set_option maxRecDepth 20000 in
set_option maxHeartbeats 1000000 in
theorem lc_forget {p : Program} {l : Launch} {e : Env} {s : State} {m : MethodId} {below : List Frame} {meth : Method} {c : Code} {D : va_G} {C : Nat → ClassId} {b L i : Nat} {xs : Nat → Int32} {ad : Nat → Nat} {tp : Nat → Option Nat} (C0 : lw_At p s m meth c b L xs) (cx : CX p m c s #[Value.ref b] RL cL_law 4 D C (fun q : Nat => s.heap.size ≤ q) room_1 83) (hi : i + 6 ≤ L) (hL : L ≤ 3072) (hTp : LTape ad tp)
    (hk : ∀ (w : va_W) (H : Heap) (locs : List Loc) (ls : Array Slot), LI C ad tp w → HW D (fun q : Nat => s.heap.size ≤ q) s.heap H locs w → lv_has ls 4 [(0, .ref b), (1, .ref (ad 0)), (2, .ref (ad 59)), (3, .int (nI i))] → W p l e room_1 s m #[Value.ref b] below meth c H locs 81 2747 (lw_Z below #[Value.ref b] s) (F0 m 1303 ls []))
    {w : va_W} {H : Heap} {locs : List Loc} {ls : Array Slot} (hI : LI C ad tp w) (hw : HW D (fun q : Nat => s.heap.size ≤ q) s.heap H locs w) (hl : lv_has ls 4 [(0, .ref b), (1, .ref (ad 0)), (2, .ref (ad 59)), (3, .int (nI i))]) : W p l e room_1 s m #[Value.ref b] below meth c H locs 81 2747 (lw_Z below #[Value.ref b] s) (F0 m 557 ls []) := by
  obtain ⟨vi, va, vl, vj, ti, f, hR, rfl, F⟩ := hI
  have h0 := lf_h0 F
  have h1 := lf_h1 F
  have h2 := lf_h2 F
  have h3 := lf_h3 F
  have h4 := lf_h4 F
  have h5 := lf_h5 F
  have h6 := lf_h6 F
  have h7 := lf_h7 F
  have h8 := lf_h8 F
  have h9 := lf_h9 F
  have h10 := lf_h10 F
  have h11 := lf_h11 F
  have h12 := lf_h12 F
  have h13 := lf_h13 F
  have h14 := lf_h14 F
  have h15 := lf_h15 F
  have h16 := lf_h16 F
  have h17 := lf_h17 F
  have h18 := lf_h18 F
  have h19 := lf_h19 F
  have h20 := lf_h20 F
  have h21 := lf_h21 F
  have h22 := lf_h22 F
  have h23 := lf_h23 F
  have h24 := lf_h24 F
  have h25 := lf_h25 F
  have h26 := lf_h26 F
  have h27 := lf_h27 F
  have h28 := lf_h28 F
  have h29 := lf_h29 F
  have h30 := lf_h30 F
  have h31 := lf_h31 F
  have h32 := lf_h32 F
  have h33 := lf_h33 F
  have h34 := lf_h34 F
  have h35 := lf_h35 F
  have h36 := lf_h36 F
  have h37 := lf_h37 F
  have h38 := lf_h38 F
  have h39 := lf_h39 F
  have h40 := lf_h40 F
  have h41 := lf_h41 F
  have h42 := lf_h42 F
  have h43 := lf_h43 F
  have h44 := lf_h44 F
  have h45 := lf_h45 F
  have h46 := lf_h46 F
  have hT := lf_hT F
  have h59 := lf_h59 F
  have h60 := lf_h60 F
  have h61 := lf_h61 F
  have h62 := lf_h62 F
  have h63 := lf_h63 F
  have h64 := lf_h64 F
  have h65 := lf_h65 F
  have h66 := lf_h66 F
  have h67 := lf_h67 F
  have h68 := lf_h68 F
  have h69 := lf_h69 F
  have h70 := lf_h70 F
  have h71 := lf_h71 F
  have h72 := lf_h72 F
  have h73 := lf_h73 F
  have h74 := lf_h74 F
  have h75 := lf_h75 F
  have h76 := lf_h76 F
  have h77 := lf_h77 F
  have h78 := lf_h78 F
  have h79 := lf_h79 F
  have h80 := lf_h80 F
  have hx := cx.1
  have hb := cx.2.1
  obtain ⟨-, -, -, -, -, -, hX, hbl, -, -⟩ := id C0
  have hbA : ¬ (fun q : Nat => s.heap.size ≤ q) b := Nat.not_le.mpr hbl
  refine lv_aload_n hx hb dL_law_557 rfl (lv_at hl 1 rfl) ?_
  obtain ⟨zc, zm, hzc, hzm, he, hR2⟩ := p_forget hR
  refine cVL2 [.int zc.1] cx (CX8_forget l D C (ad 0) (ad 1) (ad 15) (ad 29) (ad 32) (ad 36) (ad 44) (ad 46) (ad 2) (ad 5) (ad 7) (ad 9) (ad 11) (ad 13) (ad 8) (vi 0) (vi 1) 40 (vi 3) zc hzc) lk_L_62 my_X8_forget ml_X8_forget ⟨by decide, by decide⟩ hw [0, 1, 7] (ce h0 (ce h1 (ce h7 rfl))) (by decide +kernel) rfl rfl rfl rfl (Nat.le_of_ble_eq_true rfl) dL_law_558 rfl (fun H locs hw => ?_) hl.1 ⟨Nat.le_of_ble_eq_true rfl, Nat.le_of_ble_eq_true rfl⟩
  refine lv_aload_n hx hb dL_law_561 rfl (lv_at hl 2 rfl) ?_
  refine cVL2 [.int zm.1, .int zc.1] cx (CX9_forget l D C (ad 59) (ad 60) (ad 61) (ad 62) (ad 63) (ad 64) (ad 65) (ad 66) (ad 67) (ad 68) (ad 69) (ad 70) (ad 71) (ad 72) (ad 73) (ad 74) (ad 75) (ad 76) (ad 77) (ad 78) (ad 79) (ad 80) (vi 21) (vi 22) (vi 23) (vi 24) (vi 25) (vi 26) (vi 27) (vi 28) (vi 29) (vi 30) (vi 31) vl (vi 32) (vi 33) (vi 34) zm hzm) lk_L_65 my_X9_forget ml_X9_forget ⟨by decide, by decide⟩ hw [59] (ce h59 rfl) (by decide +kernel) rfl rfl rfl rfl (Nat.le_of_ble_eq_true rfl) dL_law_562 rfl (fun H locs hw => ?_) hl.1 ⟨Nat.le_of_ble_eq_true rfl, Nat.le_of_ble_eq_true rfl⟩
  refine lv_icmp_eq (tgt := 1303) hx hb dL_law_565 (by decide) (fun _ => ?_) (fun c9 => absurd he c9)
  refine (fun q9 => hk _ H locs ls q9 hw hl) ?_
  exact ⟨(ups (ups vi 3 zc.2) 23 zm.2), va, vl, vj, ti, _, hR2, rfl, rfl, rfl, h2, h3, h4, h5, h6, rfl, h8, h9, h10, h11, h12, h13, h14, h15, h16, h17, h18, h19, h20, h21, h22, h23, h24, h25, h26, h27, h28, h29, h30, h31, h32, h33, h34, h35, h36, h37, h38, h39, h40, h41, h42, h43, h44, h45, h46, fun k hk => ⟨(tput rfl rfl (by omega)).trans (hT k hk).1, (tput rfl rfl (by omega)).trans (hT k hk).2⟩, rfl, h60, h61, h62, h63, h64, h65, h66, h67, h68, h69, h70, h71, h72, h73, h74, h75, h76, h77, h78, h79, h80⟩
set_option maxRecDepth 20000 in
set_option maxHeartbeats 1000000 in
theorem lc_see {p : Program} {l : Launch} {e : Env} {s : State} {m : MethodId} {below : List Frame} {meth : Method} {c : Code} {D : va_G} {C : Nat → ClassId} {b L i : Nat} {xs : Nat → Int32} {ad : Nat → Nat} {tp : Nat → Option Nat} (C0 : lw_At p s m meth c b L xs) (cx : CX p m c s #[Value.ref b] RL cL_law 4 D C (fun q : Nat => s.heap.size ≤ q) room_1 83) (hi : i + 6 ≤ L) (hL : L ≤ 3072) (hTp : LTape ad tp)
    (hk : ∀ (w : va_W) (H : Heap) (locs : List Loc) (ls : Array Slot), LI C ad tp w → HW D (fun q : Nat => s.heap.size ≤ q) s.heap H locs w → lv_has ls 4 [(0, .ref b), (1, .ref (ad 0)), (2, .ref (ad 59)), (3, .int (nI i))] → W p l e room_1 s m #[Value.ref b] below meth c H locs 81 2747 (lw_Z below #[Value.ref b] s) (F0 m 1303 ls []))
    {w : va_W} {H : Heap} {locs : List Loc} {ls : Array Slot} (hI : LI C ad tp w) (hw : HW D (fun q : Nat => s.heap.size ≤ q) s.heap H locs w) (hl : lv_has ls 4 [(0, .ref b), (1, .ref (ad 0)), (2, .ref (ad 59)), (3, .int (nI i))]) : W p l e room_1 s m #[Value.ref b] below meth c H locs 81 2747 (lw_Z below #[Value.ref b] s) (F0 m 742 ls []) := by
  obtain ⟨vi, va, vl, vj, ti, f, hR, rfl, F⟩ := hI
  have h0 := lf_h0 F
  have h1 := lf_h1 F
  have h2 := lf_h2 F
  have h3 := lf_h3 F
  have h4 := lf_h4 F
  have h5 := lf_h5 F
  have h6 := lf_h6 F
  have h7 := lf_h7 F
  have h8 := lf_h8 F
  have h9 := lf_h9 F
  have h10 := lf_h10 F
  have h11 := lf_h11 F
  have h12 := lf_h12 F
  have h13 := lf_h13 F
  have h14 := lf_h14 F
  have h15 := lf_h15 F
  have h16 := lf_h16 F
  have h17 := lf_h17 F
  have h18 := lf_h18 F
  have h19 := lf_h19 F
  have h20 := lf_h20 F
  have h21 := lf_h21 F
  have h22 := lf_h22 F
  have h23 := lf_h23 F
  have h24 := lf_h24 F
  have h25 := lf_h25 F
  have h26 := lf_h26 F
  have h27 := lf_h27 F
  have h28 := lf_h28 F
  have h29 := lf_h29 F
  have h30 := lf_h30 F
  have h31 := lf_h31 F
  have h32 := lf_h32 F
  have h33 := lf_h33 F
  have h34 := lf_h34 F
  have h35 := lf_h35 F
  have h36 := lf_h36 F
  have h37 := lf_h37 F
  have h38 := lf_h38 F
  have h39 := lf_h39 F
  have h40 := lf_h40 F
  have h41 := lf_h41 F
  have h42 := lf_h42 F
  have h43 := lf_h43 F
  have h44 := lf_h44 F
  have h45 := lf_h45 F
  have h46 := lf_h46 F
  have hT := lf_hT F
  have h59 := lf_h59 F
  have h60 := lf_h60 F
  have h61 := lf_h61 F
  have h62 := lf_h62 F
  have h63 := lf_h63 F
  have h64 := lf_h64 F
  have h65 := lf_h65 F
  have h66 := lf_h66 F
  have h67 := lf_h67 F
  have h68 := lf_h68 F
  have h69 := lf_h69 F
  have h70 := lf_h70 F
  have h71 := lf_h71 F
  have h72 := lf_h72 F
  have h73 := lf_h73 F
  have h74 := lf_h74 F
  have h75 := lf_h75 F
  have h76 := lf_h76 F
  have h77 := lf_h77 F
  have h78 := lf_h78 F
  have h79 := lf_h79 F
  have h80 := lf_h80 F
  have hx := cx.1
  have hb := cx.2.1
  obtain ⟨-, -, -, -, -, -, hX, hbl, -, -⟩ := id C0
  have hbA : ¬ (fun q : Nat => s.heap.size ≤ q) b := Nat.not_le.mpr hbl
  refine lv_aload_n hx hb dL_law_742 rfl (lv_at hl 1 rfl) ?_
  refine lv_aload_n hx hb dL_law_743 rfl (lv_at hl 0 rfl) ?_
  refine lv_iload_n hx hb dL_law_744 rfl (lv_at hl 3 rfl) ?_
  refine lv_iconst (v := 1) hx hb dL_law_745 (by decide) ?_
  refine lv_iadd hx hb dL_law_746 ?_
  refine va_sld hx hb hX hbl hbA hw.2.2 (lw_vin 1 1 rfl (by omega) hL) dL_law_747 ?_
  refine lv_topi (fun a1 ea1 => ?_)
  refine lv_aload_n hx hb dL_law_748 rfl (lv_at hl 0 rfl) ?_
  refine lv_iload_n hx hb dL_law_749 rfl (lv_at hl 3 rfl) ?_
  refine lv_iconst (v := 2) hx hb dL_law_750 (by decide) ?_
  refine lv_iadd hx hb dL_law_751 ?_
  refine va_sld hx hb hX hbl hbA hw.2.2 (lw_vin 2 2 rfl (by omega) hL) dL_law_752 ?_
  refine lv_topi (fun a2 ea2 => ?_)
  refine lv_aload_n hx hb dL_law_753 rfl (lv_at hl 0 rfl) ?_
  refine lv_iload_n hx hb dL_law_754 rfl (lv_at hl 3 rfl) ?_
  refine lv_iconst (v := 3) hx hb dL_law_755 (by decide) ?_
  refine lv_iadd hx hb dL_law_756 ?_
  refine va_sld hx hb hX hbl hbA hw.2.2 (lw_vin 3 3 rfl (by omega) hL) dL_law_757 ?_
  refine lv_topi (fun a3 ea3 => ?_)
  obtain ⟨zc, zm, hzc, hzm, he, hR2⟩ := p_see a1 a2 a3 hR
  refine cVL2 [.int zc.1] cx (CX8_see l D C (ad 0) (ad 1) (ad 15) (ad 29) (ad 32) (ad 36) (ad 44) (ad 46) (ad 2) (ad 5) (ad 7) (ad 9) (ad 11) (ad 13) (ad 10) 15 (vi 0) (vi 1) 5 (vi 4) (va 4) a1 a2 a3 zc hzc) lk_L_95 my_X8_see ml_X8_see ⟨by decide, by decide⟩ hw [0, 1, 9, 10] (ce h0 (ce h1 (ce h9 (ce h10 rfl)))) (by decide +kernel) rfl rfl rfl rfl (Nat.le_of_ble_eq_true rfl) dL_law_758 rfl (fun H locs hw => ?_) hl.1 ⟨Nat.le_of_ble_eq_true rfl, Nat.le_of_ble_eq_true rfl⟩
  refine lv_aload_n hx hb dL_law_761 rfl (lv_at hl 2 rfl) ?_
  refine lv_aload_n hx hb dL_law_762 rfl (lv_at hl 0 rfl) ?_
  refine lv_iload_n hx hb dL_law_763 rfl (lv_at hl 3 rfl) ?_
  refine lv_iconst (v := 1) hx hb dL_law_764 (by decide) ?_
  refine lv_iadd hx hb dL_law_765 ?_
  refine va_sld hx hb hX hbl hbA hw.2.2 (lw_vin 1 1 rfl (by omega) hL) dL_law_766 ?_
  refine lv_topi (fun y ey => ?_)
  obtain rfl : a1 = y := ea1.trans ey.symm
  refine lv_aload_n hx hb dL_law_767 rfl (lv_at hl 0 rfl) ?_
  refine lv_iload_n hx hb dL_law_768 rfl (lv_at hl 3 rfl) ?_
  refine lv_iconst (v := 2) hx hb dL_law_769 (by decide) ?_
  refine lv_iadd hx hb dL_law_770 ?_
  refine va_sld hx hb hX hbl hbA hw.2.2 (lw_vin 2 2 rfl (by omega) hL) dL_law_771 ?_
  refine lv_topi (fun y ey => ?_)
  obtain rfl : a2 = y := ea2.trans ey.symm
  refine lv_aload_n hx hb dL_law_772 rfl (lv_at hl 0 rfl) ?_
  refine lv_iload_n hx hb dL_law_773 rfl (lv_at hl 3 rfl) ?_
  refine lv_iconst (v := 3) hx hb dL_law_774 (by decide) ?_
  refine lv_iadd hx hb dL_law_775 ?_
  refine va_sld hx hb hX hbl hbA hw.2.2 (lw_vin 3 3 rfl (by omega) hL) dL_law_776 ?_
  refine lv_topi (fun y ey => ?_)
  obtain rfl : a3 = y := ea3.trans ey.symm
  refine cVL2 [.int zm.1, .int zc.1] cx (CX9_see l D C (ad 59) (ad 60) (ad 61) (ad 62) (ad 63) (ad 64) (ad 65) (ad 66) (ad 67) (ad 68) (ad 69) (ad 70) (ad 71) (ad 72) (ad 73) (ad 74) (ad 75) (ad 76) (ad 77) (ad 78) (ad 79) (ad 80) (vi 21) (vi 22) (vi 23) (vi 24) (vi 25) (vi 26) (vi 27) (vi 28) (vi 29) (vi 30) (vi 31) vl (vi 32) (vi 33) (vi 34) (va 30) a1 a2 a3 zm hzm) lk_L_98 my_X9_see ml_X9_see ⟨by decide, by decide⟩ hw [59, 64] (ce h59 (ce h64 rfl)) (by decide +kernel) rfl rfl rfl rfl (Nat.le_of_ble_eq_true rfl) dL_law_777 rfl (fun H locs hw => ?_) hl.1 ⟨Nat.le_of_ble_eq_true rfl, Nat.le_of_ble_eq_true rfl⟩
  refine lv_icmp_eq (tgt := 1303) hx hb dL_law_780 (by decide) (fun _ => ?_) (fun c9 => absurd he c9)
  refine (fun q9 => hk _ H locs ls q9 hw hl) ?_
  exact ⟨(ups (ups vi 4 zc.2.1) 24 zm.2.1), (ups (ups va 4 zc.2.2) 30 zm.2.2), vl, vj, ti, _, hR2, rfl, rfl, rfl, h2, h3, h4, h5, h6, h7, h8, rfl, rfl, h11, h12, h13, h14, h15, h16, h17, h18, h19, h20, h21, h22, h23, h24, h25, h26, h27, h28, h29, h30, h31, h32, h33, h34, h35, h36, h37, h38, h39, h40, h41, h42, h43, h44, h45, h46, fun k hk => ⟨(tput rfl rfl (by omega)).trans (hT k hk).1, (tput rfl rfl (by omega)).trans (hT k hk).2⟩, rfl, h60, h61, h62, h63, rfl, h65, h66, h67, h68, h69, h70, h71, h72, h73, h74, h75, h76, h77, h78, h79, h80⟩
set_option maxRecDepth 20000 in
set_option maxHeartbeats 1000000 in
theorem lc_mean {p : Program} {l : Launch} {e : Env} {s : State} {m : MethodId} {below : List Frame} {meth : Method} {c : Code} {D : va_G} {C : Nat → ClassId} {b L i : Nat} {xs : Nat → Int32} {ad : Nat → Nat} {tp : Nat → Option Nat} (C0 : lw_At p s m meth c b L xs) (cx : CX p m c s #[Value.ref b] RL cL_law 4 D C (fun q : Nat => s.heap.size ≤ q) room_1 83) (hi : i + 6 ≤ L) (hL : L ≤ 3072) (hTp : LTape ad tp)
    (hk : ∀ (w : va_W) (H : Heap) (locs : List Loc) (ls : Array Slot), LI C ad tp w → HW D (fun q : Nat => s.heap.size ≤ q) s.heap H locs w → lv_has ls 4 [(0, .ref b), (1, .ref (ad 0)), (2, .ref (ad 59)), (3, .int (nI i))] → W p l e room_1 s m #[Value.ref b] below meth c H locs 81 2747 (lw_Z below #[Value.ref b] s) (F0 m 1303 ls []))
    {w : va_W} {H : Heap} {locs : List Loc} {ls : Array Slot} (hI : LI C ad tp w) (hw : HW D (fun q : Nat => s.heap.size ≤ q) s.heap H locs w) (hl : lv_has ls 4 [(0, .ref b), (1, .ref (ad 0)), (2, .ref (ad 59)), (3, .int (nI i))]) : W p l e room_1 s m #[Value.ref b] below meth c H locs 81 2747 (lw_Z below #[Value.ref b] s) (F0 m 872 ls []) := by
  obtain ⟨vi, va, vl, vj, ti, f, hR, rfl, F⟩ := hI
  have h0 := lf_h0 F
  have h1 := lf_h1 F
  have h2 := lf_h2 F
  have h3 := lf_h3 F
  have h4 := lf_h4 F
  have h5 := lf_h5 F
  have h6 := lf_h6 F
  have h7 := lf_h7 F
  have h8 := lf_h8 F
  have h9 := lf_h9 F
  have h10 := lf_h10 F
  have h11 := lf_h11 F
  have h12 := lf_h12 F
  have h13 := lf_h13 F
  have h14 := lf_h14 F
  have h15 := lf_h15 F
  have h16 := lf_h16 F
  have h17 := lf_h17 F
  have h18 := lf_h18 F
  have h19 := lf_h19 F
  have h20 := lf_h20 F
  have h21 := lf_h21 F
  have h22 := lf_h22 F
  have h23 := lf_h23 F
  have h24 := lf_h24 F
  have h25 := lf_h25 F
  have h26 := lf_h26 F
  have h27 := lf_h27 F
  have h28 := lf_h28 F
  have h29 := lf_h29 F
  have h30 := lf_h30 F
  have h31 := lf_h31 F
  have h32 := lf_h32 F
  have h33 := lf_h33 F
  have h34 := lf_h34 F
  have h35 := lf_h35 F
  have h36 := lf_h36 F
  have h37 := lf_h37 F
  have h38 := lf_h38 F
  have h39 := lf_h39 F
  have h40 := lf_h40 F
  have h41 := lf_h41 F
  have h42 := lf_h42 F
  have h43 := lf_h43 F
  have h44 := lf_h44 F
  have h45 := lf_h45 F
  have h46 := lf_h46 F
  have hT := lf_hT F
  have h59 := lf_h59 F
  have h60 := lf_h60 F
  have h61 := lf_h61 F
  have h62 := lf_h62 F
  have h63 := lf_h63 F
  have h64 := lf_h64 F
  have h65 := lf_h65 F
  have h66 := lf_h66 F
  have h67 := lf_h67 F
  have h68 := lf_h68 F
  have h69 := lf_h69 F
  have h70 := lf_h70 F
  have h71 := lf_h71 F
  have h72 := lf_h72 F
  have h73 := lf_h73 F
  have h74 := lf_h74 F
  have h75 := lf_h75 F
  have h76 := lf_h76 F
  have h77 := lf_h77 F
  have h78 := lf_h78 F
  have h79 := lf_h79 F
  have h80 := lf_h80 F
  have hx := cx.1
  have hb := cx.2.1
  obtain ⟨-, -, -, -, -, -, hX, hbl, -, -⟩ := id C0
  have hbA : ¬ (fun q : Nat => s.heap.size ≤ q) b := Nat.not_le.mpr hbl
  refine lv_aload_n hx hb dL_law_872 rfl (lv_at hl 1 rfl) ?_
  refine lv_aload_n hx hb dL_law_873 rfl (lv_at hl 0 rfl) ?_
  refine lv_iload_n hx hb dL_law_874 rfl (lv_at hl 3 rfl) ?_
  refine lv_iconst (v := 1) hx hb dL_law_875 (by decide) ?_
  refine lv_iadd hx hb dL_law_876 ?_
  refine va_sld hx hb hX hbl hbA hw.2.2 (lw_vin 1 1 rfl (by omega) hL) dL_law_877 ?_
  refine lv_topi (fun a1 ea1 => ?_)
  obtain ⟨zc, zm, hzc, hzm, he, hR2⟩ := p_mean a1 hR
  refine cVL2 [.long zc] cx (CX8_mean l D C (ad 0) (ad 1) (ad 15) (ad 29) (ad 32) (ad 36) (ad 44) (ad 46) (ad 2) (ad 5) (ad 7) (ad 9) (ad 11) (ad 13) (ad 3) (ad 4) (vi 0) (vi 1) (vi 2) (va 0) a1 zc hzc) lk_L_108 my_X8_mean ml_X8_mean ⟨by decide, by decide⟩ hw [0, 1, 2, 3] (ce h0 (ce h1 (ce h2 (ce h3 rfl)))) (by decide +kernel) rfl rfl rfl rfl (Nat.le_of_ble_eq_true rfl) dL_law_878 rfl (fun H locs hw => ?_) hl.1 ⟨Nat.le_of_ble_eq_true rfl, Nat.le_of_ble_eq_true rfl⟩
  refine lv_aload_n hx hb dL_law_881 rfl (lv_at hl 2 rfl) ?_
  refine lv_aload_n hx hb dL_law_882 rfl (lv_at hl 0 rfl) ?_
  refine lv_iload_n hx hb dL_law_883 rfl (lv_at hl 3 rfl) ?_
  refine lv_iconst (v := 1) hx hb dL_law_884 (by decide) ?_
  refine lv_iadd hx hb dL_law_885 ?_
  refine va_sld hx hb hX hbl hbA hw.2.2 (lw_vin 1 1 rfl (by omega) hL) dL_law_886 ?_
  refine lv_topi (fun y ey => ?_)
  obtain rfl : a1 = y := ea1.trans ey.symm
  refine cVL2 [.long zm, .long zc] cx (CX9_mean l D C (ad 59) (ad 60) (ad 61) (ad 62) (ad 63) (ad 64) (ad 65) (ad 66) (ad 67) (ad 68) (ad 69) (ad 70) (ad 71) (ad 72) (ad 73) (ad 74) (ad 75) (ad 76) (ad 77) (ad 78) (ad 79) (ad 80) (vi 21) (vi 22) (vi 23) (vi 24) (vi 25) (vi 26) (vi 27) (vi 28) (vi 29) (vi 30) (vi 31) vl (vi 32) (vi 33) (vi 34) (va 26) (va 28) a1 zm hzm) lk_L_111 my_X9_mean ml_X9_mean ⟨by decide, by decide⟩ hw [59, 60, 62] (ce h59 (ce h60 (ce h62 rfl))) (by decide +kernel) rfl rfl rfl rfl (Nat.le_of_ble_eq_true rfl) dL_law_887 rfl (fun H locs hw => ?_) hl.1 ⟨Nat.le_of_ble_eq_true rfl, Nat.le_of_ble_eq_true rfl⟩
  refine W.lcmp hx hb dL_law_890 ?_
  refine lv_if_eq (tgt := 1303) hx hb dL_law_891 (by decide) (fun _ => ?_) (fun c9 => absurd (lw_cmp he) c9)
  refine (fun q9 => hk _ H locs ls q9 hw hl) ?_
  exact ⟨vi, va, vl, vj, ti, _, hR2, rfl, rfl, rfl, rfl, rfl, h4, h5, h6, h7, h8, h9, h10, h11, h12, h13, h14, h15, h16, h17, h18, h19, h20, h21, h22, h23, h24, h25, h26, h27, h28, h29, h30, h31, h32, h33, h34, h35, h36, h37, h38, h39, h40, h41, h42, h43, h44, h45, h46, fun k hk => ⟨(tput rfl rfl (by omega)).trans (hT k hk).1, (tput rfl rfl (by omega)).trans (hT k hk).2⟩, rfl, rfl, h61, rfl, h63, h64, h65, h66, h67, h68, h69, h70, h71, h72, h73, h74, h75, h76, h77, h78, h79, h80⟩
set_option maxRecDepth 20000 in
set_option maxHeartbeats 1000000 in
theorem lc_event {p : Program} {l : Launch} {e : Env} {s : State} {m : MethodId} {below : List Frame} {meth : Method} {c : Code} {D : va_G} {C : Nat → ClassId} {b L i : Nat} {xs : Nat → Int32} {ad : Nat → Nat} {tp : Nat → Option Nat} (C0 : lw_At p s m meth c b L xs) (cx : CX p m c s #[Value.ref b] RL cL_law 4 D C (fun q : Nat => s.heap.size ≤ q) room_1 83) (hi : i + 6 ≤ L) (hL : L ≤ 3072) (hTp : LTape ad tp)
    (hk : ∀ (w : va_W) (H : Heap) (locs : List Loc) (ls : Array Slot), LI C ad tp w → HW D (fun q : Nat => s.heap.size ≤ q) s.heap H locs w → lv_has ls 4 [(0, .ref b), (1, .ref (ad 0)), (2, .ref (ad 59)), (3, .int (nI i))] → W p l e room_1 s m #[Value.ref b] below meth c H locs 81 2747 (lw_Z below #[Value.ref b] s) (F0 m 1303 ls []))
    {w : va_W} {H : Heap} {locs : List Loc} {ls : Array Slot} (hI : LI C ad tp w) (hw : HW D (fun q : Nat => s.heap.size ≤ q) s.heap H locs w) (hl : lv_has ls 4 [(0, .ref b), (1, .ref (ad 0)), (2, .ref (ad 59)), (3, .int (nI i))]) : W p l e room_1 s m #[Value.ref b] below meth c H locs 81 2747 (lw_Z below #[Value.ref b] s) (F0 m 896 ls []) := by
  obtain ⟨vi, va, vl, vj, ti, f, hR, rfl, F⟩ := hI
  have h0 := lf_h0 F
  have h1 := lf_h1 F
  have h2 := lf_h2 F
  have h3 := lf_h3 F
  have h4 := lf_h4 F
  have h5 := lf_h5 F
  have h6 := lf_h6 F
  have h7 := lf_h7 F
  have h8 := lf_h8 F
  have h9 := lf_h9 F
  have h10 := lf_h10 F
  have h11 := lf_h11 F
  have h12 := lf_h12 F
  have h13 := lf_h13 F
  have h14 := lf_h14 F
  have h15 := lf_h15 F
  have h16 := lf_h16 F
  have h17 := lf_h17 F
  have h18 := lf_h18 F
  have h19 := lf_h19 F
  have h20 := lf_h20 F
  have h21 := lf_h21 F
  have h22 := lf_h22 F
  have h23 := lf_h23 F
  have h24 := lf_h24 F
  have h25 := lf_h25 F
  have h26 := lf_h26 F
  have h27 := lf_h27 F
  have h28 := lf_h28 F
  have h29 := lf_h29 F
  have h30 := lf_h30 F
  have h31 := lf_h31 F
  have h32 := lf_h32 F
  have h33 := lf_h33 F
  have h34 := lf_h34 F
  have h35 := lf_h35 F
  have h36 := lf_h36 F
  have h37 := lf_h37 F
  have h38 := lf_h38 F
  have h39 := lf_h39 F
  have h40 := lf_h40 F
  have h41 := lf_h41 F
  have h42 := lf_h42 F
  have h43 := lf_h43 F
  have h44 := lf_h44 F
  have h45 := lf_h45 F
  have h46 := lf_h46 F
  have hT := lf_hT F
  have h59 := lf_h59 F
  have h60 := lf_h60 F
  have h61 := lf_h61 F
  have h62 := lf_h62 F
  have h63 := lf_h63 F
  have h64 := lf_h64 F
  have h65 := lf_h65 F
  have h66 := lf_h66 F
  have h67 := lf_h67 F
  have h68 := lf_h68 F
  have h69 := lf_h69 F
  have h70 := lf_h70 F
  have h71 := lf_h71 F
  have h72 := lf_h72 F
  have h73 := lf_h73 F
  have h74 := lf_h74 F
  have h75 := lf_h75 F
  have h76 := lf_h76 F
  have h77 := lf_h77 F
  have h78 := lf_h78 F
  have h79 := lf_h79 F
  have h80 := lf_h80 F
  have hx := cx.1
  have hb := cx.2.1
  obtain ⟨-, -, -, -, -, -, hX, hbl, -, -⟩ := id C0
  have hbA : ¬ (fun q : Nat => s.heap.size ≤ q) b := Nat.not_le.mpr hbl
  refine lv_aload_n hx hb dL_law_896 rfl (lv_at hl 1 rfl) ?_
  refine lv_aload_n hx hb dL_law_897 rfl (lv_at hl 0 rfl) ?_
  refine lv_iload_n hx hb dL_law_898 rfl (lv_at hl 3 rfl) ?_
  refine lv_iconst (v := 1) hx hb dL_law_899 (by decide) ?_
  refine lv_iadd hx hb dL_law_900 ?_
  refine va_sld hx hb hX hbl hbA hw.2.2 (lw_vin 1 1 rfl (by omega) hL) dL_law_901 ?_
  refine lv_topi (fun a1 ea1 => ?_)
  refine lv_aload_n hx hb dL_law_902 rfl (lv_at hl 0 rfl) ?_
  refine lv_iload_n hx hb dL_law_903 rfl (lv_at hl 3 rfl) ?_
  refine lv_iconst (v := 2) hx hb dL_law_904 (by decide) ?_
  refine lv_iadd hx hb dL_law_905 ?_
  refine va_sld hx hb hX hbl hbA hw.2.2 (lw_vin 2 2 rfl (by omega) hL) dL_law_906 ?_
  refine lv_topi (fun a2 ea2 => ?_)
  obtain ⟨zc, zm, hzc, hzm, he, hR2⟩ := p_event a1 a2 hR
  refine cVL2 [.int zc.1] cx (CX8_event l D C (ad 0) (ad 1) (ad 15) (ad 29) (ad 32) (ad 36) (ad 44) (ad 46) (ad 2) (ad 5) (ad 7) (ad 9) (ad 11) (ad 13) (ad 12) 24 (vi 0) (vi 1) 8 (vi 5) (va 5) a1 a2 zc hzc) lk_L_112 my_X8_event ml_X8_event ⟨by decide, by decide⟩ hw [0, 1, 11, 12] (ce h0 (ce h1 (ce h11 (ce h12 rfl)))) (by decide +kernel) rfl rfl rfl rfl (Nat.le_of_ble_eq_true rfl) dL_law_907 rfl (fun H locs hw => ?_) hl.1 ⟨Nat.le_of_ble_eq_true rfl, Nat.le_of_ble_eq_true rfl⟩
  refine lv_aload_n hx hb dL_law_910 rfl (lv_at hl 2 rfl) ?_
  refine lv_aload_n hx hb dL_law_911 rfl (lv_at hl 0 rfl) ?_
  refine lv_iload_n hx hb dL_law_912 rfl (lv_at hl 3 rfl) ?_
  refine lv_iconst (v := 1) hx hb dL_law_913 (by decide) ?_
  refine lv_iadd hx hb dL_law_914 ?_
  refine va_sld hx hb hX hbl hbA hw.2.2 (lw_vin 1 1 rfl (by omega) hL) dL_law_915 ?_
  refine lv_topi (fun y ey => ?_)
  obtain rfl : a1 = y := ea1.trans ey.symm
  refine lv_aload_n hx hb dL_law_916 rfl (lv_at hl 0 rfl) ?_
  refine lv_iload_n hx hb dL_law_917 rfl (lv_at hl 3 rfl) ?_
  refine lv_iconst (v := 2) hx hb dL_law_918 (by decide) ?_
  refine lv_iadd hx hb dL_law_919 ?_
  refine va_sld hx hb hX hbl hbA hw.2.2 (lw_vin 2 2 rfl (by omega) hL) dL_law_920 ?_
  refine lv_topi (fun y ey => ?_)
  obtain rfl : a2 = y := ea2.trans ey.symm
  refine cVL2 [.int zm.1, .int zc.1] cx (CX9_event l D C (ad 59) (ad 60) (ad 61) (ad 62) (ad 63) (ad 64) (ad 65) (ad 66) (ad 67) (ad 68) (ad 69) (ad 70) (ad 71) (ad 72) (ad 73) (ad 74) (ad 75) (ad 76) (ad 77) (ad 78) (ad 79) (ad 80) (vi 21) (vi 22) (vi 23) (vi 24) (vi 25) (vi 26) (vi 27) (vi 28) (vi 29) (vi 30) (vi 31) vl (vi 32) (vi 33) (vi 34) (va 31) a1 a2 zm hzm) lk_L_115 my_X9_event ml_X9_event ⟨by decide, by decide⟩ hw [59, 65] (ce h59 (ce h65 rfl)) (by decide +kernel) rfl rfl rfl rfl (Nat.le_of_ble_eq_true rfl) dL_law_921 rfl (fun H locs hw => ?_) hl.1 ⟨Nat.le_of_ble_eq_true rfl, Nat.le_of_ble_eq_true rfl⟩
  refine lv_icmp_eq (tgt := 1303) hx hb dL_law_924 (by decide) (fun _ => ?_) (fun c9 => absurd he c9)
  refine (fun q9 => hk _ H locs ls q9 hw hl) ?_
  exact ⟨(ups (ups vi 5 zc.2.1) 25 zm.2.1), (ups (ups va 5 zc.2.2) 31 zm.2.2), vl, vj, ti, _, hR2, rfl, rfl, rfl, h2, h3, h4, h5, h6, h7, h8, h9, h10, rfl, rfl, h13, h14, h15, h16, h17, h18, h19, h20, h21, h22, h23, h24, h25, h26, h27, h28, h29, h30, h31, h32, h33, h34, h35, h36, h37, h38, h39, h40, h41, h42, h43, h44, h45, h46, fun k hk => ⟨(tput rfl rfl (by omega)).trans (hT k hk).1, (tput rfl rfl (by omega)).trans (hT k hk).2⟩, rfl, h60, h61, h62, h63, h64, rfl, h66, h67, h68, h69, h70, h71, h72, h73, h74, h75, h76, h77, h78, h79, h80⟩
set_option maxRecDepth 20000 in
set_option maxHeartbeats 1000000 in
theorem lc_book {p : Program} {l : Launch} {e : Env} {s : State} {m : MethodId} {below : List Frame} {meth : Method} {c : Code} {D : va_G} {C : Nat → ClassId} {b L i : Nat} {xs : Nat → Int32} {ad : Nat → Nat} {tp : Nat → Option Nat} (C0 : lw_At p s m meth c b L xs) (cx : CX p m c s #[Value.ref b] RL cL_law 4 D C (fun q : Nat => s.heap.size ≤ q) room_1 83) (hi : i + 6 ≤ L) (hL : L ≤ 3072) (hTp : LTape ad tp)
    (hk : ∀ (w : va_W) (H : Heap) (locs : List Loc) (ls : Array Slot), LI C ad tp w → HW D (fun q : Nat => s.heap.size ≤ q) s.heap H locs w → lv_has ls 4 [(0, .ref b), (1, .ref (ad 0)), (2, .ref (ad 59)), (3, .int (nI i))] → W p l e room_1 s m #[Value.ref b] below meth c H locs 81 2747 (lw_Z below #[Value.ref b] s) (F0 m 1303 ls []))
    {w : va_W} {H : Heap} {locs : List Loc} {ls : Array Slot} (hI : LI C ad tp w) (hw : HW D (fun q : Nat => s.heap.size ≤ q) s.heap H locs w) (hl : lv_has ls 4 [(0, .ref b), (1, .ref (ad 0)), (2, .ref (ad 59)), (3, .int (nI i))]) : W p l e room_1 s m #[Value.ref b] below meth c H locs 81 2747 (lw_Z below #[Value.ref b] s) (F0 m 952 ls []) := by
  obtain ⟨vi, va, vl, vj, ti, f, hR, rfl, F⟩ := hI
  have h0 := lf_h0 F
  have h1 := lf_h1 F
  have h2 := lf_h2 F
  have h3 := lf_h3 F
  have h4 := lf_h4 F
  have h5 := lf_h5 F
  have h6 := lf_h6 F
  have h7 := lf_h7 F
  have h8 := lf_h8 F
  have h9 := lf_h9 F
  have h10 := lf_h10 F
  have h11 := lf_h11 F
  have h12 := lf_h12 F
  have h13 := lf_h13 F
  have h14 := lf_h14 F
  have h15 := lf_h15 F
  have h16 := lf_h16 F
  have h17 := lf_h17 F
  have h18 := lf_h18 F
  have h19 := lf_h19 F
  have h20 := lf_h20 F
  have h21 := lf_h21 F
  have h22 := lf_h22 F
  have h23 := lf_h23 F
  have h24 := lf_h24 F
  have h25 := lf_h25 F
  have h26 := lf_h26 F
  have h27 := lf_h27 F
  have h28 := lf_h28 F
  have h29 := lf_h29 F
  have h30 := lf_h30 F
  have h31 := lf_h31 F
  have h32 := lf_h32 F
  have h33 := lf_h33 F
  have h34 := lf_h34 F
  have h35 := lf_h35 F
  have h36 := lf_h36 F
  have h37 := lf_h37 F
  have h38 := lf_h38 F
  have h39 := lf_h39 F
  have h40 := lf_h40 F
  have h41 := lf_h41 F
  have h42 := lf_h42 F
  have h43 := lf_h43 F
  have h44 := lf_h44 F
  have h45 := lf_h45 F
  have h46 := lf_h46 F
  have hT := lf_hT F
  have h59 := lf_h59 F
  have h60 := lf_h60 F
  have h61 := lf_h61 F
  have h62 := lf_h62 F
  have h63 := lf_h63 F
  have h64 := lf_h64 F
  have h65 := lf_h65 F
  have h66 := lf_h66 F
  have h67 := lf_h67 F
  have h68 := lf_h68 F
  have h69 := lf_h69 F
  have h70 := lf_h70 F
  have h71 := lf_h71 F
  have h72 := lf_h72 F
  have h73 := lf_h73 F
  have h74 := lf_h74 F
  have h75 := lf_h75 F
  have h76 := lf_h76 F
  have h77 := lf_h77 F
  have h78 := lf_h78 F
  have h79 := lf_h79 F
  have h80 := lf_h80 F
  have hx := cx.1
  have hb := cx.2.1
  obtain ⟨-, -, -, -, -, -, hX, hbl, -, -⟩ := id C0
  have hbA : ¬ (fun q : Nat => s.heap.size ≤ q) b := Nat.not_le.mpr hbl
  refine lv_aload_n hx hb dL_law_952 rfl (lv_at hl 1 rfl) ?_
  refine lv_aload_n hx hb dL_law_953 rfl (lv_at hl 0 rfl) ?_
  refine lv_iload_n hx hb dL_law_954 rfl (lv_at hl 3 rfl) ?_
  refine lv_iconst (v := 1) hx hb dL_law_955 (by decide) ?_
  refine lv_iadd hx hb dL_law_956 ?_
  refine va_sld hx hb hX hbl hbA hw.2.2 (lw_vin 1 1 rfl (by omega) hL) dL_law_957 ?_
  refine lv_topi (fun a1 ea1 => ?_)
  refine lv_aload_n hx hb dL_law_958 rfl (lv_at hl 0 rfl) ?_
  refine lv_iload_n hx hb dL_law_959 rfl (lv_at hl 3 rfl) ?_
  refine lv_iconst (v := 2) hx hb dL_law_960 (by decide) ?_
  refine lv_iadd hx hb dL_law_961 ?_
  refine va_sld hx hb hX hbl hbA hw.2.2 (lw_vin 2 2 rfl (by omega) hL) dL_law_962 ?_
  refine lv_topi (fun a2 ea2 => ?_)
  refine lv_aload_n hx hb dL_law_963 rfl (lv_at hl 0 rfl) ?_
  refine lv_iload_n hx hb dL_law_964 rfl (lv_at hl 3 rfl) ?_
  refine lv_iconst (v := 3) hx hb dL_law_965 (by decide) ?_
  refine lv_iadd hx hb dL_law_966 ?_
  refine va_sld hx hb hX hbl hbA hw.2.2 (lw_vin 3 3 rfl (by omega) hL) dL_law_967 ?_
  refine lv_topi (fun a3 ea3 => ?_)
  obtain ⟨zc, zm, hzc, hzm, he, hR2⟩ := p_book a1 a2 a3 hR
  refine cVL2 [.int zc.1] cx (CX8_book l D C (ad 0) (ad 1) (ad 15) (ad 29) (ad 32) (ad 36) (ad 44) (ad 46) (ad 2) (ad 5) (ad 7) (ad 9) (ad 11) (ad 13) (ad 14) 24 (vi 0) (vi 1) 8 (vi 6) (va 6) a1 a2 a3 zc hzc) lk_L_120 my_X8_book ml_X8_book ⟨by decide, by decide⟩ hw [0, 1, 13, 14] (ce h0 (ce h1 (ce h13 (ce h14 rfl)))) (by decide +kernel) rfl rfl rfl rfl (Nat.le_of_ble_eq_true rfl) dL_law_968 rfl (fun H locs hw => ?_) hl.1 ⟨Nat.le_of_ble_eq_true rfl, Nat.le_of_ble_eq_true rfl⟩
  refine lv_aload_n hx hb dL_law_971 rfl (lv_at hl 2 rfl) ?_
  refine lv_aload_n hx hb dL_law_972 rfl (lv_at hl 0 rfl) ?_
  refine lv_iload_n hx hb dL_law_973 rfl (lv_at hl 3 rfl) ?_
  refine lv_iconst (v := 1) hx hb dL_law_974 (by decide) ?_
  refine lv_iadd hx hb dL_law_975 ?_
  refine va_sld hx hb hX hbl hbA hw.2.2 (lw_vin 1 1 rfl (by omega) hL) dL_law_976 ?_
  refine lv_topi (fun y ey => ?_)
  obtain rfl : a1 = y := ea1.trans ey.symm
  refine lv_aload_n hx hb dL_law_977 rfl (lv_at hl 0 rfl) ?_
  refine lv_iload_n hx hb dL_law_978 rfl (lv_at hl 3 rfl) ?_
  refine lv_iconst (v := 2) hx hb dL_law_979 (by decide) ?_
  refine lv_iadd hx hb dL_law_980 ?_
  refine va_sld hx hb hX hbl hbA hw.2.2 (lw_vin 2 2 rfl (by omega) hL) dL_law_981 ?_
  refine lv_topi (fun y ey => ?_)
  obtain rfl : a2 = y := ea2.trans ey.symm
  refine lv_aload_n hx hb dL_law_982 rfl (lv_at hl 0 rfl) ?_
  refine lv_iload_n hx hb dL_law_983 rfl (lv_at hl 3 rfl) ?_
  refine lv_iconst (v := 3) hx hb dL_law_984 (by decide) ?_
  refine lv_iadd hx hb dL_law_985 ?_
  refine va_sld hx hb hX hbl hbA hw.2.2 (lw_vin 3 3 rfl (by omega) hL) dL_law_986 ?_
  refine lv_topi (fun y ey => ?_)
  obtain rfl : a3 = y := ea3.trans ey.symm
  refine cVL2 [.int zm.1, .int zc.1] cx (CX9_book l D C (ad 59) (ad 60) (ad 61) (ad 62) (ad 63) (ad 64) (ad 65) (ad 66) (ad 67) (ad 68) (ad 69) (ad 70) (ad 71) (ad 72) (ad 73) (ad 74) (ad 75) (ad 76) (ad 77) (ad 78) (ad 79) (ad 80) (vi 21) (vi 22) (vi 23) (vi 24) (vi 25) (vi 26) (vi 27) (vi 28) (vi 29) (vi 30) (vi 31) vl (vi 32) (vi 33) (vi 34) (va 32) a1 a2 a3 zm hzm) lk_L_123 my_X9_book ml_X9_book ⟨by decide, by decide⟩ hw [59, 66] (ce h59 (ce h66 rfl)) (by decide +kernel) rfl rfl rfl rfl (Nat.le_of_ble_eq_true rfl) dL_law_987 rfl (fun H locs hw => ?_) hl.1 ⟨Nat.le_of_ble_eq_true rfl, Nat.le_of_ble_eq_true rfl⟩
  refine lv_icmp_eq (tgt := 1303) hx hb dL_law_990 (by decide) (fun _ => ?_) (fun c9 => absurd he c9)
  refine (fun q9 => hk _ H locs ls q9 hw hl) ?_
  exact ⟨(ups (ups vi 6 zc.2.1) 26 zm.2.1), (ups (ups va 6 zc.2.2) 32 zm.2.2), vl, vj, ti, _, hR2, rfl, rfl, rfl, h2, h3, h4, h5, h6, h7, h8, h9, h10, h11, h12, rfl, rfl, h15, h16, h17, h18, h19, h20, h21, h22, h23, h24, h25, h26, h27, h28, h29, h30, h31, h32, h33, h34, h35, h36, h37, h38, h39, h40, h41, h42, h43, h44, h45, h46, fun k hk => ⟨(tput rfl rfl (by omega)).trans (hT k hk).1, (tput rfl rfl (by omega)).trans (hT k hk).2⟩, rfl, h60, h61, h62, h63, h64, h65, rfl, h67, h68, h69, h70, h71, h72, h73, h74, h75, h76, h77, h78, h79, h80⟩
set_option maxRecDepth 20000 in
set_option maxHeartbeats 1000000 in
theorem lc_count {p : Program} {l : Launch} {e : Env} {s : State} {m : MethodId} {below : List Frame} {meth : Method} {c : Code} {D : va_G} {C : Nat → ClassId} {b L i : Nat} {xs : Nat → Int32} {ad : Nat → Nat} {tp : Nat → Option Nat} (C0 : lw_At p s m meth c b L xs) (cx : CX p m c s #[Value.ref b] RL cL_law 4 D C (fun q : Nat => s.heap.size ≤ q) room_1 83) (hi : i + 6 ≤ L) (hL : L ≤ 3072) (hTp : LTape ad tp)
    (hk : ∀ (w : va_W) (H : Heap) (locs : List Loc) (ls : Array Slot), LI C ad tp w → HW D (fun q : Nat => s.heap.size ≤ q) s.heap H locs w → lv_has ls 4 [(0, .ref b), (1, .ref (ad 0)), (2, .ref (ad 59)), (3, .int (nI i))] → W p l e room_1 s m #[Value.ref b] below meth c H locs 81 2747 (lw_Z below #[Value.ref b] s) (F0 m 1303 ls []))
    {w : va_W} {H : Heap} {locs : List Loc} {ls : Array Slot} (hI : LI C ad tp w) (hw : HW D (fun q : Nat => s.heap.size ≤ q) s.heap H locs w) (hl : lv_has ls 4 [(0, .ref b), (1, .ref (ad 0)), (2, .ref (ad 59)), (3, .int (nI i))]) : W p l e room_1 s m #[Value.ref b] below meth c H locs 81 2747 (lw_Z below #[Value.ref b] s) (F0 m 1067 ls []) := by
  obtain ⟨vi, va, vl, vj, ti, f, hR, rfl, F⟩ := hI
  have h0 := lf_h0 F
  have h1 := lf_h1 F
  have h2 := lf_h2 F
  have h3 := lf_h3 F
  have h4 := lf_h4 F
  have h5 := lf_h5 F
  have h6 := lf_h6 F
  have h7 := lf_h7 F
  have h8 := lf_h8 F
  have h9 := lf_h9 F
  have h10 := lf_h10 F
  have h11 := lf_h11 F
  have h12 := lf_h12 F
  have h13 := lf_h13 F
  have h14 := lf_h14 F
  have h15 := lf_h15 F
  have h16 := lf_h16 F
  have h17 := lf_h17 F
  have h18 := lf_h18 F
  have h19 := lf_h19 F
  have h20 := lf_h20 F
  have h21 := lf_h21 F
  have h22 := lf_h22 F
  have h23 := lf_h23 F
  have h24 := lf_h24 F
  have h25 := lf_h25 F
  have h26 := lf_h26 F
  have h27 := lf_h27 F
  have h28 := lf_h28 F
  have h29 := lf_h29 F
  have h30 := lf_h30 F
  have h31 := lf_h31 F
  have h32 := lf_h32 F
  have h33 := lf_h33 F
  have h34 := lf_h34 F
  have h35 := lf_h35 F
  have h36 := lf_h36 F
  have h37 := lf_h37 F
  have h38 := lf_h38 F
  have h39 := lf_h39 F
  have h40 := lf_h40 F
  have h41 := lf_h41 F
  have h42 := lf_h42 F
  have h43 := lf_h43 F
  have h44 := lf_h44 F
  have h45 := lf_h45 F
  have h46 := lf_h46 F
  have hT := lf_hT F
  have h59 := lf_h59 F
  have h60 := lf_h60 F
  have h61 := lf_h61 F
  have h62 := lf_h62 F
  have h63 := lf_h63 F
  have h64 := lf_h64 F
  have h65 := lf_h65 F
  have h66 := lf_h66 F
  have h67 := lf_h67 F
  have h68 := lf_h68 F
  have h69 := lf_h69 F
  have h70 := lf_h70 F
  have h71 := lf_h71 F
  have h72 := lf_h72 F
  have h73 := lf_h73 F
  have h74 := lf_h74 F
  have h75 := lf_h75 F
  have h76 := lf_h76 F
  have h77 := lf_h77 F
  have h78 := lf_h78 F
  have h79 := lf_h79 F
  have h80 := lf_h80 F
  have hx := cx.1
  have hb := cx.2.1
  obtain ⟨-, -, -, -, -, -, hX, hbl, -, -⟩ := id C0
  have hbA : ¬ (fun q : Nat => s.heap.size ≤ q) b := Nat.not_le.mpr hbl
  refine lv_aload_n hx hb dL_law_1067 rfl (lv_at hl 1 rfl) ?_
  refine lv_aload_n hx hb dL_law_1068 rfl (lv_at hl 0 rfl) ?_
  refine lv_iload_n hx hb dL_law_1069 rfl (lv_at hl 3 rfl) ?_
  refine lv_iconst (v := 1) hx hb dL_law_1070 (by decide) ?_
  refine lv_iadd hx hb dL_law_1071 ?_
  refine va_sld hx hb hX hbl hbA hw.2.2 (lw_vin 1 1 rfl (by omega) hL) dL_law_1072 ?_
  refine lv_topi (fun a1 ea1 => ?_)
  obtain ⟨zc, zm, hzc, hzm, he, hR2⟩ := p_count a1 hR
  refine cVL2 [.int zc] cx (CX8_count l D C (ad 0) (ad 1) (ad 15) (ad 29) (ad 32) (ad 36) (ad 44) (ad 46) (ad 2) (ad 5) (ad 7) (ad 9) (ad 11) (ad 13) (ad 10) (ad 12) (ad 14) (ad 45) (vi 0) (vi 1) 5 (vi 4) 8 (vi 5) 8 (vi 6) (vi 20) a1 zc hzc) lk_L_140 my_X8_count ml_X8_count ⟨by decide, by decide⟩ hw [0, 1, 9, 11, 13, 44] (ce h0 (ce h1 (ce h9 (ce h11 (ce h13 (ce h44 rfl)))))) (by decide +kernel) rfl rfl rfl rfl (Nat.le_of_ble_eq_true rfl) dL_law_1073 rfl (fun H locs hw => ?_) hl.1 ⟨Nat.le_of_ble_eq_true rfl, Nat.le_of_ble_eq_true rfl⟩
  refine lv_aload_n hx hb dL_law_1076 rfl (lv_at hl 2 rfl) ?_
  refine lv_aload_n hx hb dL_law_1077 rfl (lv_at hl 0 rfl) ?_
  refine lv_iload_n hx hb dL_law_1078 rfl (lv_at hl 3 rfl) ?_
  refine lv_iconst (v := 1) hx hb dL_law_1079 (by decide) ?_
  refine lv_iadd hx hb dL_law_1080 ?_
  refine va_sld hx hb hX hbl hbA hw.2.2 (lw_vin 1 1 rfl (by omega) hL) dL_law_1081 ?_
  refine lv_topi (fun y ey => ?_)
  obtain rfl : a1 = y := ea1.trans ey.symm
  refine cVL2 [.int zm, .int zc] cx (CX9_count l D C (ad 59) (ad 60) (ad 61) (ad 62) (ad 63) (ad 64) (ad 65) (ad 66) (ad 67) (ad 68) (ad 69) (ad 70) (ad 71) (ad 72) (ad 73) (ad 74) (ad 75) (ad 76) (ad 77) (ad 78) (ad 79) (ad 80) (vi 21) (vi 22) (vi 23) (vi 24) (vi 25) (vi 26) (vi 27) (vi 28) (vi 29) (vi 30) (vi 31) vl (vi 32) (vi 33) (vi 34) a1 zm hzm) lk_L_143 my_X9_count ml_X9_count ⟨by decide, by decide⟩ hw [59] (ce h59 rfl) (by decide +kernel) rfl rfl rfl rfl (Nat.le_of_ble_eq_true rfl) dL_law_1082 rfl (fun H locs hw => ?_) hl.1 ⟨Nat.le_of_ble_eq_true rfl, Nat.le_of_ble_eq_true rfl⟩
  refine lv_icmp_eq (tgt := 1303) hx hb dL_law_1085 (by decide) (fun _ => ?_) (fun c9 => absurd he c9)
  refine (fun q9 => hk _ H locs ls q9 hw hl) ?_
  exact ⟨vi, va, vl, vj, ti, _, hR2, rfl, rfl, rfl, h2, h3, h4, h5, h6, h7, h8, rfl, h10, rfl, h12, rfl, h14, h15, h16, h17, h18, h19, h20, h21, h22, h23, h24, h25, h26, h27, h28, h29, h30, h31, h32, h33, h34, h35, h36, h37, h38, h39, h40, h41, h42, h43, rfl, h45, h46, fun k hk => ⟨(tput rfl rfl (by omega)).trans (hT k hk).1, (tput rfl rfl (by omega)).trans (hT k hk).2⟩, rfl, h60, h61, h62, h63, h64, h65, h66, h67, h68, h69, h70, h71, h72, h73, h74, h75, h76, h77, h78, h79, h80⟩
