set_option maxRecDepth 20000 in
set_option maxHeartbeats 1000000 in
theorem lc_told {p : Program} {l : Launch} {e : Env} {s : State} {m : MethodId} {below : List Frame} {meth : Method} {c : Code} {D : va_G} {C : Nat → ClassId} {b L i : Nat} {xs : Nat → Int32} {ad : Nat → Nat} {tp : Nat → Option Nat} (C0 : lw_At p s m meth c b L xs) (cx : CX p m c s #[Value.ref b] RL cL_law 4 D C (fun q : Nat => s.heap.size ≤ q) room_1 83) (hi : i + 6 ≤ L) (hL : L ≤ 3072) (hTp : LTape ad tp)
    (hk : ∀ (w : va_W) (H : Heap) (locs : List Loc) (ls : Array Slot), LI C ad tp w → HW D (fun q : Nat => s.heap.size ≤ q) s.heap H locs w → lv_has ls 4 [(0, .ref b), (1, .ref (ad 0)), (2, .ref (ad 59)), (3, .int (nI i))] → W p l e room_1 s m #[Value.ref b] below meth c H locs 81 2747 (lw_Z below #[Value.ref b] s) (F0 m 1303 ls []))
    {w : va_W} {H : Heap} {locs : List Loc} {ls : Array Slot} (hI : LI C ad tp w) (hw : HW D (fun q : Nat => s.heap.size ≤ q) s.heap H locs w) (hl : lv_has ls 4 [(0, .ref b), (1, .ref (ad 0)), (2, .ref (ad 59)), (3, .int (nI i))]) : W p l e room_1 s m #[Value.ref b] below meth c H locs 81 2747 (lw_Z below #[Value.ref b] s) (F0 m 696 ls []) := by
  obtain ⟨vi, va, vl, vj, ti, f, hR, rfl, F⟩ := hI
  have h0 := lf_h0 F
  have h1 := lf_h1 F
  have h2 := lf_h2 F
  have h3 := lf_h3 F
  have h4 := lf_h4 F
  have h5 := lf_h5 F
  have h6 := lf_h6 F
  have h7 := lf_h7 F
  have h8 := lf_h8 F
  have h9 := lf_h9 F
  have h10 := lf_h10 F
  have h11 := lf_h11 F
  have h12 := lf_h12 F
  have h13 := lf_h13 F
  have h14 := lf_h14 F
  have h15 := lf_h15 F
  have h16 := lf_h16 F
  have h17 := lf_h17 F
  have h18 := lf_h18 F
  have h19 := lf_h19 F
  have h20 := lf_h20 F
  have h21 := lf_h21 F
  have h22 := lf_h22 F
  have h23 := lf_h23 F
  have h24 := lf_h24 F
  have h25 := lf_h25 F
  have h26 := lf_h26 F
  have h27 := lf_h27 F
  have h28 := lf_h28 F
  have h29 := lf_h29 F
  have h30 := lf_h30 F
  have h31 := lf_h31 F
  have h32 := lf_h32 F
  have h33 := lf_h33 F
  have h34 := lf_h34 F
  have h35 := lf_h35 F
  have h36 := lf_h36 F
  have h37 := lf_h37 F
  have h38 := lf_h38 F
  have h39 := lf_h39 F
  have h40 := lf_h40 F
  have h41 := lf_h41 F
  have h42 := lf_h42 F
  have h43 := lf_h43 F
  have h44 := lf_h44 F
  have h45 := lf_h45 F
  have h46 := lf_h46 F
  have hT := lf_hT F
  have h59 := lf_h59 F
  have h60 := lf_h60 F
  have h61 := lf_h61 F
  have h62 := lf_h62 F
  have h63 := lf_h63 F
  have h64 := lf_h64 F
  have h65 := lf_h65 F
  have h66 := lf_h66 F
  have h67 := lf_h67 F
  have h68 := lf_h68 F
  have h69 := lf_h69 F
  have h70 := lf_h70 F
  have h71 := lf_h71 F
  have h72 := lf_h72 F
  have h73 := lf_h73 F
  have h74 := lf_h74 F
  have h75 := lf_h75 F
  have h76 := lf_h76 F
  have h77 := lf_h77 F
  have h78 := lf_h78 F
  have h79 := lf_h79 F
  have h80 := lf_h80 F
  have hx := cx.1
  have hb := cx.2.1
  obtain ⟨-, -, -, -, -, -, hX, hbl, -, -⟩ := id C0
  have hbA : ¬ (fun q : Nat => s.heap.size ≤ q) b := Nat.not_le.mpr hbl
  refine lv_aload_n hx hb dL_law_696 rfl (lv_at hl 1 rfl) ?_
  refine lv_aload_n hx hb dL_law_697 rfl (lv_at hl 0 rfl) ?_
  refine lv_iload_n hx hb dL_law_698 rfl (lv_at hl 3 rfl) ?_
  refine lv_iconst (v := 1) hx hb dL_law_699 (by decide) ?_
  refine lv_iadd hx hb dL_law_700 ?_
  refine va_sld hx hb hX hbl hbA hw.2.2 (lw_vin 1 1 rfl (by omega) hL) dL_law_701 ?_
  refine lv_topi (fun a1 ea1 => ?_)
  obtain ⟨zc, zm, hzc, hzm, he, hR2⟩ := p_told a1 hR
  refine cVL2 [.int zc.1] cx (CX8_told l D C (ad 0) (ad 1) (ad 15) (ad 29) (ad 32) (ad 36) (ad 44) (ad 46) (ad 2) (ad 5) (ad 7) (ad 9) (ad 11) (ad 13) (ad 3) (ad 4) (ad 6) (ad 8) (ad 33) (ad 34) (ad 35) (ad 37) (ad 38) (ad 39) (ad 40) (ad 41) (ad 42) (ad 43) 18 (vi 0) (vi 1) (vi 2) (va 0) (va 2) 40 (vi 3) (vi 14) (vi 15) (vi 16) (vi 17) (va 16) (va 17) (va 18) (vi 18) (va 19) (va 20) (va 21) (va 22) (va 23) 6 (vi 19) (va 24) a1 zc hzc) lk_L_87 my_X8_told ml_X8_told ⟨by decide, by decide⟩ hw [0, 1, 2, 3, 5, 6, 7, 32, 33, 34, 35, 36, 37, 38, 39, 40, 41, 42, 43] (ce h0 (ce h1 (ce h2 (ce h3 (ce h5 (ce h6 (ce h7 (ce h32 (ce h33 (ce h34 (ce h35 (ce h36 (ce h37 (ce h38 (ce h39 (ce h40 (ce h41 (ce h42 (ce h43 rfl))))))))))))))))))) (by decide +kernel) rfl rfl rfl rfl (Nat.le_of_ble_eq_true rfl) dL_law_702 rfl (fun H locs hw => ?_) hl.1 ⟨Nat.le_of_ble_eq_true rfl, Nat.le_of_ble_eq_true rfl⟩
  refine lv_aload_n hx hb dL_law_705 rfl (lv_at hl 2 rfl) ?_
  refine lv_aload_n hx hb dL_law_706 rfl (lv_at hl 0 rfl) ?_
  refine lv_iload_n hx hb dL_law_707 rfl (lv_at hl 3 rfl) ?_
  refine lv_iconst (v := 1) hx hb dL_law_708 (by decide) ?_
  refine lv_iadd hx hb dL_law_709 ?_
  refine va_sld hx hb hX hbl hbA hw.2.2 (lw_vin 1 1 rfl (by omega) hL) dL_law_710 ?_
  refine lv_topi (fun y ey => ?_)
  obtain rfl : a1 = y := ea1.trans ey.symm
  refine cVL2 [.int zm.1, .int zc.1] cx (CX9_told l D C (ad 59) (ad 60) (ad 61) (ad 62) (ad 63) (ad 64) (ad 65) (ad 66) (ad 67) (ad 68) (ad 69) (ad 70) (ad 71) (ad 72) (ad 73) (ad 74) (ad 75) (ad 76) (ad 77) (ad 78) (ad 79) (ad 80) (vi 21) (vi 22) (vi 23) (vi 24) (vi 25) (vi 26) (vi 27) (vi 28) (vi 29) (vi 30) (vi 31) vl (vi 32) (vi 33) (vi 34) (va 26) (va 27) (va 28) (va 34) (va 35) (va 36) (va 37) (va 38) (va 39) (va 40) (va 41) a1 zm hzm) lk_L_90 my_X9_told ml_X9_told ⟨by decide, by decide⟩ hw [59, 60, 61, 62, 68, 69, 70, 71, 72, 73, 74, 75] (ce h59 (ce h60 (ce h61 (ce h62 (ce h68 (ce h69 (ce h70 (ce h71 (ce h72 (ce h73 (ce h74 (ce h75 rfl)))))))))))) (by decide +kernel) rfl rfl rfl rfl (Nat.le_of_ble_eq_true rfl) dL_law_711 rfl (fun H locs hw => ?_) hl.1 ⟨Nat.le_of_ble_eq_true rfl, Nat.le_of_ble_eq_true rfl⟩
  refine lv_icmp_eq (tgt := 1303) hx hb dL_law_714 (by decide) (fun _ => ?_) (fun c9 => absurd he c9)
  refine (fun q9 => hk _ H locs ls q9 hw hl) ?_
  exact ⟨(ups (ups (ups (ups (ups (ups (ups (ups (ups (ups (ups (ups vi 14 zc.2.1) 15 zc.2.2.1) 16 zc.2.2.2.1) 17 zc.2.2.2.2.1) 18 zc.2.2.2.2.2.2.2.2.1) 19 zc.2.2.2.2.2.2.2.2.2.2.2.2.2.2.1) 28 zm.2.1) 29 zm.2.2.1) 30 zm.2.2.2.1) 31 zm.2.2.2.2.1) 32 zm.2.2.2.2.2.2.1) 33 zm.2.2.2.2.2.2.2.1), (ups (ups (ups (ups (ups (ups (ups (ups (ups (ups (ups (ups (ups (ups (ups (ups (ups va 16 zc.2.2.2.2.2.1) 17 zc.2.2.2.2.2.2.1) 18 zc.2.2.2.2.2.2.2.1) 19 zc.2.2.2.2.2.2.2.2.2.1) 20 zc.2.2.2.2.2.2.2.2.2.2.1) 21 zc.2.2.2.2.2.2.2.2.2.2.2.1) 22 zc.2.2.2.2.2.2.2.2.2.2.2.2.1) 23 zc.2.2.2.2.2.2.2.2.2.2.2.2.2.1) 24 zc.2.2.2.2.2.2.2.2.2.2.2.2.2.2.2) 34 zm.2.2.2.2.2.2.2.2.1) 35 zm.2.2.2.2.2.2.2.2.2.1) 36 zm.2.2.2.2.2.2.2.2.2.2.1) 37 zm.2.2.2.2.2.2.2.2.2.2.2.1) 38 zm.2.2.2.2.2.2.2.2.2.2.2.2.1) 39 zm.2.2.2.2.2.2.2.2.2.2.2.2.2.1) 40 zm.2.2.2.2.2.2.2.2.2.2.2.2.2.2.1) 41 zm.2.2.2.2.2.2.2.2.2.2.2.2.2.2.2), zm.2.2.2.2.2.1, vj, ti, _, hR2, rfl, rfl, rfl, rfl, rfl, h4, rfl, rfl, rfl, h8, h9, h10, h11, h12, h13, h14, h15, h16, h17, h18, h19, h20, h21, h22, h23, h24, h25, h26, h27, h28, h29, h30, h31, rfl, rfl, rfl, rfl, rfl, rfl, rfl, rfl, rfl, rfl, rfl, rfl, h44, h45, h46, fun k hk => ⟨(tput rfl rfl (by omega)).trans (hT k hk).1, (tput rfl rfl (by omega)).trans (hT k hk).2⟩, rfl, rfl, rfl, rfl, h63, h64, h65, h66, h67, rfl, rfl, rfl, rfl, rfl, rfl, rfl, rfl, h76, h77, h78, h79, h80⟩
set_option maxRecDepth 20000 in
set_option maxHeartbeats 1000000 in
theorem lc_without {p : Program} {l : Launch} {e : Env} {s : State} {m : MethodId} {below : List Frame} {meth : Method} {c : Code} {D : va_G} {C : Nat → ClassId} {b L i : Nat} {xs : Nat → Int32} {ad : Nat → Nat} {tp : Nat → Option Nat} (C0 : lw_At p s m meth c b L xs) (cx : CX p m c s #[Value.ref b] RL cL_law 4 D C (fun q : Nat => s.heap.size ≤ q) room_1 83) (hi : i + 6 ≤ L) (hL : L ≤ 3072) (hTp : LTape ad tp)
    (hk : ∀ (w : va_W) (H : Heap) (locs : List Loc) (ls : Array Slot), LI C ad tp w → HW D (fun q : Nat => s.heap.size ≤ q) s.heap H locs w → lv_has ls 4 [(0, .ref b), (1, .ref (ad 0)), (2, .ref (ad 59)), (3, .int (nI i))] → W p l e room_1 s m #[Value.ref b] below meth c H locs 81 2747 (lw_Z below #[Value.ref b] s) (F0 m 1303 ls []))
    {w : va_W} {H : Heap} {locs : List Loc} {ls : Array Slot} (hI : LI C ad tp w) (hw : HW D (fun q : Nat => s.heap.size ≤ q) s.heap H locs w) (hl : lv_has ls 4 [(0, .ref b), (1, .ref (ad 0)), (2, .ref (ad 59)), (3, .int (nI i))]) : W p l e room_1 s m #[Value.ref b] below meth c H locs 81 2747 (lw_Z below #[Value.ref b] s) (F0 m 719 ls []) := by
  obtain ⟨vi, va, vl, vj, ti, f, hR, rfl, F⟩ := hI
  have h0 := lf_h0 F
  have h1 := lf_h1 F
  have h2 := lf_h2 F
  have h3 := lf_h3 F
  have h4 := lf_h4 F
  have h5 := lf_h5 F
  have h6 := lf_h6 F
  have h7 := lf_h7 F
  have h8 := lf_h8 F
  have h9 := lf_h9 F
  have h10 := lf_h10 F
  have h11 := lf_h11 F
  have h12 := lf_h12 F
  have h13 := lf_h13 F
  have h14 := lf_h14 F
  have h15 := lf_h15 F
  have h16 := lf_h16 F
  have h17 := lf_h17 F
  have h18 := lf_h18 F
  have h19 := lf_h19 F
  have h20 := lf_h20 F
  have h21 := lf_h21 F
  have h22 := lf_h22 F
  have h23 := lf_h23 F
  have h24 := lf_h24 F
  have h25 := lf_h25 F
  have h26 := lf_h26 F
  have h27 := lf_h27 F
  have h28 := lf_h28 F
  have h29 := lf_h29 F
  have h30 := lf_h30 F
  have h31 := lf_h31 F
  have h32 := lf_h32 F
  have h33 := lf_h33 F
  have h34 := lf_h34 F
  have h35 := lf_h35 F
  have h36 := lf_h36 F
  have h37 := lf_h37 F
  have h38 := lf_h38 F
  have h39 := lf_h39 F
  have h40 := lf_h40 F
  have h41 := lf_h41 F
  have h42 := lf_h42 F
  have h43 := lf_h43 F
  have h44 := lf_h44 F
  have h45 := lf_h45 F
  have h46 := lf_h46 F
  have hT := lf_hT F
  have h59 := lf_h59 F
  have h60 := lf_h60 F
  have h61 := lf_h61 F
  have h62 := lf_h62 F
  have h63 := lf_h63 F
  have h64 := lf_h64 F
  have h65 := lf_h65 F
  have h66 := lf_h66 F
  have h67 := lf_h67 F
  have h68 := lf_h68 F
  have h69 := lf_h69 F
  have h70 := lf_h70 F
  have h71 := lf_h71 F
  have h72 := lf_h72 F
  have h73 := lf_h73 F
  have h74 := lf_h74 F
  have h75 := lf_h75 F
  have h76 := lf_h76 F
  have h77 := lf_h77 F
  have h78 := lf_h78 F
  have h79 := lf_h79 F
  have h80 := lf_h80 F
  have hx := cx.1
  have hb := cx.2.1
  obtain ⟨-, -, -, -, -, -, hX, hbl, -, -⟩ := id C0
  have hbA : ¬ (fun q : Nat => s.heap.size ≤ q) b := Nat.not_le.mpr hbl
  refine lv_aload_n hx hb dL_law_719 rfl (lv_at hl 1 rfl) ?_
  refine lv_aload_n hx hb dL_law_720 rfl (lv_at hl 0 rfl) ?_
  refine lv_iload_n hx hb dL_law_721 rfl (lv_at hl 3 rfl) ?_
  refine lv_iconst (v := 1) hx hb dL_law_722 (by decide) ?_
  refine lv_iadd hx hb dL_law_723 ?_
  refine va_sld hx hb hX hbl hbA hw.2.2 (lw_vin 1 1 rfl (by omega) hL) dL_law_724 ?_
  refine lv_topi (fun a1 ea1 => ?_)
  obtain ⟨zc, zm, hzc, hzm, he, hR2⟩ := p_without a1 hR
  refine cVL2 [.int zc.1] cx (CX8_without l D C (ad 0) (ad 1) (ad 15) (ad 29) (ad 32) (ad 36) (ad 44) (ad 46) (ad 2) (ad 5) (ad 7) (ad 9) (ad 11) (ad 13) (ad 3) (ad 4) (ad 30) (ad 31) (ad 37) (ad 38) (ad 39) (ad 40) (ad 41) (ad 42) (ad 43) 18 (vi 0) (vi 1) (vi 2) (va 0) (va 1) (vi 13) (va 14) (va 15) (vi 18) (va 19) (va 20) (va 21) (va 22) (va 23) 6 (vi 19) (va 24) a1 zc hzc) lk_L_91 my_X8_without ml_X8_without ⟨by decide, by decide⟩ hw [0, 1, 2, 3, 4, 29, 30, 31, 36, 37, 38, 39, 40, 41, 42, 43] (ce h0 (ce h1 (ce h2 (ce h3 (ce h4 (ce h29 (ce h30 (ce h31 (ce h36 (ce h37 (ce h38 (ce h39 (ce h40 (ce h41 (ce h42 (ce h43 rfl)))))))))))))))) (by decide +kernel) rfl rfl rfl rfl (Nat.le_of_ble_eq_true rfl) dL_law_725 rfl (fun H locs hw => ?_) hl.1 ⟨Nat.le_of_ble_eq_true rfl, Nat.le_of_ble_eq_true rfl⟩
  refine lv_aload_n hx hb dL_law_728 rfl (lv_at hl 2 rfl) ?_
  refine lv_aload_n hx hb dL_law_729 rfl (lv_at hl 0 rfl) ?_
  refine lv_iload_n hx hb dL_law_730 rfl (lv_at hl 3 rfl) ?_
  refine lv_iconst (v := 1) hx hb dL_law_731 (by decide) ?_
  refine lv_iadd hx hb dL_law_732 ?_
  refine va_sld hx hb hX hbl hbA hw.2.2 (lw_vin 1 1 rfl (by omega) hL) dL_law_733 ?_
  refine lv_topi (fun y ey => ?_)
  obtain rfl : a1 = y := ea1.trans ey.symm
  refine cVL2 [.int zm.1, .int zc.1] cx (CX9_without l D C (ad 59) (ad 60) (ad 61) (ad 62) (ad 63) (ad 64) (ad 65) (ad 66) (ad 67) (ad 68) (ad 69) (ad 70) (ad 71) (ad 72) (ad 73) (ad 74) (ad 75) (ad 76) (ad 77) (ad 78) (ad 79) (ad 80) (vi 21) (vi 22) (vi 23) (vi 24) (vi 25) (vi 26) (vi 27) (vi 28) (vi 29) (vi 30) (vi 31) vl (vi 32) (vi 33) (vi 34) (va 26) (va 28) (va 36) (va 37) (va 38) (va 39) (va 40) (va 41) (va 42) a1 zm hzm) lk_L_94 my_X9_without ml_X9_without ⟨by decide, by decide⟩ hw [59, 60, 62, 70, 71, 72, 73, 74, 75, 76] (ce h59 (ce h60 (ce h62 (ce h70 (ce h71 (ce h72 (ce h73 (ce h74 (ce h75 (ce h76 rfl)))))))))) (by decide +kernel) rfl rfl rfl rfl (Nat.le_of_ble_eq_true rfl) dL_law_734 rfl (fun H locs hw => ?_) hl.1 ⟨Nat.le_of_ble_eq_true rfl, Nat.le_of_ble_eq_true rfl⟩
  refine lv_icmp_eq (tgt := 1303) hx hb dL_law_737 (by decide) (fun _ => ?_) (fun c9 => absurd he c9)
  refine (fun q9 => hk _ H locs ls q9 hw hl) ?_
  exact ⟨(ups (ups (ups (ups (ups (ups vi 13 zc.2.1) 18 zc.2.2.2.2.1) 19 zc.2.2.2.2.2.2.2.2.2.2.1) 22 zm.2.1) 32 zm.2.2.1) 33 zm.2.2.2.1), (ups (ups (ups (ups (ups (ups (ups (ups (ups (ups (ups (ups (ups (ups (ups (ups (ups va 14 zc.2.2.1) 15 zc.2.2.2.1) 19 zc.2.2.2.2.2.1) 20 zc.2.2.2.2.2.2.1) 21 zc.2.2.2.2.2.2.2.1) 22 zc.2.2.2.2.2.2.2.2.1) 23 zc.2.2.2.2.2.2.2.2.2.1) 24 zc.2.2.2.2.2.2.2.2.2.2.2) 26 zm.2.2.2.2.1) 28 zm.2.2.2.2.2.1) 36 zm.2.2.2.2.2.2.1) 37 zm.2.2.2.2.2.2.2.1) 38 zm.2.2.2.2.2.2.2.2.1) 39 zm.2.2.2.2.2.2.2.2.2.1) 40 zm.2.2.2.2.2.2.2.2.2.2.1) 41 zm.2.2.2.2.2.2.2.2.2.2.2.1) 42 zm.2.2.2.2.2.2.2.2.2.2.2.2), vl, vj, ti, _, hR2, rfl, rfl, rfl, rfl, rfl, rfl, h5, h6, h7, h8, h9, h10, h11, h12, h13, h14, h15, h16, h17, h18, h19, h20, h21, h22, h23, h24, h25, h26, h27, h28, rfl, rfl, rfl, h32, h33, h34, h35, rfl, rfl, rfl, rfl, rfl, rfl, rfl, rfl, h44, h45, h46, fun k hk => ⟨(tput rfl rfl (by omega)).trans (hT k hk).1, (tput rfl rfl (by omega)).trans (hT k hk).2⟩, rfl, rfl, h61, rfl, h63, h64, h65, h66, h67, h68, h69, rfl, rfl, rfl, rfl, rfl, rfl, rfl, h77, h78, h79, h80⟩
set_option maxRecDepth 20000 in
set_option maxHeartbeats 1000000 in
theorem lc_fits {p : Program} {l : Launch} {e : Env} {s : State} {m : MethodId} {below : List Frame} {meth : Method} {c : Code} {D : va_G} {C : Nat → ClassId} {b L i : Nat} {xs : Nat → Int32} {ad : Nat → Nat} {tp : Nat → Option Nat} (C0 : lw_At p s m meth c b L xs) (cx : CX p m c s #[Value.ref b] RL cL_law 4 D C (fun q : Nat => s.heap.size ≤ q) room_1 83) (hi : i + 6 ≤ L) (hL : L ≤ 3072) (hTp : LTape ad tp)
    (hk : ∀ (w : va_W) (H : Heap) (locs : List Loc) (ls : Array Slot), LI C ad tp w → HW D (fun q : Nat => s.heap.size ≤ q) s.heap H locs w → lv_has ls 4 [(0, .ref b), (1, .ref (ad 0)), (2, .ref (ad 59)), (3, .int (nI i))] → W p l e room_1 s m #[Value.ref b] below meth c H locs 81 2747 (lw_Z below #[Value.ref b] s) (F0 m 1303 ls []))
    {w : va_W} {H : Heap} {locs : List Loc} {ls : Array Slot} (hI : LI C ad tp w) (hw : HW D (fun q : Nat => s.heap.size ≤ q) s.heap H locs w) (hl : lv_has ls 4 [(0, .ref b), (1, .ref (ad 0)), (2, .ref (ad 59)), (3, .int (nI i))]) : W p l e room_1 s m #[Value.ref b] below meth c H locs 81 2747 (lw_Z below #[Value.ref b] s) (F0 m 785 ls []) := by
  obtain ⟨vi, va, vl, vj, ti, f, hR, rfl, F⟩ := hI
  have h0 := lf_h0 F
  have h1 := lf_h1 F
  have h2 := lf_h2 F
  have h3 := lf_h3 F
  have h4 := lf_h4 F
  have h5 := lf_h5 F
  have h6 := lf_h6 F
  have h7 := lf_h7 F
  have h8 := lf_h8 F
  have h9 := lf_h9 F
  have h10 := lf_h10 F
  have h11 := lf_h11 F
  have h12 := lf_h12 F
  have h13 := lf_h13 F
  have h14 := lf_h14 F
  have h15 := lf_h15 F
  have h16 := lf_h16 F
  have h17 := lf_h17 F
  have h18 := lf_h18 F
  have h19 := lf_h19 F
  have h20 := lf_h20 F
  have h21 := lf_h21 F
  have h22 := lf_h22 F
  have h23 := lf_h23 F
  have h24 := lf_h24 F
  have h25 := lf_h25 F
  have h26 := lf_h26 F
  have h27 := lf_h27 F
  have h28 := lf_h28 F
  have h29 := lf_h29 F
  have h30 := lf_h30 F
  have h31 := lf_h31 F
  have h32 := lf_h32 F
  have h33 := lf_h33 F
  have h34 := lf_h34 F
  have h35 := lf_h35 F
  have h36 := lf_h36 F
  have h37 := lf_h37 F
  have h38 := lf_h38 F
  have h39 := lf_h39 F
  have h40 := lf_h40 F
  have h41 := lf_h41 F
  have h42 := lf_h42 F
  have h43 := lf_h43 F
  have h44 := lf_h44 F
  have h45 := lf_h45 F
  have h46 := lf_h46 F
  have hT := lf_hT F
  have h59 := lf_h59 F
  have h60 := lf_h60 F
  have h61 := lf_h61 F
  have h62 := lf_h62 F
  have h63 := lf_h63 F
  have h64 := lf_h64 F
  have h65 := lf_h65 F
  have h66 := lf_h66 F
  have h67 := lf_h67 F
  have h68 := lf_h68 F
  have h69 := lf_h69 F
  have h70 := lf_h70 F
  have h71 := lf_h71 F
  have h72 := lf_h72 F
  have h73 := lf_h73 F
  have h74 := lf_h74 F
  have h75 := lf_h75 F
  have h76 := lf_h76 F
  have h77 := lf_h77 F
  have h78 := lf_h78 F
  have h79 := lf_h79 F
  have h80 := lf_h80 F
  have hx := cx.1
  have hb := cx.2.1
  obtain ⟨-, -, -, -, -, -, hX, hbl, -, -⟩ := id C0
  have hbA : ¬ (fun q : Nat => s.heap.size ≤ q) b := Nat.not_le.mpr hbl
  refine lv_aload_n hx hb dL_law_785 rfl (lv_at hl 1 rfl) ?_
  refine lv_aload_n hx hb dL_law_786 rfl (lv_at hl 0 rfl) ?_
  refine lv_iload_n hx hb dL_law_787 rfl (lv_at hl 3 rfl) ?_
  refine lv_iconst (v := 1) hx hb dL_law_788 (by decide) ?_
  refine lv_iadd hx hb dL_law_789 ?_
  refine va_sld hx hb hX hbl hbA hw.2.2 (lw_vin 1 1 rfl (by omega) hL) dL_law_790 ?_
  refine lv_topi (fun a1 ea1 => ?_)
  refine lv_aload_n hx hb dL_law_791 rfl (lv_at hl 0 rfl) ?_
  refine lv_iload_n hx hb dL_law_792 rfl (lv_at hl 3 rfl) ?_
  refine lv_iconst (v := 2) hx hb dL_law_793 (by decide) ?_
  refine lv_iadd hx hb dL_law_794 ?_
  refine va_sld hx hb hX hbl hbA hw.2.2 (lw_vin 2 2 rfl (by omega) hL) dL_law_795 ?_
  refine lv_topi (fun a2 ea2 => ?_)
  refine lv_aload_n hx hb dL_law_796 rfl (lv_at hl 0 rfl) ?_
  refine lv_iload_n hx hb dL_law_797 rfl (lv_at hl 3 rfl) ?_
  refine lv_iconst (v := 3) hx hb dL_law_798 (by decide) ?_
  refine lv_iadd hx hb dL_law_799 ?_
  refine va_sld hx hb hX hbl hbA hw.2.2 (lw_vin 3 3 rfl (by omega) hL) dL_law_800 ?_
  refine lv_topi (fun a3 ea3 => ?_)
  obtain ⟨zc, zm, hzc, hzm, he, hR2⟩ := p_fits a1 a2 a3 hR
  refine cVL2 [.int zc.1] cx (CX8_fits l D C (ad 0) (ad 1) (ad 15) (ad 29) (ad 32) (ad 36) (ad 44) (ad 46) (ad 2) (ad 5) (ad 7) (ad 9) (ad 11) (ad 13) (ad 3) (ad 4) (ad 10) (ad 30) (ad 31) (ad 37) (ad 38) (ad 39) (ad 40) (ad 41) (ad 42) (ad 43) 15 18 (vi 0) (vi 1) (vi 2) (va 0) (va 1) 5 (vi 4) (va 4) (vi 13) (va 14) (va 15) (vi 18) (va 19) (va 20) (va 21) (va 22) (va 23) 6 (vi 19) (va 24) a1 a2 a3 zc hzc) lk_L_99 my_X8_fits ml_X8_fits ⟨by decide, by decide⟩ hw [0, 1, 2, 3, 4, 9, 10, 29, 30, 31, 36, 37, 38, 39, 40, 41, 42, 43] (ce h0 (ce h1 (ce h2 (ce h3 (ce h4 (ce h9 (ce h10 (ce h29 (ce h30 (ce h31 (ce h36 (ce h37 (ce h38 (ce h39 (ce h40 (ce h41 (ce h42 (ce h43 rfl)))))))))))))))))) (by decide +kernel) rfl rfl rfl rfl (Nat.le_of_ble_eq_true rfl) dL_law_801 rfl (fun H locs hw => ?_) hl.1 ⟨Nat.le_of_ble_eq_true rfl, Nat.le_of_ble_eq_true rfl⟩
  refine lv_aload_n hx hb dL_law_804 rfl (lv_at hl 2 rfl) ?_
  refine lv_aload_n hx hb dL_law_805 rfl (lv_at hl 0 rfl) ?_
  refine lv_iload_n hx hb dL_law_806 rfl (lv_at hl 3 rfl) ?_
  refine lv_iconst (v := 1) hx hb dL_law_807 (by decide) ?_
  refine lv_iadd hx hb dL_law_808 ?_
  refine va_sld hx hb hX hbl hbA hw.2.2 (lw_vin 1 1 rfl (by omega) hL) dL_law_809 ?_
  refine lv_topi (fun y ey => ?_)
  obtain rfl : a1 = y := ea1.trans ey.symm
  refine lv_aload_n hx hb dL_law_810 rfl (lv_at hl 0 rfl) ?_
  refine lv_iload_n hx hb dL_law_811 rfl (lv_at hl 3 rfl) ?_
  refine lv_iconst (v := 2) hx hb dL_law_812 (by decide) ?_
  refine lv_iadd hx hb dL_law_813 ?_
  refine va_sld hx hb hX hbl hbA hw.2.2 (lw_vin 2 2 rfl (by omega) hL) dL_law_814 ?_
  refine lv_topi (fun y ey => ?_)
  obtain rfl : a2 = y := ea2.trans ey.symm
  refine lv_aload_n hx hb dL_law_815 rfl (lv_at hl 0 rfl) ?_
  refine lv_iload_n hx hb dL_law_816 rfl (lv_at hl 3 rfl) ?_
  refine lv_iconst (v := 3) hx hb dL_law_817 (by decide) ?_
  refine lv_iadd hx hb dL_law_818 ?_
  refine va_sld hx hb hX hbl hbA hw.2.2 (lw_vin 3 3 rfl (by omega) hL) dL_law_819 ?_
  refine lv_topi (fun y ey => ?_)
  obtain rfl : a3 = y := ea3.trans ey.symm
  refine cVL2 [.int zm.1, .int zc.1] cx (CX9_fits_ l D C (ad 59) (ad 60) (ad 61) (ad 62) (ad 63) (ad 64) (ad 65) (ad 66) (ad 67) (ad 68) (ad 69) (ad 70) (ad 71) (ad 72) (ad 73) (ad 74) (ad 75) (ad 76) (ad 77) (ad 78) (ad 79) (ad 80) (vi 21) (vi 22) (vi 23) (vi 24) (vi 25) (vi 26) (vi 27) (vi 28) (vi 29) (vi 30) (vi 31) vl (vi 32) (vi 33) (vi 34) (va 26) (va 28) (va 30) (va 36) (va 37) (va 38) (va 39) (va 40) (va 41) (va 42) a1 a2 a3 zm hzm) lk_L_102 my_X9_fits_ ml_X9_fits_ ⟨by decide, by decide⟩ hw [59, 60, 62, 64, 70, 71, 72, 73, 74, 75, 76] (ce h59 (ce h60 (ce h62 (ce h64 (ce h70 (ce h71 (ce h72 (ce h73 (ce h74 (ce h75 (ce h76 rfl))))))))))) (by decide +kernel) rfl rfl rfl rfl (Nat.le_of_ble_eq_true rfl) dL_law_820 rfl (fun H locs hw => ?_) hl.1 ⟨Nat.le_of_ble_eq_true rfl, Nat.le_of_ble_eq_true rfl⟩
  refine lv_icmp_eq (tgt := 1303) hx hb dL_law_823 (by decide) (fun _ => ?_) (fun c9 => absurd he c9)
  refine (fun q9 => hk _ H locs ls q9 hw hl) ?_
  exact ⟨(ups (ups (ups (ups (ups (ups vi 13 zc.2.1) 18 zc.2.2.2.2.1) 19 zc.2.2.2.2.2.2.2.2.2.2.1) 22 zm.2.1) 32 zm.2.2.1) 33 zm.2.2.2.1), (ups (ups (ups (ups (ups (ups (ups (ups (ups (ups (ups (ups (ups (ups (ups (ups (ups va 14 zc.2.2.1) 15 zc.2.2.2.1) 19 zc.2.2.2.2.2.1) 20 zc.2.2.2.2.2.2.1) 21 zc.2.2.2.2.2.2.2.1) 22 zc.2.2.2.2.2.2.2.2.1) 23 zc.2.2.2.2.2.2.2.2.2.1) 24 zc.2.2.2.2.2.2.2.2.2.2.2) 26 zm.2.2.2.2.1) 28 zm.2.2.2.2.2.1) 36 zm.2.2.2.2.2.2.1) 37 zm.2.2.2.2.2.2.2.1) 38 zm.2.2.2.2.2.2.2.2.1) 39 zm.2.2.2.2.2.2.2.2.2.1) 40 zm.2.2.2.2.2.2.2.2.2.2.1) 41 zm.2.2.2.2.2.2.2.2.2.2.2.1) 42 zm.2.2.2.2.2.2.2.2.2.2.2.2), vl, vj, ti, _, hR2, rfl, rfl, rfl, rfl, rfl, rfl, h5, h6, h7, h8, rfl, rfl, h11, h12, h13, h14, h15, h16, h17, h18, h19, h20, h21, h22, h23, h24, h25, h26, h27, h28, rfl, rfl, rfl, h32, h33, h34, h35, rfl, rfl, rfl, rfl, rfl, rfl, rfl, rfl, h44, h45, h46, fun k hk => ⟨(tput rfl rfl (by omega)).trans (hT k hk).1, (tput rfl rfl (by omega)).trans (hT k hk).2⟩, rfl, rfl, h61, rfl, h63, rfl, h65, h66, h67, h68, h69, rfl, rfl, rfl, rfl, rfl, rfl, rfl, h77, h78, h79, h80⟩
