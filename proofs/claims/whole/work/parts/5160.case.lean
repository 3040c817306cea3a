set_option maxRecDepth 20000 in
set_option maxHeartbeats 1000000 in
theorem lc_odds {p : Program} {l : Launch} {e : Env} {s : State} {m : MethodId} {below : List Frame} {meth : Method} {c : Code} {D : va_G} {C : Nat → ClassId} {b L i : Nat} {xs : Nat → Int32} {ad : Nat → Nat} {tp : Nat → Option Nat} (C0 : lw_At p s m meth c b L xs) (cx : CX p m c s #[Value.ref b] RL cL_law 4 D C (fun q : Nat => s.heap.size ≤ q) room_1 83) (hi : i + 6 ≤ L) (hL : L ≤ 3072) (hTp : LTape ad tp)
    (hk : ∀ (w : va_W) (H : Heap) (locs : List Loc) (ls : Array Slot), LI C ad tp w → HW D (fun q : Nat => s.heap.size ≤ q) s.heap H locs w → lv_has ls 4 [(0, .ref b), (1, .ref (ad 0)), (2, .ref (ad 59)), (3, .int (nI i))] → W p l e room_1 s m #[Value.ref b] below meth c H locs 81 2747 (lw_Z below #[Value.ref b] s) (F0 m 1303 ls []))
    {w : va_W} {H : Heap} {locs : List Loc} {ls : Array Slot} (hI : LI C ad tp w) (hw : HW D (fun q : Nat => s.heap.size ≤ q) s.heap H locs w) (hl : lv_has ls 4 [(0, .ref b), (1, .ref (ad 0)), (2, .ref (ad 59)), (3, .int (nI i))]) : W p l e room_1 s m #[Value.ref b] below meth c H locs 81 2747 (lw_Z below #[Value.ref b] s) (F0 m 828 ls []) := by
  obtain ⟨vi, va, vl, vj, ti, f, hR, rfl, F⟩ := hI
  have h0 := lf_h0 F
  have h1 := lf_h1 F
  have h2 := lf_h2 F
  have h3 := lf_h3 F
  have h4 := lf_h4 F
  have h5 := lf_h5 F
  have h6 := lf_h6 F
  have h7 := lf_h7 F
  have h8 := lf_h8 F
  have h9 := lf_h9 F
  have h10 := lf_h10 F
  have h11 := lf_h11 F
  have h12 := lf_h12 F
  have h13 := lf_h13 F
  have h14 := lf_h14 F
  have h15 := lf_h15 F
  have h16 := lf_h16 F
  have h17 := lf_h17 F
  have h18 := lf_h18 F
  have h19 := lf_h19 F
  have h20 := lf_h20 F
  have h21 := lf_h21 F
  have h22 := lf_h22 F
  have h23 := lf_h23 F
  have h24 := lf_h24 F
  have h25 := lf_h25 F
  have h26 := lf_h26 F
  have h27 := lf_h27 F
  have h28 := lf_h28 F
  have h29 := lf_h29 F
  have h30 := lf_h30 F
  have h31 := lf_h31 F
  have h32 := lf_h32 F
  have h33 := lf_h33 F
  have h34 := lf_h34 F
  have h35 := lf_h35 F
  have h36 := lf_h36 F
  have h37 := lf_h37 F
  have h38 := lf_h38 F
  have h39 := lf_h39 F
  have h40 := lf_h40 F
  have h41 := lf_h41 F
  have h42 := lf_h42 F
  have h43 := lf_h43 F
  have h44 := lf_h44 F
  have h45 := lf_h45 F
  have h46 := lf_h46 F
  have hT := lf_hT F
  have h59 := lf_h59 F
  have h60 := lf_h60 F
  have h61 := lf_h61 F
  have h62 := lf_h62 F
  have h63 := lf_h63 F
  have h64 := lf_h64 F
  have h65 := lf_h65 F
  have h66 := lf_h66 F
  have h67 := lf_h67 F
  have h68 := lf_h68 F
  have h69 := lf_h69 F
  have h70 := lf_h70 F
  have h71 := lf_h71 F
  have h72 := lf_h72 F
  have h73 := lf_h73 F
  have h74 := lf_h74 F
  have h75 := lf_h75 F
  have h76 := lf_h76 F
  have h77 := lf_h77 F
  have h78 := lf_h78 F
  have h79 := lf_h79 F
  have h80 := lf_h80 F
  have hx := cx.1
  have hb := cx.2.1
  obtain ⟨-, -, -, -, -, -, hX, hbl, -, -⟩ := id C0
  have hbA : ¬ (fun q : Nat => s.heap.size ≤ q) b := Nat.not_le.mpr hbl
  refine lv_aload_n hx hb dL_law_828 rfl (lv_at hl 1 rfl) ?_
  refine lv_aload_n hx hb dL_law_829 rfl (lv_at hl 0 rfl) ?_
  refine lv_iload_n hx hb dL_law_830 rfl (lv_at hl 3 rfl) ?_
  refine lv_iconst (v := 1) hx hb dL_law_831 (by decide) ?_
  refine lv_iadd hx hb dL_law_832 ?_
  refine va_sld hx hb hX hbl hbA hw.2.2 (lw_vin 1 1 rfl (by omega) hL) dL_law_833 ?_
  refine lv_topi (fun a1 ea1 => ?_)
  refine lv_aload_n hx hb dL_law_834 rfl (lv_at hl 0 rfl) ?_
  refine lv_iload_n hx hb dL_law_835 rfl (lv_at hl 3 rfl) ?_
  refine lv_iconst (v := 2) hx hb dL_law_836 (by decide) ?_
  refine lv_iadd hx hb dL_law_837 ?_
  refine va_sld hx hb hX hbl hbA hw.2.2 (lw_vin 2 2 rfl (by omega) hL) dL_law_838 ?_
  refine lv_topi (fun a2 ea2 => ?_)
  refine lv_aload_n hx hb dL_law_839 rfl (lv_at hl 0 rfl) ?_
  refine lv_iload_n hx hb dL_law_840 rfl (lv_at hl 3 rfl) ?_
  refine lv_iconst (v := 3) hx hb dL_law_841 (by decide) ?_
  refine lv_iadd hx hb dL_law_842 ?_
  refine va_sld hx hb hX hbl hbA hw.2.2 (lw_vin 3 3 rfl (by omega) hL) dL_law_843 ?_
  refine lv_topi (fun a3 ea3 => ?_)
  obtain ⟨zc, zm, hzc, hzm, he, hR2⟩ := p_odds a1 a2 a3 hR
  refine cVL2 [.long zc.1] cx (CX8_odds l D C (ad 0) (ad 1) (ad 15) (ad 29) (ad 32) (ad 36) (ad 44) (ad 46) (ad 2) (ad 5) (ad 7) (ad 9) (ad 11) (ad 13) (ad 3) (ad 4) (ad 6) (ad 30) (ad 31) (ad 33) (ad 34) (ad 35) (vi 0) (vi 1) (vi 2) (va 0) (va 1) (va 2) (vi 13) (va 14) (va 15) (vi 14) (vi 15) (vi 16) (vi 17) (va 16) (va 17) (va 18) a1 a2 a3 zc hzc) lk_L_103 my_X8_odds ml_X8_odds ⟨by decide, by decide⟩ hw [0, 1, 2, 3, 4, 5, 6, 29, 30, 31, 32, 33, 34, 35] (ce h0 (ce h1 (ce h2 (ce h3 (ce h4 (ce h5 (ce h6 (ce h29 (ce h30 (ce h31 (ce h32 (ce h33 (ce h34 (ce h35 rfl)))))))))))))) (by decide +kernel) rfl rfl rfl rfl (Nat.le_of_ble_eq_true rfl) dL_law_844 rfl (fun H locs hw => ?_) hl.1 ⟨Nat.le_of_ble_eq_true rfl, Nat.le_of_ble_eq_true rfl⟩
  refine lv_aload_n hx hb dL_law_847 rfl (lv_at hl 2 rfl) ?_
  refine lv_aload_n hx hb dL_law_848 rfl (lv_at hl 0 rfl) ?_
  refine lv_iload_n hx hb dL_law_849 rfl (lv_at hl 3 rfl) ?_
  refine lv_iconst (v := 1) hx hb dL_law_850 (by decide) ?_
  refine lv_iadd hx hb dL_law_851 ?_
  refine va_sld hx hb hX hbl hbA hw.2.2 (lw_vin 1 1 rfl (by omega) hL) dL_law_852 ?_
  refine lv_topi (fun y ey => ?_)
  obtain rfl : a1 = y := ea1.trans ey.symm
  refine lv_aload_n hx hb dL_law_853 rfl (lv_at hl 0 rfl) ?_
  refine lv_iload_n hx hb dL_law_854 rfl (lv_at hl 3 rfl) ?_
  refine lv_iconst (v := 2) hx hb dL_law_855 (by decide) ?_
  refine lv_iadd hx hb dL_law_856 ?_
  refine va_sld hx hb hX hbl hbA hw.2.2 (lw_vin 2 2 rfl (by omega) hL) dL_law_857 ?_
  refine lv_topi (fun y ey => ?_)
  obtain rfl : a2 = y := ea2.trans ey.symm
  refine lv_aload_n hx hb dL_law_858 rfl (lv_at hl 0 rfl) ?_
  refine lv_iload_n hx hb dL_law_859 rfl (lv_at hl 3 rfl) ?_
  refine lv_iconst (v := 3) hx hb dL_law_860 (by decide) ?_
  refine lv_iadd hx hb dL_law_861 ?_
  refine va_sld hx hb hX hbl hbA hw.2.2 (lw_vin 3 3 rfl (by omega) hL) dL_law_862 ?_
  refine lv_topi (fun y ey => ?_)
  obtain rfl : a3 = y := ea3.trans ey.symm
  refine cVL2 [.long zm.1, .long zc.1] cx (CX9_odds l D C (ad 59) (ad 60) (ad 61) (ad 62) (ad 63) (ad 64) (ad 65) (ad 66) (ad 67) (ad 68) (ad 69) (ad 70) (ad 71) (ad 72) (ad 73) (ad 74) (ad 75) (ad 76) (ad 77) (ad 78) (ad 79) (ad 80) (vi 21) (vi 22) (vi 23) (vi 24) (vi 25) (vi 26) (vi 27) (vi 28) (vi 29) (vi 30) (vi 31) vl (vi 32) (vi 33) (vi 34) (va 26) (va 27) (va 28) (va 34) (va 35) (va 42) a1 a2 a3 zm hzm) lk_L_107 my_X9_odds ml_X9_odds ⟨by decide, by decide⟩ hw [59, 60, 61, 62, 68, 69, 76] (ce h59 (ce h60 (ce h61 (ce h62 (ce h68 (ce h69 (ce h76 rfl))))))) (by decide +kernel) rfl rfl rfl rfl (Nat.le_of_ble_eq_true rfl) dL_law_863 rfl (fun H locs hw => ?_) hl.1 ⟨Nat.le_of_ble_eq_true rfl, Nat.le_of_ble_eq_true rfl⟩
  refine W.lcmp hx hb dL_law_866 ?_
  refine lv_if_eq (tgt := 1303) hx hb dL_law_867 (by decide) (fun _ => ?_) (fun c9 => absurd (lw_cmp he) c9)
  refine (fun q9 => hk _ H locs ls q9 hw hl) ?_
  exact ⟨(ups (ups (ups (ups (ups (ups (ups (ups (ups (ups vi 13 zc.2.1) 14 zc.2.2.2.2.1) 15 zc.2.2.2.2.2.1) 16 zc.2.2.2.2.2.2.1) 17 zc.2.2.2.2.2.2.2.1) 22 zm.2.1) 28 zm.2.2.1) 29 zm.2.2.2.1) 30 zm.2.2.2.2.1) 31 zm.2.2.2.2.2.1), (ups (ups (ups (ups (ups (ups (ups (ups (ups (ups va 14 zc.2.2.1) 15 zc.2.2.2.1) 16 zc.2.2.2.2.2.2.2.2.1) 17 zc.2.2.2.2.2.2.2.2.2.1) 18 zc.2.2.2.2.2.2.2.2.2.2) 26 zm.2.2.2.2.2.2.2.1) 28 zm.2.2.2.2.2.2.2.2.1) 34 zm.2.2.2.2.2.2.2.2.2.1) 35 zm.2.2.2.2.2.2.2.2.2.2.1) 42 zm.2.2.2.2.2.2.2.2.2.2.2), zm.2.2.2.2.2.2.1, vj, ti, _, hR2, rfl, rfl, rfl, rfl, rfl, rfl, rfl, rfl, h7, h8, h9, h10, h11, h12, h13, h14, h15, h16, h17, h18, h19, h20, h21, h22, h23, h24, h25, h26, h27, h28, rfl, rfl, rfl, rfl, rfl, rfl, rfl, h36, h37, h38, h39, h40, h41, h42, h43, h44, h45, h46, fun k hk => ⟨(tput rfl rfl (by omega)).trans (hT k hk).1, (tput rfl rfl (by omega)).trans (hT k hk).2⟩, rfl, rfl, rfl, rfl, h63, h64, h65, h66, h67, rfl, rfl, h70, h71, h72, h73, h74, h75, rfl, h77, h78, h79, h80⟩
set_option maxRecDepth 20000 in
set_option maxHeartbeats 1000000 in
theorem lc_after {p : Program} {l : Launch} {e : Env} {s : State} {m : MethodId} {below : List Frame} {meth : Method} {c : Code} {D : va_G} {C : Nat → ClassId} {b L i : Nat} {xs : Nat → Int32} {ad : Nat → Nat} {tp : Nat → Option Nat} (C0 : lw_At p s m meth c b L xs) (cx : CX p m c s #[Value.ref b] RL cL_law 4 D C (fun q : Nat => s.heap.size ≤ q) room_1 83) (hi : i + 6 ≤ L) (hL : L ≤ 3072) (hTp : LTape ad tp)
    (hk : ∀ (w : va_W) (H : Heap) (locs : List Loc) (ls : Array Slot), LI C ad tp w → HW D (fun q : Nat => s.heap.size ≤ q) s.heap H locs w → lv_has ls 4 [(0, .ref b), (1, .ref (ad 0)), (2, .ref (ad 59)), (3, .int (nI i))] → W p l e room_1 s m #[Value.ref b] below meth c H locs 81 2747 (lw_Z below #[Value.ref b] s) (F0 m 1303 ls []))
    {w : va_W} {H : Heap} {locs : List Loc} {ls : Array Slot} (hI : LI C ad tp w) (hw : HW D (fun q : Nat => s.heap.size ≤ q) s.heap H locs w) (hl : lv_has ls 4 [(0, .ref b), (1, .ref (ad 0)), (2, .ref (ad 59)), (3, .int (nI i))]) : W p l e room_1 s m #[Value.ref b] below meth c H locs 81 2747 (lw_Z below #[Value.ref b] s) (F0 m 929 ls []) := by
  obtain ⟨vi, va, vl, vj, ti, f, hR, rfl, F⟩ := hI
  have h0 := lf_h0 F
  have h1 := lf_h1 F
  have h2 := lf_h2 F
  have h3 := lf_h3 F
  have h4 := lf_h4 F
  have h5 := lf_h5 F
  have h6 := lf_h6 F
  have h7 := lf_h7 F
  have h8 := lf_h8 F
  have h9 := lf_h9 F
  have h10 := lf_h10 F
  have h11 := lf_h11 F
  have h12 := lf_h12 F
  have h13 := lf_h13 F
  have h14 := lf_h14 F
  have h15 := lf_h15 F
  have h16 := lf_h16 F
  have h17 := lf_h17 F
  have h18 := lf_h18 F
  have h19 := lf_h19 F
  have h20 := lf_h20 F
  have h21 := lf_h21 F
  have h22 := lf_h22 F
  have h23 := lf_h23 F
  have h24 := lf_h24 F
  have h25 := lf_h25 F
  have h26 := lf_h26 F
  have h27 := lf_h27 F
  have h28 := lf_h28 F
  have h29 := lf_h29 F
  have h30 := lf_h30 F
  have h31 := lf_h31 F
  have h32 := lf_h32 F
  have h33 := lf_h33 F
  have h34 := lf_h34 F
  have h35 := lf_h35 F
  have h36 := lf_h36 F
  have h37 := lf_h37 F
  have h38 := lf_h38 F
  have h39 := lf_h39 F
  have h40 := lf_h40 F
  have h41 := lf_h41 F
  have h42 := lf_h42 F
  have h43 := lf_h43 F
  have h44 := lf_h44 F
  have h45 := lf_h45 F
  have h46 := lf_h46 F
  have hT := lf_hT F
  have h59 := lf_h59 F
  have h60 := lf_h60 F
  have h61 := lf_h61 F
  have h62 := lf_h62 F
  have h63 := lf_h63 F
  have h64 := lf_h64 F
  have h65 := lf_h65 F
  have h66 := lf_h66 F
  have h67 := lf_h67 F
  have h68 := lf_h68 F
  have h69 := lf_h69 F
  have h70 := lf_h70 F
  have h71 := lf_h71 F
  have h72 := lf_h72 F
  have h73 := lf_h73 F
  have h74 := lf_h74 F
  have h75 := lf_h75 F
  have h76 := lf_h76 F
  have h77 := lf_h77 F
  have h78 := lf_h78 F
  have h79 := lf_h79 F
  have h80 := lf_h80 F
  have hx := cx.1
  have hb := cx.2.1
  obtain ⟨-, -, -, -, -, -, hX, hbl, -, -⟩ := id C0
  have hbA : ¬ (fun q : Nat => s.heap.size ≤ q) b := Nat.not_le.mpr hbl
  refine lv_aload_n hx hb dL_law_929 rfl (lv_at hl 1 rfl) ?_
  refine lv_aload_n hx hb dL_law_930 rfl (lv_at hl 0 rfl) ?_
  refine lv_iload_n hx hb dL_law_931 rfl (lv_at hl 3 rfl) ?_
  refine lv_iconst (v := 1) hx hb dL_law_932 (by decide) ?_
  refine lv_iadd hx hb dL_law_933 ?_
  refine va_sld hx hb hX hbl hbA hw.2.2 (lw_vin 1 1 rfl (by omega) hL) dL_law_934 ?_
  refine lv_topi (fun a1 ea1 => ?_)
  obtain ⟨zc, zm, hzc, hzm, he, hR2⟩ := p_after a1 hR
  refine cVL2 [.int zc.1] cx (CX8_after l D C (ad 0) (ad 1) (ad 15) (ad 29) (ad 32) (ad 36) (ad 44) (ad 46) (ad 2) (ad 5) (ad 7) (ad 9) (ad 11) (ad 13) (ad 3) (ad 4) (ad 6) (ad 12) (ad 30) (ad 31) (ad 33) (ad 34) (ad 35) (ad 37) (ad 38) (ad 39) (ad 40) (ad 41) (ad 42) (ad 43) 24 18 (vi 0) (vi 1) (vi 2) (va 0) (va 1) (va 2) 8 (vi 5) (va 5) (vi 13) (va 14) (va 15) (vi 14) (vi 15) (vi 16) (vi 17) (va 16) (va 17) (va 18) (vi 18) (va 19) (va 20) (va 21) (va 22) (va 23) 6 (vi 19) (va 24) a1 zc hzc) lk_L_116 my_X8_after ml_X8_after ⟨by decide, by decide⟩ hw [0, 1, 2, 3, 4, 5, 6, 11, 12, 29, 30, 31, 32, 33, 34, 35, 36, 37, 38, 39, 40, 41, 42, 43] (ce h0 (ce h1 (ce h2 (ce h3 (ce h4 (ce h5 (ce h6 (ce h11 (ce h12 (ce h29 (ce h30 (ce h31 (ce h32 (ce h33 (ce h34 (ce h35 (ce h36 (ce h37 (ce h38 (ce h39 (ce h40 (ce h41 (ce h42 (ce h43 rfl)))))))))))))))))))))))) (by decide +kernel) rfl rfl rfl rfl (Nat.le_of_ble_eq_true rfl) dL_law_935 rfl (fun H locs hw => ?_) hl.1 ⟨Nat.le_of_ble_eq_true rfl, Nat.le_of_ble_eq_true rfl⟩
  refine lv_aload_n hx hb dL_law_938 rfl (lv_at hl 2 rfl) ?_
  refine lv_aload_n hx hb dL_law_939 rfl (lv_at hl 0 rfl) ?_
  refine lv_iload_n hx hb dL_law_940 rfl (lv_at hl 3 rfl) ?_
  refine lv_iconst (v := 1) hx hb dL_law_941 (by decide) ?_
  refine lv_iadd hx hb dL_law_942 ?_
  refine va_sld hx hb hX hbl hbA hw.2.2 (lw_vin 1 1 rfl (by omega) hL) dL_law_943 ?_
  refine lv_topi (fun y ey => ?_)
  obtain rfl : a1 = y := ea1.trans ey.symm
  refine cVL2 [.int zm.1, .int zc.1] cx (CX9_after l D C (ad 59) (ad 60) (ad 61) (ad 62) (ad 63) (ad 64) (ad 65) (ad 66) (ad 67) (ad 68) (ad 69) (ad 70) (ad 71) (ad 72) (ad 73) (ad 74) (ad 75) (ad 76) (ad 77) (ad 78) (ad 79) (ad 80) (vi 21) (vi 22) (vi 23) (vi 24) (vi 25) (vi 26) (vi 27) (vi 28) (vi 29) (vi 30) (vi 31) vl (vi 32) (vi 33) (vi 34) (va 26) (va 27) (va 28) (va 31) (va 34) (va 35) (va 36) (va 37) (va 38) (va 39) (va 40) (va 41) (va 42) a1 zm hzm) lk_L_119 my_X9_after ml_X9_after ⟨by decide, by decide⟩ hw [59, 60, 61, 62, 65, 68, 69, 70, 71, 72, 73, 74, 75, 76] (ce h59 (ce h60 (ce h61 (ce h62 (ce h65 (ce h68 (ce h69 (ce h70 (ce h71 (ce h72 (ce h73 (ce h74 (ce h75 (ce h76 rfl)))))))))))))) (by decide +kernel) rfl rfl rfl rfl (Nat.le_of_ble_eq_true rfl) dL_law_944 rfl (fun H locs hw => ?_) hl.1 ⟨Nat.le_of_ble_eq_true rfl, Nat.le_of_ble_eq_true rfl⟩
  refine lv_icmp_eq (tgt := 1303) hx hb dL_law_947 (by decide) (fun _ => ?_) (fun c9 => absurd he c9)
  refine (fun q9 => hk _ H locs ls q9 hw hl) ?_
  exact ⟨(ups (ups (ups (ups (ups (ups (ups (ups (ups (ups (ups (ups (ups (ups vi 13 zc.2.1) 14 zc.2.2.2.2.1) 15 zc.2.2.2.2.2.1) 16 zc.2.2.2.2.2.2.1) 17 zc.2.2.2.2.2.2.2.1) 18 zc.2.2.2.2.2.2.2.2.2.2.2.1) 19 zc.2.2.2.2.2.2.2.2.2.2.2.2.2.2.2.2.2.1) 22 zm.2.1) 28 zm.2.2.1) 29 zm.2.2.2.1) 30 zm.2.2.2.2.1) 31 zm.2.2.2.2.2.1) 32 zm.2.2.2.2.2.2.2.1) 33 zm.2.2.2.2.2.2.2.2.1), (ups (ups (ups (ups (ups (ups (ups (ups (ups (ups (ups (ups (ups (ups (ups (ups (ups (ups (ups (ups (ups (ups va 14 zc.2.2.1) 15 zc.2.2.2.1) 16 zc.2.2.2.2.2.2.2.2.1) 17 zc.2.2.2.2.2.2.2.2.2.1) 18 zc.2.2.2.2.2.2.2.2.2.2.1) 19 zc.2.2.2.2.2.2.2.2.2.2.2.2.1) 20 zc.2.2.2.2.2.2.2.2.2.2.2.2.2.1) 21 zc.2.2.2.2.2.2.2.2.2.2.2.2.2.2.1) 22 zc.2.2.2.2.2.2.2.2.2.2.2.2.2.2.2.1) 23 zc.2.2.2.2.2.2.2.2.2.2.2.2.2.2.2.2.1) 24 zc.2.2.2.2.2.2.2.2.2.2.2.2.2.2.2.2.2.2) 26 zm.2.2.2.2.2.2.2.2.2.1) 28 zm.2.2.2.2.2.2.2.2.2.2.1) 34 zm.2.2.2.2.2.2.2.2.2.2.2.1) 35 zm.2.2.2.2.2.2.2.2.2.2.2.2.1) 36 zm.2.2.2.2.2.2.2.2.2.2.2.2.2.1) 37 zm.2.2.2.2.2.2.2.2.2.2.2.2.2.2.1) 38 zm.2.2.2.2.2.2.2.2.2.2.2.2.2.2.2.1) 39 zm.2.2.2.2.2.2.2.2.2.2.2.2.2.2.2.2.1) 40 zm.2.2.2.2.2.2.2.2.2.2.2.2.2.2.2.2.2.1) 41 zm.2.2.2.2.2.2.2.2.2.2.2.2.2.2.2.2.2.2.1) 42 zm.2.2.2.2.2.2.2.2.2.2.2.2.2.2.2.2.2.2.2), zm.2.2.2.2.2.2.1, vj, ti, _, hR2, rfl, rfl, rfl, rfl, rfl, rfl, rfl, rfl, h7, h8, h9, h10, rfl, rfl, h13, h14, h15, h16, h17, h18, h19, h20, h21, h22, h23, h24, h25, h26, h27, h28, rfl, rfl, rfl, rfl, rfl, rfl, rfl, rfl, rfl, rfl, rfl, rfl, rfl, rfl, rfl, h44, h45, h46, fun k hk => ⟨(tput rfl rfl (by omega)).trans (hT k hk).1, (tput rfl rfl (by omega)).trans (hT k hk).2⟩, rfl, rfl, rfl, rfl, h63, h64, rfl, h66, h67, rfl, rfl, rfl, rfl, rfl, rfl, rfl, rfl, rfl, h77, h78, h79, h80⟩
set_option maxRecDepth 20000 in
set_option maxHeartbeats 1000000 in
theorem lc_looked {p : Program} {l : Launch} {e : Env} {s : State} {m : MethodId} {below : List Frame} {meth : Method} {c : Code} {D : va_G} {C : Nat → ClassId} {b L i : Nat} {xs : Nat → Int32} {ad : Nat → Nat} {tp : Nat → Option Nat} (C0 : lw_At p s m meth c b L xs) (cx : CX p m c s #[Value.ref b] RL cL_law 4 D C (fun q : Nat => s.heap.size ≤ q) room_1 83) (hi : i + 6 ≤ L) (hL : L ≤ 3072) (hTp : LTape ad tp)
    (hk : ∀ (w : va_W) (H : Heap) (locs : List Loc) (ls : Array Slot), LI C ad tp w → HW D (fun q : Nat => s.heap.size ≤ q) s.heap H locs w → lv_has ls 4 [(0, .ref b), (1, .ref (ad 0)), (2, .ref (ad 59)), (3, .int (nI i))] → W p l e room_1 s m #[Value.ref b] below meth c H locs 81 2747 (lw_Z below #[Value.ref b] s) (F0 m 1303 ls []))
    {w : va_W} {H : Heap} {locs : List Loc} {ls : Array Slot} (hI : LI C ad tp w) (hw : HW D (fun q : Nat => s.heap.size ≤ q) s.heap H locs w) (hl : lv_has ls 4 [(0, .ref b), (1, .ref (ad 0)), (2, .ref (ad 59)), (3, .int (nI i))]) : W p l e room_1 s m #[Value.ref b] below meth c H locs 81 2747 (lw_Z below #[Value.ref b] s) (F0 m 995 ls []) := by
  obtain ⟨vi, va, vl, vj, ti, f, hR, rfl, F⟩ := hI
  have h0 := lf_h0 F
  have h1 := lf_h1 F
  have h2 := lf_h2 F
  have h3 := lf_h3 F
  have h4 := lf_h4 F
  have h5 := lf_h5 F
  have h6 := lf_h6 F
  have h7 := lf_h7 F
  have h8 := lf_h8 F
  have h9 := lf_h9 F
  have h10 := lf_h10 F
  have h11 := lf_h11 F
  have h12 := lf_h12 F
  have h13 := lf_h13 F
  have h14 := lf_h14 F
  have h15 := lf_h15 F
  have h16 := lf_h16 F
  have h17 := lf_h17 F
  have h18 := lf_h18 F
  have h19 := lf_h19 F
  have h20 := lf_h20 F
  have h21 := lf_h21 F
  have h22 := lf_h22 F
  have h23 := lf_h23 F
  have h24 := lf_h24 F
  have h25 := lf_h25 F
  have h26 := lf_h26 F
  have h27 := lf_h27 F
  have h28 := lf_h28 F
  have h29 := lf_h29 F
  have h30 := lf_h30 F
  have h31 := lf_h31 F
  have h32 := lf_h32 F
  have h33 := lf_h33 F
  have h34 := lf_h34 F
  have h35 := lf_h35 F
  have h36 := lf_h36 F
  have h37 := lf_h37 F
  have h38 := lf_h38 F
  have h39 := lf_h39 F
  have h40 := lf_h40 F
  have h41 := lf_h41 F
  have h42 := lf_h42 F
  have h43 := lf_h43 F
  have h44 := lf_h44 F
  have h45 := lf_h45 F
  have h46 := lf_h46 F
  have hT := lf_hT F
  have h59 := lf_h59 F
  have h60 := lf_h60 F
  have h61 := lf_h61 F
  have h62 := lf_h62 F
  have h63 := lf_h63 F
  have h64 := lf_h64 F
  have h65 := lf_h65 F
  have h66 := lf_h66 F
  have h67 := lf_h67 F
  have h68 := lf_h68 F
  have h69 := lf_h69 F
  have h70 := lf_h70 F
  have h71 := lf_h71 F
  have h72 := lf_h72 F
  have h73 := lf_h73 F
  have h74 := lf_h74 F
  have h75 := lf_h75 F
  have h76 := lf_h76 F
  have h77 := lf_h77 F
  have h78 := lf_h78 F
  have h79 := lf_h79 F
  have h80 := lf_h80 F
  have hx := cx.1
  have hb := cx.2.1
  obtain ⟨-, -, -, -, -, -, hX, hbl, -, -⟩ := id C0
  have hbA : ¬ (fun q : Nat => s.heap.size ≤ q) b := Nat.not_le.mpr hbl
  refine lv_aload_n hx hb dL_law_995 rfl (lv_at hl 1 rfl) ?_
  obtain ⟨zc, zm, hzc, hzm, he, hR2⟩ := p_looked hR
  refine cVL2 [.int zc.1] cx (CX8_looked l D C (ad 0) (ad 1) (ad 15) (ad 29) (ad 32) (ad 36) (ad 44) (ad 46) (ad 2) (ad 5) (ad 7) (ad 9) (ad 11) (ad 13) (ad 3) (ad 4) (ad 14) (ad 37) (ad 38) (ad 39) (ad 40) (ad 41) (ad 42) (ad 43) 24 18 (vi 0) (vi 1) (vi 2) (va 0) 8 (vi 6) (va 6) (vi 18) (va 19) (va 20) (va 21) (va 22) (va 23) 6 (vi 19) (va 24) zc hzc) lk_L_124 my_X8_looked ml_X8_looked ⟨by decide, by decide⟩ hw [0, 1, 2, 3, 13, 14, 36, 37, 38, 39, 40, 41, 42, 43] (ce h0 (ce h1 (ce h2 (ce h3 (ce h13 (ce h14 (ce h36 (ce h37 (ce h38 (ce h39 (ce h40 (ce h41 (ce h42 (ce h43 rfl)))))))))))))) (by decide +kernel) rfl rfl rfl rfl (Nat.le_of_ble_eq_true rfl) dL_law_996 rfl (fun H locs hw => ?_) hl.1 ⟨Nat.le_of_ble_eq_true rfl, Nat.le_of_ble_eq_true rfl⟩
  refine lv_aload_n hx hb dL_law_999 rfl (lv_at hl 2 rfl) ?_
  refine cVL2 [.int zm.1, .int zc.1] cx (CX9_looked l D C (ad 59) (ad 60) (ad 61) (ad 62) (ad 63) (ad 64) (ad 65) (ad 66) (ad 67) (ad 68) (ad 69) (ad 70) (ad 71) (ad 72) (ad 73) (ad 74) (ad 75) (ad 76) (ad 77) (ad 78) (ad 79) (ad 80) (vi 21) (vi 22) (vi 23) (vi 24) (vi 25) (vi 26) (vi 27) (vi 28) (vi 29) (vi 30) (vi 31) vl (vi 32) (vi 33) (vi 34) (va 26) (va 32) (va 36) (va 37) (va 38) (va 39) (va 40) (va 41) zm hzm) lk_L_127 my_X9_looked ml_X9_looked ⟨by decide, by decide⟩ hw [59, 60, 66, 70, 71, 72, 73, 74, 75] (ce h59 (ce h60 (ce h66 (ce h70 (ce h71 (ce h72 (ce h73 (ce h74 (ce h75 rfl))))))))) (by decide +kernel) rfl rfl rfl rfl (Nat.le_of_ble_eq_true rfl) dL_law_1000 rfl (fun H locs hw => ?_) hl.1 ⟨Nat.le_of_ble_eq_true rfl, Nat.le_of_ble_eq_true rfl⟩
  refine lv_icmp_eq (tgt := 1303) hx hb dL_law_1003 (by decide) (fun _ => ?_) (fun c9 => absurd he c9)
  refine (fun q9 => hk _ H locs ls q9 hw hl) ?_
  exact ⟨(ups (ups (ups (ups vi 18 zc.2.1) 19 zc.2.2.2.2.2.2.2.1) 32 zm.2.1) 33 zm.2.2.1), (ups (ups (ups (ups (ups (ups (ups (ups (ups (ups (ups (ups va 19 zc.2.2.1) 20 zc.2.2.2.1) 21 zc.2.2.2.2.1) 22 zc.2.2.2.2.2.1) 23 zc.2.2.2.2.2.2.1) 24 zc.2.2.2.2.2.2.2.2) 36 zm.2.2.2.1) 37 zm.2.2.2.2.1) 38 zm.2.2.2.2.2.1) 39 zm.2.2.2.2.2.2.1) 40 zm.2.2.2.2.2.2.2.1) 41 zm.2.2.2.2.2.2.2.2), vl, vj, ti, _, hR2, rfl, rfl, rfl, rfl, rfl, h4, h5, h6, h7, h8, h9, h10, h11, h12, rfl, rfl, h15, h16, h17, h18, h19, h20, h21, h22, h23, h24, h25, h26, h27, h28, h29, h30, h31, h32, h33, h34, h35, rfl, rfl, rfl, rfl, rfl, rfl, rfl, rfl, h44, h45, h46, fun k hk => ⟨(tput rfl rfl (by omega)).trans (hT k hk).1, (tput rfl rfl (by omega)).trans (hT k hk).2⟩, rfl, rfl, h61, h62, h63, h64, h65, rfl, h67, h68, h69, rfl, rfl, rfl, rfl, rfl, rfl, h76, h77, h78, h79, h80⟩
