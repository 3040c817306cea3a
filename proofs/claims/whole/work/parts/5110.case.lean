set_option maxRecDepth 20000 in
set_option maxHeartbeats 1000000 in
theorem lc_owe {p : Program} {l : Launch} {e : Env} {s : State} {m : MethodId} {below : List Frame} {meth : Method} {c : Code} {D : va_G} {C : Nat → ClassId} {b L i : Nat} {xs : Nat → Int32} {ad : Nat → Nat} {tp : Nat → Option Nat} (C0 : lw_At p s m meth c b L xs) (cx : CX p m c s #[Value.ref b] RL cL_law 4 D C (fun q : Nat => s.heap.size ≤ q) room_1 83) (hi : i + 6 ≤ L) (hL : L ≤ 3072) (hTp : LTape ad tp)
    (hk : ∀ (w : va_W) (H : Heap) (locs : List Loc) (ls : Array Slot), LI C ad tp w → HW D (fun q : Nat => s.heap.size ≤ q) s.heap H locs w → lv_has ls 4 [(0, .ref b), (1, .ref (ad 0)), (2, .ref (ad 59)), (3, .int (nI i))] → W p l e room_1 s m #[Value.ref b] below meth c H locs 81 2747 (lw_Z below #[Value.ref b] s) (F0 m 1303 ls []))
    {w : va_W} {H : Heap} {locs : List Loc} {ls : Array Slot} (hI : LI C ad tp w) (hw : HW D (fun q : Nat => s.heap.size ≤ q) s.heap H locs w) (hl : lv_has ls 4 [(0, .ref b), (1, .ref (ad 0)), (2, .ref (ad 59)), (3, .int (nI i))]) : W p l e room_1 s m #[Value.ref b] below meth c H locs 81 2747 (lw_Z below #[Value.ref b] s) (F0 m 201 ls []) := by
  obtain ⟨vi, va, vl, vj, ti, f, hR, rfl, F⟩ := hI
  have h0 := lf_h0 F
  have h1 := lf_h1 F
  have h2 := lf_h2 F
  have h3 := lf_h3 F
  have h4 := lf_h4 F
  have h5 := lf_h5 F
  have h6 := lf_h6 F
  have h7 := lf_h7 F
  have h8 := lf_h8 F
  have h9 := lf_h9 F
  have h10 := lf_h10 F
  have h11 := lf_h11 F
  have h12 := lf_h12 F
  have h13 := lf_h13 F
  have h14 := lf_h14 F
  have h15 := lf_h15 F
  have h16 := lf_h16 F
  have h17 := lf_h17 F
  have h18 := lf_h18 F
  have h19 := lf_h19 F
  have h20 := lf_h20 F
  have h21 := lf_h21 F
  have h22 := lf_h22 F
  have h23 := lf_h23 F
  have h24 := lf_h24 F
  have h25 := lf_h25 F
  have h26 := lf_h26 F
  have h27 := lf_h27 F
  have h28 := lf_h28 F
  have h29 := lf_h29 F
  have h30 := lf_h30 F
  have h31 := lf_h31 F
  have h32 := lf_h32 F
  have h33 := lf_h33 F
  have h34 := lf_h34 F
  have h35 := lf_h35 F
  have h36 := lf_h36 F
  have h37 := lf_h37 F
  have h38 := lf_h38 F
  have h39 := lf_h39 F
  have h40 := lf_h40 F
  have h41 := lf_h41 F
  have h42 := lf_h42 F
  have h43 := lf_h43 F
  have h44 := lf_h44 F
  have h45 := lf_h45 F
  have h46 := lf_h46 F
  have hT := lf_hT F
  have h59 := lf_h59 F
  have h60 := lf_h60 F
  have h61 := lf_h61 F
  have h62 := lf_h62 F
  have h63 := lf_h63 F
  have h64 := lf_h64 F
  have h65 := lf_h65 F
  have h66 := lf_h66 F
  have h67 := lf_h67 F
  have h68 := lf_h68 F
  have h69 := lf_h69 F
  have h70 := lf_h70 F
  have h71 := lf_h71 F
  have h72 := lf_h72 F
  have h73 := lf_h73 F
  have h74 := lf_h74 F
  have h75 := lf_h75 F
  have h76 := lf_h76 F
  have h77 := lf_h77 F
  have h78 := lf_h78 F
  have h79 := lf_h79 F
  have h80 := lf_h80 F
  have hx := cx.1
  have hb := cx.2.1
  obtain ⟨-, -, -, -, -, -, hX, hbl, -, -⟩ := id C0
  have hbA : ¬ (fun q : Nat => s.heap.size ≤ q) b := Nat.not_le.mpr hbl
  refine lv_aload_n hx hb dL_law_201 rfl (lv_at hl 1 rfl) ?_
  refine lv_aload_n hx hb dL_law_202 rfl (lv_at hl 0 rfl) ?_
  refine lv_iload_n hx hb dL_law_203 rfl (lv_at hl 3 rfl) ?_
  refine lv_iconst (v := 1) hx hb dL_law_204 (by decide) ?_
  refine lv_iadd hx hb dL_law_205 ?_
  refine va_sld hx hb hX hbl hbA hw.2.2 (lw_vin 1 1 rfl (by omega) hL) dL_law_206 ?_
  refine lv_topi (fun a1 ea1 => ?_)
  refine lv_aload_n hx hb dL_law_207 rfl (lv_at hl 0 rfl) ?_
  refine lv_iload_n hx hb dL_law_208 rfl (lv_at hl 3 rfl) ?_
  refine lv_iconst (v := 2) hx hb dL_law_209 (by decide) ?_
  refine lv_iadd hx hb dL_law_210 ?_
  refine va_sld hx hb hX hbl hbA hw.2.2 (lw_vin 2 2 rfl (by omega) hL) dL_law_211 ?_
  refine lv_topi (fun a2 ea2 => ?_)
  refine lv_aload_n hx hb dL_law_212 rfl (lv_at hl 0 rfl) ?_
  refine lv_iload_n hx hb dL_law_213 rfl (lv_at hl 3 rfl) ?_
  refine lv_iconst (v := 3) hx hb dL_law_214 (by decide) ?_
  refine lv_iadd hx hb dL_law_215 ?_
  refine va_sld hx hb hX hbl hbA hw.2.2 (lw_vin 3 3 rfl (by omega) hL) dL_law_216 ?_
  refine lv_topi (fun a3 ea3 => ?_)
  obtain ⟨zc, zm, hzc, hzm, he, hR2⟩ := p_owe a1 a2 a3 hR
  refine cVL2 [.int zc.1] cx (CX8_owe l D C (ad 0) (ad 1) (ad 15) (ad 29) (ad 32) (ad 36) (ad 44) (ad 46) (ad 2) (ad 5) (ad 7) (ad 9) (ad 11) (ad 13) (ad 3) (ad 4) (vi 0) (vi 1) (vi 2) (va 0) (va 1) a1 a2 a3 zc hzc) lk_L_18 my_X8_owe ml_X8_owe ⟨by decide, by decide⟩ hw [0, 1, 2, 3, 4] (ce h0 (ce h1 (ce h2 (ce h3 (ce h4 rfl))))) (by decide +kernel) rfl rfl rfl rfl (Nat.le_of_ble_eq_true rfl) dL_law_217 rfl (fun H locs hw => ?_) hl.1 ⟨Nat.le_of_ble_eq_true rfl, Nat.le_of_ble_eq_true rfl⟩
  refine lv_aload_n hx hb dL_law_220 rfl (lv_at hl 2 rfl) ?_
  refine lv_aload_n hx hb dL_law_221 rfl (lv_at hl 0 rfl) ?_
  refine lv_iload_n hx hb dL_law_222 rfl (lv_at hl 3 rfl) ?_
  refine lv_iconst (v := 1) hx hb dL_law_223 (by decide) ?_
  refine lv_iadd hx hb dL_law_224 ?_
  refine va_sld hx hb hX hbl hbA hw.2.2 (lw_vin 1 1 rfl (by omega) hL) dL_law_225 ?_
  refine lv_topi (fun y ey => ?_)
  obtain rfl : a1 = y := ea1.trans ey.symm
  refine lv_aload_n hx hb dL_law_226 rfl (lv_at hl 0 rfl) ?_
  refine lv_iload_n hx hb dL_law_227 rfl (lv_at hl 3 rfl) ?_
  refine lv_iconst (v := 2) hx hb dL_law_228 (by decide) ?_
  refine lv_iadd hx hb dL_law_229 ?_
  refine va_sld hx hb hX hbl hbA hw.2.2 (lw_vin 2 2 rfl (by omega) hL) dL_law_230 ?_
  refine lv_topi (fun y ey => ?_)
  obtain rfl : a2 = y := ea2.trans ey.symm
  refine lv_aload_n hx hb dL_law_231 rfl (lv_at hl 0 rfl) ?_
  refine lv_iload_n hx hb dL_law_232 rfl (lv_at hl 3 rfl) ?_
  refine lv_iconst (v := 3) hx hb dL_law_233 (by decide) ?_
  refine lv_iadd hx hb dL_law_234 ?_
  refine va_sld hx hb hX hbl hbA hw.2.2 (lw_vin 3 3 rfl (by omega) hL) dL_law_235 ?_
  refine lv_topi (fun y ey => ?_)
  obtain rfl : a3 = y := ea3.trans ey.symm
  refine cVL2 [.int zm.1, .int zc.1] cx (CX9_owe l D C (ad 59) (ad 60) (ad 61) (ad 62) (ad 63) (ad 64) (ad 65) (ad 66) (ad 67) (ad 68) (ad 69) (ad 70) (ad 71) (ad 72) (ad 73) (ad 74) (ad 75) (ad 76) (ad 77) (ad 78) (ad 79) (ad 80) (vi 21) (vi 22) (vi 23) (vi 24) (vi 25) (vi 26) (vi 27) (vi 28) (vi 29) (vi 30) (vi 31) vl (vi 32) (vi 33) (vi 34) (va 26) (va 28) a1 a2 a3 zm hzm) lk_L_22 my_X9_owe ml_X9_owe ⟨by decide, by decide⟩ hw [59, 60, 62] (ce h59 (ce h60 (ce h62 rfl))) (by decide +kernel) rfl rfl rfl rfl (Nat.le_of_ble_eq_true rfl) dL_law_236 rfl (fun H locs hw => ?_) hl.1 ⟨Nat.le_of_ble_eq_true rfl, Nat.le_of_ble_eq_true rfl⟩
  refine lv_icmp_eq (tgt := 1303) hx hb dL_law_239 (by decide) (fun _ => ?_) (fun c9 => absurd he c9)
  refine (fun q9 => hk _ H locs ls q9 hw hl) ?_
  exact ⟨(ups (ups vi 2 zc.2.1) 22 zm.2.1), (ups (ups (ups (ups va 0 zc.2.2.1) 1 zc.2.2.2) 26 zm.2.2.1) 28 zm.2.2.2), vl, vj, ti, _, hR2, rfl, rfl, rfl, rfl, rfl, rfl, h5, h6, h7, h8, h9, h10, h11, h12, h13, h14, h15, h16, h17, h18, h19, h20, h21, h22, h23, h24, h25, h26, h27, h28, h29, h30, h31, h32, h33, h34, h35, h36, h37, h38, h39, h40, h41, h42, h43, h44, h45, h46, fun k hk => ⟨(tput rfl rfl (by omega)).trans (hT k hk).1, (tput rfl rfl (by omega)).trans (hT k hk).2⟩, rfl, rfl, h61, rfl, h63, h64, h65, h66, h67, h68, h69, h70, h71, h72, h73, h74, h75, h76, h77, h78, h79, h80⟩
set_option maxRecDepth 20000 in
set_option maxHeartbeats 1000000 in
theorem lc_pay {p : Program} {l : Launch} {e : Env} {s : State} {m : MethodId} {below : List Frame} {meth : Method} {c : Code} {D : va_G} {C : Nat → ClassId} {b L i : Nat} {xs : Nat → Int32} {ad : Nat → Nat} {tp : Nat → Option Nat} (C0 : lw_At p s m meth c b L xs) (cx : CX p m c s #[Value.ref b] RL cL_law 4 D C (fun q : Nat => s.heap.size ≤ q) room_1 83) (hi : i + 6 ≤ L) (hL : L ≤ 3072) (hTp : LTape ad tp)
    (hk : ∀ (w : va_W) (H : Heap) (locs : List Loc) (ls : Array Slot), LI C ad tp w → HW D (fun q : Nat => s.heap.size ≤ q) s.heap H locs w → lv_has ls 4 [(0, .ref b), (1, .ref (ad 0)), (2, .ref (ad 59)), (3, .int (nI i))] → W p l e room_1 s m #[Value.ref b] below meth c H locs 81 2747 (lw_Z below #[Value.ref b] s) (F0 m 1303 ls []))
    {w : va_W} {H : Heap} {locs : List Loc} {ls : Array Slot} (hI : LI C ad tp w) (hw : HW D (fun q : Nat => s.heap.size ≤ q) s.heap H locs w) (hl : lv_has ls 4 [(0, .ref b), (1, .ref (ad 0)), (2, .ref (ad 59)), (3, .int (nI i))]) : W p l e room_1 s m #[Value.ref b] below meth c H locs 81 2747 (lw_Z below #[Value.ref b] s) (F0 m 244 ls []) := by
  obtain ⟨vi, va, vl, vj, ti, f, hR, rfl, F⟩ := hI
  have h0 := lf_h0 F
  have h1 := lf_h1 F
  have h2 := lf_h2 F
  have h3 := lf_h3 F
  have h4 := lf_h4 F
  have h5 := lf_h5 F
  have h6 := lf_h6 F
  have h7 := lf_h7 F
  have h8 := lf_h8 F
  have h9 := lf_h9 F
  have h10 := lf_h10 F
  have h11 := lf_h11 F
  have h12 := lf_h12 F
  have h13 := lf_h13 F
  have h14 := lf_h14 F
  have h15 := lf_h15 F
  have h16 := lf_h16 F
  have h17 := lf_h17 F
  have h18 := lf_h18 F
  have h19 := lf_h19 F
  have h20 := lf_h20 F
  have h21 := lf_h21 F
  have h22 := lf_h22 F
  have h23 := lf_h23 F
  have h24 := lf_h24 F
  have h25 := lf_h25 F
  have h26 := lf_h26 F
  have h27 := lf_h27 F
  have h28 := lf_h28 F
  have h29 := lf_h29 F
  have h30 := lf_h30 F
  have h31 := lf_h31 F
  have h32 := lf_h32 F
  have h33 := lf_h33 F
  have h34 := lf_h34 F
  have h35 := lf_h35 F
  have h36 := lf_h36 F
  have h37 := lf_h37 F
  have h38 := lf_h38 F
  have h39 := lf_h39 F
  have h40 := lf_h40 F
  have h41 := lf_h41 F
  have h42 := lf_h42 F
  have h43 := lf_h43 F
  have h44 := lf_h44 F
  have h45 := lf_h45 F
  have h46 := lf_h46 F
  have hT := lf_hT F
  have h59 := lf_h59 F
  have h60 := lf_h60 F
  have h61 := lf_h61 F
  have h62 := lf_h62 F
  have h63 := lf_h63 F
  have h64 := lf_h64 F
  have h65 := lf_h65 F
  have h66 := lf_h66 F
  have h67 := lf_h67 F
  have h68 := lf_h68 F
  have h69 := lf_h69 F
  have h70 := lf_h70 F
  have h71 := lf_h71 F
  have h72 := lf_h72 F
  have h73 := lf_h73 F
  have h74 := lf_h74 F
  have h75 := lf_h75 F
  have h76 := lf_h76 F
  have h77 := lf_h77 F
  have h78 := lf_h78 F
  have h79 := lf_h79 F
  have h80 := lf_h80 F
  have hx := cx.1
  have hb := cx.2.1
  obtain ⟨-, -, -, -, -, -, hX, hbl, -, -⟩ := id C0
  have hbA : ¬ (fun q : Nat => s.heap.size ≤ q) b := Nat.not_le.mpr hbl
  refine lv_aload_n hx hb dL_law_244 rfl (lv_at hl 1 rfl) ?_
  refine lv_aload_n hx hb dL_law_245 rfl (lv_at hl 0 rfl) ?_
  refine lv_iload_n hx hb dL_law_246 rfl (lv_at hl 3 rfl) ?_
  refine lv_iconst (v := 1) hx hb dL_law_247 (by decide) ?_
  refine lv_iadd hx hb dL_law_248 ?_
  refine va_sld hx hb hX hbl hbA hw.2.2 (lw_vin 1 1 rfl (by omega) hL) dL_law_249 ?_
  refine lv_topi (fun a1 ea1 => ?_)
  refine lv_aload_n hx hb dL_law_250 rfl (lv_at hl 0 rfl) ?_
  refine lv_iload_n hx hb dL_law_251 rfl (lv_at hl 3 rfl) ?_
  refine lv_iconst (v := 2) hx hb dL_law_252 (by decide) ?_
  refine lv_iadd hx hb dL_law_253 ?_
  refine va_sld hx hb hX hbl hbA hw.2.2 (lw_vin 2 2 rfl (by omega) hL) dL_law_254 ?_
  refine lv_topi (fun a2 ea2 => ?_)
  refine lv_aload_n hx hb dL_law_255 rfl (lv_at hl 0 rfl) ?_
  refine lv_iload_n hx hb dL_law_256 rfl (lv_at hl 3 rfl) ?_
  refine lv_iconst (v := 3) hx hb dL_law_257 (by decide) ?_
  refine lv_iadd hx hb dL_law_258 ?_
  refine va_sld hx hb hX hbl hbA hw.2.2 (lw_vin 3 3 rfl (by omega) hL) dL_law_259 ?_
  refine lv_topi (fun a3 ea3 => ?_)
  obtain ⟨zc, zm, hzc, hzm, he, hR2⟩ := p_pay a1 a2 a3 hR
  refine cVL2 [.int zc.1] cx (CX8_pay l D C (ad 0) (ad 1) (ad 15) (ad 29) (ad 32) (ad 36) (ad 44) (ad 46) (ad 2) (ad 5) (ad 7) (ad 9) (ad 11) (ad 13) (ad 3) (ad 4) (vi 0) (vi 1) (vi 2) (va 0) (va 1) a1 a2 a3 zc hzc) lk_L_23 my_X8_pay ml_X8_pay ⟨by decide, by decide⟩ hw [0, 1, 2, 3, 4] (ce h0 (ce h1 (ce h2 (ce h3 (ce h4 rfl))))) (by decide +kernel) rfl rfl rfl rfl (Nat.le_of_ble_eq_true rfl) dL_law_260 rfl (fun H locs hw => ?_) hl.1 ⟨Nat.le_of_ble_eq_true rfl, Nat.le_of_ble_eq_true rfl⟩
  refine lv_aload_n hx hb dL_law_263 rfl (lv_at hl 2 rfl) ?_
  refine lv_aload_n hx hb dL_law_264 rfl (lv_at hl 0 rfl) ?_
  refine lv_iload_n hx hb dL_law_265 rfl (lv_at hl 3 rfl) ?_
  refine lv_iconst (v := 1) hx hb dL_law_266 (by decide) ?_
  refine lv_iadd hx hb dL_law_267 ?_
  refine va_sld hx hb hX hbl hbA hw.2.2 (lw_vin 1 1 rfl (by omega) hL) dL_law_268 ?_
  refine lv_topi (fun y ey => ?_)
  obtain rfl : a1 = y := ea1.trans ey.symm
  refine lv_aload_n hx hb dL_law_269 rfl (lv_at hl 0 rfl) ?_
  refine lv_iload_n hx hb dL_law_270 rfl (lv_at hl 3 rfl) ?_
  refine lv_iconst (v := 2) hx hb dL_law_271 (by decide) ?_
  refine lv_iadd hx hb dL_law_272 ?_
  refine va_sld hx hb hX hbl hbA hw.2.2 (lw_vin 2 2 rfl (by omega) hL) dL_law_273 ?_
  refine lv_topi (fun y ey => ?_)
  obtain rfl : a2 = y := ea2.trans ey.symm
  refine lv_aload_n hx hb dL_law_274 rfl (lv_at hl 0 rfl) ?_
  refine lv_iload_n hx hb dL_law_275 rfl (lv_at hl 3 rfl) ?_
  refine lv_iconst (v := 3) hx hb dL_law_276 (by decide) ?_
  refine lv_iadd hx hb dL_law_277 ?_
  refine va_sld hx hb hX hbl hbA hw.2.2 (lw_vin 3 3 rfl (by omega) hL) dL_law_278 ?_
  refine lv_topi (fun y ey => ?_)
  obtain rfl : a3 = y := ea3.trans ey.symm
  refine cVL2 [.int zm.1, .int zc.1] cx (CX9_pay l D C (ad 59) (ad 60) (ad 61) (ad 62) (ad 63) (ad 64) (ad 65) (ad 66) (ad 67) (ad 68) (ad 69) (ad 70) (ad 71) (ad 72) (ad 73) (ad 74) (ad 75) (ad 76) (ad 77) (ad 78) (ad 79) (ad 80) (vi 21) (vi 22) (vi 23) (vi 24) (vi 25) (vi 26) (vi 27) (vi 28) (vi 29) (vi 30) (vi 31) vl (vi 32) (vi 33) (vi 34) (va 26) (va 28) a1 a2 a3 zm hzm) lk_L_26 my_X9_pay ml_X9_pay ⟨by decide, by decide⟩ hw [59, 60, 62] (ce h59 (ce h60 (ce h62 rfl))) (by decide +kernel) rfl rfl rfl rfl (Nat.le_of_ble_eq_true rfl) dL_law_279 rfl (fun H locs hw => ?_) hl.1 ⟨Nat.le_of_ble_eq_true rfl, Nat.le_of_ble_eq_true rfl⟩
  refine lv_icmp_eq (tgt := 1303) hx hb dL_law_282 (by decide) (fun _ => ?_) (fun c9 => absurd he c9)
  refine (fun q9 => hk _ H locs ls q9 hw hl) ?_
  exact ⟨(ups (ups vi 2 zc.2.1) 22 zm.2.1), (ups (ups (ups (ups va 0 zc.2.2.1) 1 zc.2.2.2) 26 zm.2.2.1) 28 zm.2.2.2), vl, vj, ti, _, hR2, rfl, rfl, rfl, rfl, rfl, rfl, h5, h6, h7, h8, h9, h10, h11, h12, h13, h14, h15, h16, h17, h18, h19, h20, h21, h22, h23, h24, h25, h26, h27, h28, h29, h30, h31, h32, h33, h34, h35, h36, h37, h38, h39, h40, h41, h42, h43, h44, h45, h46, fun k hk => ⟨(tput rfl rfl (by omega)).trans (hT k hk).1, (tput rfl rfl (by omega)).trans (hT k hk).2⟩, rfl, rfl, h61, rfl, h63, h64, h65, h66, h67, h68, h69, h70, h71, h72, h73, h74, h75, h76, h77, h78, h79, h80⟩
set_option maxRecDepth 20000 in
set_option maxHeartbeats 1000000 in
theorem lc_consent {p : Program} {l : Launch} {e : Env} {s : State} {m : MethodId} {below : List Frame} {meth : Method} {c : Code} {D : va_G} {C : Nat → ClassId} {b L i : Nat} {xs : Nat → Int32} {ad : Nat → Nat} {tp : Nat → Option Nat} (C0 : lw_At p s m meth c b L xs) (cx : CX p m c s #[Value.ref b] RL cL_law 4 D C (fun q : Nat => s.heap.size ≤ q) room_1 83) (hi : i + 6 ≤ L) (hL : L ≤ 3072) (hTp : LTape ad tp)
    (hk : ∀ (w : va_W) (H : Heap) (locs : List Loc) (ls : Array Slot), LI C ad tp w → HW D (fun q : Nat => s.heap.size ≤ q) s.heap H locs w → lv_has ls 4 [(0, .ref b), (1, .ref (ad 0)), (2, .ref (ad 59)), (3, .int (nI i))] → W p l e room_1 s m #[Value.ref b] below meth c H locs 81 2747 (lw_Z below #[Value.ref b] s) (F0 m 1303 ls []))
    {w : va_W} {H : Heap} {locs : List Loc} {ls : Array Slot} (hI : LI C ad tp w) (hw : HW D (fun q : Nat => s.heap.size ≤ q) s.heap H locs w) (hl : lv_has ls 4 [(0, .ref b), (1, .ref (ad 0)), (2, .ref (ad 59)), (3, .int (nI i))]) : W p l e room_1 s m #[Value.ref b] below meth c H locs 81 2747 (lw_Z below #[Value.ref b] s) (F0 m 287 ls []) := by
  obtain ⟨vi, va, vl, vj, ti, f, hR, rfl, F⟩ := hI
  have h0 := lf_h0 F
  have h1 := lf_h1 F
  have h2 := lf_h2 F
  have h3 := lf_h3 F
  have h4 := lf_h4 F
  have h5 := lf_h5 F
  have h6 := lf_h6 F
  have h7 := lf_h7 F
  have h8 := lf_h8 F
  have h9 := lf_h9 F
  have h10 := lf_h10 F
  have h11 := lf_h11 F
  have h12 := lf_h12 F
  have h13 := lf_h13 F
  have h14 := lf_h14 F
  have h15 := lf_h15 F
  have h16 := lf_h16 F
  have h17 := lf_h17 F
  have h18 := lf_h18 F
  have h19 := lf_h19 F
  have h20 := lf_h20 F
  have h21 := lf_h21 F
  have h22 := lf_h22 F
  have h23 := lf_h23 F
  have h24 := lf_h24 F
  have h25 := lf_h25 F
  have h26 := lf_h26 F
  have h27 := lf_h27 F
  have h28 := lf_h28 F
  have h29 := lf_h29 F
  have h30 := lf_h30 F
  have h31 := lf_h31 F
  have h32 := lf_h32 F
  have h33 := lf_h33 F
  have h34 := lf_h34 F
  have h35 := lf_h35 F
  have h36 := lf_h36 F
  have h37 := lf_h37 F
  have h38 := lf_h38 F
  have h39 := lf_h39 F
  have h40 := lf_h40 F
  have h41 := lf_h41 F
  have h42 := lf_h42 F
  have h43 := lf_h43 F
  have h44 := lf_h44 F
  have h45 := lf_h45 F
  have h46 := lf_h46 F
  have hT := lf_hT F
  have h59 := lf_h59 F
  have h60 := lf_h60 F
  have h61 := lf_h61 F
  have h62 := lf_h62 F
  have h63 := lf_h63 F
  have h64 := lf_h64 F
  have h65 := lf_h65 F
  have h66 := lf_h66 F
  have h67 := lf_h67 F
  have h68 := lf_h68 F
  have h69 := lf_h69 F
  have h70 := lf_h70 F
  have h71 := lf_h71 F
  have h72 := lf_h72 F
  have h73 := lf_h73 F
  have h74 := lf_h74 F
  have h75 := lf_h75 F
  have h76 := lf_h76 F
  have h77 := lf_h77 F
  have h78 := lf_h78 F
  have h79 := lf_h79 F
  have h80 := lf_h80 F
  have hx := cx.1
  have hb := cx.2.1
  obtain ⟨-, -, -, -, -, -, hX, hbl, -, -⟩ := id C0
  have hbA : ¬ (fun q : Nat => s.heap.size ≤ q) b := Nat.not_le.mpr hbl
  refine lv_aload_n hx hb dL_law_287 rfl (lv_at hl 1 rfl) ?_
  refine lv_aload_n hx hb dL_law_288 rfl (lv_at hl 0 rfl) ?_
  refine lv_iload_n hx hb dL_law_289 rfl (lv_at hl 3 rfl) ?_
  refine lv_iconst (v := 1) hx hb dL_law_290 (by decide) ?_
  refine lv_iadd hx hb dL_law_291 ?_
  refine va_sld hx hb hX hbl hbA hw.2.2 (lw_vin 1 1 rfl (by omega) hL) dL_law_292 ?_
  refine lv_topi (fun a1 ea1 => ?_)
  refine lv_aload_n hx hb dL_law_293 rfl (lv_at hl 0 rfl) ?_
  refine lv_iload_n hx hb dL_law_294 rfl (lv_at hl 3 rfl) ?_
  refine lv_iconst (v := 2) hx hb dL_law_295 (by decide) ?_
  refine lv_iadd hx hb dL_law_296 ?_
  refine va_sld hx hb hX hbl hbA hw.2.2 (lw_vin 2 2 rfl (by omega) hL) dL_law_297 ?_
  refine lv_topi (fun a2 ea2 => ?_)
  refine lv_aload_n hx hb dL_law_298 rfl (lv_at hl 0 rfl) ?_
  refine lv_iload_n hx hb dL_law_299 rfl (lv_at hl 3 rfl) ?_
  refine lv_iconst (v := 3) hx hb dL_law_300 (by decide) ?_
  refine lv_iadd hx hb dL_law_301 ?_
  refine va_sld hx hb hX hbl hbA hw.2.2 (lw_vin 3 3 rfl (by omega) hL) dL_law_302 ?_
  refine lv_topi (fun a3 ea3 => ?_)
  refine lv_if_eq (tgt := 310) hx hb dL_law_303 (by decide) (fun c3 => ?_) (fun c3 => ?_)
  · refine lv_iconst (v := 0) hx hb dL_law_310 (by decide) ?_
    obtain ⟨zc, zm, hzc, hzm, he, hR2⟩ := p_consent a1 a2 0 (Or.inl rfl) hR
    refine cVL2 [.int zc.1] cx (CX8_consent l D C (ad 0) (ad 1) (ad 15) (ad 29) (ad 32) (ad 36) (ad 44) (ad 46) (ad 2) (ad 5) (ad 7) (ad 9) (ad 11) (ad 13) (ad 6) (vi 0) (vi 1) (va 2) a1 a2 0 zc hzc) lk_L_27 my_X8_consent ml_X8_consent ⟨by decide, by decide⟩ hw [0, 1, 5, 6] (ce h0 (ce h1 (ce h5 (ce h6 rfl)))) (by decide +kernel) rfl rfl rfl rfl (Nat.le_of_ble_eq_true rfl) dL_law_311 rfl (fun H locs hw => ?_) hl.1 ⟨Nat.le_of_ble_eq_true rfl, Nat.le_of_ble_eq_true rfl⟩
    refine lv_aload_n hx hb dL_law_314 rfl (lv_at hl 2 rfl) ?_
    refine lv_aload_n hx hb dL_law_315 rfl (lv_at hl 0 rfl) ?_
    refine lv_iload_n hx hb dL_law_316 rfl (lv_at hl 3 rfl) ?_
    refine lv_iconst (v := 1) hx hb dL_law_317 (by decide) ?_
    refine lv_iadd hx hb dL_law_318 ?_
    refine va_sld hx hb hX hbl hbA hw.2.2 (lw_vin 1 1 rfl (by omega) hL) dL_law_319 ?_
    refine lv_topi (fun y ey => ?_)
    obtain rfl : a1 = y := ea1.trans ey.symm
    refine lv_aload_n hx hb dL_law_320 rfl (lv_at hl 0 rfl) ?_
    refine lv_iload_n hx hb dL_law_321 rfl (lv_at hl 3 rfl) ?_
    refine lv_iconst (v := 2) hx hb dL_law_322 (by decide) ?_
    refine lv_iadd hx hb dL_law_323 ?_
    refine va_sld hx hb hX hbl hbA hw.2.2 (lw_vin 2 2 rfl (by omega) hL) dL_law_324 ?_
    refine lv_topi (fun y ey => ?_)
    obtain rfl : a2 = y := ea2.trans ey.symm
    refine lv_aload_n hx hb dL_law_325 rfl (lv_at hl 0 rfl) ?_
    refine lv_iload_n hx hb dL_law_326 rfl (lv_at hl 3 rfl) ?_
    refine lv_iconst (v := 3) hx hb dL_law_327 (by decide) ?_
    refine lv_iadd hx hb dL_law_328 ?_
    refine va_sld hx hb hX hbl hbA hw.2.2 (lw_vin 3 3 rfl (by omega) hL) dL_law_329 ?_
    refine lv_topi (fun y ey => ?_)
    obtain rfl : a3 = y := ea3.trans ey.symm
    refine lv_if_eq (tgt := 337) hx hb dL_law_330 (by decide) (fun _ => ?_) (fun c2 => absurd c3 c2)
    refine lv_iconst (v := 0) hx hb dL_law_337 (by decide) ?_
    refine cVL2 [.int zm.1, .int zc.1] cx (CX9_consent l D C (ad 59) (ad 60) (ad 61) (ad 62) (ad 63) (ad 64) (ad 65) (ad 66) (ad 67) (ad 68) (ad 69) (ad 70) (ad 71) (ad 72) (ad 73) (ad 74) (ad 75) (ad 76) (ad 77) (ad 78) (ad 79) (ad 80) (vi 21) (vi 22) (vi 23) (vi 24) (vi 25) (vi 26) (vi 27) (vi 28) (vi 29) (vi 30) (vi 31) vl (vi 32) (vi 33) (vi 34) (va 27) a1 a2 0 zm hzm) lk_L_31 my_X9_consent ml_X9_consent ⟨by decide, by decide⟩ hw [59, 61] (ce h59 (ce h61 rfl)) (by decide +kernel) rfl rfl rfl rfl (Nat.le_of_ble_eq_true rfl) dL_law_338 rfl (fun H locs hw => ?_) hl.1 ⟨Nat.le_of_ble_eq_true rfl, Nat.le_of_ble_eq_true rfl⟩
    refine lv_icmp_eq (tgt := 1303) hx hb dL_law_341 (by decide) (fun _ => ?_) (fun c9 => absurd he c9)
    refine (fun q9 => hk _ H locs ls q9 hw hl) ?_
    exact ⟨vi, (ups (ups va 2 zc.2) 27 zm.2), vl, vj, ti, _, hR2, rfl, rfl, rfl, h2, h3, h4, rfl, rfl, h7, h8, h9, h10, h11, h12, h13, h14, h15, h16, h17, h18, h19, h20, h21, h22, h23, h24, h25, h26, h27, h28, h29, h30, h31, h32, h33, h34, h35, h36, h37, h38, h39, h40, h41, h42, h43, h44, h45, h46, fun k hk => ⟨(tput rfl rfl (by omega)).trans (hT k hk).1, (tput rfl rfl (by omega)).trans (hT k hk).2⟩, rfl, h60, rfl, h62, h63, h64, h65, h66, h67, h68, h69, h70, h71, h72, h73, h74, h75, h76, h77, h78, h79, h80⟩
  · refine lv_iconst (v := 1) hx hb dL_law_306 (by decide) ?_
    refine lv_goto (tgt := 311) hx hb dL_law_307 (by decide) ?_
    obtain ⟨zc, zm, hzc, hzm, he, hR2⟩ := p_consent a1 a2 1 (Or.inr rfl) hR
    refine cVL2 [.int zc.1] cx (CX8_consent l D C (ad 0) (ad 1) (ad 15) (ad 29) (ad 32) (ad 36) (ad 44) (ad 46) (ad 2) (ad 5) (ad 7) (ad 9) (ad 11) (ad 13) (ad 6) (vi 0) (vi 1) (va 2) a1 a2 1 zc hzc) lk_L_27 my_X8_consent ml_X8_consent ⟨by decide, by decide⟩ hw [0, 1, 5, 6] (ce h0 (ce h1 (ce h5 (ce h6 rfl)))) (by decide +kernel) rfl rfl rfl rfl (Nat.le_of_ble_eq_true rfl) dL_law_311 rfl (fun H locs hw => ?_) hl.1 ⟨Nat.le_of_ble_eq_true rfl, Nat.le_of_ble_eq_true rfl⟩
    refine lv_aload_n hx hb dL_law_314 rfl (lv_at hl 2 rfl) ?_
    refine lv_aload_n hx hb dL_law_315 rfl (lv_at hl 0 rfl) ?_
    refine lv_iload_n hx hb dL_law_316 rfl (lv_at hl 3 rfl) ?_
    refine lv_iconst (v := 1) hx hb dL_law_317 (by decide) ?_
    refine lv_iadd hx hb dL_law_318 ?_
    refine va_sld hx hb hX hbl hbA hw.2.2 (lw_vin 1 1 rfl (by omega) hL) dL_law_319 ?_
    refine lv_topi (fun y ey => ?_)
    obtain rfl : a1 = y := ea1.trans ey.symm
    refine lv_aload_n hx hb dL_law_320 rfl (lv_at hl 0 rfl) ?_
    refine lv_iload_n hx hb dL_law_321 rfl (lv_at hl 3 rfl) ?_
    refine lv_iconst (v := 2) hx hb dL_law_322 (by decide) ?_
    refine lv_iadd hx hb dL_law_323 ?_
    refine va_sld hx hb hX hbl hbA hw.2.2 (lw_vin 2 2 rfl (by omega) hL) dL_law_324 ?_
    refine lv_topi (fun y ey => ?_)
    obtain rfl : a2 = y := ea2.trans ey.symm
    refine lv_aload_n hx hb dL_law_325 rfl (lv_at hl 0 rfl) ?_
    refine lv_iload_n hx hb dL_law_326 rfl (lv_at hl 3 rfl) ?_
    refine lv_iconst (v := 3) hx hb dL_law_327 (by decide) ?_
    refine lv_iadd hx hb dL_law_328 ?_
    refine va_sld hx hb hX hbl hbA hw.2.2 (lw_vin 3 3 rfl (by omega) hL) dL_law_329 ?_
    refine lv_topi (fun y ey => ?_)
    obtain rfl : a3 = y := ea3.trans ey.symm
    refine lv_if_eq (tgt := 337) hx hb dL_law_330 (by decide) (fun c2 => absurd c2 c3) (fun _ => ?_)
    refine lv_iconst (v := 1) hx hb dL_law_333 (by decide) ?_
    refine lv_goto (tgt := 338) hx hb dL_law_334 (by decide) ?_
    refine cVL2 [.int zm.1, .int zc.1] cx (CX9_consent l D C (ad 59) (ad 60) (ad 61) (ad 62) (ad 63) (ad 64) (ad 65) (ad 66) (ad 67) (ad 68) (ad 69) (ad 70) (ad 71) (ad 72) (ad 73) (ad 74) (ad 75) (ad 76) (ad 77) (ad 78) (ad 79) (ad 80) (vi 21) (vi 22) (vi 23) (vi 24) (vi 25) (vi 26) (vi 27) (vi 28) (vi 29) (vi 30) (vi 31) vl (vi 32) (vi 33) (vi 34) (va 27) a1 a2 1 zm hzm) lk_L_31 my_X9_consent ml_X9_consent ⟨by decide, by decide⟩ hw [59, 61] (ce h59 (ce h61 rfl)) (by decide +kernel) rfl rfl rfl rfl (Nat.le_of_ble_eq_true rfl) dL_law_338 rfl (fun H locs hw => ?_) hl.1 ⟨Nat.le_of_ble_eq_true rfl, Nat.le_of_ble_eq_true rfl⟩
    refine lv_icmp_eq (tgt := 1303) hx hb dL_law_341 (by decide) (fun _ => ?_) (fun c9 => absurd he c9)
    refine (fun q9 => hk _ H locs ls q9 hw hl) ?_
    exact ⟨vi, (ups (ups va 2 zc.2) 27 zm.2), vl, vj, ti, _, hR2, rfl, rfl, rfl, h2, h3, h4, rfl, rfl, h7, h8, h9, h10, h11, h12, h13, h14, h15, h16, h17, h18, h19, h20, h21, h22, h23, h24, h25, h26, h27, h28, h29, h30, h31, h32, h33, h34, h35, h36, h37, h38, h39, h40, h41, h42, h43, h44, h45, h46, fun k hk => ⟨(tput rfl rfl (by omega)).trans (hT k hk).1, (tput rfl rfl (by omega)).trans (hT k hk).2⟩, rfl, h60, rfl, h62, h63, h64, h65, h66, h67, h68, h69, h70, h71, h72, h73, h74, h75, h76, h77, h78, h79, h80⟩
set_option maxRecDepth 20000 in
set_option maxHeartbeats 1000000 in
theorem lc_of {p : Program} {l : Launch} {e : Env} {s : State} {m : MethodId} {below : List Frame} {meth : Method} {c : Code} {D : va_G} {C : Nat → ClassId} {b L i : Nat} {xs : Nat → Int32} {ad : Nat → Nat} {tp : Nat → Option Nat} (C0 : lw_At p s m meth c b L xs) (cx : CX p m c s #[Value.ref b] RL cL_law 4 D C (fun q : Nat => s.heap.size ≤ q) room_1 83) (hi : i + 6 ≤ L) (hL : L ≤ 3072) (hTp : LTape ad tp)
    (hk : ∀ (w : va_W) (H : Heap) (locs : List Loc) (ls : Array Slot), LI C ad tp w → HW D (fun q : Nat => s.heap.size ≤ q) s.heap H locs w → lv_has ls 4 [(0, .ref b), (1, .ref (ad 0)), (2, .ref (ad 59)), (3, .int (nI i))] → W p l e room_1 s m #[Value.ref b] below meth c H locs 81 2747 (lw_Z below #[Value.ref b] s) (F0 m 1303 ls []))
    {w : va_W} {H : Heap} {locs : List Loc} {ls : Array Slot} (hI : LI C ad tp w) (hw : HW D (fun q : Nat => s.heap.size ≤ q) s.heap H locs w) (hl : lv_has ls 4 [(0, .ref b), (1, .ref (ad 0)), (2, .ref (ad 59)), (3, .int (nI i))]) : W p l e room_1 s m #[Value.ref b] below meth c H locs 81 2747 (lw_Z below #[Value.ref b] s) (F0 m 346 ls []) := by
  obtain ⟨vi, va, vl, vj, ti, f, hR, rfl, F⟩ := hI
  have h0 := lf_h0 F
  have h1 := lf_h1 F
  have h2 := lf_h2 F
  have h3 := lf_h3 F
  have h4 := lf_h4 F
  have h5 := lf_h5 F
  have h6 := lf_h6 F
  have h7 := lf_h7 F
  have h8 := lf_h8 F
  have h9 := lf_h9 F
  have h10 := lf_h10 F
  have h11 := lf_h11 F
  have h12 := lf_h12 F
  have h13 := lf_h13 F
  have h14 := lf_h14 F
  have h15 := lf_h15 F
  have h16 := lf_h16 F
  have h17 := lf_h17 F
  have h18 := lf_h18 F
  have h19 := lf_h19 F
  have h20 := lf_h20 F
  have h21 := lf_h21 F
  have h22 := lf_h22 F
  have h23 := lf_h23 F
  have h24 := lf_h24 F
  have h25 := lf_h25 F
  have h26 := lf_h26 F
  have h27 := lf_h27 F
  have h28 := lf_h28 F
  have h29 := lf_h29 F
  have h30 := lf_h30 F
  have h31 := lf_h31 F
  have h32 := lf_h32 F
  have h33 := lf_h33 F
  have h34 := lf_h34 F
  have h35 := lf_h35 F
  have h36 := lf_h36 F
  have h37 := lf_h37 F
  have h38 := lf_h38 F
  have h39 := lf_h39 F
  have h40 := lf_h40 F
  have h41 := lf_h41 F
  have h42 := lf_h42 F
  have h43 := lf_h43 F
  have h44 := lf_h44 F
  have h45 := lf_h45 F
  have h46 := lf_h46 F
  have hT := lf_hT F
  have h59 := lf_h59 F
  have h60 := lf_h60 F
  have h61 := lf_h61 F
  have h62 := lf_h62 F
  have h63 := lf_h63 F
  have h64 := lf_h64 F
  have h65 := lf_h65 F
  have h66 := lf_h66 F
  have h67 := lf_h67 F
  have h68 := lf_h68 F
  have h69 := lf_h69 F
  have h70 := lf_h70 F
  have h71 := lf_h71 F
  have h72 := lf_h72 F
  have h73 := lf_h73 F
  have h74 := lf_h74 F
  have h75 := lf_h75 F
  have h76 := lf_h76 F
  have h77 := lf_h77 F
  have h78 := lf_h78 F
  have h79 := lf_h79 F
  have h80 := lf_h80 F
  have hx := cx.1
  have hb := cx.2.1
  obtain ⟨-, -, -, -, -, -, hX, hbl, -, -⟩ := id C0
  have hbA : ¬ (fun q : Nat => s.heap.size ≤ q) b := Nat.not_le.mpr hbl
  refine lv_aload_n hx hb dL_law_346 rfl (lv_at hl 1 rfl) ?_
  refine lv_aload_n hx hb dL_law_347 rfl (lv_at hl 0 rfl) ?_
  refine lv_iload_n hx hb dL_law_348 rfl (lv_at hl 3 rfl) ?_
  refine lv_iconst (v := 1) hx hb dL_law_349 (by decide) ?_
  refine lv_iadd hx hb dL_law_350 ?_
  refine va_sld hx hb hX hbl hbA hw.2.2 (lw_vin 1 1 rfl (by omega) hL) dL_law_351 ?_
  refine lv_topi (fun a1 ea1 => ?_)
  refine lv_aload_n hx hb dL_law_352 rfl (lv_at hl 0 rfl) ?_
  refine lv_iload_n hx hb dL_law_353 rfl (lv_at hl 3 rfl) ?_
  refine lv_iconst (v := 2) hx hb dL_law_354 (by decide) ?_
  refine lv_iadd hx hb dL_law_355 ?_
  refine va_sld hx hb hX hbl hbA hw.2.2 (lw_vin 2 2 rfl (by omega) hL) dL_law_356 ?_
  refine lv_topi (fun a2 ea2 => ?_)
  refine lv_aload_n hx hb dL_law_357 rfl (lv_at hl 0 rfl) ?_
  refine lv_iload_n hx hb dL_law_358 rfl (lv_at hl 3 rfl) ?_
  refine lv_iconst (v := 3) hx hb dL_law_359 (by decide) ?_
  refine lv_iadd hx hb dL_law_360 ?_
  refine va_sld hx hb hX hbl hbA hw.2.2 (lw_vin 3 3 rfl (by omega) hL) dL_law_361 ?_
  refine lv_topi (fun a3 ea3 => ?_)
  obtain ⟨zc, zm, hzc, hzm, he, hR2⟩ := p_of a1 a2 a3 hR
  refine cVL2 [.int zc] cx (CX8_of l D C (ad 0) (ad 1) (ad 15) (ad 29) (ad 32) (ad 36) (ad 44) (ad 46) (ad 2) (ad 5) (ad 7) (ad 9) (ad 11) (ad 13) (ad 3) (ad 4) (ad 6) (vi 0) (vi 1) (vi 2) (va 0) (va 1) (va 2) a1 a2 a3 zc hzc) lk_L_32 my_X8_of ml_X8_of ⟨by decide, by decide⟩ hw [0, 1, 2, 3, 4, 5, 6] (ce h0 (ce h1 (ce h2 (ce h3 (ce h4 (ce h5 (ce h6 rfl))))))) (by decide +kernel) rfl rfl rfl rfl (Nat.le_of_ble_eq_true rfl) dL_law_362 rfl (fun H locs hw => ?_) hl.1 ⟨Nat.le_of_ble_eq_true rfl, Nat.le_of_ble_eq_true rfl⟩
  refine lv_aload_n hx hb dL_law_365 rfl (lv_at hl 2 rfl) ?_
  refine lv_aload_n hx hb dL_law_366 rfl (lv_at hl 0 rfl) ?_
  refine lv_iload_n hx hb dL_law_367 rfl (lv_at hl 3 rfl) ?_
  refine lv_iconst (v := 1) hx hb dL_law_368 (by decide) ?_
  refine lv_iadd hx hb dL_law_369 ?_
  refine va_sld hx hb hX hbl hbA hw.2.2 (lw_vin 1 1 rfl (by omega) hL) dL_law_370 ?_
  refine lv_topi (fun y ey => ?_)
  obtain rfl : a1 = y := ea1.trans ey.symm
  refine lv_aload_n hx hb dL_law_371 rfl (lv_at hl 0 rfl) ?_
  refine lv_iload_n hx hb dL_law_372 rfl (lv_at hl 3 rfl) ?_
  refine lv_iconst (v := 2) hx hb dL_law_373 (by decide) ?_
  refine lv_iadd hx hb dL_law_374 ?_
  refine va_sld hx hb hX hbl hbA hw.2.2 (lw_vin 2 2 rfl (by omega) hL) dL_law_375 ?_
  refine lv_topi (fun y ey => ?_)
  obtain rfl : a2 = y := ea2.trans ey.symm
  refine lv_aload_n hx hb dL_law_376 rfl (lv_at hl 0 rfl) ?_
  refine lv_iload_n hx hb dL_law_377 rfl (lv_at hl 3 rfl) ?_
  refine lv_iconst (v := 3) hx hb dL_law_378 (by decide) ?_
  refine lv_iadd hx hb dL_law_379 ?_
  refine va_sld hx hb hX hbl hbA hw.2.2 (lw_vin 3 3 rfl (by omega) hL) dL_law_380 ?_
  refine lv_topi (fun y ey => ?_)
  obtain rfl : a3 = y := ea3.trans ey.symm
  refine cVL2 [.int zm, .int zc] cx (CX9_of l D C (ad 59) (ad 60) (ad 61) (ad 62) (ad 63) (ad 64) (ad 65) (ad 66) (ad 67) (ad 68) (ad 69) (ad 70) (ad 71) (ad 72) (ad 73) (ad 74) (ad 75) (ad 76) (ad 77) (ad 78) (ad 79) (ad 80) (vi 21) (vi 22) (vi 23) (vi 24) (vi 25) (vi 26) (vi 27) (vi 28) (vi 29) (vi 30) (vi 31) vl (vi 32) (vi 33) (vi 34) (va 26) (va 27) (va 28) a1 a2 a3 zm hzm) lk_L_35 my_X9_of ml_X9_of ⟨by decide, by decide⟩ hw [59, 60, 61, 62] (ce h59 (ce h60 (ce h61 (ce h62 rfl)))) (by decide +kernel) rfl rfl rfl rfl (Nat.le_of_ble_eq_true rfl) dL_law_381 rfl (fun H locs hw => ?_) hl.1 ⟨Nat.le_of_ble_eq_true rfl, Nat.le_of_ble_eq_true rfl⟩
  refine lv_icmp_eq (tgt := 1303) hx hb dL_law_384 (by decide) (fun _ => ?_) (fun c9 => absurd he c9)
  refine (fun q9 => hk _ H locs ls q9 hw hl) ?_
  exact ⟨vi, va, vl, vj, ti, _, hR2, rfl, rfl, rfl, rfl, rfl, rfl, rfl, rfl, h7, h8, h9, h10, h11, h12, h13, h14, h15, h16, h17, h18, h19, h20, h21, h22, h23, h24, h25, h26, h27, h28, h29, h30, h31, h32, h33, h34, h35, h36, h37, h38, h39, h40, h41, h42, h43, h44, h45, h46, fun k hk => ⟨(tput rfl rfl (by omega)).trans (hT k hk).1, (tput rfl rfl (by omega)).trans (hT k hk).2⟩, rfl, rfl, rfl, rfl, h63, h64, h65, h66, h67, h68, h69, h70, h71, h72, h73, h74, h75, h76, h77, h78, h79, h80⟩
set_option maxRecDepth 20000 in
set_option maxHeartbeats 1000000 in
theorem lc_debt {p : Program} {l : Launch} {e : Env} {s : State} {m : MethodId} {below : List Frame} {meth : Method} {c : Code} {D : va_G} {C : Nat → ClassId} {b L i : Nat} {xs : Nat → Int32} {ad : Nat → Nat} {tp : Nat → Option Nat} (C0 : lw_At p s m meth c b L xs) (cx : CX p m c s #[Value.ref b] RL cL_law 4 D C (fun q : Nat => s.heap.size ≤ q) room_1 83) (hi : i + 6 ≤ L) (hL : L ≤ 3072) (hTp : LTape ad tp)
    (hk : ∀ (w : va_W) (H : Heap) (locs : List Loc) (ls : Array Slot), LI C ad tp w → HW D (fun q : Nat => s.heap.size ≤ q) s.heap H locs w → lv_has ls 4 [(0, .ref b), (1, .ref (ad 0)), (2, .ref (ad 59)), (3, .int (nI i))] → W p l e room_1 s m #[Value.ref b] below meth c H locs 81 2747 (lw_Z below #[Value.ref b] s) (F0 m 1303 ls []))
    {w : va_W} {H : Heap} {locs : List Loc} {ls : Array Slot} (hI : LI C ad tp w) (hw : HW D (fun q : Nat => s.heap.size ≤ q) s.heap H locs w) (hl : lv_has ls 4 [(0, .ref b), (1, .ref (ad 0)), (2, .ref (ad 59)), (3, .int (nI i))]) : W p l e room_1 s m #[Value.ref b] below meth c H locs 81 2747 (lw_Z below #[Value.ref b] s) (F0 m 389 ls []) := by
  obtain ⟨vi, va, vl, vj, ti, f, hR, rfl, F⟩ := hI
  have h0 := lf_h0 F
  have h1 := lf_h1 F
  have h2 := lf_h2 F
  have h3 := lf_h3 F
  have h4 := lf_h4 F
  have h5 := lf_h5 F
  have h6 := lf_h6 F
  have h7 := lf_h7 F
  have h8 := lf_h8 F
  have h9 := lf_h9 F
  have h10 := lf_h10 F
  have h11 := lf_h11 F
  have h12 := lf_h12 F
  have h13 := lf_h13 F
  have h14 := lf_h14 F
  have h15 := lf_h15 F
  have h16 := lf_h16 F
  have h17 := lf_h17 F
  have h18 := lf_h18 F
  have h19 := lf_h19 F
  have h20 := lf_h20 F
  have h21 := lf_h21 F
  have h22 := lf_h22 F
  have h23 := lf_h23 F
  have h24 := lf_h24 F
  have h25 := lf_h25 F
  have h26 := lf_h26 F
  have h27 := lf_h27 F
  have h28 := lf_h28 F
  have h29 := lf_h29 F
  have h30 := lf_h30 F
  have h31 := lf_h31 F
  have h32 := lf_h32 F
  have h33 := lf_h33 F
  have h34 := lf_h34 F
  have h35 := lf_h35 F
  have h36 := lf_h36 F
  have h37 := lf_h37 F
  have h38 := lf_h38 F
  have h39 := lf_h39 F
  have h40 := lf_h40 F
  have h41 := lf_h41 F
  have h42 := lf_h42 F
  have h43 := lf_h43 F
  have h44 := lf_h44 F
  have h45 := lf_h45 F
  have h46 := lf_h46 F
  have hT := lf_hT F
  have h59 := lf_h59 F
  have h60 := lf_h60 F
  have h61 := lf_h61 F
  have h62 := lf_h62 F
  have h63 := lf_h63 F
  have h64 := lf_h64 F
  have h65 := lf_h65 F
  have h66 := lf_h66 F
  have h67 := lf_h67 F
  have h68 := lf_h68 F
  have h69 := lf_h69 F
  have h70 := lf_h70 F
  have h71 := lf_h71 F
  have h72 := lf_h72 F
  have h73 := lf_h73 F
  have h74 := lf_h74 F
  have h75 := lf_h75 F
  have h76 := lf_h76 F
  have h77 := lf_h77 F
  have h78 := lf_h78 F
  have h79 := lf_h79 F
  have h80 := lf_h80 F
  have hx := cx.1
  have hb := cx.2.1
  obtain ⟨-, -, -, -, -, -, hX, hbl, -, -⟩ := id C0
  have hbA : ¬ (fun q : Nat => s.heap.size ≤ q) b := Nat.not_le.mpr hbl
  refine lv_aload_n hx hb dL_law_389 rfl (lv_at hl 1 rfl) ?_
  refine lv_aload_n hx hb dL_law_390 rfl (lv_at hl 0 rfl) ?_
  refine lv_iload_n hx hb dL_law_391 rfl (lv_at hl 3 rfl) ?_
  refine lv_iconst (v := 1) hx hb dL_law_392 (by decide) ?_
  refine lv_iadd hx hb dL_law_393 ?_
  refine va_sld hx hb hX hbl hbA hw.2.2 (lw_vin 1 1 rfl (by omega) hL) dL_law_394 ?_
  refine lv_topi (fun a1 ea1 => ?_)
  refine lv_aload_n hx hb dL_law_395 rfl (lv_at hl 0 rfl) ?_
  refine lv_iload_n hx hb dL_law_396 rfl (lv_at hl 3 rfl) ?_
  refine lv_iconst (v := 2) hx hb dL_law_397 (by decide) ?_
  refine lv_iadd hx hb dL_law_398 ?_
  refine va_sld hx hb hX hbl hbA hw.2.2 (lw_vin 2 2 rfl (by omega) hL) dL_law_399 ?_
  refine lv_topi (fun a2 ea2 => ?_)
  obtain ⟨zc, zm, hzc, hzm, he, hR2⟩ := p_debt a1 a2 hR
  refine cVL2 [.int zc] cx (CX8_debt l D C (ad 0) (ad 1) (ad 15) (ad 29) (ad 32) (ad 36) (ad 44) (ad 46) (ad 2) (ad 5) (ad 7) (ad 9) (ad 11) (ad 13) (ad 3) (ad 4) (vi 0) (vi 1) (vi 2) (va 0) (va 1) a1 a2 zc hzc) lk_L_36 my_X8_debt ml_X8_debt ⟨by decide, by decide⟩ hw [0, 1, 2, 3, 4] (ce h0 (ce h1 (ce h2 (ce h3 (ce h4 rfl))))) (by decide +kernel) rfl rfl rfl rfl (Nat.le_of_ble_eq_true rfl) dL_law_400 rfl (fun H locs hw => ?_) hl.1 ⟨Nat.le_of_ble_eq_true rfl, Nat.le_of_ble_eq_true rfl⟩
  refine lv_aload_n hx hb dL_law_403 rfl (lv_at hl 2 rfl) ?_
  refine lv_aload_n hx hb dL_law_404 rfl (lv_at hl 0 rfl) ?_
  refine lv_iload_n hx hb dL_law_405 rfl (lv_at hl 3 rfl) ?_
  refine lv_iconst (v := 1) hx hb dL_law_406 (by decide) ?_
  refine lv_iadd hx hb dL_law_407 ?_
  refine va_sld hx hb hX hbl hbA hw.2.2 (lw_vin 1 1 rfl (by omega) hL) dL_law_408 ?_
  refine lv_topi (fun y ey => ?_)
  obtain rfl : a1 = y := ea1.trans ey.symm
  refine lv_aload_n hx hb dL_law_409 rfl (lv_at hl 0 rfl) ?_
  refine lv_iload_n hx hb dL_law_410 rfl (lv_at hl 3 rfl) ?_
  refine lv_iconst (v := 2) hx hb dL_law_411 (by decide) ?_
  refine lv_iadd hx hb dL_law_412 ?_
  refine va_sld hx hb hX hbl hbA hw.2.2 (lw_vin 2 2 rfl (by omega) hL) dL_law_413 ?_
  refine lv_topi (fun y ey => ?_)
  obtain rfl : a2 = y := ea2.trans ey.symm
  refine cVL2 [.int zm, .int zc] cx (CX9_debt l D C (ad 59) (ad 60) (ad 61) (ad 62) (ad 63) (ad 64) (ad 65) (ad 66) (ad 67) (ad 68) (ad 69) (ad 70) (ad 71) (ad 72) (ad 73) (ad 74) (ad 75) (ad 76) (ad 77) (ad 78) (ad 79) (ad 80) (vi 21) (vi 22) (vi 23) (vi 24) (vi 25) (vi 26) (vi 27) (vi 28) (vi 29) (vi 30) (vi 31) vl (vi 32) (vi 33) (vi 34) (va 26) (va 28) a1 a2 zm hzm) lk_L_40 my_X9_debt ml_X9_debt ⟨by decide, by decide⟩ hw [59, 60, 62] (ce h59 (ce h60 (ce h62 rfl))) (by decide +kernel) rfl rfl rfl rfl (Nat.le_of_ble_eq_true rfl) dL_law_414 rfl (fun H locs hw => ?_) hl.1 ⟨Nat.le_of_ble_eq_true rfl, Nat.le_of_ble_eq_true rfl⟩
  refine lv_icmp_eq (tgt := 1303) hx hb dL_law_417 (by decide) (fun _ => ?_) (fun c9 => absurd he c9)
  refine (fun q9 => hk _ H locs ls q9 hw hl) ?_
  exact ⟨vi, va, vl, vj, ti, _, hR2, rfl, rfl, rfl, rfl, rfl, rfl, h5, h6, h7, h8, h9, h10, h11, h12, h13, h14, h15, h16, h17, h18, h19, h20, h21, h22, h23, h24, h25, h26, h27, h28, h29, h30, h31, h32, h33, h34, h35, h36, h37, h38, h39, h40, h41, h42, h43, h44, h45, h46, fun k hk => ⟨(tput rfl rfl (by omega)).trans (hT k hk).1, (tput rfl rfl (by omega)).trans (hT k hk).2⟩, rfl, rfl, h61, rfl, h63, h64, h65, h66, h67, h68, h69, h70, h71, h72, h73, h74, h75, h76, h77, h78, h79, h80⟩
