theorem gen_put {D : va_G} {A : Nat → Prop} {H0 H : Heap} {locs : List Loc} {is : List Nat} {w1 : va_W} {f : Nat → Nat × va_E} (h : HW D A H0 H locs (Wd (put is w1 f))) : ∃ g, g = put is w1 f ∧ HW D A H0 H locs (Wd g) := ⟨_, rfl, h⟩
theorem ok_X8_judge : ∀ k1, k1 < 6 → okS [0, 1, 2, 3, 36, 37, 38, 39, 40, 41, 42, 43, 46, 47 + 2 * k1, 48 + 2 * k1] = true := by decide +kernel
theorem far_X8_judge : ∀ k1, k1 < 6 → ∀ j, j < 81 → (hasN [0, 1, 2, 3, 36, 37, 38, 39, 40, 41, 42, 43, 46] j || (Nat.ble 47 j && Nat.ble j 58)) = false → hasN [0, 1, 2, 3, 36, 37, 38, 39, 40, 41, 42, 43, 46, 47 + 2 * k1, 48 + 2 * k1] j = false := by decide +kernel
theorem fb_X8_judge : ∀ k1, k1 < 6 → ∀ k, k < 6 → k ≠ k1 → hasN [0, 1, 2, 3, 36, 37, 38, 39, 40, 41, 42, 43, 46, 47 + 2 * k1, 48 + 2 * k1] (47 + 2 * k) = false ∧ hasN [0, 1, 2, 3, 36, 37, 38, 39, 40, 41, 42, 43, 46, 47 + 2 * k1, 48 + 2 * k1] (48 + 2 * k) = false := by decide +kernel
theorem fc_X8_judge_k1 : ∀ k1, k1 < 6 → hasN (([0, 1, 2, 3, 36, 37, 38, 39, 40, 41, 42, 43, 46, 47 + 2 * k1, 48 + 2 * k1] : List Nat).take 13) (47 + 2 * k1) = false ∧ hasN (([0, 1, 2, 3, 36, 37, 38, 39, 40, 41, 42, 43, 46, 47 + 2 * k1, 48 + 2 * k1] : List Nat).take 14) (48 + 2 * k1) = false := by decide +kernel
set_option maxRecDepth 20000 in
set_option maxHeartbeats 4000000 in
theorem lc_judge {p : Program} {l : Launch} {e : Env} {s : State} {m : MethodId} {below : List Frame} {meth : Method} {c : Code} {D : va_G} {C : Nat → ClassId} {b L i : Nat} {xs : Nat → Int32} {ad : Nat → Nat} {tp : Nat → Option Nat} (C0 : lw_At p s m meth c b L xs) (cx : CX p m c s #[Value.ref b] RL cL_law 4 D C (fun q : Nat => s.heap.size ≤ q) room_1 83) (hi : i + 6 ≤ L) (hL : L ≤ 3072) (hTp : LTape ad tp)
    (hk : ∀ (w : va_W) (H : Heap) (locs : List Loc) (ls : Array Slot), LI C ad tp w → HW D (fun q : Nat => s.heap.size ≤ q) s.heap H locs w → lv_has ls 4 [(0, .ref b), (1, .ref (ad 0)), (2, .ref (ad 59)), (3, .int (nI i))] → W p l e room_1 s m #[Value.ref b] below meth c H locs 81 2747 (lw_Z below #[Value.ref b] s) (F0 m 1303 ls []))
    {w : va_W} {H : Heap} {locs : List Loc} {ls : Array Slot} (hI : LI C ad tp w) (hw : HW D (fun q : Nat => s.heap.size ≤ q) s.heap H locs w) (hl : lv_has ls 4 [(0, .ref b), (1, .ref (ad 0)), (2, .ref (ad 59)), (3, .int (nI i))]) : W p l e room_1 s m #[Value.ref b] below meth c H locs 81 2747 (lw_Z below #[Value.ref b] s) (F0 m 1008 ls []) := by
  obtain ⟨vi, va, vl, vj, ti, f, hR, rfl, F⟩ := hI
  have h0 := lf_h0 F
  have h1 := lf_h1 F
  have h2 := lf_h2 F
  have h3 := lf_h3 F
  have h4 := lf_h4 F
  have h5 := lf_h5 F
  have h6 := lf_h6 F
  have h7 := lf_h7 F
  have h8 := lf_h8 F
  have h9 := lf_h9 F
  have h10 := lf_h10 F
  have h11 := lf_h11 F
  have h12 := lf_h12 F
  have h13 := lf_h13 F
  have h14 := lf_h14 F
  have h15 := lf_h15 F
  have h16 := lf_h16 F
  have h17 := lf_h17 F
  have h18 := lf_h18 F
  have h19 := lf_h19 F
  have h20 := lf_h20 F
  have h21 := lf_h21 F
  have h22 := lf_h22 F
  have h23 := lf_h23 F
  have h24 := lf_h24 F
  have h25 := lf_h25 F
  have h26 := lf_h26 F
  have h27 := lf_h27 F
  have h28 := lf_h28 F
  have h29 := lf_h29 F
  have h30 := lf_h30 F
  have h31 := lf_h31 F
  have h32 := lf_h32 F
  have h33 := lf_h33 F
  have h34 := lf_h34 F
  have h35 := lf_h35 F
  have h36 := lf_h36 F
  have h37 := lf_h37 F
  have h38 := lf_h38 F
  have h39 := lf_h39 F
  have h40 := lf_h40 F
  have h41 := lf_h41 F
  have h42 := lf_h42 F
  have h43 := lf_h43 F
  have h44 := lf_h44 F
  have h45 := lf_h45 F
  have h46 := lf_h46 F
  have hT := lf_hT F
  have h59 := lf_h59 F
  have h60 := lf_h60 F
  have h61 := lf_h61 F
  have h62 := lf_h62 F
  have h63 := lf_h63 F
  have h64 := lf_h64 F
  have h65 := lf_h65 F
  have h66 := lf_h66 F
  have h67 := lf_h67 F
  have h68 := lf_h68 F
  have h69 := lf_h69 F
  have h70 := lf_h70 F
  have h71 := lf_h71 F
  have h72 := lf_h72 F
  have h73 := lf_h73 F
  have h74 := lf_h74 F
  have h75 := lf_h75 F
  have h76 := lf_h76 F
  have h77 := lf_h77 F
  have h78 := lf_h78 F
  have h79 := lf_h79 F
  have h80 := lf_h80 F
  have hx := cx.1
  have hb := cx.2.1
  obtain ⟨-, -, -, -, -, -, hX, hbl, -, -⟩ := id C0
  have hbA : ¬ (fun q : Nat => s.heap.size ≤ q) b := Nat.not_le.mpr hbl
  refine lv_aload_n hx hb dL_law_1008 rfl (lv_at hl 1 rfl) ?_
  refine lv_aload_n hx hb dL_law_1009 rfl (lv_at hl 0 rfl) ?_
  refine lv_iload_n hx hb dL_law_1010 rfl (lv_at hl 3 rfl) ?_
  refine lv_iconst (v := 1) hx hb dL_law_1011 (by decide) ?_
  refine lv_iadd hx hb dL_law_1012 ?_
  refine va_sld hx hb hX hbl hbA hw.2.2 (lw_vin 1 1 rfl (by omega) hL) dL_law_1013 ?_
  refine lv_topi (fun a1 ea1 => ?_)
  refine lv_aload_n hx hb dL_law_1014 rfl (lv_at hl 0 rfl) ?_
  refine lv_iload_n hx hb dL_law_1015 rfl (lv_at hl 3 rfl) ?_
  refine lv_iconst (v := 2) hx hb dL_law_1016 (by decide) ?_
  refine lv_iadd hx hb dL_law_1017 ?_
  refine va_sld hx hb hX hbl hbA hw.2.2 (lw_vin 2 2 rfl (by omega) hL) dL_law_1018 ?_
  refine lv_topi (fun a2 ea2 => ?_)
  obtain ⟨k1, hk1, hx1⟩ := lw_tape a1
  obtain ⟨zc, zm, hzc, hzm, he, hR2⟩ := p_judge a1 a2 k1 hk1 hx1 hR
  refine cVL2 [.int zc.1] cx (CX8_judge l D C (ad 0) (ad 1) (ad 15) (ad 29) (ad 32) (ad 36) (ad 44) (ad 46) (ad 2) (ad 5) (ad 7) (ad 9) (ad 11) (ad 13) (ad 3) (ad 4) (ad 37) (ad 38) (ad 39) (ad 40) (ad 41) (ad 42) (ad 43) (ad (47 + 2 * k1)) (ad (48 + 2 * k1)) 18 (vi 0) (vi 1) (vi 2) (va 0) (vi 18) (va 19) (va 20) (va 21) (va 22) (va 23) 6 (vi 19) (va 24) tp ((va 46) k1) ((va 47) k1) (ti k1) a1 a2 zc hzc (fun h => by rw [hx1 h]; exact hTp k1 hk1)) lk_L_128 my_X8_judge ml_X8_judge ⟨by decide, by decide⟩ hw [0, 1, 2, 3, 36, 37, 38, 39, 40, 41, 42, 43, 46, 47 + 2 * k1, 48 + 2 * k1] (ce h0 (ce h1 (ce h2 (ce h3 (ce h36 (ce h37 (ce h38 (ce h39 (ce h40 (ce h41 (ce h42 (ce h43 (ce h46 (ce (hT _ hk1).1 (ce (hT _ hk1).2 rfl))))))))))))))) (ok_X8_judge k1 hk1) rfl rfl rfl rfl (Nat.le_of_ble_eq_true rfl) dL_law_1019 rfl (fun H locs hw => ?_) hl.1 ⟨Nat.le_of_ble_eq_true rfl, Nat.le_of_ble_eq_true rfl⟩
  obtain ⟨g, hg, hw⟩ := gen_put hw
  replace h0 : g 0 = ((ad 0), .inr (8, [.ref (ad 1), .ref (ad 15), .int (vi 0), .ref (ad 29), .ref (ad 32), .ref (ad 36), .ref (ad 44), .ref (ad 46)])) := (congrFun hg 0).trans rfl
  replace h1 : g 1 = ((ad 1), .inr (0, [.int (vi 1), .ref (ad 2), .ref (ad 5), .ref (ad 7), .ref (ad 9), .ref (ad 11), .ref (ad 13)])) := (congrFun hg 1).trans rfl
  replace h2 : g 2 = ((ad 2), .inr (2, [.ref (ad 3), .ref (ad 4), .int (vi 2)])) := (congrFun hg 2).trans rfl
  replace h3 : g 3 = ((ad 3), .inl (C 0, 36, .inl (va 0))) := (congrFun hg 3).trans rfl
  replace h4 := (congrFun hg 4).trans ((put_ne _ _ _ _ (far_X8_judge k1 hk1 4 (by decide) rfl)).trans h4)
  replace h5 := (congrFun hg 5).trans ((put_ne _ _ _ _ (far_X8_judge k1 hk1 5 (by decide) rfl)).trans h5)
  replace h6 := (congrFun hg 6).trans ((put_ne _ _ _ _ (far_X8_judge k1 hk1 6 (by decide) rfl)).trans h6)
  replace h7 := (congrFun hg 7).trans ((put_ne _ _ _ _ (far_X8_judge k1 hk1 7 (by decide) rfl)).trans h7)
  replace h8 := (congrFun hg 8).trans ((put_ne _ _ _ _ (far_X8_judge k1 hk1 8 (by decide) rfl)).trans h8)
  replace h9 := (congrFun hg 9).trans ((put_ne _ _ _ _ (far_X8_judge k1 hk1 9 (by decide) rfl)).trans h9)
  replace h10 := (congrFun hg 10).trans ((put_ne _ _ _ _ (far_X8_judge k1 hk1 10 (by decide) rfl)).trans h10)
  replace h11 := (congrFun hg 11).trans ((put_ne _ _ _ _ (far_X8_judge k1 hk1 11 (by decide) rfl)).trans h11)
  replace h12 := (congrFun hg 12).trans ((put_ne _ _ _ _ (far_X8_judge k1 hk1 12 (by decide) rfl)).trans h12)
  replace h13 := (congrFun hg 13).trans ((put_ne _ _ _ _ (far_X8_judge k1 hk1 13 (by decide) rfl)).trans h13)
  replace h14 := (congrFun hg 14).trans ((put_ne _ _ _ _ (far_X8_judge k1 hk1 14 (by decide) rfl)).trans h14)
  replace h15 := (congrFun hg 15).trans ((put_ne _ _ _ _ (far_X8_judge k1 hk1 15 (by decide) rfl)).trans h15)
  replace h16 := (congrFun hg 16).trans ((put_ne _ _ _ _ (far_X8_judge k1 hk1 16 (by decide) rfl)).trans h16)
  replace h17 := (congrFun hg 17).trans ((put_ne _ _ _ _ (far_X8_judge k1 hk1 17 (by decide) rfl)).trans h17)
  replace h18 := (congrFun hg 18).trans ((put_ne _ _ _ _ (far_X8_judge k1 hk1 18 (by decide) rfl)).trans h18)
  replace h19 := (congrFun hg 19).trans ((put_ne _ _ _ _ (far_X8_judge k1 hk1 19 (by decide) rfl)).trans h19)
  replace h20 := (congrFun hg 20).trans ((put_ne _ _ _ _ (far_X8_judge k1 hk1 20 (by decide) rfl)).trans h20)
  replace h21 := (congrFun hg 21).trans ((put_ne _ _ _ _ (far_X8_judge k1 hk1 21 (by decide) rfl)).trans h21)
  replace h22 := (congrFun hg 22).trans ((put_ne _ _ _ _ (far_X8_judge k1 hk1 22 (by decide) rfl)).trans h22)
  replace h23 := (congrFun hg 23).trans ((put_ne _ _ _ _ (far_X8_judge k1 hk1 23 (by decide) rfl)).trans h23)
  replace h24 := (congrFun hg 24).trans ((put_ne _ _ _ _ (far_X8_judge k1 hk1 24 (by decide) rfl)).trans h24)
  replace h25 := (congrFun hg 25).trans ((put_ne _ _ _ _ (far_X8_judge k1 hk1 25 (by decide) rfl)).trans h25)
  replace h26 := (congrFun hg 26).trans ((put_ne _ _ _ _ (far_X8_judge k1 hk1 26 (by decide) rfl)).trans h26)
  replace h27 := (congrFun hg 27).trans ((put_ne _ _ _ _ (far_X8_judge k1 hk1 27 (by decide) rfl)).trans h27)
  replace h28 := (congrFun hg 28).trans ((put_ne _ _ _ _ (far_X8_judge k1 hk1 28 (by decide) rfl)).trans h28)
  replace h29 := (congrFun hg 29).trans ((put_ne _ _ _ _ (far_X8_judge k1 hk1 29 (by decide) rfl)).trans h29)
  replace h30 := (congrFun hg 30).trans ((put_ne _ _ _ _ (far_X8_judge k1 hk1 30 (by decide) rfl)).trans h30)
  replace h31 := (congrFun hg 31).trans ((put_ne _ _ _ _ (far_X8_judge k1 hk1 31 (by decide) rfl)).trans h31)
  replace h32 := (congrFun hg 32).trans ((put_ne _ _ _ _ (far_X8_judge k1 hk1 32 (by decide) rfl)).trans h32)
  replace h33 := (congrFun hg 33).trans ((put_ne _ _ _ _ (far_X8_judge k1 hk1 33 (by decide) rfl)).trans h33)
  replace h34 := (congrFun hg 34).trans ((put_ne _ _ _ _ (far_X8_judge k1 hk1 34 (by decide) rfl)).trans h34)
  replace h35 := (congrFun hg 35).trans ((put_ne _ _ _ _ (far_X8_judge k1 hk1 35 (by decide) rfl)).trans h35)
  replace h36 : g 36 = ((ad 36), .inr (3, [.ref (ad 37), .ref (ad 38), .ref (ad 39), .ref (ad 40), .ref (ad 41), .int zc.2.1, .ref (ad 42)])) := (congrFun hg 36).trans rfl
  replace h37 : g 37 = ((ad 37), .inl (C 0, 6, .inl zc.2.2.1)) := (congrFun hg 37).trans rfl
  replace h38 : g 38 = ((ad 38), .inl (C 0, 6, .inl zc.2.2.2.1)) := (congrFun hg 38).trans rfl
  replace h39 : g 39 = ((ad 39), .inl (C 0, 64, .inl zc.2.2.2.2.1)) := (congrFun hg 39).trans rfl
  replace h40 : g 40 = ((ad 40), .inl (C 0, 64, .inl zc.2.2.2.2.2.1)) := (congrFun hg 40).trans rfl
  replace h41 : g 41 = ((ad 41), .inl (C 0, 6, .inl zc.2.2.2.2.2.2.1)) := (congrFun hg 41).trans rfl
  replace h42 : g 42 = ((ad 42), .inr (5, [.ref (ad 43), .int 6, .int zc.2.2.2.2.2.2.2.1])) := (congrFun hg 42).trans rfl
  replace h43 : g 43 = ((ad 43), .inl (C 0, 18, .inl zc.2.2.2.2.2.2.2.2)) := (congrFun hg 43).trans rfl
  replace h44 := (congrFun hg 44).trans ((put_ne _ _ _ _ (far_X8_judge k1 hk1 44 (by decide) rfl)).trans h44)
  replace h45 := (congrFun hg 45).trans ((put_ne _ _ _ _ (far_X8_judge k1 hk1 45 (by decide) rfl)).trans h45)
  replace h46 : g 46 = ((ad 46), .inl (C 4, 6, .inr (.inr (.inr (.inr tp))))) := (congrFun hg 46).trans rfl
  replace h59 := (congrFun hg 59).trans ((put_ne _ _ _ _ (far_X8_judge k1 hk1 59 (by decide) rfl)).trans h59)
  replace h60 := (congrFun hg 60).trans ((put_ne _ _ _ _ (far_X8_judge k1 hk1 60 (by decide) rfl)).trans h60)
  replace h61 := (congrFun hg 61).trans ((put_ne _ _ _ _ (far_X8_judge k1 hk1 61 (by decide) rfl)).trans h61)
  replace h62 := (congrFun hg 62).trans ((put_ne _ _ _ _ (far_X8_judge k1 hk1 62 (by decide) rfl)).trans h62)
  replace h63 := (congrFun hg 63).trans ((put_ne _ _ _ _ (far_X8_judge k1 hk1 63 (by decide) rfl)).trans h63)
  replace h64 := (congrFun hg 64).trans ((put_ne _ _ _ _ (far_X8_judge k1 hk1 64 (by decide) rfl)).trans h64)
  replace h65 := (congrFun hg 65).trans ((put_ne _ _ _ _ (far_X8_judge k1 hk1 65 (by decide) rfl)).trans h65)
  replace h66 := (congrFun hg 66).trans ((put_ne _ _ _ _ (far_X8_judge k1 hk1 66 (by decide) rfl)).trans h66)
  replace h67 := (congrFun hg 67).trans ((put_ne _ _ _ _ (far_X8_judge k1 hk1 67 (by decide) rfl)).trans h67)
  replace h68 := (congrFun hg 68).trans ((put_ne _ _ _ _ (far_X8_judge k1 hk1 68 (by decide) rfl)).trans h68)
  replace h69 := (congrFun hg 69).trans ((put_ne _ _ _ _ (far_X8_judge k1 hk1 69 (by decide) rfl)).trans h69)
  replace h70 := (congrFun hg 70).trans ((put_ne _ _ _ _ (far_X8_judge k1 hk1 70 (by decide) rfl)).trans h70)
  replace h71 := (congrFun hg 71).trans ((put_ne _ _ _ _ (far_X8_judge k1 hk1 71 (by decide) rfl)).trans h71)
  replace h72 := (congrFun hg 72).trans ((put_ne _ _ _ _ (far_X8_judge k1 hk1 72 (by decide) rfl)).trans h72)
  replace h73 := (congrFun hg 73).trans ((put_ne _ _ _ _ (far_X8_judge k1 hk1 73 (by decide) rfl)).trans h73)
  replace h74 := (congrFun hg 74).trans ((put_ne _ _ _ _ (far_X8_judge k1 hk1 74 (by decide) rfl)).trans h74)
  replace h75 := (congrFun hg 75).trans ((put_ne _ _ _ _ (far_X8_judge k1 hk1 75 (by decide) rfl)).trans h75)
  replace h76 := (congrFun hg 76).trans ((put_ne _ _ _ _ (far_X8_judge k1 hk1 76 (by decide) rfl)).trans h76)
  replace h77 := (congrFun hg 77).trans ((put_ne _ _ _ _ (far_X8_judge k1 hk1 77 (by decide) rfl)).trans h77)
  replace h78 := (congrFun hg 78).trans ((put_ne _ _ _ _ (far_X8_judge k1 hk1 78 (by decide) rfl)).trans h78)
  replace h79 := (congrFun hg 79).trans ((put_ne _ _ _ _ (far_X8_judge k1 hk1 79 (by decide) rfl)).trans h79)
  replace h80 := (congrFun hg 80).trans ((put_ne _ _ _ _ (far_X8_judge k1 hk1 80 (by decide) rfl)).trans h80)
  replace hT : (∀ k, k < 6 → g (47 + 2 * k) = (ad (47 + 2 * k), .inr (6, [.int ((va 46) k), .int ((va 47) k), .ref (ad (48 + 2 * k))])) ∧ g (48 + 2 * k) = (ad (48 + 2 * k), .inl (C 1, 60, .inr (.inl (ti k))))) := by
    intro k hk
    rw [hg]
    by_cases ek1 : k = k1
    · rw [ek1]
      refine ⟨Eq.trans (put_pos 13 _ _ _ _ _ rfl rfl (fc_X8_judge_k1 k1 hk1).1) ?_, Eq.trans (put_pos 14 _ _ _ _ _ rfl rfl (fc_X8_judge_k1 k1 hk1).2) ?_⟩
      · rfl
      · rfl
    · skip
      obtain ⟨f1, f2⟩ := fb_X8_judge k1 hk1 k hk ek1
      refine ⟨(put_ne _ _ _ _ f1).trans ?_, (put_ne _ _ _ _ f2).trans ?_⟩
      · rw [(hT k hk).1]
      · rw [(hT k hk).2]
  refine lv_aload_n hx hb dL_law_1022 rfl (lv_at hl 2 rfl) ?_
  refine lv_aload_n hx hb dL_law_1023 rfl (lv_at hl 0 rfl) ?_
  refine lv_iload_n hx hb dL_law_1024 rfl (lv_at hl 3 rfl) ?_
  refine lv_iconst (v := 1) hx hb dL_law_1025 (by decide) ?_
  refine lv_iadd hx hb dL_law_1026 ?_
  refine va_sld hx hb hX hbl hbA hw.2.2 (lw_vin 1 1 rfl (by omega) hL) dL_law_1027 ?_
  refine lv_topi (fun y ey => ?_)
  obtain rfl : a1 = y := ea1.trans ey.symm
  refine lv_aload_n hx hb dL_law_1028 rfl (lv_at hl 0 rfl) ?_
  refine lv_iload_n hx hb dL_law_1029 rfl (lv_at hl 3 rfl) ?_
  refine lv_iconst (v := 2) hx hb dL_law_1030 (by decide) ?_
  refine lv_iadd hx hb dL_law_1031 ?_
  refine va_sld hx hb hX hbl hbA hw.2.2 (lw_vin 2 2 rfl (by omega) hL) dL_law_1032 ?_
  refine lv_topi (fun y ey => ?_)
  obtain rfl : a2 = y := ea2.trans ey.symm
  refine cVL2 [.int zm.1, .int zc.1] cx (CX9_judge l D C (ad 59) (ad 60) (ad 61) (ad 62) (ad 63) (ad 64) (ad 65) (ad 66) (ad 67) (ad 68) (ad 69) (ad 70) (ad 71) (ad 72) (ad 73) (ad 74) (ad 75) (ad 76) (ad 77) (ad 78) (ad 79) (ad 80) (vi 21) (vi 22) (vi 23) (vi 24) (vi 25) (vi 26) (vi 27) (vi 28) (vi 29) (vi 30) (vi 31) vl (vi 32) (vi 33) (vi 34) (va 26) (va 36) (va 37) (va 38) (va 39) (va 40) (va 41) (va 44) (va 45) vj a1 a2 zm hzm) lk_L_131 my_X9_judge ml_X9_judge ⟨by decide, by decide⟩ hw [59, 60, 70, 71, 72, 73, 74, 75, 78, 79, 80] (ce h59 (ce h60 (ce h70 (ce h71 (ce h72 (ce h73 (ce h74 (ce h75 (ce h78 (ce h79 (ce h80 rfl))))))))))) (by decide +kernel) rfl rfl rfl rfl (Nat.le_of_ble_eq_true rfl) dL_law_1033 rfl (fun H locs hw => ?_) hl.1 ⟨Nat.le_of_ble_eq_true rfl, Nat.le_of_ble_eq_true rfl⟩
  refine lv_icmp_eq (tgt := 1303) hx hb dL_law_1036 (by decide) (fun _ => ?_) (fun c9 => absurd he c9)
  refine (fun q9 => hk _ H locs ls q9 hw hl) ?_
  exact ⟨(ups (ups (ups (ups vi 18 zc.2.1) 19 zc.2.2.2.2.2.2.2.1) 32 zm.2.1) 33 zm.2.2.1), (ups (ups (ups (ups (ups (ups (ups (ups (ups (ups (ups (ups va 19 zc.2.2.1) 20 zc.2.2.2.1) 21 zc.2.2.2.2.1) 22 zc.2.2.2.2.2.1) 23 zc.2.2.2.2.2.2.1) 24 zc.2.2.2.2.2.2.2.2) 36 zm.2.2.2.1) 37 zm.2.2.2.2.1) 38 zm.2.2.2.2.2.1) 39 zm.2.2.2.2.2.2.1) 40 zm.2.2.2.2.2.2.2.1) 41 zm.2.2.2.2.2.2.2.2), vl, vj, ti, _, hR2, rfl, h0, h1, h2, h3, h4, h5, h6, h7, h8, h9, h10, h11, h12, h13, h14, h15, h16, h17, h18, h19, h20, h21, h22, h23, h24, h25, h26, h27, h28, h29, h30, h31, h32, h33, h34, h35, h36, h37, h38, h39, h40, h41, h42, h43, h44, h45, h46, fun k hk => ⟨(tput1 rfl (by omega)).trans (hT k hk).1, (tput1 rfl (by omega)).trans (hT k hk).2⟩, rfl, rfl, h61, h62, h63, h64, h65, h66, h67, h68, h69, rfl, rfl, rfl, rfl, rfl, rfl, h76, h77, rfl, rfl, rfl⟩
theorem ok_X8_tape : ∀ k1, k1 < 6 → okS [0, 46, 47 + 2 * k1, 48 + 2 * k1] = true := by decide +kernel
theorem far_X8_tape : ∀ k1, k1 < 6 → ∀ j, j < 81 → (hasN [0, 46] j || (Nat.ble 47 j && Nat.ble j 58)) = false → hasN [0, 46, 47 + 2 * k1, 48 + 2 * k1] j = false := by decide +kernel
theorem fb_X8_tape : ∀ k1, k1 < 6 → ∀ k, k < 6 → k ≠ k1 → hasN [0, 46, 47 + 2 * k1, 48 + 2 * k1] (47 + 2 * k) = false ∧ hasN [0, 46, 47 + 2 * k1, 48 + 2 * k1] (48 + 2 * k) = false := by decide +kernel
theorem fc_X8_tape_k1 : ∀ k1, k1 < 6 → hasN (([0, 46, 47 + 2 * k1, 48 + 2 * k1] : List Nat).take 2) (47 + 2 * k1) = false ∧ hasN (([0, 46, 47 + 2 * k1, 48 + 2 * k1] : List Nat).take 3) (48 + 2 * k1) = false := by decide +kernel
set_option maxRecDepth 20000 in
set_option maxHeartbeats 4000000 in
theorem lc_tape {p : Program} {l : Launch} {e : Env} {s : State} {m : MethodId} {below : List Frame} {meth : Method} {c : Code} {D : va_G} {C : Nat → ClassId} {b L i : Nat} {xs : Nat → Int32} {ad : Nat → Nat} {tp : Nat → Option Nat} (C0 : lw_At p s m meth c b L xs) (cx : CX p m c s #[Value.ref b] RL cL_law 4 D C (fun q : Nat => s.heap.size ≤ q) room_1 83) (hi : i + 6 ≤ L) (hL : L ≤ 3072) (hTp : LTape ad tp)
    (hk : ∀ (w : va_W) (H : Heap) (locs : List Loc) (ls : Array Slot), LI C ad tp w → HW D (fun q : Nat => s.heap.size ≤ q) s.heap H locs w → lv_has ls 4 [(0, .ref b), (1, .ref (ad 0)), (2, .ref (ad 59)), (3, .int (nI i))] → W p l e room_1 s m #[Value.ref b] below meth c H locs 81 2747 (lw_Z below #[Value.ref b] s) (F0 m 1303 ls []))
    {w : va_W} {H : Heap} {locs : List Loc} {ls : Array Slot} (hI : LI C ad tp w) (hw : HW D (fun q : Nat => s.heap.size ≤ q) s.heap H locs w) (hl : lv_has ls 4 [(0, .ref b), (1, .ref (ad 0)), (2, .ref (ad 59)), (3, .int (nI i))]) : W p l e room_1 s m #[Value.ref b] below meth c H locs 81 2747 (lw_Z below #[Value.ref b] s) (F0 m 1090 ls []) := by
  obtain ⟨vi, va, vl, vj, ti, f, hR, rfl, F⟩ := hI
  have h0 := lf_h0 F
  have h1 := lf_h1 F
  have h2 := lf_h2 F
  have h3 := lf_h3 F
  have h4 := lf_h4 F
  have h5 := lf_h5 F
  have h6 := lf_h6 F
  have h7 := lf_h7 F
  have h8 := lf_h8 F
  have h9 := lf_h9 F
  have h10 := lf_h10 F
  have h11 := lf_h11 F
  have h12 := lf_h12 F
  have h13 := lf_h13 F
  have h14 := lf_h14 F
  have h15 := lf_h15 F
  have h16 := lf_h16 F
  have h17 := lf_h17 F
  have h18 := lf_h18 F
  have h19 := lf_h19 F
  have h20 := lf_h20 F
  have h21 := lf_h21 F
  have h22 := lf_h22 F
  have h23 := lf_h23 F
  have h24 := lf_h24 F
  have h25 := lf_h25 F
  have h26 := lf_h26 F
  have h27 := lf_h27 F
  have h28 := lf_h28 F
  have h29 := lf_h29 F
  have h30 := lf_h30 F
  have h31 := lf_h31 F
  have h32 := lf_h32 F
  have h33 := lf_h33 F
  have h34 := lf_h34 F
  have h35 := lf_h35 F
  have h36 := lf_h36 F
  have h37 := lf_h37 F
  have h38 := lf_h38 F
  have h39 := lf_h39 F
  have h40 := lf_h40 F
  have h41 := lf_h41 F
  have h42 := lf_h42 F
  have h43 := lf_h43 F
  have h44 := lf_h44 F
  have h45 := lf_h45 F
  have h46 := lf_h46 F
  have hT := lf_hT F
  have h59 := lf_h59 F
  have h60 := lf_h60 F
  have h61 := lf_h61 F
  have h62 := lf_h62 F
  have h63 := lf_h63 F
  have h64 := lf_h64 F
  have h65 := lf_h65 F
  have h66 := lf_h66 F
  have h67 := lf_h67 F
  have h68 := lf_h68 F
  have h69 := lf_h69 F
  have h70 := lf_h70 F
  have h71 := lf_h71 F
  have h72 := lf_h72 F
  have h73 := lf_h73 F
  have h74 := lf_h74 F
  have h75 := lf_h75 F
  have h76 := lf_h76 F
  have h77 := lf_h77 F
  have h78 := lf_h78 F
  have h79 := lf_h79 F
  have h80 := lf_h80 F
  have hx := cx.1
  have hb := cx.2.1
  obtain ⟨-, -, -, -, -, -, hX, hbl, -, -⟩ := id C0
  have hbA : ¬ (fun q : Nat => s.heap.size ≤ q) b := Nat.not_le.mpr hbl
  refine lv_aload_n hx hb dL_law_1090 rfl (lv_at hl 1 rfl) ?_
  refine lv_aload_n hx hb dL_law_1091 rfl (lv_at hl 0 rfl) ?_
  refine lv_iload_n hx hb dL_law_1092 rfl (lv_at hl 3 rfl) ?_
  refine lv_iconst (v := 1) hx hb dL_law_1093 (by decide) ?_
  refine lv_iadd hx hb dL_law_1094 ?_
  refine va_sld hx hb hX hbl hbA hw.2.2 (lw_vin 1 1 rfl (by omega) hL) dL_law_1095 ?_
  refine lv_topi (fun a1 ea1 => ?_)
  refine lv_aload_n hx hb dL_law_1096 rfl (lv_at hl 0 rfl) ?_
  refine lv_iload_n hx hb dL_law_1097 rfl (lv_at hl 3 rfl) ?_
  refine lv_iconst (v := 2) hx hb dL_law_1098 (by decide) ?_
  refine lv_iadd hx hb dL_law_1099 ?_
  refine va_sld hx hb hX hbl hbA hw.2.2 (lw_vin 2 2 rfl (by omega) hL) dL_law_1100 ?_
  refine lv_topi (fun a2 ea2 => ?_)
  refine lv_aload_n hx hb dL_law_1101 rfl (lv_at hl 0 rfl) ?_
  refine lv_iload_n hx hb dL_law_1102 rfl (lv_at hl 3 rfl) ?_
  refine lv_iconst (v := 3) hx hb dL_law_1103 (by decide) ?_
  refine lv_iadd hx hb dL_law_1104 ?_
  refine va_sld hx hb hX hbl hbA hw.2.2 (lw_vin 3 3 rfl (by omega) hL) dL_law_1105 ?_
  refine lv_topi (fun a3 ea3 => ?_)
  obtain ⟨k1, hk1, hx1⟩ := lw_tape a1
  obtain ⟨zc, zm, hzc, hzm, he, hR2⟩ := p_tape a1 a2 a3 k1 hk1 hx1 hR
  refine cVL2 [.int zc.1] cx (CX8_tape l D C (ad 0) (ad 1) (ad 15) (ad 29) (ad 32) (ad 36) (ad 44) (ad 46) (ad (47 + 2 * k1)) (ad (48 + 2 * k1)) (vi 0) tp ((va 46) k1) ((va 47) k1) (ti k1) a1 a2 a3 zc hzc (fun h => by rw [hx1 h]; exact hTp k1 hk1)) lk_L_144 my_X8_tape ml_X8_tape ⟨by decide, by decide⟩ hw [0, 46, 47 + 2 * k1, 48 + 2 * k1] (ce h0 (ce h46 (ce (hT _ hk1).1 (ce (hT _ hk1).2 rfl)))) (ok_X8_tape k1 hk1) rfl rfl rfl rfl (Nat.le_of_ble_eq_true rfl) dL_law_1106 rfl (fun H locs hw => ?_) hl.1 ⟨Nat.le_of_ble_eq_true rfl, Nat.le_of_ble_eq_true rfl⟩
  obtain ⟨g, hg, hw⟩ := gen_put hw
  replace h0 : g 0 = ((ad 0), .inr (8, [.ref (ad 1), .ref (ad 15), .int (vi 0), .ref (ad 29), .ref (ad 32), .ref (ad 36), .ref (ad 44), .ref (ad 46)])) := (congrFun hg 0).trans rfl
  replace h1 := (congrFun hg 1).trans ((put_ne _ _ _ _ (far_X8_tape k1 hk1 1 (by decide) rfl)).trans h1)
  replace h2 := (congrFun hg 2).trans ((put_ne _ _ _ _ (far_X8_tape k1 hk1 2 (by decide) rfl)).trans h2)
  replace h3 := (congrFun hg 3).trans ((put_ne _ _ _ _ (far_X8_tape k1 hk1 3 (by decide) rfl)).trans h3)
  replace h4 := (congrFun hg 4).trans ((put_ne _ _ _ _ (far_X8_tape k1 hk1 4 (by decide) rfl)).trans h4)
  replace h5 := (congrFun hg 5).trans ((put_ne _ _ _ _ (far_X8_tape k1 hk1 5 (by decide) rfl)).trans h5)
  replace h6 := (congrFun hg 6).trans ((put_ne _ _ _ _ (far_X8_tape k1 hk1 6 (by decide) rfl)).trans h6)
  replace h7 := (congrFun hg 7).trans ((put_ne _ _ _ _ (far_X8_tape k1 hk1 7 (by decide) rfl)).trans h7)
  replace h8 := (congrFun hg 8).trans ((put_ne _ _ _ _ (far_X8_tape k1 hk1 8 (by decide) rfl)).trans h8)
  replace h9 := (congrFun hg 9).trans ((put_ne _ _ _ _ (far_X8_tape k1 hk1 9 (by decide) rfl)).trans h9)
  replace h10 := (congrFun hg 10).trans ((put_ne _ _ _ _ (far_X8_tape k1 hk1 10 (by decide) rfl)).trans h10)
  replace h11 := (congrFun hg 11).trans ((put_ne _ _ _ _ (far_X8_tape k1 hk1 11 (by decide) rfl)).trans h11)
  replace h12 := (congrFun hg 12).trans ((put_ne _ _ _ _ (far_X8_tape k1 hk1 12 (by decide) rfl)).trans h12)
  replace h13 := (congrFun hg 13).trans ((put_ne _ _ _ _ (far_X8_tape k1 hk1 13 (by decide) rfl)).trans h13)
  replace h14 := (congrFun hg 14).trans ((put_ne _ _ _ _ (far_X8_tape k1 hk1 14 (by decide) rfl)).trans h14)
  replace h15 := (congrFun hg 15).trans ((put_ne _ _ _ _ (far_X8_tape k1 hk1 15 (by decide) rfl)).trans h15)
  replace h16 := (congrFun hg 16).trans ((put_ne _ _ _ _ (far_X8_tape k1 hk1 16 (by decide) rfl)).trans h16)
  replace h17 := (congrFun hg 17).trans ((put_ne _ _ _ _ (far_X8_tape k1 hk1 17 (by decide) rfl)).trans h17)
  replace h18 := (congrFun hg 18).trans ((put_ne _ _ _ _ (far_X8_tape k1 hk1 18 (by decide) rfl)).trans h18)
  replace h19 := (congrFun hg 19).trans ((put_ne _ _ _ _ (far_X8_tape k1 hk1 19 (by decide) rfl)).trans h19)
  replace h20 := (congrFun hg 20).trans ((put_ne _ _ _ _ (far_X8_tape k1 hk1 20 (by decide) rfl)).trans h20)
  replace h21 := (congrFun hg 21).trans ((put_ne _ _ _ _ (far_X8_tape k1 hk1 21 (by decide) rfl)).trans h21)
  replace h22 := (congrFun hg 22).trans ((put_ne _ _ _ _ (far_X8_tape k1 hk1 22 (by decide) rfl)).trans h22)
  replace h23 := (congrFun hg 23).trans ((put_ne _ _ _ _ (far_X8_tape k1 hk1 23 (by decide) rfl)).trans h23)
  replace h24 := (congrFun hg 24).trans ((put_ne _ _ _ _ (far_X8_tape k1 hk1 24 (by decide) rfl)).trans h24)
  replace h25 := (congrFun hg 25).trans ((put_ne _ _ _ _ (far_X8_tape k1 hk1 25 (by decide) rfl)).trans h25)
  replace h26 := (congrFun hg 26).trans ((put_ne _ _ _ _ (far_X8_tape k1 hk1 26 (by decide) rfl)).trans h26)
  replace h27 := (congrFun hg 27).trans ((put_ne _ _ _ _ (far_X8_tape k1 hk1 27 (by decide) rfl)).trans h27)
  replace h28 := (congrFun hg 28).trans ((put_ne _ _ _ _ (far_X8_tape k1 hk1 28 (by decide) rfl)).trans h28)
  replace h29 := (congrFun hg 29).trans ((put_ne _ _ _ _ (far_X8_tape k1 hk1 29 (by decide) rfl)).trans h29)
  replace h30 := (congrFun hg 30).trans ((put_ne _ _ _ _ (far_X8_tape k1 hk1 30 (by decide) rfl)).trans h30)
  replace h31 := (congrFun hg 31).trans ((put_ne _ _ _ _ (far_X8_tape k1 hk1 31 (by decide) rfl)).trans h31)
  replace h32 := (congrFun hg 32).trans ((put_ne _ _ _ _ (far_X8_tape k1 hk1 32 (by decide) rfl)).trans h32)
  replace h33 := (congrFun hg 33).trans ((put_ne _ _ _ _ (far_X8_tape k1 hk1 33 (by decide) rfl)).trans h33)
  replace h34 := (congrFun hg 34).trans ((put_ne _ _ _ _ (far_X8_tape k1 hk1 34 (by decide) rfl)).trans h34)
  replace h35 := (congrFun hg 35).trans ((put_ne _ _ _ _ (far_X8_tape k1 hk1 35 (by decide) rfl)).trans h35)
  replace h36 := (congrFun hg 36).trans ((put_ne _ _ _ _ (far_X8_tape k1 hk1 36 (by decide) rfl)).trans h36)
  replace h37 := (congrFun hg 37).trans ((put_ne _ _ _ _ (far_X8_tape k1 hk1 37 (by decide) rfl)).trans h37)
  replace h38 := (congrFun hg 38).trans ((put_ne _ _ _ _ (far_X8_tape k1 hk1 38 (by decide) rfl)).trans h38)
  replace h39 := (congrFun hg 39).trans ((put_ne _ _ _ _ (far_X8_tape k1 hk1 39 (by decide) rfl)).trans h39)
  replace h40 := (congrFun hg 40).trans ((put_ne _ _ _ _ (far_X8_tape k1 hk1 40 (by decide) rfl)).trans h40)
  replace h41 := (congrFun hg 41).trans ((put_ne _ _ _ _ (far_X8_tape k1 hk1 41 (by decide) rfl)).trans h41)
  replace h42 := (congrFun hg 42).trans ((put_ne _ _ _ _ (far_X8_tape k1 hk1 42 (by decide) rfl)).trans h42)
  replace h43 := (congrFun hg 43).trans ((put_ne _ _ _ _ (far_X8_tape k1 hk1 43 (by decide) rfl)).trans h43)
  replace h44 := (congrFun hg 44).trans ((put_ne _ _ _ _ (far_X8_tape k1 hk1 44 (by decide) rfl)).trans h44)
  replace h45 := (congrFun hg 45).trans ((put_ne _ _ _ _ (far_X8_tape k1 hk1 45 (by decide) rfl)).trans h45)
  replace h46 : g 46 = ((ad 46), .inl (C 4, 6, .inr (.inr (.inr (.inr tp))))) := (congrFun hg 46).trans rfl
  replace h59 := (congrFun hg 59).trans ((put_ne _ _ _ _ (far_X8_tape k1 hk1 59 (by decide) rfl)).trans h59)
  replace h60 := (congrFun hg 60).trans ((put_ne _ _ _ _ (far_X8_tape k1 hk1 60 (by decide) rfl)).trans h60)
  replace h61 := (congrFun hg 61).trans ((put_ne _ _ _ _ (far_X8_tape k1 hk1 61 (by decide) rfl)).trans h61)
  replace h62 := (congrFun hg 62).trans ((put_ne _ _ _ _ (far_X8_tape k1 hk1 62 (by decide) rfl)).trans h62)
  replace h63 := (congrFun hg 63).trans ((put_ne _ _ _ _ (far_X8_tape k1 hk1 63 (by decide) rfl)).trans h63)
  replace h64 := (congrFun hg 64).trans ((put_ne _ _ _ _ (far_X8_tape k1 hk1 64 (by decide) rfl)).trans h64)
  replace h65 := (congrFun hg 65).trans ((put_ne _ _ _ _ (far_X8_tape k1 hk1 65 (by decide) rfl)).trans h65)
  replace h66 := (congrFun hg 66).trans ((put_ne _ _ _ _ (far_X8_tape k1 hk1 66 (by decide) rfl)).trans h66)
  replace h67 := (congrFun hg 67).trans ((put_ne _ _ _ _ (far_X8_tape k1 hk1 67 (by decide) rfl)).trans h67)
  replace h68 := (congrFun hg 68).trans ((put_ne _ _ _ _ (far_X8_tape k1 hk1 68 (by decide) rfl)).trans h68)
  replace h69 := (congrFun hg 69).trans ((put_ne _ _ _ _ (far_X8_tape k1 hk1 69 (by decide) rfl)).trans h69)
  replace h70 := (congrFun hg 70).trans ((put_ne _ _ _ _ (far_X8_tape k1 hk1 70 (by decide) rfl)).trans h70)
  replace h71 := (congrFun hg 71).trans ((put_ne _ _ _ _ (far_X8_tape k1 hk1 71 (by decide) rfl)).trans h71)
  replace h72 := (congrFun hg 72).trans ((put_ne _ _ _ _ (far_X8_tape k1 hk1 72 (by decide) rfl)).trans h72)
  replace h73 := (congrFun hg 73).trans ((put_ne _ _ _ _ (far_X8_tape k1 hk1 73 (by decide) rfl)).trans h73)
  replace h74 := (congrFun hg 74).trans ((put_ne _ _ _ _ (far_X8_tape k1 hk1 74 (by decide) rfl)).trans h74)
  replace h75 := (congrFun hg 75).trans ((put_ne _ _ _ _ (far_X8_tape k1 hk1 75 (by decide) rfl)).trans h75)
  replace h76 := (congrFun hg 76).trans ((put_ne _ _ _ _ (far_X8_tape k1 hk1 76 (by decide) rfl)).trans h76)
  replace h77 := (congrFun hg 77).trans ((put_ne _ _ _ _ (far_X8_tape k1 hk1 77 (by decide) rfl)).trans h77)
  replace h78 := (congrFun hg 78).trans ((put_ne _ _ _ _ (far_X8_tape k1 hk1 78 (by decide) rfl)).trans h78)
  replace h79 := (congrFun hg 79).trans ((put_ne _ _ _ _ (far_X8_tape k1 hk1 79 (by decide) rfl)).trans h79)
  replace h80 := (congrFun hg 80).trans ((put_ne _ _ _ _ (far_X8_tape k1 hk1 80 (by decide) rfl)).trans h80)
  replace hT : (∀ k, k < 6 → g (47 + 2 * k) = (ad (47 + 2 * k), .inr (6, [.int ((va_up (va 46) k1 zc.2.1) k), .int ((va_up (va 47) k1 zc.2.2.1) k), .ref (ad (48 + 2 * k))])) ∧ g (48 + 2 * k) = (ad (48 + 2 * k), .inl (C 1, 60, .inr (.inl ((va_up ti k1 zc.2.2.2) k))))) := by
    intro k hk
    rw [hg]
    by_cases ek1 : k = k1
    · rw [ek1]
      refine ⟨Eq.trans (put_pos 2 _ _ _ _ _ rfl rfl (fc_X8_tape_k1 k1 hk1).1) ?_, Eq.trans (put_pos 3 _ _ _ _ _ rfl rfl (fc_X8_tape_k1 k1 hk1).2) ?_⟩
      · simp only [va_up_self]
      · simp only [va_up_self]
    · skip
      obtain ⟨f1, f2⟩ := fb_X8_tape k1 hk1 k hk ek1
      refine ⟨(put_ne _ _ _ _ f1).trans ?_, (put_ne _ _ _ _ f2).trans ?_⟩
      · rw [(hT k hk).1, va_up_ne _ _ ek1, va_up_ne _ _ ek1]
      · rw [(hT k hk).2, va_up_ne _ _ ek1]
  refine lv_aload_n hx hb dL_law_1109 rfl (lv_at hl 2 rfl) ?_
  refine lv_aload_n hx hb dL_law_1110 rfl (lv_at hl 0 rfl) ?_
  refine lv_iload_n hx hb dL_law_1111 rfl (lv_at hl 3 rfl) ?_
  refine lv_iconst (v := 1) hx hb dL_law_1112 (by decide) ?_
  refine lv_iadd hx hb dL_law_1113 ?_
  refine va_sld hx hb hX hbl hbA hw.2.2 (lw_vin 1 1 rfl (by omega) hL) dL_law_1114 ?_
  refine lv_topi (fun y ey => ?_)
  obtain rfl : a1 = y := ea1.trans ey.symm
  refine lv_aload_n hx hb dL_law_1115 rfl (lv_at hl 0 rfl) ?_
  refine lv_iload_n hx hb dL_law_1116 rfl (lv_at hl 3 rfl) ?_
  refine lv_iconst (v := 2) hx hb dL_law_1117 (by decide) ?_
  refine lv_iadd hx hb dL_law_1118 ?_
  refine va_sld hx hb hX hbl hbA hw.2.2 (lw_vin 2 2 rfl (by omega) hL) dL_law_1119 ?_
  refine lv_topi (fun y ey => ?_)
  obtain rfl : a2 = y := ea2.trans ey.symm
  refine lv_aload_n hx hb dL_law_1120 rfl (lv_at hl 0 rfl) ?_
  refine lv_iload_n hx hb dL_law_1121 rfl (lv_at hl 3 rfl) ?_
  refine lv_iconst (v := 3) hx hb dL_law_1122 (by decide) ?_
  refine lv_iadd hx hb dL_law_1123 ?_
  refine va_sld hx hb hX hbl hbA hw.2.2 (lw_vin 3 3 rfl (by omega) hL) dL_law_1124 ?_
  refine lv_topi (fun y ey => ?_)
  obtain rfl : a3 = y := ea3.trans ey.symm
  refine cVL2 [.int zm.1, .int zc.1] cx (CX9_tape l D C (ad 59) (ad 60) (ad 61) (ad 62) (ad 63) (ad 64) (ad 65) (ad 66) (ad 67) (ad 68) (ad 69) (ad 70) (ad 71) (ad 72) (ad 73) (ad 74) (ad 75) (ad 76) (ad 77) (ad 78) (ad 79) (ad 80) (vi 21) (vi 22) (vi 23) (vi 24) (vi 25) (vi 26) (vi 27) (vi 28) (vi 29) (vi 30) (vi 31) vl (vi 32) (vi 33) (vi 34) (va 44) (va 45) vj a1 a2 a3 zm hzm) lk_L_147 my_X9_tape ml_X9_tape ⟨by decide, by decide⟩ hw [59, 78, 79, 80] (ce h59 (ce h78 (ce h79 (ce h80 rfl)))) (by decide +kernel) rfl rfl rfl rfl (Nat.le_of_ble_eq_true rfl) dL_law_1125 rfl (fun H locs hw => ?_) hl.1 ⟨Nat.le_of_ble_eq_true rfl, Nat.le_of_ble_eq_true rfl⟩
  refine lv_icmp_eq (tgt := 1303) hx hb dL_law_1128 (by decide) (fun _ => ?_) (fun c9 => absurd he c9)
  refine (fun q9 => hk _ H locs ls q9 hw hl) ?_
  exact ⟨vi, (ups (ups (ups (ups va 44 zm.2.1) 45 zm.2.2.1) 46 (va_up (va 46) k1 zc.2.1)) 47 (va_up (va 47) k1 zc.2.2.1)), vl, zm.2.2.2, (va_up ti k1 zc.2.2.2), _, hR2, rfl, h0, h1, h2, h3, h4, h5, h6, h7, h8, h9, h10, h11, h12, h13, h14, h15, h16, h17, h18, h19, h20, h21, h22, h23, h24, h25, h26, h27, h28, h29, h30, h31, h32, h33, h34, h35, h36, h37, h38, h39, h40, h41, h42, h43, h44, h45, h46, fun k hk => ⟨(tput1 rfl (by omega)).trans (hT k hk).1, (tput1 rfl (by omega)).trans (hT k hk).2⟩, rfl, h60, h61, h62, h63, h64, h65, h66, h67, h68, h69, h70, h71, h72, h73, h74, h75, h76, h77, rfl, rfl, rfl⟩
theorem ok_X8_item : ∀ k1, k1 < 6 → okS [0, 46, 47 + 2 * k1, 48 + 2 * k1] = true := by decide +kernel
theorem far_X8_item : ∀ k1, k1 < 6 → ∀ j, j < 81 → (hasN [0, 46] j || (Nat.ble 47 j && Nat.ble j 58)) = false → hasN [0, 46, 47 + 2 * k1, 48 + 2 * k1] j = false := by decide +kernel
theorem fb_X8_item : ∀ k1, k1 < 6 → ∀ k, k < 6 → k ≠ k1 → hasN [0, 46, 47 + 2 * k1, 48 + 2 * k1] (47 + 2 * k) = false ∧ hasN [0, 46, 47 + 2 * k1, 48 + 2 * k1] (48 + 2 * k) = false := by decide +kernel
theorem fc_X8_item_k1 : ∀ k1, k1 < 6 → hasN (([0, 46, 47 + 2 * k1, 48 + 2 * k1] : List Nat).take 2) (47 + 2 * k1) = false ∧ hasN (([0, 46, 47 + 2 * k1, 48 + 2 * k1] : List Nat).take 3) (48 + 2 * k1) = false := by decide +kernel
set_option maxRecDepth 20000 in
set_option maxHeartbeats 4000000 in
theorem lc_item {p : Program} {l : Launch} {e : Env} {s : State} {m : MethodId} {below : List Frame} {meth : Method} {c : Code} {D : va_G} {C : Nat → ClassId} {b L i : Nat} {xs : Nat → Int32} {ad : Nat → Nat} {tp : Nat → Option Nat} (C0 : lw_At p s m meth c b L xs) (cx : CX p m c s #[Value.ref b] RL cL_law 4 D C (fun q : Nat => s.heap.size ≤ q) room_1 83) (hi : i + 6 ≤ L) (hL : L ≤ 3072) (hTp : LTape ad tp)
    (hk : ∀ (w : va_W) (H : Heap) (locs : List Loc) (ls : Array Slot), LI C ad tp w → HW D (fun q : Nat => s.heap.size ≤ q) s.heap H locs w → lv_has ls 4 [(0, .ref b), (1, .ref (ad 0)), (2, .ref (ad 59)), (3, .int (nI i))] → W p l e room_1 s m #[Value.ref b] below meth c H locs 81 2747 (lw_Z below #[Value.ref b] s) (F0 m 1303 ls []))
    {w : va_W} {H : Heap} {locs : List Loc} {ls : Array Slot} (hI : LI C ad tp w) (hw : HW D (fun q : Nat => s.heap.size ≤ q) s.heap H locs w) (hl : lv_has ls 4 [(0, .ref b), (1, .ref (ad 0)), (2, .ref (ad 59)), (3, .int (nI i))]) : W p l e room_1 s m #[Value.ref b] below meth c H locs 81 2747 (lw_Z below #[Value.ref b] s) (F0 m 1133 ls []) := by
  obtain ⟨vi, va, vl, vj, ti, f, hR, rfl, F⟩ := hI
  have h0 := lf_h0 F
  have h1 := lf_h1 F
  have h2 := lf_h2 F
  have h3 := lf_h3 F
  have h4 := lf_h4 F
  have h5 := lf_h5 F
  have h6 := lf_h6 F
  have h7 := lf_h7 F
  have h8 := lf_h8 F
  have h9 := lf_h9 F
  have h10 := lf_h10 F
  have h11 := lf_h11 F
  have h12 := lf_h12 F
  have h13 := lf_h13 F
  have h14 := lf_h14 F
  have h15 := lf_h15 F
  have h16 := lf_h16 F
  have h17 := lf_h17 F
  have h18 := lf_h18 F
  have h19 := lf_h19 F
  have h20 := lf_h20 F
  have h21 := lf_h21 F
  have h22 := lf_h22 F
  have h23 := lf_h23 F
  have h24 := lf_h24 F
  have h25 := lf_h25 F
  have h26 := lf_h26 F
  have h27 := lf_h27 F
  have h28 := lf_h28 F
  have h29 := lf_h29 F
  have h30 := lf_h30 F
  have h31 := lf_h31 F
  have h32 := lf_h32 F
  have h33 := lf_h33 F
  have h34 := lf_h34 F
  have h35 := lf_h35 F
  have h36 := lf_h36 F
  have h37 := lf_h37 F
  have h38 := lf_h38 F
  have h39 := lf_h39 F
  have h40 := lf_h40 F
  have h41 := lf_h41 F
  have h42 := lf_h42 F
  have h43 := lf_h43 F
  have h44 := lf_h44 F
  have h45 := lf_h45 F
  have h46 := lf_h46 F
  have hT := lf_hT F
  have h59 := lf_h59 F
  have h60 := lf_h60 F
  have h61 := lf_h61 F
  have h62 := lf_h62 F
  have h63 := lf_h63 F
  have h64 := lf_h64 F
  have h65 := lf_h65 F
  have h66 := lf_h66 F
  have h67 := lf_h67 F
  have h68 := lf_h68 F
  have h69 := lf_h69 F
  have h70 := lf_h70 F
  have h71 := lf_h71 F
  have h72 := lf_h72 F
  have h73 := lf_h73 F
  have h74 := lf_h74 F
  have h75 := lf_h75 F
  have h76 := lf_h76 F
  have h77 := lf_h77 F
  have h78 := lf_h78 F
  have h79 := lf_h79 F
  have h80 := lf_h80 F
  have hx := cx.1
  have hb := cx.2.1
  obtain ⟨-, -, -, -, -, -, hX, hbl, -, -⟩ := id C0
  have hbA : ¬ (fun q : Nat => s.heap.size ≤ q) b := Nat.not_le.mpr hbl
  refine lv_aload_n hx hb dL_law_1133 rfl (lv_at hl 1 rfl) ?_
  refine lv_aload_n hx hb dL_law_1134 rfl (lv_at hl 0 rfl) ?_
  refine lv_iload_n hx hb dL_law_1135 rfl (lv_at hl 3 rfl) ?_
  refine lv_iconst (v := 1) hx hb dL_law_1136 (by decide) ?_
  refine lv_iadd hx hb dL_law_1137 ?_
  refine va_sld hx hb hX hbl hbA hw.2.2 (lw_vin 1 1 rfl (by omega) hL) dL_law_1138 ?_
  refine lv_topi (fun a1 ea1 => ?_)
  refine lv_aload_n hx hb dL_law_1139 rfl (lv_at hl 0 rfl) ?_
  refine lv_iload_n hx hb dL_law_1140 rfl (lv_at hl 3 rfl) ?_
  refine lv_iconst (v := 2) hx hb dL_law_1141 (by decide) ?_
  refine lv_iadd hx hb dL_law_1142 ?_
  refine va_sld hx hb hX hbl hbA hw.2.2 (lw_vin 2 2 rfl (by omega) hL) dL_law_1143 ?_
  refine lv_topi (fun a2 ea2 => ?_)
  refine lv_aload_n hx hb dL_law_1144 rfl (lv_at hl 0 rfl) ?_
  refine lv_iload_n hx hb dL_law_1145 rfl (lv_at hl 3 rfl) ?_
  refine lv_iconst (v := 3) hx hb dL_law_1146 (by decide) ?_
  refine lv_iadd hx hb dL_law_1147 ?_
  refine va_sld hx hb hX hbl hbA hw.2.2 (lw_vin 3 3 rfl (by omega) hL) dL_law_1148 ?_
  refine lv_topi (fun a3 ea3 => ?_)
  refine lv_i2l (v := (a3 : Int32).toInt64) hx hb dL_law_1149 rfl ?_
  refine lv_bipush (v := 32) hx hb dL_law_1150 (by decide) ?_
  refine lv_lshl (v := ((a3 : Int32).toInt64) <<< ((32 : Int32).toInt64 &&& 63)) hx hb dL_law_1152 rfl ?_
  refine lv_aload_n hx hb dL_law_1153 rfl (lv_at hl 0 rfl) ?_
  refine lv_iload_n hx hb dL_law_1154 rfl (lv_at hl 3 rfl) ?_
  refine lv_iconst (v := 4) hx hb dL_law_1155 (by decide) ?_
  refine lv_iadd hx hb dL_law_1156 ?_
  refine va_sld hx hb hX hbl hbA hw.2.2 (lw_vin 4 4 rfl (by omega) hL) dL_law_1157 ?_
  refine lv_topi (fun a4 ea4 => ?_)
  refine lv_i2l (v := (a4 : Int32).toInt64) hx hb dL_law_1158 rfl ?_
  refine lv_ldc2 (v := 4294967295) hx hb cx.2.2.2.1 (cx.2.2.2.2.1 _ cl_L_148) dL_law_1159 ?_
  refine lv_land hx hb dL_law_1162 ?_
  refine lv_lor hx hb dL_law_1163 ?_
  refine lv_topl (fun v3 ev3 => ?_)
  obtain ⟨k1, hk1, hx1⟩ := lw_tape a1
  obtain ⟨zc, zm, hzc, hzm, he, hR2⟩ := p_item a1 a2 v3 k1 hk1 hx1 hR
  refine cVL2 [.int zc.1] cx (CX8_item l D C (ad 0) (ad 1) (ad 15) (ad 29) (ad 32) (ad 36) (ad 44) (ad 46) (ad (47 + 2 * k1)) (ad (48 + 2 * k1)) (vi 0) tp ((va 46) k1) ((va 47) k1) (ti k1) a1 a2 v3 zc hzc (fun h => by rw [hx1 h]; exact hTp k1 hk1)) lk_L_150 my_X8_item ml_X8_item ⟨by decide, by decide⟩ hw [0, 46, 47 + 2 * k1, 48 + 2 * k1] (ce h0 (ce h46 (ce (hT _ hk1).1 (ce (hT _ hk1).2 rfl)))) (ok_X8_item k1 hk1) rfl rfl rfl rfl (Nat.le_of_ble_eq_true rfl) dL_law_1164 rfl (fun H locs hw => ?_) hl.1 ⟨Nat.le_of_ble_eq_true rfl, Nat.le_of_ble_eq_true rfl⟩
  obtain ⟨g, hg, hw⟩ := gen_put hw
  replace h0 : g 0 = ((ad 0), .inr (8, [.ref (ad 1), .ref (ad 15), .int (vi 0), .ref (ad 29), .ref (ad 32), .ref (ad 36), .ref (ad 44), .ref (ad 46)])) := (congrFun hg 0).trans rfl
  replace h1 := (congrFun hg 1).trans ((put_ne _ _ _ _ (far_X8_item k1 hk1 1 (by decide) rfl)).trans h1)
  replace h2 := (congrFun hg 2).trans ((put_ne _ _ _ _ (far_X8_item k1 hk1 2 (by decide) rfl)).trans h2)
  replace h3 := (congrFun hg 3).trans ((put_ne _ _ _ _ (far_X8_item k1 hk1 3 (by decide) rfl)).trans h3)
  replace h4 := (congrFun hg 4).trans ((put_ne _ _ _ _ (far_X8_item k1 hk1 4 (by decide) rfl)).trans h4)
  replace h5 := (congrFun hg 5).trans ((put_ne _ _ _ _ (far_X8_item k1 hk1 5 (by decide) rfl)).trans h5)
  replace h6 := (congrFun hg 6).trans ((put_ne _ _ _ _ (far_X8_item k1 hk1 6 (by decide) rfl)).trans h6)
  replace h7 := (congrFun hg 7).trans ((put_ne _ _ _ _ (far_X8_item k1 hk1 7 (by decide) rfl)).trans h7)
  replace h8 := (congrFun hg 8).trans ((put_ne _ _ _ _ (far_X8_item k1 hk1 8 (by decide) rfl)).trans h8)
  replace h9 := (congrFun hg 9).trans ((put_ne _ _ _ _ (far_X8_item k1 hk1 9 (by decide) rfl)).trans h9)
  replace h10 := (congrFun hg 10).trans ((put_ne _ _ _ _ (far_X8_item k1 hk1 10 (by decide) rfl)).trans h10)
  replace h11 := (congrFun hg 11).trans ((put_ne _ _ _ _ (far_X8_item k1 hk1 11 (by decide) rfl)).trans h11)
  replace h12 := (congrFun hg 12).trans ((put_ne _ _ _ _ (far_X8_item k1 hk1 12 (by decide) rfl)).trans h12)
  replace h13 := (congrFun hg 13).trans ((put_ne _ _ _ _ (far_X8_item k1 hk1 13 (by decide) rfl)).trans h13)
  replace h14 := (congrFun hg 14).trans ((put_ne _ _ _ _ (far_X8_item k1 hk1 14 (by decide) rfl)).trans h14)
  replace h15 := (congrFun hg 15).trans ((put_ne _ _ _ _ (far_X8_item k1 hk1 15 (by decide) rfl)).trans h15)
  replace h16 := (congrFun hg 16).trans ((put_ne _ _ _ _ (far_X8_item k1 hk1 16 (by decide) rfl)).trans h16)
  replace h17 := (congrFun hg 17).trans ((put_ne _ _ _ _ (far_X8_item k1 hk1 17 (by decide) rfl)).trans h17)
  replace h18 := (congrFun hg 18).trans ((put_ne _ _ _ _ (far_X8_item k1 hk1 18 (by decide) rfl)).trans h18)
  replace h19 := (congrFun hg 19).trans ((put_ne _ _ _ _ (far_X8_item k1 hk1 19 (by decide) rfl)).trans h19)
  replace h20 := (congrFun hg 20).trans ((put_ne _ _ _ _ (far_X8_item k1 hk1 20 (by decide) rfl)).trans h20)
  replace h21 := (congrFun hg 21).trans ((put_ne _ _ _ _ (far_X8_item k1 hk1 21 (by decide) rfl)).trans h21)
  replace h22 := (congrFun hg 22).trans ((put_ne _ _ _ _ (far_X8_item k1 hk1 22 (by decide) rfl)).trans h22)
  replace h23 := (congrFun hg 23).trans ((put_ne _ _ _ _ (far_X8_item k1 hk1 23 (by decide) rfl)).trans h23)
  replace h24 := (congrFun hg 24).trans ((put_ne _ _ _ _ (far_X8_item k1 hk1 24 (by decide) rfl)).trans h24)
  replace h25 := (congrFun hg 25).trans ((put_ne _ _ _ _ (far_X8_item k1 hk1 25 (by decide) rfl)).trans h25)
  replace h26 := (congrFun hg 26).trans ((put_ne _ _ _ _ (far_X8_item k1 hk1 26 (by decide) rfl)).trans h26)
  replace h27 := (congrFun hg 27).trans ((put_ne _ _ _ _ (far_X8_item k1 hk1 27 (by decide) rfl)).trans h27)
  replace h28 := (congrFun hg 28).trans ((put_ne _ _ _ _ (far_X8_item k1 hk1 28 (by decide) rfl)).trans h28)
  replace h29 := (congrFun hg 29).trans ((put_ne _ _ _ _ (far_X8_item k1 hk1 29 (by decide) rfl)).trans h29)
  replace h30 := (congrFun hg 30).trans ((put_ne _ _ _ _ (far_X8_item k1 hk1 30 (by decide) rfl)).trans h30)
  replace h31 := (congrFun hg 31).trans ((put_ne _ _ _ _ (far_X8_item k1 hk1 31 (by decide) rfl)).trans h31)
  replace h32 := (congrFun hg 32).trans ((put_ne _ _ _ _ (far_X8_item k1 hk1 32 (by decide) rfl)).trans h32)
  replace h33 := (congrFun hg 33).trans ((put_ne _ _ _ _ (far_X8_item k1 hk1 33 (by decide) rfl)).trans h33)
  replace h34 := (congrFun hg 34).trans ((put_ne _ _ _ _ (far_X8_item k1 hk1 34 (by decide) rfl)).trans h34)
  replace h35 := (congrFun hg 35).trans ((put_ne _ _ _ _ (far_X8_item k1 hk1 35 (by decide) rfl)).trans h35)
  replace h36 := (congrFun hg 36).trans ((put_ne _ _ _ _ (far_X8_item k1 hk1 36 (by decide) rfl)).trans h36)
  replace h37 := (congrFun hg 37).trans ((put_ne _ _ _ _ (far_X8_item k1 hk1 37 (by decide) rfl)).trans h37)
  replace h38 := (congrFun hg 38).trans ((put_ne _ _ _ _ (far_X8_item k1 hk1 38 (by decide) rfl)).trans h38)
  replace h39 := (congrFun hg 39).trans ((put_ne _ _ _ _ (far_X8_item k1 hk1 39 (by decide) rfl)).trans h39)
  replace h40 := (congrFun hg 40).trans ((put_ne _ _ _ _ (far_X8_item k1 hk1 40 (by decide) rfl)).trans h40)
  replace h41 := (congrFun hg 41).trans ((put_ne _ _ _ _ (far_X8_item k1 hk1 41 (by decide) rfl)).trans h41)
  replace h42 := (congrFun hg 42).trans ((put_ne _ _ _ _ (far_X8_item k1 hk1 42 (by decide) rfl)).trans h42)
  replace h43 := (congrFun hg 43).trans ((put_ne _ _ _ _ (far_X8_item k1 hk1 43 (by decide) rfl)).trans h43)
  replace h44 := (congrFun hg 44).trans ((put_ne _ _ _ _ (far_X8_item k1 hk1 44 (by decide) rfl)).trans h44)
  replace h45 := (congrFun hg 45).trans ((put_ne _ _ _ _ (far_X8_item k1 hk1 45 (by decide) rfl)).trans h45)
  replace h46 : g 46 = ((ad 46), .inl (C 4, 6, .inr (.inr (.inr (.inr tp))))) := (congrFun hg 46).trans rfl
  replace h59 := (congrFun hg 59).trans ((put_ne _ _ _ _ (far_X8_item k1 hk1 59 (by decide) rfl)).trans h59)
  replace h60 := (congrFun hg 60).trans ((put_ne _ _ _ _ (far_X8_item k1 hk1 60 (by decide) rfl)).trans h60)
  replace h61 := (congrFun hg 61).trans ((put_ne _ _ _ _ (far_X8_item k1 hk1 61 (by decide) rfl)).trans h61)
  replace h62 := (congrFun hg 62).trans ((put_ne _ _ _ _ (far_X8_item k1 hk1 62 (by decide) rfl)).trans h62)
  replace h63 := (congrFun hg 63).trans ((put_ne _ _ _ _ (far_X8_item k1 hk1 63 (by decide) rfl)).trans h63)
  replace h64 := (congrFun hg 64).trans ((put_ne _ _ _ _ (far_X8_item k1 hk1 64 (by decide) rfl)).trans h64)
  replace h65 := (congrFun hg 65).trans ((put_ne _ _ _ _ (far_X8_item k1 hk1 65 (by decide) rfl)).trans h65)
  replace h66 := (congrFun hg 66).trans ((put_ne _ _ _ _ (far_X8_item k1 hk1 66 (by decide) rfl)).trans h66)
  replace h67 := (congrFun hg 67).trans ((put_ne _ _ _ _ (far_X8_item k1 hk1 67 (by decide) rfl)).trans h67)
  replace h68 := (congrFun hg 68).trans ((put_ne _ _ _ _ (far_X8_item k1 hk1 68 (by decide) rfl)).trans h68)
  replace h69 := (congrFun hg 69).trans ((put_ne _ _ _ _ (far_X8_item k1 hk1 69 (by decide) rfl)).trans h69)
  replace h70 := (congrFun hg 70).trans ((put_ne _ _ _ _ (far_X8_item k1 hk1 70 (by decide) rfl)).trans h70)
  replace h71 := (congrFun hg 71).trans ((put_ne _ _ _ _ (far_X8_item k1 hk1 71 (by decide) rfl)).trans h71)
  replace h72 := (congrFun hg 72).trans ((put_ne _ _ _ _ (far_X8_item k1 hk1 72 (by decide) rfl)).trans h72)
  replace h73 := (congrFun hg 73).trans ((put_ne _ _ _ _ (far_X8_item k1 hk1 73 (by decide) rfl)).trans h73)
  replace h74 := (congrFun hg 74).trans ((put_ne _ _ _ _ (far_X8_item k1 hk1 74 (by decide) rfl)).trans h74)
  replace h75 := (congrFun hg 75).trans ((put_ne _ _ _ _ (far_X8_item k1 hk1 75 (by decide) rfl)).trans h75)
  replace h76 := (congrFun hg 76).trans ((put_ne _ _ _ _ (far_X8_item k1 hk1 76 (by decide) rfl)).trans h76)
  replace h77 := (congrFun hg 77).trans ((put_ne _ _ _ _ (far_X8_item k1 hk1 77 (by decide) rfl)).trans h77)
  replace h78 := (congrFun hg 78).trans ((put_ne _ _ _ _ (far_X8_item k1 hk1 78 (by decide) rfl)).trans h78)
  replace h79 := (congrFun hg 79).trans ((put_ne _ _ _ _ (far_X8_item k1 hk1 79 (by decide) rfl)).trans h79)
  replace h80 := (congrFun hg 80).trans ((put_ne _ _ _ _ (far_X8_item k1 hk1 80 (by decide) rfl)).trans h80)
  replace hT : (∀ k, k < 6 → g (47 + 2 * k) = (ad (47 + 2 * k), .inr (6, [.int ((va 46) k), .int ((va 47) k), .ref (ad (48 + 2 * k))])) ∧ g (48 + 2 * k) = (ad (48 + 2 * k), .inl (C 1, 60, .inr (.inl ((va_up ti k1 zc.2) k))))) := by
    intro k hk
    rw [hg]
    by_cases ek1 : k = k1
    · rw [ek1]
      refine ⟨Eq.trans (put_pos 2 _ _ _ _ _ rfl rfl (fc_X8_item_k1 k1 hk1).1) ?_, Eq.trans (put_pos 3 _ _ _ _ _ rfl rfl (fc_X8_item_k1 k1 hk1).2) ?_⟩
      · rfl
      · simp only [va_up_self]
    · skip
      obtain ⟨f1, f2⟩ := fb_X8_item k1 hk1 k hk ek1
      refine ⟨(put_ne _ _ _ _ f1).trans ?_, (put_ne _ _ _ _ f2).trans ?_⟩
      · rw [(hT k hk).1]
      · rw [(hT k hk).2, va_up_ne _ _ ek1]
  refine lv_aload_n hx hb dL_law_1167 rfl (lv_at hl 2 rfl) ?_
  refine lv_aload_n hx hb dL_law_1168 rfl (lv_at hl 0 rfl) ?_
  refine lv_iload_n hx hb dL_law_1169 rfl (lv_at hl 3 rfl) ?_
  refine lv_iconst (v := 1) hx hb dL_law_1170 (by decide) ?_
  refine lv_iadd hx hb dL_law_1171 ?_
  refine va_sld hx hb hX hbl hbA hw.2.2 (lw_vin 1 1 rfl (by omega) hL) dL_law_1172 ?_
  refine lv_topi (fun y ey => ?_)
  obtain rfl : a1 = y := ea1.trans ey.symm
  refine lv_aload_n hx hb dL_law_1173 rfl (lv_at hl 0 rfl) ?_
  refine lv_iload_n hx hb dL_law_1174 rfl (lv_at hl 3 rfl) ?_
  refine lv_iconst (v := 2) hx hb dL_law_1175 (by decide) ?_
  refine lv_iadd hx hb dL_law_1176 ?_
  refine va_sld hx hb hX hbl hbA hw.2.2 (lw_vin 2 2 rfl (by omega) hL) dL_law_1177 ?_
  refine lv_topi (fun y ey => ?_)
  obtain rfl : a2 = y := ea2.trans ey.symm
  refine lv_aload_n hx hb dL_law_1178 rfl (lv_at hl 0 rfl) ?_
  refine lv_iload_n hx hb dL_law_1179 rfl (lv_at hl 3 rfl) ?_
  refine lv_iconst (v := 3) hx hb dL_law_1180 (by decide) ?_
  refine lv_iadd hx hb dL_law_1181 ?_
  refine va_sld hx hb hX hbl hbA hw.2.2 (lw_vin 3 3 rfl (by omega) hL) dL_law_1182 ?_
  refine lv_topi (fun y ey => ?_)
  obtain rfl : a3 = y := ea3.trans ey.symm
  refine lv_i2l (v := (a3 : Int32).toInt64) hx hb dL_law_1183 rfl ?_
  refine lv_bipush (v := 32) hx hb dL_law_1184 (by decide) ?_
  refine lv_lshl (v := ((a3 : Int32).toInt64) <<< ((32 : Int32).toInt64 &&& 63)) hx hb dL_law_1186 rfl ?_
  refine lv_aload_n hx hb dL_law_1187 rfl (lv_at hl 0 rfl) ?_
  refine lv_iload_n hx hb dL_law_1188 rfl (lv_at hl 3 rfl) ?_
  refine lv_iconst (v := 4) hx hb dL_law_1189 (by decide) ?_
  refine lv_iadd hx hb dL_law_1190 ?_
  refine va_sld hx hb hX hbl hbA hw.2.2 (lw_vin 4 4 rfl (by omega) hL) dL_law_1191 ?_
  refine lv_topi (fun y ey => ?_)
  obtain rfl : a4 = y := ea4.trans ey.symm
  refine lv_i2l (v := (a4 : Int32).toInt64) hx hb dL_law_1192 rfl ?_
  refine lv_ldc2 (v := 4294967295) hx hb cx.2.2.2.1 (cx.2.2.2.2.1 _ cl_L_148) dL_law_1193 ?_
  refine lv_land hx hb dL_law_1196 ?_
  refine lv_lor hx hb dL_law_1197 ?_
  refine lv_topl (fun y ey => ?_)
  obtain rfl : v3 = y := ev3.trans ey.symm
  refine cVL2 [.int zm.1, .int zc.1] cx (CX9_item l D C (ad 59) (ad 60) (ad 61) (ad 62) (ad 63) (ad 64) (ad 65) (ad 66) (ad 67) (ad 68) (ad 69) (ad 70) (ad 71) (ad 72) (ad 73) (ad 74) (ad 75) (ad 76) (ad 77) (ad 78) (ad 79) (ad 80) (vi 21) (vi 22) (vi 23) (vi 24) (vi 25) (vi 26) (vi 27) (vi 28) (vi 29) (vi 30) (vi 31) vl (vi 32) (vi 33) (vi 34) (va 44) (va 45) vj a1 a2 v3 zm hzm) lk_L_154 my_X9_item ml_X9_item ⟨by decide, by decide⟩ hw [59, 78, 79, 80] (ce h59 (ce h78 (ce h79 (ce h80 rfl)))) (by decide +kernel) rfl rfl rfl rfl (Nat.le_of_ble_eq_true rfl) dL_law_1198 rfl (fun H locs hw => ?_) hl.1 ⟨Nat.le_of_ble_eq_true rfl, Nat.le_of_ble_eq_true rfl⟩
  refine lv_icmp_eq (tgt := 1303) hx hb dL_law_1201 (by decide) (fun _ => ?_) (fun c9 => absurd he c9)
  refine (fun q9 => hk _ H locs ls q9 hw hl) ?_
  exact ⟨vi, va, vl, zm.2, (va_up ti k1 zc.2), _, hR2, rfl, h0, h1, h2, h3, h4, h5, h6, h7, h8, h9, h10, h11, h12, h13, h14, h15, h16, h17, h18, h19, h20, h21, h22, h23, h24, h25, h26, h27, h28, h29, h30, h31, h32, h33, h34, h35, h36, h37, h38, h39, h40, h41, h42, h43, h44, h45, h46, fun k hk => ⟨(tput1 rfl (by omega)).trans (hT k hk).1, (tput1 rfl (by omega)).trans (hT k hk).2⟩, rfl, h60, h61, h62, h63, h64, h65, h66, h67, h68, h69, h70, h71, h72, h73, h74, h75, h76, h77, rfl, rfl, rfl⟩
theorem ok_X8_peek : ∀ k1, k1 < 6 → okS [0, 46, 47 + 2 * k1, 48 + 2 * k1] = true := by decide +kernel
theorem far_X8_peek : ∀ k1, k1 < 6 → ∀ j, j < 81 → (hasN [0, 46] j || (Nat.ble 47 j && Nat.ble j 58)) = false → hasN [0, 46, 47 + 2 * k1, 48 + 2 * k1] j = false := by decide +kernel
theorem fb_X8_peek : ∀ k1, k1 < 6 → ∀ k, k < 6 → k ≠ k1 → hasN [0, 46, 47 + 2 * k1, 48 + 2 * k1] (47 + 2 * k) = false ∧ hasN [0, 46, 47 + 2 * k1, 48 + 2 * k1] (48 + 2 * k) = false := by decide +kernel
theorem fc_X8_peek_k1 : ∀ k1, k1 < 6 → hasN (([0, 46, 47 + 2 * k1, 48 + 2 * k1] : List Nat).take 2) (47 + 2 * k1) = false ∧ hasN (([0, 46, 47 + 2 * k1, 48 + 2 * k1] : List Nat).take 3) (48 + 2 * k1) = false := by decide +kernel
set_option maxRecDepth 20000 in
set_option maxHeartbeats 4000000 in
theorem lc_peek {p : Program} {l : Launch} {e : Env} {s : State} {m : MethodId} {below : List Frame} {meth : Method} {c : Code} {D : va_G} {C : Nat → ClassId} {b L i : Nat} {xs : Nat → Int32} {ad : Nat → Nat} {tp : Nat → Option Nat} (C0 : lw_At p s m meth c b L xs) (cx : CX p m c s #[Value.ref b] RL cL_law 4 D C (fun q : Nat => s.heap.size ≤ q) room_1 83) (hi : i + 6 ≤ L) (hL : L ≤ 3072) (hTp : LTape ad tp)
    (hk : ∀ (w : va_W) (H : Heap) (locs : List Loc) (ls : Array Slot), LI C ad tp w → HW D (fun q : Nat => s.heap.size ≤ q) s.heap H locs w → lv_has ls 4 [(0, .ref b), (1, .ref (ad 0)), (2, .ref (ad 59)), (3, .int (nI i))] → W p l e room_1 s m #[Value.ref b] below meth c H locs 81 2747 (lw_Z below #[Value.ref b] s) (F0 m 1303 ls []))
    {w : va_W} {H : Heap} {locs : List Loc} {ls : Array Slot} (hI : LI C ad tp w) (hw : HW D (fun q : Nat => s.heap.size ≤ q) s.heap H locs w) (hl : lv_has ls 4 [(0, .ref b), (1, .ref (ad 0)), (2, .ref (ad 59)), (3, .int (nI i))]) : W p l e room_1 s m #[Value.ref b] below meth c H locs 81 2747 (lw_Z below #[Value.ref b] s) (F0 m 1206 ls []) := by
  obtain ⟨vi, va, vl, vj, ti, f, hR, rfl, F⟩ := hI
  have h0 := lf_h0 F
  have h1 := lf_h1 F
  have h2 := lf_h2 F
  have h3 := lf_h3 F
  have h4 := lf_h4 F
  have h5 := lf_h5 F
  have h6 := lf_h6 F
  have h7 := lf_h7 F
  have h8 := lf_h8 F
  have h9 := lf_h9 F
  have h10 := lf_h10 F
  have h11 := lf_h11 F
  have h12 := lf_h12 F
  have h13 := lf_h13 F
  have h14 := lf_h14 F
  have h15 := lf_h15 F
  have h16 := lf_h16 F
  have h17 := lf_h17 F
  have h18 := lf_h18 F
  have h19 := lf_h19 F
  have h20 := lf_h20 F
  have h21 := lf_h21 F
  have h22 := lf_h22 F
  have h23 := lf_h23 F
  have h24 := lf_h24 F
  have h25 := lf_h25 F
  have h26 := lf_h26 F
  have h27 := lf_h27 F
  have h28 := lf_h28 F
  have h29 := lf_h29 F
  have h30 := lf_h30 F
  have h31 := lf_h31 F
  have h32 := lf_h32 F
  have h33 := lf_h33 F
  have h34 := lf_h34 F
  have h35 := lf_h35 F
  have h36 := lf_h36 F
  have h37 := lf_h37 F
  have h38 := lf_h38 F
  have h39 := lf_h39 F
  have h40 := lf_h40 F
  have h41 := lf_h41 F
  have h42 := lf_h42 F
  have h43 := lf_h43 F
  have h44 := lf_h44 F
  have h45 := lf_h45 F
  have h46 := lf_h46 F
  have hT := lf_hT F
  have h59 := lf_h59 F
  have h60 := lf_h60 F
  have h61 := lf_h61 F
  have h62 := lf_h62 F
  have h63 := lf_h63 F
  have h64 := lf_h64 F
  have h65 := lf_h65 F
  have h66 := lf_h66 F
  have h67 := lf_h67 F
  have h68 := lf_h68 F
  have h69 := lf_h69 F
  have h70 := lf_h70 F
  have h71 := lf_h71 F
  have h72 := lf_h72 F
  have h73 := lf_h73 F
  have h74 := lf_h74 F
  have h75 := lf_h75 F
  have h76 := lf_h76 F
  have h77 := lf_h77 F
  have h78 := lf_h78 F
  have h79 := lf_h79 F
  have h80 := lf_h80 F
  have hx := cx.1
  have hb := cx.2.1
  obtain ⟨-, -, -, -, -, -, hX, hbl, -, -⟩ := id C0
  have hbA : ¬ (fun q : Nat => s.heap.size ≤ q) b := Nat.not_le.mpr hbl
  refine lv_aload_n hx hb dL_law_1206 rfl (lv_at hl 1 rfl) ?_
  refine lv_aload_n hx hb dL_law_1207 rfl (lv_at hl 0 rfl) ?_
  refine lv_iload_n hx hb dL_law_1208 rfl (lv_at hl 3 rfl) ?_
  refine lv_iconst (v := 1) hx hb dL_law_1209 (by decide) ?_
  refine lv_iadd hx hb dL_law_1210 ?_
  refine va_sld hx hb hX hbl hbA hw.2.2 (lw_vin 1 1 rfl (by omega) hL) dL_law_1211 ?_
  refine lv_topi (fun a1 ea1 => ?_)
  refine lv_aload_n hx hb dL_law_1212 rfl (lv_at hl 0 rfl) ?_
  refine lv_iload_n hx hb dL_law_1213 rfl (lv_at hl 3 rfl) ?_
  refine lv_iconst (v := 2) hx hb dL_law_1214 (by decide) ?_
  refine lv_iadd hx hb dL_law_1215 ?_
  refine va_sld hx hb hX hbl hbA hw.2.2 (lw_vin 2 2 rfl (by omega) hL) dL_law_1216 ?_
  refine lv_topi (fun a2 ea2 => ?_)
  obtain ⟨k1, hk1, hx1⟩ := lw_tape a1
  obtain ⟨zc, zm, hzc, hzm, he, hR2⟩ := p_peek a1 a2 k1 hk1 hx1 hR
  refine cVL2 [.long zc] cx (CX8_peek l D C (ad 0) (ad 1) (ad 15) (ad 29) (ad 32) (ad 36) (ad 44) (ad 46) (ad (47 + 2 * k1)) (ad (48 + 2 * k1)) (vi 0) tp ((va 46) k1) ((va 47) k1) (ti k1) a1 a2 zc hzc (fun h => by rw [hx1 h]; exact hTp k1 hk1)) lk_L_155 my_X8_peek ml_X8_peek ⟨by decide, by decide⟩ hw [0, 46, 47 + 2 * k1, 48 + 2 * k1] (ce h0 (ce h46 (ce (hT _ hk1).1 (ce (hT _ hk1).2 rfl)))) (ok_X8_peek k1 hk1) rfl rfl rfl rfl (Nat.le_of_ble_eq_true rfl) dL_law_1217 rfl (fun H locs hw => ?_) hl.1 ⟨Nat.le_of_ble_eq_true rfl, Nat.le_of_ble_eq_true rfl⟩
  obtain ⟨g, hg, hw⟩ := gen_put hw
  replace h0 : g 0 = ((ad 0), .inr (8, [.ref (ad 1), .ref (ad 15), .int (vi 0), .ref (ad 29), .ref (ad 32), .ref (ad 36), .ref (ad 44), .ref (ad 46)])) := (congrFun hg 0).trans rfl
  replace h1 := (congrFun hg 1).trans ((put_ne _ _ _ _ (far_X8_peek k1 hk1 1 (by decide) rfl)).trans h1)
  replace h2 := (congrFun hg 2).trans ((put_ne _ _ _ _ (far_X8_peek k1 hk1 2 (by decide) rfl)).trans h2)
  replace h3 := (congrFun hg 3).trans ((put_ne _ _ _ _ (far_X8_peek k1 hk1 3 (by decide) rfl)).trans h3)
  replace h4 := (congrFun hg 4).trans ((put_ne _ _ _ _ (far_X8_peek k1 hk1 4 (by decide) rfl)).trans h4)
  replace h5 := (congrFun hg 5).trans ((put_ne _ _ _ _ (far_X8_peek k1 hk1 5 (by decide) rfl)).trans h5)
  replace h6 := (congrFun hg 6).trans ((put_ne _ _ _ _ (far_X8_peek k1 hk1 6 (by decide) rfl)).trans h6)
  replace h7 := (congrFun hg 7).trans ((put_ne _ _ _ _ (far_X8_peek k1 hk1 7 (by decide) rfl)).trans h7)
  replace h8 := (congrFun hg 8).trans ((put_ne _ _ _ _ (far_X8_peek k1 hk1 8 (by decide) rfl)).trans h8)
  replace h9 := (congrFun hg 9).trans ((put_ne _ _ _ _ (far_X8_peek k1 hk1 9 (by decide) rfl)).trans h9)
  replace h10 := (congrFun hg 10).trans ((put_ne _ _ _ _ (far_X8_peek k1 hk1 10 (by decide) rfl)).trans h10)
  replace h11 := (congrFun hg 11).trans ((put_ne _ _ _ _ (far_X8_peek k1 hk1 11 (by decide) rfl)).trans h11)
  replace h12 := (congrFun hg 12).trans ((put_ne _ _ _ _ (far_X8_peek k1 hk1 12 (by decide) rfl)).trans h12)
  replace h13 := (congrFun hg 13).trans ((put_ne _ _ _ _ (far_X8_peek k1 hk1 13 (by decide) rfl)).trans h13)
  replace h14 := (congrFun hg 14).trans ((put_ne _ _ _ _ (far_X8_peek k1 hk1 14 (by decide) rfl)).trans h14)
  replace h15 := (congrFun hg 15).trans ((put_ne _ _ _ _ (far_X8_peek k1 hk1 15 (by decide) rfl)).trans h15)
  replace h16 := (congrFun hg 16).trans ((put_ne _ _ _ _ (far_X8_peek k1 hk1 16 (by decide) rfl)).trans h16)
  replace h17 := (congrFun hg 17).trans ((put_ne _ _ _ _ (far_X8_peek k1 hk1 17 (by decide) rfl)).trans h17)
  replace h18 := (congrFun hg 18).trans ((put_ne _ _ _ _ (far_X8_peek k1 hk1 18 (by decide) rfl)).trans h18)
  replace h19 := (congrFun hg 19).trans ((put_ne _ _ _ _ (far_X8_peek k1 hk1 19 (by decide) rfl)).trans h19)
  replace h20 := (congrFun hg 20).trans ((put_ne _ _ _ _ (far_X8_peek k1 hk1 20 (by decide) rfl)).trans h20)
  replace h21 := (congrFun hg 21).trans ((put_ne _ _ _ _ (far_X8_peek k1 hk1 21 (by decide) rfl)).trans h21)
  replace h22 := (congrFun hg 22).trans ((put_ne _ _ _ _ (far_X8_peek k1 hk1 22 (by decide) rfl)).trans h22)
  replace h23 := (congrFun hg 23).trans ((put_ne _ _ _ _ (far_X8_peek k1 hk1 23 (by decide) rfl)).trans h23)
  replace h24 := (congrFun hg 24).trans ((put_ne _ _ _ _ (far_X8_peek k1 hk1 24 (by decide) rfl)).trans h24)
  replace h25 := (congrFun hg 25).trans ((put_ne _ _ _ _ (far_X8_peek k1 hk1 25 (by decide) rfl)).trans h25)
  replace h26 := (congrFun hg 26).trans ((put_ne _ _ _ _ (far_X8_peek k1 hk1 26 (by decide) rfl)).trans h26)
  replace h27 := (congrFun hg 27).trans ((put_ne _ _ _ _ (far_X8_peek k1 hk1 27 (by decide) rfl)).trans h27)
  replace h28 := (congrFun hg 28).trans ((put_ne _ _ _ _ (far_X8_peek k1 hk1 28 (by decide) rfl)).trans h28)
  replace h29 := (congrFun hg 29).trans ((put_ne _ _ _ _ (far_X8_peek k1 hk1 29 (by decide) rfl)).trans h29)
  replace h30 := (congrFun hg 30).trans ((put_ne _ _ _ _ (far_X8_peek k1 hk1 30 (by decide) rfl)).trans h30)
  replace h31 := (congrFun hg 31).trans ((put_ne _ _ _ _ (far_X8_peek k1 hk1 31 (by decide) rfl)).trans h31)
  replace h32 := (congrFun hg 32).trans ((put_ne _ _ _ _ (far_X8_peek k1 hk1 32 (by decide) rfl)).trans h32)
  replace h33 := (congrFun hg 33).trans ((put_ne _ _ _ _ (far_X8_peek k1 hk1 33 (by decide) rfl)).trans h33)
  replace h34 := (congrFun hg 34).trans ((put_ne _ _ _ _ (far_X8_peek k1 hk1 34 (by decide) rfl)).trans h34)
  replace h35 := (congrFun hg 35).trans ((put_ne _ _ _ _ (far_X8_peek k1 hk1 35 (by decide) rfl)).trans h35)
  replace h36 := (congrFun hg 36).trans ((put_ne _ _ _ _ (far_X8_peek k1 hk1 36 (by decide) rfl)).trans h36)
  replace h37 := (congrFun hg 37).trans ((put_ne _ _ _ _ (far_X8_peek k1 hk1 37 (by decide) rfl)).trans h37)
  replace h38 := (congrFun hg 38).trans ((put_ne _ _ _ _ (far_X8_peek k1 hk1 38 (by decide) rfl)).trans h38)
  replace h39 := (congrFun hg 39).trans ((put_ne _ _ _ _ (far_X8_peek k1 hk1 39 (by decide) rfl)).trans h39)
  replace h40 := (congrFun hg 40).trans ((put_ne _ _ _ _ (far_X8_peek k1 hk1 40 (by decide) rfl)).trans h40)
  replace h41 := (congrFun hg 41).trans ((put_ne _ _ _ _ (far_X8_peek k1 hk1 41 (by decide) rfl)).trans h41)
  replace h42 := (congrFun hg 42).trans ((put_ne _ _ _ _ (far_X8_peek k1 hk1 42 (by decide) rfl)).trans h42)
  replace h43 := (congrFun hg 43).trans ((put_ne _ _ _ _ (far_X8_peek k1 hk1 43 (by decide) rfl)).trans h43)
  replace h44 := (congrFun hg 44).trans ((put_ne _ _ _ _ (far_X8_peek k1 hk1 44 (by decide) rfl)).trans h44)
  replace h45 := (congrFun hg 45).trans ((put_ne _ _ _ _ (far_X8_peek k1 hk1 45 (by decide) rfl)).trans h45)
  replace h46 : g 46 = ((ad 46), .inl (C 4, 6, .inr (.inr (.inr (.inr tp))))) := (congrFun hg 46).trans rfl
  replace h59 := (congrFun hg 59).trans ((put_ne _ _ _ _ (far_X8_peek k1 hk1 59 (by decide) rfl)).trans h59)
  replace h60 := (congrFun hg 60).trans ((put_ne _ _ _ _ (far_X8_peek k1 hk1 60 (by decide) rfl)).trans h60)
  replace h61 := (congrFun hg 61).trans ((put_ne _ _ _ _ (far_X8_peek k1 hk1 61 (by decide) rfl)).trans h61)
  replace h62 := (congrFun hg 62).trans ((put_ne _ _ _ _ (far_X8_peek k1 hk1 62 (by decide) rfl)).trans h62)
  replace h63 := (congrFun hg 63).trans ((put_ne _ _ _ _ (far_X8_peek k1 hk1 63 (by decide) rfl)).trans h63)
  replace h64 := (congrFun hg 64).trans ((put_ne _ _ _ _ (far_X8_peek k1 hk1 64 (by decide) rfl)).trans h64)
  replace h65 := (congrFun hg 65).trans ((put_ne _ _ _ _ (far_X8_peek k1 hk1 65 (by decide) rfl)).trans h65)
  replace h66 := (congrFun hg 66).trans ((put_ne _ _ _ _ (far_X8_peek k1 hk1 66 (by decide) rfl)).trans h66)
  replace h67 := (congrFun hg 67).trans ((put_ne _ _ _ _ (far_X8_peek k1 hk1 67 (by decide) rfl)).trans h67)
  replace h68 := (congrFun hg 68).trans ((put_ne _ _ _ _ (far_X8_peek k1 hk1 68 (by decide) rfl)).trans h68)
  replace h69 := (congrFun hg 69).trans ((put_ne _ _ _ _ (far_X8_peek k1 hk1 69 (by decide) rfl)).trans h69)
  replace h70 := (congrFun hg 70).trans ((put_ne _ _ _ _ (far_X8_peek k1 hk1 70 (by decide) rfl)).trans h70)
  replace h71 := (congrFun hg 71).trans ((put_ne _ _ _ _ (far_X8_peek k1 hk1 71 (by decide) rfl)).trans h71)
  replace h72 := (congrFun hg 72).trans ((put_ne _ _ _ _ (far_X8_peek k1 hk1 72 (by decide) rfl)).trans h72)
  replace h73 := (congrFun hg 73).trans ((put_ne _ _ _ _ (far_X8_peek k1 hk1 73 (by decide) rfl)).trans h73)
  replace h74 := (congrFun hg 74).trans ((put_ne _ _ _ _ (far_X8_peek k1 hk1 74 (by decide) rfl)).trans h74)
  replace h75 := (congrFun hg 75).trans ((put_ne _ _ _ _ (far_X8_peek k1 hk1 75 (by decide) rfl)).trans h75)
  replace h76 := (congrFun hg 76).trans ((put_ne _ _ _ _ (far_X8_peek k1 hk1 76 (by decide) rfl)).trans h76)
  replace h77 := (congrFun hg 77).trans ((put_ne _ _ _ _ (far_X8_peek k1 hk1 77 (by decide) rfl)).trans h77)
  replace h78 := (congrFun hg 78).trans ((put_ne _ _ _ _ (far_X8_peek k1 hk1 78 (by decide) rfl)).trans h78)
  replace h79 := (congrFun hg 79).trans ((put_ne _ _ _ _ (far_X8_peek k1 hk1 79 (by decide) rfl)).trans h79)
  replace h80 := (congrFun hg 80).trans ((put_ne _ _ _ _ (far_X8_peek k1 hk1 80 (by decide) rfl)).trans h80)
  replace hT : (∀ k, k < 6 → g (47 + 2 * k) = (ad (47 + 2 * k), .inr (6, [.int ((va 46) k), .int ((va 47) k), .ref (ad (48 + 2 * k))])) ∧ g (48 + 2 * k) = (ad (48 + 2 * k), .inl (C 1, 60, .inr (.inl (ti k))))) := by
    intro k hk
    rw [hg]
    by_cases ek1 : k = k1
    · rw [ek1]
      refine ⟨Eq.trans (put_pos 2 _ _ _ _ _ rfl rfl (fc_X8_peek_k1 k1 hk1).1) ?_, Eq.trans (put_pos 3 _ _ _ _ _ rfl rfl (fc_X8_peek_k1 k1 hk1).2) ?_⟩
      · rfl
      · rfl
    · skip
      obtain ⟨f1, f2⟩ := fb_X8_peek k1 hk1 k hk ek1
      refine ⟨(put_ne _ _ _ _ f1).trans ?_, (put_ne _ _ _ _ f2).trans ?_⟩
      · rw [(hT k hk).1]
      · rw [(hT k hk).2]
  refine lv_aload_n hx hb dL_law_1220 rfl (lv_at hl 2 rfl) ?_
  refine lv_aload_n hx hb dL_law_1221 rfl (lv_at hl 0 rfl) ?_
  refine lv_iload_n hx hb dL_law_1222 rfl (lv_at hl 3 rfl) ?_
  refine lv_iconst (v := 1) hx hb dL_law_1223 (by decide) ?_
  refine lv_iadd hx hb dL_law_1224 ?_
  refine va_sld hx hb hX hbl hbA hw.2.2 (lw_vin 1 1 rfl (by omega) hL) dL_law_1225 ?_
  refine lv_topi (fun y ey => ?_)
  obtain rfl : a1 = y := ea1.trans ey.symm
  refine lv_aload_n hx hb dL_law_1226 rfl (lv_at hl 0 rfl) ?_
  refine lv_iload_n hx hb dL_law_1227 rfl (lv_at hl 3 rfl) ?_
  refine lv_iconst (v := 2) hx hb dL_law_1228 (by decide) ?_
  refine lv_iadd hx hb dL_law_1229 ?_
  refine va_sld hx hb hX hbl hbA hw.2.2 (lw_vin 2 2 rfl (by omega) hL) dL_law_1230 ?_
  refine lv_topi (fun y ey => ?_)
  obtain rfl : a2 = y := ea2.trans ey.symm
  refine cVL2 [.long zm, .long zc] cx (CX9_peek l D C (ad 59) (ad 60) (ad 61) (ad 62) (ad 63) (ad 64) (ad 65) (ad 66) (ad 67) (ad 68) (ad 69) (ad 70) (ad 71) (ad 72) (ad 73) (ad 74) (ad 75) (ad 76) (ad 77) (ad 78) (ad 79) (ad 80) (vi 21) (vi 22) (vi 23) (vi 24) (vi 25) (vi 26) (vi 27) (vi 28) (vi 29) (vi 30) (vi 31) vl (vi 32) (vi 33) (vi 34) (va 44) (va 45) vj a1 a2 zm hzm) lk_L_159 my_X9_peek ml_X9_peek ⟨by decide, by decide⟩ hw [59, 78, 79, 80] (ce h59 (ce h78 (ce h79 (ce h80 rfl)))) (by decide +kernel) rfl rfl rfl rfl (Nat.le_of_ble_eq_true rfl) dL_law_1231 rfl (fun H locs hw => ?_) hl.1 ⟨Nat.le_of_ble_eq_true rfl, Nat.le_of_ble_eq_true rfl⟩
  refine W.lcmp hx hb dL_law_1234 ?_
  refine lv_if_eq (tgt := 1303) hx hb dL_law_1235 (by decide) (fun _ => ?_) (fun c9 => absurd (lw_cmp he) c9)
  refine (fun q9 => hk _ H locs ls q9 hw hl) ?_
  exact ⟨vi, va, vl, vj, ti, _, hR2, rfl, h0, h1, h2, h3, h4, h5, h6, h7, h8, h9, h10, h11, h12, h13, h14, h15, h16, h17, h18, h19, h20, h21, h22, h23, h24, h25, h26, h27, h28, h29, h30, h31, h32, h33, h34, h35, h36, h37, h38, h39, h40, h41, h42, h43, h44, h45, h46, fun k hk => ⟨(tput1 rfl (by omega)).trans (hT k hk).1, (tput1 rfl (by omega)).trans (hT k hk).2⟩, rfl, h60, h61, h62, h63, h64, h65, h66, h67, h68, h69, h70, h71, h72, h73, h74, h75, h76, h77, rfl, rfl, rfl⟩
theorem ok_X8_shift_s : ∀ k1, k1 < 6 → okS [0, 46, 47 + 2 * k1, 48 + 2 * k1] = true := by decide +kernel
theorem far_X8_shift_s : ∀ k1, k1 < 6 → ∀ j, j < 81 → (hasN [0, 46] j || (Nat.ble 47 j && Nat.ble j 58)) = false → hasN [0, 46, 47 + 2 * k1, 48 + 2 * k1] j = false := by decide +kernel
theorem fb_X8_shift_s : ∀ k1, k1 < 6 → ∀ k, k < 6 → k ≠ k1 → hasN [0, 46, 47 + 2 * k1, 48 + 2 * k1] (47 + 2 * k) = false ∧ hasN [0, 46, 47 + 2 * k1, 48 + 2 * k1] (48 + 2 * k) = false := by decide +kernel
theorem fc_X8_shift_s_k1 : ∀ k1, k1 < 6 → hasN (([0, 46, 47 + 2 * k1, 48 + 2 * k1] : List Nat).take 2) (47 + 2 * k1) = false ∧ hasN (([0, 46, 47 + 2 * k1, 48 + 2 * k1] : List Nat).take 3) (48 + 2 * k1) = false := by decide +kernel
theorem ok_X8_shift : ∀ k1, k1 < 6 → ∀ k2, k2 < 6 → k1 ≠ k2 → okS [0, 46, 47 + 2 * k1, 48 + 2 * k1, 47 + 2 * k2, 48 + 2 * k2] = true := by decide +kernel
theorem far_X8_shift : ∀ k1, k1 < 6 → ∀ k2, k2 < 6 → k1 ≠ k2 → ∀ j, j < 81 → (hasN [0, 46] j || (Nat.ble 47 j && Nat.ble j 58)) = false → hasN [0, 46, 47 + 2 * k1, 48 + 2 * k1, 47 + 2 * k2, 48 + 2 * k2] j = false := by decide +kernel
theorem fb_X8_shift : ∀ k1, k1 < 6 → ∀ k2, k2 < 6 → k1 ≠ k2 → ∀ k, k < 6 → k ≠ k1 → k ≠ k2 → hasN [0, 46, 47 + 2 * k1, 48 + 2 * k1, 47 + 2 * k2, 48 + 2 * k2] (47 + 2 * k) = false ∧ hasN [0, 46, 47 + 2 * k1, 48 + 2 * k1, 47 + 2 * k2, 48 + 2 * k2] (48 + 2 * k) = false := by
  have h : ∀ k1, k1 < 6 → ∀ k2, k2 < 6 → ∀ k, k < 6 → (k = k1 ∨ k = k2 ∨ (hasN [0, 46, 47 + 2 * k1, 48 + 2 * k1, 47 + 2 * k2, 48 + 2 * k2] (47 + 2 * k) = false ∧ hasN [0, 46, 47 + 2 * k1, 48 + 2 * k1, 47 + 2 * k2, 48 + 2 * k2] (48 + 2 * k) = false)) := by decide +kernel
  exact fun k1 h1 k2 h2 _ k h3 n1 n2 => (h k1 h1 k2 h2 k h3).elim (fun e => absurd e n1) (fun e => e.elim (fun e => absurd e n2) id)
theorem fc_X8_shift_k1 : ∀ k1, k1 < 6 → ∀ k2, k2 < 6 → k1 ≠ k2 → hasN (([0, 46, 47 + 2 * k1, 48 + 2 * k1, 47 + 2 * k2, 48 + 2 * k2] : List Nat).take 2) (47 + 2 * k1) = false ∧ hasN (([0, 46, 47 + 2 * k1, 48 + 2 * k1, 47 + 2 * k2, 48 + 2 * k2] : List Nat).take 3) (48 + 2 * k1) = false := by decide +kernel
theorem fc_X8_shift_k2 : ∀ k1, k1 < 6 → ∀ k2, k2 < 6 → k1 ≠ k2 → hasN (([0, 46, 47 + 2 * k1, 48 + 2 * k1, 47 + 2 * k2, 48 + 2 * k2] : List Nat).take 4) (47 + 2 * k2) = false ∧ hasN (([0, 46, 47 + 2 * k1, 48 + 2 * k1, 47 + 2 * k2, 48 + 2 * k2] : List Nat).take 5) (48 + 2 * k2) = false := by decide +kernel
set_option maxRecDepth 20000 in
set_option maxHeartbeats 4000000 in
theorem lc_shift {p : Program} {l : Launch} {e : Env} {s : State} {m : MethodId} {below : List Frame} {meth : Method} {c : Code} {D : va_G} {C : Nat → ClassId} {b L i : Nat} {xs : Nat → Int32} {ad : Nat → Nat} {tp : Nat → Option Nat} (C0 : lw_At p s m meth c b L xs) (cx : CX p m c s #[Value.ref b] RL cL_law 4 D C (fun q : Nat => s.heap.size ≤ q) room_1 83) (hi : i + 6 ≤ L) (hL : L ≤ 3072) (hTp : LTape ad tp)
    (hk : ∀ (w : va_W) (H : Heap) (locs : List Loc) (ls : Array Slot), LI C ad tp w → HW D (fun q : Nat => s.heap.size ≤ q) s.heap H locs w → lv_has ls 4 [(0, .ref b), (1, .ref (ad 0)), (2, .ref (ad 59)), (3, .int (nI i))] → W p l e room_1 s m #[Value.ref b] below meth c H locs 81 2747 (lw_Z below #[Value.ref b] s) (F0 m 1303 ls []))
    {w : va_W} {H : Heap} {locs : List Loc} {ls : Array Slot} (hI : LI C ad tp w) (hw : HW D (fun q : Nat => s.heap.size ≤ q) s.heap H locs w) (hl : lv_has ls 4 [(0, .ref b), (1, .ref (ad 0)), (2, .ref (ad 59)), (3, .int (nI i))]) : W p l e room_1 s m #[Value.ref b] below meth c H locs 81 2747 (lw_Z below #[Value.ref b] s) (F0 m 1240 ls []) := by
  obtain ⟨vi, va, vl, vj, ti, f, hR, rfl, F⟩ := hI
  have h0 := lf_h0 F
  have h1 := lf_h1 F
  have h2 := lf_h2 F
  have h3 := lf_h3 F
  have h4 := lf_h4 F
  have h5 := lf_h5 F
  have h6 := lf_h6 F
  have h7 := lf_h7 F
  have h8 := lf_h8 F
  have h9 := lf_h9 F
  have h10 := lf_h10 F
  have h11 := lf_h11 F
  have h12 := lf_h12 F
  have h13 := lf_h13 F
  have h14 := lf_h14 F
  have h15 := lf_h15 F
  have h16 := lf_h16 F
  have h17 := lf_h17 F
  have h18 := lf_h18 F
  have h19 := lf_h19 F
  have h20 := lf_h20 F
  have h21 := lf_h21 F
  have h22 := lf_h22 F
  have h23 := lf_h23 F
  have h24 := lf_h24 F
  have h25 := lf_h25 F
  have h26 := lf_h26 F
  have h27 := lf_h27 F
  have h28 := lf_h28 F
  have h29 := lf_h29 F
  have h30 := lf_h30 F
  have h31 := lf_h31 F
  have h32 := lf_h32 F
  have h33 := lf_h33 F
  have h34 := lf_h34 F
  have h35 := lf_h35 F
  have h36 := lf_h36 F
  have h37 := lf_h37 F
  have h38 := lf_h38 F
  have h39 := lf_h39 F
  have h40 := lf_h40 F
  have h41 := lf_h41 F
  have h42 := lf_h42 F
  have h43 := lf_h43 F
  have h44 := lf_h44 F
  have h45 := lf_h45 F
  have h46 := lf_h46 F
  have hT := lf_hT F
  have h59 := lf_h59 F
  have h60 := lf_h60 F
  have h61 := lf_h61 F
  have h62 := lf_h62 F
  have h63 := lf_h63 F
  have h64 := lf_h64 F
  have h65 := lf_h65 F
  have h66 := lf_h66 F
  have h67 := lf_h67 F
  have h68 := lf_h68 F
  have h69 := lf_h69 F
  have h70 := lf_h70 F
  have h71 := lf_h71 F
  have h72 := lf_h72 F
  have h73 := lf_h73 F
  have h74 := lf_h74 F
  have h75 := lf_h75 F
  have h76 := lf_h76 F
  have h77 := lf_h77 F
  have h78 := lf_h78 F
  have h79 := lf_h79 F
  have h80 := lf_h80 F
  have hx := cx.1
  have hb := cx.2.1
  obtain ⟨-, -, -, -, -, -, hX, hbl, -, -⟩ := id C0
  have hbA : ¬ (fun q : Nat => s.heap.size ≤ q) b := Nat.not_le.mpr hbl
  refine lv_aload_n hx hb dL_law_1240 rfl (lv_at hl 1 rfl) ?_
  refine lv_aload_n hx hb dL_law_1241 rfl (lv_at hl 0 rfl) ?_
  refine lv_iload_n hx hb dL_law_1242 rfl (lv_at hl 3 rfl) ?_
  refine lv_iconst (v := 1) hx hb dL_law_1243 (by decide) ?_
  refine lv_iadd hx hb dL_law_1244 ?_
  refine va_sld hx hb hX hbl hbA hw.2.2 (lw_vin 1 1 rfl (by omega) hL) dL_law_1245 ?_
  refine lv_topi (fun a1 ea1 => ?_)
  refine lv_aload_n hx hb dL_law_1246 rfl (lv_at hl 0 rfl) ?_
  refine lv_iload_n hx hb dL_law_1247 rfl (lv_at hl 3 rfl) ?_
  refine lv_iconst (v := 2) hx hb dL_law_1248 (by decide) ?_
  refine lv_iadd hx hb dL_law_1249 ?_
  refine va_sld hx hb hX hbl hbA hw.2.2 (lw_vin 2 2 rfl (by omega) hL) dL_law_1250 ?_
  refine lv_topi (fun a2 ea2 => ?_)
  refine lv_aload_n hx hb dL_law_1251 rfl (lv_at hl 0 rfl) ?_
  refine lv_iload_n hx hb dL_law_1252 rfl (lv_at hl 3 rfl) ?_
  refine lv_iconst (v := 3) hx hb dL_law_1253 (by decide) ?_
  refine lv_iadd hx hb dL_law_1254 ?_
  refine va_sld hx hb hX hbl hbA hw.2.2 (lw_vin 3 3 rfl (by omega) hL) dL_law_1255 ?_
  refine lv_topi (fun a3 ea3 => ?_)
  refine lv_aload_n hx hb dL_law_1256 rfl (lv_at hl 0 rfl) ?_
  refine lv_iload_n hx hb dL_law_1257 rfl (lv_at hl 3 rfl) ?_
  refine lv_iconst (v := 4) hx hb dL_law_1258 (by decide) ?_
  refine lv_iadd hx hb dL_law_1259 ?_
  refine va_sld hx hb hX hbl hbA hw.2.2 (lw_vin 4 4 rfl (by omega) hL) dL_law_1260 ?_
  refine lv_topi (fun a4 ea4 => ?_)
  refine lv_aload_n hx hb dL_law_1261 rfl (lv_at hl 0 rfl) ?_
  refine lv_iload_n hx hb dL_law_1262 rfl (lv_at hl 3 rfl) ?_
  refine lv_iconst (v := 5) hx hb dL_law_1263 (by decide) ?_
  refine lv_iadd hx hb dL_law_1264 ?_
  refine va_sld hx hb hX hbl hbA hw.2.2 (lw_vin 5 5 rfl (by omega) hL) dL_law_1265 ?_
  refine lv_topi (fun a5 ea5 => ?_)
  rcases lw_tape2 a1 a3 with ⟨k1, hk1, hx1, hx3⟩ | ⟨k1, k2, hk1, hk2, hne, hx1, hx3⟩
  · obtain ⟨zc, zm, hzc, hzm, he, hR2⟩ := p_shift_s a1 a2 a3 a4 a5 k1 hk1 hx1 hx3 hR
    refine cVL2 [.int zc.1] cx (CX8_shift_s l D C (ad 0) (ad 1) (ad 15) (ad 29) (ad 32) (ad 36) (ad 44) (ad 46) (ad (47 + 2 * k1)) (ad (48 + 2 * k1)) (vi 0) tp ((va 46) k1) ((va 47) k1) (ti k1) a1 a2 a3 a4 a5 zc hzc (fun _ => by rw [hx1]; exact hTp k1 hk1) (fun _ => by rw [hx3]; exact hTp k1 hk1)) lk_L_160 my_X8_shift ml_X8_shift ⟨by decide, by decide⟩ hw [0, 46, 47 + 2 * k1, 48 + 2 * k1] (ce h0 (ce h46 (ce (hT _ hk1).1 (ce (hT _ hk1).2 rfl)))) (ok_X8_shift_s k1 hk1) rfl rfl rfl rfl (Nat.le_of_ble_eq_true rfl) dL_law_1266 rfl (fun H locs hw => ?_) hl.1 ⟨Nat.le_of_ble_eq_true rfl, Nat.le_of_ble_eq_true rfl⟩
    obtain ⟨g, hg, hw⟩ := gen_put hw
    replace h0 : g 0 = ((ad 0), .inr (8, [.ref (ad 1), .ref (ad 15), .int (vi 0), .ref (ad 29), .ref (ad 32), .ref (ad 36), .ref (ad 44), .ref (ad 46)])) := (congrFun hg 0).trans rfl
    replace h1 := (congrFun hg 1).trans ((put_ne _ _ _ _ (far_X8_shift_s k1 hk1 1 (by decide) rfl)).trans h1)
    replace h2 := (congrFun hg 2).trans ((put_ne _ _ _ _ (far_X8_shift_s k1 hk1 2 (by decide) rfl)).trans h2)
    replace h3 := (congrFun hg 3).trans ((put_ne _ _ _ _ (far_X8_shift_s k1 hk1 3 (by decide) rfl)).trans h3)
    replace h4 := (congrFun hg 4).trans ((put_ne _ _ _ _ (far_X8_shift_s k1 hk1 4 (by decide) rfl)).trans h4)
    replace h5 := (congrFun hg 5).trans ((put_ne _ _ _ _ (far_X8_shift_s k1 hk1 5 (by decide) rfl)).trans h5)
    replace h6 := (congrFun hg 6).trans ((put_ne _ _ _ _ (far_X8_shift_s k1 hk1 6 (by decide) rfl)).trans h6)
    replace h7 := (congrFun hg 7).trans ((put_ne _ _ _ _ (far_X8_shift_s k1 hk1 7 (by decide) rfl)).trans h7)
    replace h8 := (congrFun hg 8).trans ((put_ne _ _ _ _ (far_X8_shift_s k1 hk1 8 (by decide) rfl)).trans h8)
    replace h9 := (congrFun hg 9).trans ((put_ne _ _ _ _ (far_X8_shift_s k1 hk1 9 (by decide) rfl)).trans h9)
    replace h10 := (congrFun hg 10).trans ((put_ne _ _ _ _ (far_X8_shift_s k1 hk1 10 (by decide) rfl)).trans h10)
    replace h11 := (congrFun hg 11).trans ((put_ne _ _ _ _ (far_X8_shift_s k1 hk1 11 (by decide) rfl)).trans h11)
    replace h12 := (congrFun hg 12).trans ((put_ne _ _ _ _ (far_X8_shift_s k1 hk1 12 (by decide) rfl)).trans h12)
    replace h13 := (congrFun hg 13).trans ((put_ne _ _ _ _ (far_X8_shift_s k1 hk1 13 (by decide) rfl)).trans h13)
    replace h14 := (congrFun hg 14).trans ((put_ne _ _ _ _ (far_X8_shift_s k1 hk1 14 (by decide) rfl)).trans h14)
    replace h15 := (congrFun hg 15).trans ((put_ne _ _ _ _ (far_X8_shift_s k1 hk1 15 (by decide) rfl)).trans h15)
    replace h16 := (congrFun hg 16).trans ((put_ne _ _ _ _ (far_X8_shift_s k1 hk1 16 (by decide) rfl)).trans h16)
    replace h17 := (congrFun hg 17).trans ((put_ne _ _ _ _ (far_X8_shift_s k1 hk1 17 (by decide) rfl)).trans h17)
    replace h18 := (congrFun hg 18).trans ((put_ne _ _ _ _ (far_X8_shift_s k1 hk1 18 (by decide) rfl)).trans h18)
    replace h19 := (congrFun hg 19).trans ((put_ne _ _ _ _ (far_X8_shift_s k1 hk1 19 (by decide) rfl)).trans h19)
    replace h20 := (congrFun hg 20).trans ((put_ne _ _ _ _ (far_X8_shift_s k1 hk1 20 (by decide) rfl)).trans h20)
    replace h21 := (congrFun hg 21).trans ((put_ne _ _ _ _ (far_X8_shift_s k1 hk1 21 (by decide) rfl)).trans h21)
    replace h22 := (congrFun hg 22).trans ((put_ne _ _ _ _ (far_X8_shift_s k1 hk1 22 (by decide) rfl)).trans h22)
    replace h23 := (congrFun hg 23).trans ((put_ne _ _ _ _ (far_X8_shift_s k1 hk1 23 (by decide) rfl)).trans h23)
    replace h24 := (congrFun hg 24).trans ((put_ne _ _ _ _ (far_X8_shift_s k1 hk1 24 (by decide) rfl)).trans h24)
    replace h25 := (congrFun hg 25).trans ((put_ne _ _ _ _ (far_X8_shift_s k1 hk1 25 (by decide) rfl)).trans h25)
    replace h26 := (congrFun hg 26).trans ((put_ne _ _ _ _ (far_X8_shift_s k1 hk1 26 (by decide) rfl)).trans h26)
    replace h27 := (congrFun hg 27).trans ((put_ne _ _ _ _ (far_X8_shift_s k1 hk1 27 (by decide) rfl)).trans h27)
    replace h28 := (congrFun hg 28).trans ((put_ne _ _ _ _ (far_X8_shift_s k1 hk1 28 (by decide) rfl)).trans h28)
    replace h29 := (congrFun hg 29).trans ((put_ne _ _ _ _ (far_X8_shift_s k1 hk1 29 (by decide) rfl)).trans h29)
    replace h30 := (congrFun hg 30).trans ((put_ne _ _ _ _ (far_X8_shift_s k1 hk1 30 (by decide) rfl)).trans h30)
    replace h31 := (congrFun hg 31).trans ((put_ne _ _ _ _ (far_X8_shift_s k1 hk1 31 (by decide) rfl)).trans h31)
    replace h32 := (congrFun hg 32).trans ((put_ne _ _ _ _ (far_X8_shift_s k1 hk1 32 (by decide) rfl)).trans h32)
    replace h33 := (congrFun hg 33).trans ((put_ne _ _ _ _ (far_X8_shift_s k1 hk1 33 (by decide) rfl)).trans h33)
    replace h34 := (congrFun hg 34).trans ((put_ne _ _ _ _ (far_X8_shift_s k1 hk1 34 (by decide) rfl)).trans h34)
    replace h35 := (congrFun hg 35).trans ((put_ne _ _ _ _ (far_X8_shift_s k1 hk1 35 (by decide) rfl)).trans h35)
    replace h36 := (congrFun hg 36).trans ((put_ne _ _ _ _ (far_X8_shift_s k1 hk1 36 (by decide) rfl)).trans h36)
    replace h37 := (congrFun hg 37).trans ((put_ne _ _ _ _ (far_X8_shift_s k1 hk1 37 (by decide) rfl)).trans h37)
    replace h38 := (congrFun hg 38).trans ((put_ne _ _ _ _ (far_X8_shift_s k1 hk1 38 (by decide) rfl)).trans h38)
    replace h39 := (congrFun hg 39).trans ((put_ne _ _ _ _ (far_X8_shift_s k1 hk1 39 (by decide) rfl)).trans h39)
    replace h40 := (congrFun hg 40).trans ((put_ne _ _ _ _ (far_X8_shift_s k1 hk1 40 (by decide) rfl)).trans h40)
    replace h41 := (congrFun hg 41).trans ((put_ne _ _ _ _ (far_X8_shift_s k1 hk1 41 (by decide) rfl)).trans h41)
    replace h42 := (congrFun hg 42).trans ((put_ne _ _ _ _ (far_X8_shift_s k1 hk1 42 (by decide) rfl)).trans h42)
    replace h43 := (congrFun hg 43).trans ((put_ne _ _ _ _ (far_X8_shift_s k1 hk1 43 (by decide) rfl)).trans h43)
    replace h44 := (congrFun hg 44).trans ((put_ne _ _ _ _ (far_X8_shift_s k1 hk1 44 (by decide) rfl)).trans h44)
    replace h45 := (congrFun hg 45).trans ((put_ne _ _ _ _ (far_X8_shift_s k1 hk1 45 (by decide) rfl)).trans h45)
    replace h46 : g 46 = ((ad 46), .inl (C 4, 6, .inr (.inr (.inr (.inr tp))))) := (congrFun hg 46).trans rfl
    replace h59 := (congrFun hg 59).trans ((put_ne _ _ _ _ (far_X8_shift_s k1 hk1 59 (by decide) rfl)).trans h59)
    replace h60 := (congrFun hg 60).trans ((put_ne _ _ _ _ (far_X8_shift_s k1 hk1 60 (by decide) rfl)).trans h60)
    replace h61 := (congrFun hg 61).trans ((put_ne _ _ _ _ (far_X8_shift_s k1 hk1 61 (by decide) rfl)).trans h61)
    replace h62 := (congrFun hg 62).trans ((put_ne _ _ _ _ (far_X8_shift_s k1 hk1 62 (by decide) rfl)).trans h62)
    replace h63 := (congrFun hg 63).trans ((put_ne _ _ _ _ (far_X8_shift_s k1 hk1 63 (by decide) rfl)).trans h63)
    replace h64 := (congrFun hg 64).trans ((put_ne _ _ _ _ (far_X8_shift_s k1 hk1 64 (by decide) rfl)).trans h64)
    replace h65 := (congrFun hg 65).trans ((put_ne _ _ _ _ (far_X8_shift_s k1 hk1 65 (by decide) rfl)).trans h65)
    replace h66 := (congrFun hg 66).trans ((put_ne _ _ _ _ (far_X8_shift_s k1 hk1 66 (by decide) rfl)).trans h66)
    replace h67 := (congrFun hg 67).trans ((put_ne _ _ _ _ (far_X8_shift_s k1 hk1 67 (by decide) rfl)).trans h67)
    replace h68 := (congrFun hg 68).trans ((put_ne _ _ _ _ (far_X8_shift_s k1 hk1 68 (by decide) rfl)).trans h68)
    replace h69 := (congrFun hg 69).trans ((put_ne _ _ _ _ (far_X8_shift_s k1 hk1 69 (by decide) rfl)).trans h69)
    replace h70 := (congrFun hg 70).trans ((put_ne _ _ _ _ (far_X8_shift_s k1 hk1 70 (by decide) rfl)).trans h70)
    replace h71 := (congrFun hg 71).trans ((put_ne _ _ _ _ (far_X8_shift_s k1 hk1 71 (by decide) rfl)).trans h71)
    replace h72 := (congrFun hg 72).trans ((put_ne _ _ _ _ (far_X8_shift_s k1 hk1 72 (by decide) rfl)).trans h72)
    replace h73 := (congrFun hg 73).trans ((put_ne _ _ _ _ (far_X8_shift_s k1 hk1 73 (by decide) rfl)).trans h73)
    replace h74 := (congrFun hg 74).trans ((put_ne _ _ _ _ (far_X8_shift_s k1 hk1 74 (by decide) rfl)).trans h74)
    replace h75 := (congrFun hg 75).trans ((put_ne _ _ _ _ (far_X8_shift_s k1 hk1 75 (by decide) rfl)).trans h75)
    replace h76 := (congrFun hg 76).trans ((put_ne _ _ _ _ (far_X8_shift_s k1 hk1 76 (by decide) rfl)).trans h76)
    replace h77 := (congrFun hg 77).trans ((put_ne _ _ _ _ (far_X8_shift_s k1 hk1 77 (by decide) rfl)).trans h77)
    replace h78 := (congrFun hg 78).trans ((put_ne _ _ _ _ (far_X8_shift_s k1 hk1 78 (by decide) rfl)).trans h78)
    replace h79 := (congrFun hg 79).trans ((put_ne _ _ _ _ (far_X8_shift_s k1 hk1 79 (by decide) rfl)).trans h79)
    replace h80 := (congrFun hg 80).trans ((put_ne _ _ _ _ (far_X8_shift_s k1 hk1 80 (by decide) rfl)).trans h80)
    replace hT : (∀ k, k < 6 → g (47 + 2 * k) = (ad (47 + 2 * k), .inr (6, [.int ((va 46) k), .int ((va 47) k), .ref (ad (48 + 2 * k))])) ∧ g (48 + 2 * k) = (ad (48 + 2 * k), .inl (C 1, 60, .inr (.inl ((va_up ti k1 zc.2) k))))) := by
      intro k hk
      rw [hg]
      by_cases ek1 : k = k1
      · rw [ek1]
        refine ⟨Eq.trans (put_pos 2 _ _ _ _ _ rfl rfl (fc_X8_shift_s_k1 k1 hk1).1) ?_, Eq.trans (put_pos 3 _ _ _ _ _ rfl rfl (fc_X8_shift_s_k1 k1 hk1).2) ?_⟩
        · rfl
        · simp only [va_up_self]
      · skip
        obtain ⟨f1, f2⟩ := fb_X8_shift_s k1 hk1 k hk ek1
        refine ⟨(put_ne _ _ _ _ f1).trans ?_, (put_ne _ _ _ _ f2).trans ?_⟩
        · rw [(hT k hk).1]
        · rw [(hT k hk).2, va_up_ne _ _ ek1]
    refine lv_aload_n hx hb dL_law_1269 rfl (lv_at hl 2 rfl) ?_
    refine lv_aload_n hx hb dL_law_1270 rfl (lv_at hl 0 rfl) ?_
    refine lv_iload_n hx hb dL_law_1271 rfl (lv_at hl 3 rfl) ?_
    refine lv_iconst (v := 1) hx hb dL_law_1272 (by decide) ?_
    refine lv_iadd hx hb dL_law_1273 ?_
    refine va_sld hx hb hX hbl hbA hw.2.2 (lw_vin 1 1 rfl (by omega) hL) dL_law_1274 ?_
    refine lv_topi (fun y ey => ?_)
    obtain rfl : a1 = y := ea1.trans ey.symm
    refine lv_aload_n hx hb dL_law_1275 rfl (lv_at hl 0 rfl) ?_
    refine lv_iload_n hx hb dL_law_1276 rfl (lv_at hl 3 rfl) ?_
    refine lv_iconst (v := 2) hx hb dL_law_1277 (by decide) ?_
    refine lv_iadd hx hb dL_law_1278 ?_
    refine va_sld hx hb hX hbl hbA hw.2.2 (lw_vin 2 2 rfl (by omega) hL) dL_law_1279 ?_
    refine lv_topi (fun y ey => ?_)
    obtain rfl : a2 = y := ea2.trans ey.symm
    refine lv_aload_n hx hb dL_law_1280 rfl (lv_at hl 0 rfl) ?_
    refine lv_iload_n hx hb dL_law_1281 rfl (lv_at hl 3 rfl) ?_
    refine lv_iconst (v := 3) hx hb dL_law_1282 (by decide) ?_
    refine lv_iadd hx hb dL_law_1283 ?_
    refine va_sld hx hb hX hbl hbA hw.2.2 (lw_vin 3 3 rfl (by omega) hL) dL_law_1284 ?_
    refine lv_topi (fun y ey => ?_)
    obtain rfl : a3 = y := ea3.trans ey.symm
    refine lv_aload_n hx hb dL_law_1285 rfl (lv_at hl 0 rfl) ?_
    refine lv_iload_n hx hb dL_law_1286 rfl (lv_at hl 3 rfl) ?_
    refine lv_iconst (v := 4) hx hb dL_law_1287 (by decide) ?_
    refine lv_iadd hx hb dL_law_1288 ?_
    refine va_sld hx hb hX hbl hbA hw.2.2 (lw_vin 4 4 rfl (by omega) hL) dL_law_1289 ?_
    refine lv_topi (fun y ey => ?_)
    obtain rfl : a4 = y := ea4.trans ey.symm
    refine lv_aload_n hx hb dL_law_1290 rfl (lv_at hl 0 rfl) ?_
    refine lv_iload_n hx hb dL_law_1291 rfl (lv_at hl 3 rfl) ?_
    refine lv_iconst (v := 5) hx hb dL_law_1292 (by decide) ?_
    refine lv_iadd hx hb dL_law_1293 ?_
    refine va_sld hx hb hX hbl hbA hw.2.2 (lw_vin 5 5 rfl (by omega) hL) dL_law_1294 ?_
    refine lv_topi (fun y ey => ?_)
    obtain rfl : a5 = y := ea5.trans ey.symm
    refine cVL2 [.int zm.1, .int zc.1] cx (CX9_shift l D C (ad 59) (ad 60) (ad 61) (ad 62) (ad 63) (ad 64) (ad 65) (ad 66) (ad 67) (ad 68) (ad 69) (ad 70) (ad 71) (ad 72) (ad 73) (ad 74) (ad 75) (ad 76) (ad 77) (ad 78) (ad 79) (ad 80) (vi 21) (vi 22) (vi 23) (vi 24) (vi 25) (vi 26) (vi 27) (vi 28) (vi 29) (vi 30) (vi 31) vl (vi 32) (vi 33) (vi 34) (va 44) (va 45) vj a1 a2 a3 a4 a5 zm hzm) lk_L_164 my_X9_shift ml_X9_shift ⟨by decide, by decide⟩ hw [59, 78, 79, 80] (ce h59 (ce h78 (ce h79 (ce h80 rfl)))) (by decide +kernel) rfl rfl rfl rfl (Nat.le_of_ble_eq_true rfl) dL_law_1295 rfl (fun H locs hw => ?_) hl.1 ⟨Nat.le_of_ble_eq_true rfl, Nat.le_of_ble_eq_true rfl⟩
    refine lv_icmp_eq (tgt := 1303) hx hb dL_law_1298 (by decide) (fun _ => ?_) (fun c9 => absurd he c9)
    refine (fun q9 => hk _ H locs ls q9 hw hl) ?_
    exact ⟨vi, va, vl, zm.2, (va_up ti k1 zc.2), _, hR2, rfl, h0, h1, h2, h3, h4, h5, h6, h7, h8, h9, h10, h11, h12, h13, h14, h15, h16, h17, h18, h19, h20, h21, h22, h23, h24, h25, h26, h27, h28, h29, h30, h31, h32, h33, h34, h35, h36, h37, h38, h39, h40, h41, h42, h43, h44, h45, h46, fun k hk => ⟨(tput1 rfl (by omega)).trans (hT k hk).1, (tput1 rfl (by omega)).trans (hT k hk).2⟩, rfl, h60, h61, h62, h63, h64, h65, h66, h67, h68, h69, h70, h71, h72, h73, h74, h75, h76, h77, rfl, rfl, rfl⟩
  · obtain ⟨zc, zm, hzc, hzm, he, hR2⟩ := p_shift a1 a2 a3 a4 a5 k1 hk1 k2 hk2 hx1 hx3 hne hR
    refine cVL2 [.int zc.1] cx (CX8_shift l D C (ad 0) (ad 1) (ad 15) (ad 29) (ad 32) (ad 36) (ad 44) (ad 46) (ad (47 + 2 * k1)) (ad (48 + 2 * k1)) (ad (47 + 2 * k2)) (ad (48 + 2 * k2)) (vi 0) tp ((va 46) k1) ((va 47) k1) (ti k1) ((va 46) k2) ((va 47) k2) (ti k2) a1 a2 a3 a4 a5 zc hzc (fun h => by rw [hx1 h]; exact hTp k1 hk1) (fun h => by rw [hx3 h]; exact hTp k2 hk2)) lk_L_160 my_X8_shift ml_X8_shift ⟨by decide, by decide⟩ hw [0, 46, 47 + 2 * k1, 48 + 2 * k1, 47 + 2 * k2, 48 + 2 * k2] (ce h0 (ce h46 (ce (hT _ hk1).1 (ce (hT _ hk1).2 (ce (hT _ hk2).1 (ce (hT _ hk2).2 rfl)))))) (ok_X8_shift k1 hk1 k2 hk2 hne) rfl rfl rfl rfl (Nat.le_of_ble_eq_true rfl) dL_law_1266 rfl (fun H locs hw => ?_) hl.1 ⟨Nat.le_of_ble_eq_true rfl, Nat.le_of_ble_eq_true rfl⟩
    obtain ⟨g, hg, hw⟩ := gen_put hw
    replace h0 : g 0 = ((ad 0), .inr (8, [.ref (ad 1), .ref (ad 15), .int (vi 0), .ref (ad 29), .ref (ad 32), .ref (ad 36), .ref (ad 44), .ref (ad 46)])) := (congrFun hg 0).trans rfl
    replace h1 := (congrFun hg 1).trans ((put_ne _ _ _ _ (far_X8_shift k1 hk1 k2 hk2 hne 1 (by decide) rfl)).trans h1)
    replace h2 := (congrFun hg 2).trans ((put_ne _ _ _ _ (far_X8_shift k1 hk1 k2 hk2 hne 2 (by decide) rfl)).trans h2)
    replace h3 := (congrFun hg 3).trans ((put_ne _ _ _ _ (far_X8_shift k1 hk1 k2 hk2 hne 3 (by decide) rfl)).trans h3)
    replace h4 := (congrFun hg 4).trans ((put_ne _ _ _ _ (far_X8_shift k1 hk1 k2 hk2 hne 4 (by decide) rfl)).trans h4)
    replace h5 := (congrFun hg 5).trans ((put_ne _ _ _ _ (far_X8_shift k1 hk1 k2 hk2 hne 5 (by decide) rfl)).trans h5)
    replace h6 := (congrFun hg 6).trans ((put_ne _ _ _ _ (far_X8_shift k1 hk1 k2 hk2 hne 6 (by decide) rfl)).trans h6)
    replace h7 := (congrFun hg 7).trans ((put_ne _ _ _ _ (far_X8_shift k1 hk1 k2 hk2 hne 7 (by decide) rfl)).trans h7)
    replace h8 := (congrFun hg 8).trans ((put_ne _ _ _ _ (far_X8_shift k1 hk1 k2 hk2 hne 8 (by decide) rfl)).trans h8)
    replace h9 := (congrFun hg 9).trans ((put_ne _ _ _ _ (far_X8_shift k1 hk1 k2 hk2 hne 9 (by decide) rfl)).trans h9)
    replace h10 := (congrFun hg 10).trans ((put_ne _ _ _ _ (far_X8_shift k1 hk1 k2 hk2 hne 10 (by decide) rfl)).trans h10)
    replace h11 := (congrFun hg 11).trans ((put_ne _ _ _ _ (far_X8_shift k1 hk1 k2 hk2 hne 11 (by decide) rfl)).trans h11)
    replace h12 := (congrFun hg 12).trans ((put_ne _ _ _ _ (far_X8_shift k1 hk1 k2 hk2 hne 12 (by decide) rfl)).trans h12)
    replace h13 := (congrFun hg 13).trans ((put_ne _ _ _ _ (far_X8_shift k1 hk1 k2 hk2 hne 13 (by decide) rfl)).trans h13)
    replace h14 := (congrFun hg 14).trans ((put_ne _ _ _ _ (far_X8_shift k1 hk1 k2 hk2 hne 14 (by decide) rfl)).trans h14)
    replace h15 := (congrFun hg 15).trans ((put_ne _ _ _ _ (far_X8_shift k1 hk1 k2 hk2 hne 15 (by decide) rfl)).trans h15)
    replace h16 := (congrFun hg 16).trans ((put_ne _ _ _ _ (far_X8_shift k1 hk1 k2 hk2 hne 16 (by decide) rfl)).trans h16)
    replace h17 := (congrFun hg 17).trans ((put_ne _ _ _ _ (far_X8_shift k1 hk1 k2 hk2 hne 17 (by decide) rfl)).trans h17)
    replace h18 := (congrFun hg 18).trans ((put_ne _ _ _ _ (far_X8_shift k1 hk1 k2 hk2 hne 18 (by decide) rfl)).trans h18)
    replace h19 := (congrFun hg 19).trans ((put_ne _ _ _ _ (far_X8_shift k1 hk1 k2 hk2 hne 19 (by decide) rfl)).trans h19)
    replace h20 := (congrFun hg 20).trans ((put_ne _ _ _ _ (far_X8_shift k1 hk1 k2 hk2 hne 20 (by decide) rfl)).trans h20)
    replace h21 := (congrFun hg 21).trans ((put_ne _ _ _ _ (far_X8_shift k1 hk1 k2 hk2 hne 21 (by decide) rfl)).trans h21)
    replace h22 := (congrFun hg 22).trans ((put_ne _ _ _ _ (far_X8_shift k1 hk1 k2 hk2 hne 22 (by decide) rfl)).trans h22)
    replace h23 := (congrFun hg 23).trans ((put_ne _ _ _ _ (far_X8_shift k1 hk1 k2 hk2 hne 23 (by decide) rfl)).trans h23)
    replace h24 := (congrFun hg 24).trans ((put_ne _ _ _ _ (far_X8_shift k1 hk1 k2 hk2 hne 24 (by decide) rfl)).trans h24)
    replace h25 := (congrFun hg 25).trans ((put_ne _ _ _ _ (far_X8_shift k1 hk1 k2 hk2 hne 25 (by decide) rfl)).trans h25)
    replace h26 := (congrFun hg 26).trans ((put_ne _ _ _ _ (far_X8_shift k1 hk1 k2 hk2 hne 26 (by decide) rfl)).trans h26)
    replace h27 := (congrFun hg 27).trans ((put_ne _ _ _ _ (far_X8_shift k1 hk1 k2 hk2 hne 27 (by decide) rfl)).trans h27)
    replace h28 := (congrFun hg 28).trans ((put_ne _ _ _ _ (far_X8_shift k1 hk1 k2 hk2 hne 28 (by decide) rfl)).trans h28)
    replace h29 := (congrFun hg 29).trans ((put_ne _ _ _ _ (far_X8_shift k1 hk1 k2 hk2 hne 29 (by decide) rfl)).trans h29)
    replace h30 := (congrFun hg 30).trans ((put_ne _ _ _ _ (far_X8_shift k1 hk1 k2 hk2 hne 30 (by decide) rfl)).trans h30)
    replace h31 := (congrFun hg 31).trans ((put_ne _ _ _ _ (far_X8_shift k1 hk1 k2 hk2 hne 31 (by decide) rfl)).trans h31)
    replace h32 := (congrFun hg 32).trans ((put_ne _ _ _ _ (far_X8_shift k1 hk1 k2 hk2 hne 32 (by decide) rfl)).trans h32)
    replace h33 := (congrFun hg 33).trans ((put_ne _ _ _ _ (far_X8_shift k1 hk1 k2 hk2 hne 33 (by decide) rfl)).trans h33)
    replace h34 := (congrFun hg 34).trans ((put_ne _ _ _ _ (far_X8_shift k1 hk1 k2 hk2 hne 34 (by decide) rfl)).trans h34)
    replace h35 := (congrFun hg 35).trans ((put_ne _ _ _ _ (far_X8_shift k1 hk1 k2 hk2 hne 35 (by decide) rfl)).trans h35)
    replace h36 := (congrFun hg 36).trans ((put_ne _ _ _ _ (far_X8_shift k1 hk1 k2 hk2 hne 36 (by decide) rfl)).trans h36)
    replace h37 := (congrFun hg 37).trans ((put_ne _ _ _ _ (far_X8_shift k1 hk1 k2 hk2 hne 37 (by decide) rfl)).trans h37)
    replace h38 := (congrFun hg 38).trans ((put_ne _ _ _ _ (far_X8_shift k1 hk1 k2 hk2 hne 38 (by decide) rfl)).trans h38)
    replace h39 := (congrFun hg 39).trans ((put_ne _ _ _ _ (far_X8_shift k1 hk1 k2 hk2 hne 39 (by decide) rfl)).trans h39)
    replace h40 := (congrFun hg 40).trans ((put_ne _ _ _ _ (far_X8_shift k1 hk1 k2 hk2 hne 40 (by decide) rfl)).trans h40)
    replace h41 := (congrFun hg 41).trans ((put_ne _ _ _ _ (far_X8_shift k1 hk1 k2 hk2 hne 41 (by decide) rfl)).trans h41)
    replace h42 := (congrFun hg 42).trans ((put_ne _ _ _ _ (far_X8_shift k1 hk1 k2 hk2 hne 42 (by decide) rfl)).trans h42)
    replace h43 := (congrFun hg 43).trans ((put_ne _ _ _ _ (far_X8_shift k1 hk1 k2 hk2 hne 43 (by decide) rfl)).trans h43)
    replace h44 := (congrFun hg 44).trans ((put_ne _ _ _ _ (far_X8_shift k1 hk1 k2 hk2 hne 44 (by decide) rfl)).trans h44)
    replace h45 := (congrFun hg 45).trans ((put_ne _ _ _ _ (far_X8_shift k1 hk1 k2 hk2 hne 45 (by decide) rfl)).trans h45)
    replace h46 : g 46 = ((ad 46), .inl (C 4, 6, .inr (.inr (.inr (.inr tp))))) := (congrFun hg 46).trans rfl
    replace h59 := (congrFun hg 59).trans ((put_ne _ _ _ _ (far_X8_shift k1 hk1 k2 hk2 hne 59 (by decide) rfl)).trans h59)
    replace h60 := (congrFun hg 60).trans ((put_ne _ _ _ _ (far_X8_shift k1 hk1 k2 hk2 hne 60 (by decide) rfl)).trans h60)
    replace h61 := (congrFun hg 61).trans ((put_ne _ _ _ _ (far_X8_shift k1 hk1 k2 hk2 hne 61 (by decide) rfl)).trans h61)
    replace h62 := (congrFun hg 62).trans ((put_ne _ _ _ _ (far_X8_shift k1 hk1 k2 hk2 hne 62 (by decide) rfl)).trans h62)
    replace h63 := (congrFun hg 63).trans ((put_ne _ _ _ _ (far_X8_shift k1 hk1 k2 hk2 hne 63 (by decide) rfl)).trans h63)
    replace h64 := (congrFun hg 64).trans ((put_ne _ _ _ _ (far_X8_shift k1 hk1 k2 hk2 hne 64 (by decide) rfl)).trans h64)
    replace h65 := (congrFun hg 65).trans ((put_ne _ _ _ _ (far_X8_shift k1 hk1 k2 hk2 hne 65 (by decide) rfl)).trans h65)
    replace h66 := (congrFun hg 66).trans ((put_ne _ _ _ _ (far_X8_shift k1 hk1 k2 hk2 hne 66 (by decide) rfl)).trans h66)
    replace h67 := (congrFun hg 67).trans ((put_ne _ _ _ _ (far_X8_shift k1 hk1 k2 hk2 hne 67 (by decide) rfl)).trans h67)
    replace h68 := (congrFun hg 68).trans ((put_ne _ _ _ _ (far_X8_shift k1 hk1 k2 hk2 hne 68 (by decide) rfl)).trans h68)
    replace h69 := (congrFun hg 69).trans ((put_ne _ _ _ _ (far_X8_shift k1 hk1 k2 hk2 hne 69 (by decide) rfl)).trans h69)
    replace h70 := (congrFun hg 70).trans ((put_ne _ _ _ _ (far_X8_shift k1 hk1 k2 hk2 hne 70 (by decide) rfl)).trans h70)
    replace h71 := (congrFun hg 71).trans ((put_ne _ _ _ _ (far_X8_shift k1 hk1 k2 hk2 hne 71 (by decide) rfl)).trans h71)
    replace h72 := (congrFun hg 72).trans ((put_ne _ _ _ _ (far_X8_shift k1 hk1 k2 hk2 hne 72 (by decide) rfl)).trans h72)
    replace h73 := (congrFun hg 73).trans ((put_ne _ _ _ _ (far_X8_shift k1 hk1 k2 hk2 hne 73 (by decide) rfl)).trans h73)
    replace h74 := (congrFun hg 74).trans ((put_ne _ _ _ _ (far_X8_shift k1 hk1 k2 hk2 hne 74 (by decide) rfl)).trans h74)
    replace h75 := (congrFun hg 75).trans ((put_ne _ _ _ _ (far_X8_shift k1 hk1 k2 hk2 hne 75 (by decide) rfl)).trans h75)
    replace h76 := (congrFun hg 76).trans ((put_ne _ _ _ _ (far_X8_shift k1 hk1 k2 hk2 hne 76 (by decide) rfl)).trans h76)
    replace h77 := (congrFun hg 77).trans ((put_ne _ _ _ _ (far_X8_shift k1 hk1 k2 hk2 hne 77 (by decide) rfl)).trans h77)
    replace h78 := (congrFun hg 78).trans ((put_ne _ _ _ _ (far_X8_shift k1 hk1 k2 hk2 hne 78 (by decide) rfl)).trans h78)
    replace h79 := (congrFun hg 79).trans ((put_ne _ _ _ _ (far_X8_shift k1 hk1 k2 hk2 hne 79 (by decide) rfl)).trans h79)
    replace h80 := (congrFun hg 80).trans ((put_ne _ _ _ _ (far_X8_shift k1 hk1 k2 hk2 hne 80 (by decide) rfl)).trans h80)
    replace hT : (∀ k, k < 6 → g (47 + 2 * k) = (ad (47 + 2 * k), .inr (6, [.int ((va 46) k), .int ((va 47) k), .ref (ad (48 + 2 * k))])) ∧ g (48 + 2 * k) = (ad (48 + 2 * k), .inl (C 1, 60, .inr (.inl ((va_up ti k2 zc.2) k))))) := by
      intro k hk
      rw [hg]
      by_cases ek1 : k = k1
      · rw [ek1]
        refine ⟨Eq.trans (put_pos 2 _ _ _ _ _ rfl rfl (fc_X8_shift_k1 k1 hk1 k2 hk2 hne).1) ?_, Eq.trans (put_pos 3 _ _ _ _ _ rfl rfl (fc_X8_shift_k1 k1 hk1 k2 hk2 hne).2) ?_⟩
        · rfl
        · rw [va_up_ne _ _ hne]
      · skip
        by_cases ek2 : k = k2
        · rw [ek2]
          refine ⟨Eq.trans (put_pos 4 _ _ _ _ _ rfl rfl (fc_X8_shift_k2 k1 hk1 k2 hk2 hne).1) ?_, Eq.trans (put_pos 5 _ _ _ _ _ rfl rfl (fc_X8_shift_k2 k1 hk1 k2 hk2 hne).2) ?_⟩
          · rfl
          · simp only [va_up_self]
        · skip
          obtain ⟨f1, f2⟩ := fb_X8_shift k1 hk1 k2 hk2 hne k hk ek1 ek2
          refine ⟨(put_ne _ _ _ _ f1).trans ?_, (put_ne _ _ _ _ f2).trans ?_⟩
          · rw [(hT k hk).1]
          · rw [(hT k hk).2, va_up_ne _ _ ek2]
    refine lv_aload_n hx hb dL_law_1269 rfl (lv_at hl 2 rfl) ?_
    refine lv_aload_n hx hb dL_law_1270 rfl (lv_at hl 0 rfl) ?_
    refine lv_iload_n hx hb dL_law_1271 rfl (lv_at hl 3 rfl) ?_
    refine lv_iconst (v := 1) hx hb dL_law_1272 (by decide) ?_
    refine lv_iadd hx hb dL_law_1273 ?_
    refine va_sld hx hb hX hbl hbA hw.2.2 (lw_vin 1 1 rfl (by omega) hL) dL_law_1274 ?_
    refine lv_topi (fun y ey => ?_)
    obtain rfl : a1 = y := ea1.trans ey.symm
    refine lv_aload_n hx hb dL_law_1275 rfl (lv_at hl 0 rfl) ?_
    refine lv_iload_n hx hb dL_law_1276 rfl (lv_at hl 3 rfl) ?_
    refine lv_iconst (v := 2) hx hb dL_law_1277 (by decide) ?_
    refine lv_iadd hx hb dL_law_1278 ?_
    refine va_sld hx hb hX hbl hbA hw.2.2 (lw_vin 2 2 rfl (by omega) hL) dL_law_1279 ?_
    refine lv_topi (fun y ey => ?_)
    obtain rfl : a2 = y := ea2.trans ey.symm
    refine lv_aload_n hx hb dL_law_1280 rfl (lv_at hl 0 rfl) ?_
    refine lv_iload_n hx hb dL_law_1281 rfl (lv_at hl 3 rfl) ?_
    refine lv_iconst (v := 3) hx hb dL_law_1282 (by decide) ?_
    refine lv_iadd hx hb dL_law_1283 ?_
    refine va_sld hx hb hX hbl hbA hw.2.2 (lw_vin 3 3 rfl (by omega) hL) dL_law_1284 ?_
    refine lv_topi (fun y ey => ?_)
    obtain rfl : a3 = y := ea3.trans ey.symm
    refine lv_aload_n hx hb dL_law_1285 rfl (lv_at hl 0 rfl) ?_
    refine lv_iload_n hx hb dL_law_1286 rfl (lv_at hl 3 rfl) ?_
    refine lv_iconst (v := 4) hx hb dL_law_1287 (by decide) ?_
    refine lv_iadd hx hb dL_law_1288 ?_
    refine va_sld hx hb hX hbl hbA hw.2.2 (lw_vin 4 4 rfl (by omega) hL) dL_law_1289 ?_
    refine lv_topi (fun y ey => ?_)
    obtain rfl : a4 = y := ea4.trans ey.symm
    refine lv_aload_n hx hb dL_law_1290 rfl (lv_at hl 0 rfl) ?_
    refine lv_iload_n hx hb dL_law_1291 rfl (lv_at hl 3 rfl) ?_
    refine lv_iconst (v := 5) hx hb dL_law_1292 (by decide) ?_
    refine lv_iadd hx hb dL_law_1293 ?_
    refine va_sld hx hb hX hbl hbA hw.2.2 (lw_vin 5 5 rfl (by omega) hL) dL_law_1294 ?_
    refine lv_topi (fun y ey => ?_)
    obtain rfl : a5 = y := ea5.trans ey.symm
    refine cVL2 [.int zm.1, .int zc.1] cx (CX9_shift l D C (ad 59) (ad 60) (ad 61) (ad 62) (ad 63) (ad 64) (ad 65) (ad 66) (ad 67) (ad 68) (ad 69) (ad 70) (ad 71) (ad 72) (ad 73) (ad 74) (ad 75) (ad 76) (ad 77) (ad 78) (ad 79) (ad 80) (vi 21) (vi 22) (vi 23) (vi 24) (vi 25) (vi 26) (vi 27) (vi 28) (vi 29) (vi 30) (vi 31) vl (vi 32) (vi 33) (vi 34) (va 44) (va 45) vj a1 a2 a3 a4 a5 zm hzm) lk_L_164 my_X9_shift ml_X9_shift ⟨by decide, by decide⟩ hw [59, 78, 79, 80] (ce h59 (ce h78 (ce h79 (ce h80 rfl)))) (by decide +kernel) rfl rfl rfl rfl (Nat.le_of_ble_eq_true rfl) dL_law_1295 rfl (fun H locs hw => ?_) hl.1 ⟨Nat.le_of_ble_eq_true rfl, Nat.le_of_ble_eq_true rfl⟩
    refine lv_icmp_eq (tgt := 1303) hx hb dL_law_1298 (by decide) (fun _ => ?_) (fun c9 => absurd he c9)
    refine (fun q9 => hk _ H locs ls q9 hw hl) ?_
    exact ⟨vi, va, vl, zm.2, (va_up ti k2 zc.2), _, hR2, rfl, h0, h1, h2, h3, h4, h5, h6, h7, h8, h9, h10, h11, h12, h13, h14, h15, h16, h17, h18, h19, h20, h21, h22, h23, h24, h25, h26, h27, h28, h29, h30, h31, h32, h33, h34, h35, h36, h37, h38, h39, h40, h41, h42, h43, h44, h45, h46, fun k hk => ⟨(tput1 rfl (by omega)).trans (hT k hk).1, (tput1 rfl (by omega)).trans (hT k hk).2⟩, rfl, h60, h61, h62, h63, h64, h65, h66, h67, h68, h69, h70, h71, h72, h73, h74, h75, h76, h77, rfl, rfl, rfl⟩
