section
/-! ===== each call: read ===== -/
theorem m_lt {x : Int32} {n : Nat} (hn : n < 2 ^ 31) (h : x = nI n) : ¬ x < 0 := by rw [h]; exact nI_pos hn
/-- one cut: none, or one -/
theorem cut1_v {n : Nat} {v : Nat → Nat} {L : List Nat} {re md : Nat → Int32} (x1 x2 x3 x4 x5 x6 x7 : Int32) (hn : n ≤ 6) (hC : ConR n re md) {sz : Int32} {ow od : Nat → Int32} {tz : Int32} {tn : Nat → Int32} (c1 c2 c3 c4 : Int32) (c5 c6 c7 : Nat → Int32) {ms : Int32} {mo mr : Nat → Int32} {mt : Int32} {mn : Nat → Int32} (d1 d2 d3 d4 : Int32) (d5 : Int64) (d6 d7 : Nat → Int32) (hW : DebW n v L) (hR1 : DebR sz ow od v L) (hR2 : DebR ms mo mr v L) (hT : RowR 40 tz tn mt mn) (x : Int32) {zc : Int32 × Int32 × (Nat → Int32) × (Nat → Int32) × Int32 × (Nat → Int32) × Int32 × Int32 × Int32 × Int32 × (Nat → Int32) × (Nat → Int32) × (Nat → Int32)} (h : fX8_cut 120 sz ow od re 40 tz tn c1 c2 c3 c4 c5 c6 c7 x 1 = some zc) : zc.1 = -2 ∨ zc.1 = 0 ∨ zc.1 = 1 := by
  unfold fX8_cut at h
  rcases rule_n x with ⟨r, hr, rfl, e1, e2⟩ | ⟨e1, e2⟩
  · rw [e1] at h
    simp only [Option.bind_some, on0, if_false] at h
    rw [if_neg (by decide), if_pos (by decide)] at h
    obtain ⟨yc, zm, a1, a2, a3, w, M, b1, b2, b3, b4, q, b5, b6⟩ := cut_l (rule := r) (m := 1) x1 x2 x3 x4 x5 x6 x7 hn hr (by decide) hC 1 400 0 v L sz ow od tz tn c1 c2 c3 c4 c5 c6 c7 ms mo mr mt mn d1 d2 d3 d4 d5 d6 d7 rfl (by decide) hW hR1 hR2 hT
    have hh : some yc = some zc := a1.symm.trans h
    cases hh
    rcases (show q = 0 ∨ q = 1 by omega) with rfl | rfl
    · exact Or.inr (Or.inl b6)
    · exact Or.inr (Or.inr b6)
  · rw [e1] at h
    simp only [Option.bind_some, if_true] at h
    cases h
    exact Or.inl rfl
theorem sg_n {c : Nat} (k : Nat) (hc : c ≤ 127) (hk : k ≤ 127) : nI c = nI k ↔ c = k := nI_eq (by omega) (by omega)
set_option maxHeartbeats 4000000 in
theorem doc_n {ss : Int32} {sn : Nat → Int32} {es : Int32} {en : Nat → Int32} {bs : Int32} {bn : Nat → Int32} {ms : Int32} {msn : Nat → Int32} {me : Int32} {men : Nat → Int32} {mb : Int32} {mbn : Nat → Int32} {ik kpe ksz : Int32} {kow kod kre : Nat → Int32} {kts : Int32} {ktn : Nat → Int32} {kss : Int32} {ksn : Nat → Int32} {kes : Int32} {ken : Nat → Int32} {kbs : Int32} {kbn : Nat → Int32} {im : Int32} {g : Nat → Int32} {qs ql : Nat → Int32} {qi : Nat → Nat → Int64} {mts mtl : Nat → Int32} {mti : Nat → Int64} {t : Nat} {sg mx : Nat → Int32} {T : Nat → Nat} (gr pd : Int32) (hK : KeptR ik kpe ksz kow kod kre kts ktn kss ksn kes ken kbs kbn im g) (hX : TextR (nI t) sg (nI t) mx) (hQ : TapR qs ql qi mts mtl mti) (hT : TX t sg mx T) (pe sz : Int32) (ow od re : Nat → Int32) (tz : Int32) (tn : Nat → Int32) (c1 c2 c3 c4 : Int32) (c5 c6 c7 : Nat → Int32) (mp mz mc d1 d2 d3 d4 : Int32) (d5 : Int64) (mo md mr mcn d6 d7 : Nat → Int32) (hA : AffR pe sz ow od re tz tn ss sn es en bs bn mp mo md mz mr mc mcn ms msn me men mb mbn) {a b : Nat} (hce : ceP t T a = (true, b)) :
    ∃ zc zm, fX8_doClause 120 pe sz ow od re 40 tz tn c1 c2 c3 c4 c5 c6 c7 (nI t) sg (nI a) = some zc ∧ fX9_does mp mz mc ms me mb (nI t) d1 d2 d3 d4 d5 gr pd im mo md mr mcn mx d6 d7 (nI a) (nI b) = some zm ∧ zc.1 = zm.1 ∧ (zc.1 = 0 ∨ zc.1 = 1) ∧ AffR zc.2.1 zc.2.2.1 zc.2.2.2.1 zc.2.2.2.2.1 zc.2.2.2.2.2.1 zc.2.2.2.2.2.2.1 zc.2.2.2.2.2.2.2.1 ss sn es en bs bn zm.2.1 zm.2.2.2.2.2.2.2.2.2.1 zm.2.2.2.2.2.2.2.2.2.2.1 zm.2.2.1 zm.2.2.2.2.2.2.2.2.2.2.2.1 zm.2.2.2.1 zm.2.2.2.2.2.2.2.2.2.2.2.2.1 ms msn me men mb mbn := by
  have h1 := hT.1
  obtain ⟨hat, n, hd, hdig, hb⟩ := ceP_ok hce
  obtain ⟨n3, n111⟩ := dgs_3 hd
  have hbt : b ≤ t := by have := ceP_le (T := T) (t := t) (a := a) (by omega); rw [hce] at this; exact this
  obtain ⟨s1, s2, s3⟩ := hT.2 a hat
  have hR : Rel pe sz ow od re tz tn ss sn es en bs bn ik kpe ksz kow kod kre kts ktn kss ksn kes ken kbs kbn (nI t) sg qs ql qi mp mo md mz mr mc mcn ms msn me men mb mbn (nI t) mx im g mts mtl mti := ⟨hA, hK, hX, hQ⟩
  -- what stands in the text
  have tv : ∀ k, a + 1 ≤ k → k < b → k < t ∧ 48 ≤ T k ∧ T k ≤ 57 ∧ mx k = nI (T k) := fun k k1 k2 => by
    obtain ⟨x1, x2, x3⟩ := dgB_iff.mp (hdig k k1 k2)
    exact ⟨x1, x2, x3, (hT.2 k x1).2.1⟩
  have l55 : ∀ (kx : Int32 → Option (Int32 × Int32 × Int32 × Int32 × Int32 × Int32 × Int32 × Int32 × Int64 × (Nat → Int32) × (Nat → Int32) × (Nat → Int32) × (Nat → Int32) × (Nat → Int32) × (Nat → Int32))) (f : Nat), b ≤ a + 3 → fX9_does_L55 kx mx (nI b) (f + 1) 0 (nI (a + 3)) = kx 0 := by
    intro kx f hh
    rw [fX9_does_L55, if_pos (nI_le hh (by omega))]
  have e1 : nI a + 1 = nI (a + 1) := nI_1 a
  have e2 : nI a + 2 = nI (a + 2) := nI_add a 2
  have e3 : nI a + 3 = nI (a + 3) := nI_add a 3
  have hgA : ∀ {α : Type} (x : Option α), gA (nI a) 100 x = x := fun x => gA_n (by omega) (by decide)
  have hcl : (nI a).toNatClampNeg = a := nI_clamp (by omega)
  unfold fX8_doClause fX9_does
  rw [e1, e2, e3, dat_n hT (by omega), dat_n hT (by omega), sgn_n hT (by omega), if_pos hat]
  simp only [Option.bind_some, jn_eq, hgA, hcl, s2]
  have cg : ∀ k : Nat, k ≤ 127 → (nI (T a) = nI k ↔ T a = k) := fun k hk => sg_n k s3 hk
  have c99 : (nI (T a) = 99) = (T a = 99) := propext (cg 99 (by decide))
  have c110 : (nI (T a) = 110) = (T a = 110) := propext (cg 110 (by decide))
  have c111 : (nI (T a) = 111) = (T a = 111) := propext (cg 111 (by decide))
  have c112 : (nI (T a) = 112) = (T a = 112) := propext (cg 112 (by decide))
  have c121 : (nI (T a) = 121) = (T a = 121) := propext (cg 121 (by decide))
  simp only [c99, c110, c111, c112, c121]
  unfold dgs at hd
  by_cases k99 : T a = 99
  · rw [if_pos k99] at hd
    cases hd
    have hb2 : b = a + 2 := by rcases hb with h | h <;> omega
    obtain ⟨x1, x2, x3, x4⟩ := tv (a + 1) (by omega) (by omega)
    rw [if_neg (show ¬ nI b ≤ nI (a + 1) from nI_ge (by omega) (by omega)), gA_n (show a + 1 < 100 by omega) (by decide), nI_clamp (show a + 1 < 2 ^ 31 by omega), x4]
    rw [if_pos (show nI b ≤ nI (a + 2) from nI_le (by omega) (by omega)), l55 _ 399 (by omega)]
    rw [if_pos (dgB_iff.mpr ⟨x1, x2, x3⟩), show nI (T (a + 1)) - 48 = nI (T (a + 1) - 48) from pk_sub (b := 48) x2]
    simp only [k99, show ((99 : Nat) = 110) = False from by decide, show ((99 : Nat) = 111) = False from by decide, show ((99 : Nat) = 112) = False from by decide, show ((99 : Nat) = 121) = False from by decide, if_false, if_true]
    obtain ⟨zc, zm, p1, p2, p3, p4⟩ := p_cut (u_rings_rule := c1) (u_rings_found := c2) (u_rings_size := c3) (u_rings_least := c4) (u_rings_steps := c5) (u_rings_path := c6) (u_rings_taken := c7) (uM_rule := d1) (uM_rings := d2) (uM_size := d3) (uM_least := d4) (uM_worth := d5) (uM_groups := gr) (uM_paid := pd) (uM_path := d6) (uM_ring := d7) (nI (T (a + 1) - 48)) 1 hR
    obtain ⟨n0, v0, L0, hn, hpe, hmp, hW, hR1, hR2, hC, hT0, _⟩ := id hA
    rw [p1, p2]
    simp only [Option.bind_some]
    rcases cut1_v (n := n0) (v := v0) (L := L0) ms me mb (nI t) gr pd im hn hC c1 c2 c3 c4 c5 c6 c7 d1 d2 d3 d4 d5 d6 d7 hW hR1 hR2 hT0 _ p1 with q | q | q
    · rw [if_neg (show ¬ zc.1 = 1 by rw [q]; decide), if_pos (show zm.1 ≤ 0 by rw [← p3, q]; decide)]
      exact ⟨_, _, rfl, rfl, rfl, Or.inl rfl, p4.1⟩
    · rw [if_neg (show ¬ zc.1 = 1 by rw [q]; decide), if_pos (show zm.1 ≤ 0 by rw [← p3, q]; decide)]
      exact ⟨_, _, rfl, rfl, rfl, Or.inl rfl, p4.1⟩
    · rw [if_pos q, if_neg (show ¬ zm.1 ≤ 0 by rw [← p3, q]; decide)]
      exact ⟨_, _, rfl, rfl, rfl, Or.inr rfl, p4.1⟩
  · by_cases k110 : T a = 110
    · rw [if_neg k99, if_pos k110] at hd
      cases hd
      have hb2 : b = a + 3 := by rcases hb with h | h <;> omega
      obtain ⟨x1, x2, x3, x4⟩ := tv (a + 1) (by omega) (by omega)
      rw [if_neg (show ¬ nI b ≤ nI (a + 1) from nI_ge (by omega) (by omega)), gA_n (show a + 1 < 100 by omega) (by decide), nI_clamp (show a + 1 < 2 ^ 31 by omega), x4]
      obtain ⟨y1, y2, y3, y4⟩ := tv (a + 2) (by omega) (by omega)
      rw [if_neg (show ¬ nI b ≤ nI (a + 2) from nI_ge (by omega) (by omega)), gA_n (show a + 2 < 100 by omega) (by decide), nI_clamp (show a + 2 < 2 ^ 31 by omega), y4]
      rw [l55 _ 399 (by omega)]
      rw [if_pos (dgB_iff.mpr ⟨x1, x2, x3⟩), show nI (T (a + 1)) - 48 = nI (T (a + 1) - 48) from pk_sub (b := 48) x2]
      rw [if_pos (dgB_iff.mpr ⟨y1, y2, y3⟩), show nI (T (a + 2)) - 48 = nI (T (a + 2) - 48) from pk_sub (b := 48) y2]
      simp only [k110, show ((110 : Nat) = 99) = False from by decide, show ((110 : Nat) = 111) = False from by decide, show ((110 : Nat) = 112) = False from by decide, show ((110 : Nat) = 121) = False from by decide, if_false, if_true]
      obtain ⟨zc, zm, p1, p2, p3, p4⟩ := p_consent (nI (T (a + 1) - 48)) (nI (T (a + 2) - 48)) 0 (Or.inl rfl) hR
      rw [p1, p2]
      simp only [Option.bind_some]
      by_cases q : zc.1 < 0
      · rw [if_pos q, if_pos (show zm.1 < 0 by rw [← p3]; exact q)]
        exact ⟨_, _, rfl, rfl, rfl, Or.inl rfl, p4.1⟩
      · rw [if_neg q, if_neg (show ¬ zm.1 < 0 by rw [← p3]; exact q)]
        exact ⟨_, _, rfl, rfl, rfl, Or.inr rfl, p4.1⟩
    · by_cases k111 : T a = 111
      · rw [if_neg k99, if_neg k110, if_pos k111] at hd
        cases hd
        obtain ⟨z1, z2, z3, z4⟩ := tv (a + 3) (by omega) (by omega)
        obtain ⟨x1, x2, x3, x4⟩ := tv (a + 1) (by omega) (by omega)
        rw [if_neg (show ¬ nI b ≤ nI (a + 1) from nI_ge (by omega) (by omega)), gA_n (show a + 1 < 100 by omega) (by decide), nI_clamp (show a + 1 < 2 ^ 31 by omega), x4]
        obtain ⟨y1, y2, y3, y4⟩ := tv (a + 2) (by omega) (by omega)
        rw [if_neg (show ¬ nI b ≤ nI (a + 2) from nI_ge (by omega) (by omega)), gA_n (show a + 2 < 100 by omega) (by decide), nI_clamp (show a + 2 < 2 ^ 31 by omega), y4]
        rw [if_pos (dgB_iff.mpr ⟨x1, x2, x3⟩), show nI (T (a + 1)) - 48 = nI (T (a + 1) - 48) from pk_sub (b := 48) x2]
        rw [if_pos (dgB_iff.mpr ⟨y1, y2, y3⟩), show nI (T (a + 2)) - 48 = nI (T (a + 2) - 48) from pk_sub (b := 48) y2]
        simp only [k111, show ((111 : Nat) = 99) = False from by decide, show ((111 : Nat) = 110) = False from by decide, show ((111 : Nat) = 112) = False from by decide, show ((111 : Nat) = 121) = False from by decide, if_false, if_true]
        have ham : ∃ A : Int32, fX7_amountAt (nI t) sg (nI (a + 3)) = some A ∧ ∀ (kx : Int32 → Option (Int32 × Int32 × Int32 × Int32 × Int32 × Int32 × Int32 × Int32 × Int64 × (Nat → Int32) × (Nat → Int32) × (Nat → Int32) × (Nat → Int32) × (Nat → Int32) × (Nat → Int32))), fX9_does_L55 kx mx (nI b) 400 0 (nI (a + 3)) = kx A := by
          unfold fX7_amountAt
          rw [dat_n hT (by omega), nI_1 (a + 3), isd_n hT (by omega), dat_n hT (by omega), if_pos (dgB_iff.mpr ⟨z1, z2, z3⟩)]
          simp only [Option.bind_some]
          rcases hb with ⟨hb, hb3⟩ | ⟨_, hb⟩
          · have hdd := hb3 rfl
            rw [show a + 1 + 3 = a + 3 + 1 from by omega] at hdd
            rw [hdd]
            refine ⟨_, rfl, fun kx => ?_⟩
            rw [fX9_does_L55, if_neg (show ¬ nI b ≤ nI (a + 3) from nI_ge (by omega) (by omega)), gA_n (show a + 3 < 100 by omega) (by decide), nI_clamp (show a + 3 < 2 ^ 31 by omega), z4, nI_1 (a + 3), fX9_does_L55, if_pos (show nI b ≤ nI (a + 3 + 1) from nI_le (by omega) (by omega)), show (10 : Int32) * 0 + nI (T (a + 3)) - 48 = nI (T (a + 3) - 48) from by rw [show (10 : Int32) * 0 = nI 0 from rfl, nI_add, show nI (0 + T (a + 3)) - 48 = nI (0 + T (a + 3) - 48) from pk_sub (b := 48) (by omega), Nat.zero_add]]
          · obtain ⟨w1, w2, w3, w4⟩ := tv (a + 3 + 1) (by omega) (by omega)
            rw [if_pos (dgB_iff.mpr ⟨w1, w2, w3⟩), if_neg (by decide), if_pos (dgB_iff.mpr ⟨w1, w2, w3⟩)]
            refine ⟨_, rfl, fun kx => ?_⟩
            rw [fX9_does_L55, if_neg (show ¬ nI b ≤ nI (a + 3) from nI_ge (by omega) (by omega)), gA_n (show a + 3 < 100 by omega) (by decide), nI_clamp (show a + 3 < 2 ^ 31 by omega), z4, nI_1 (a + 3), fX9_does_L55, if_neg (show ¬ nI b ≤ nI (a + 3 + 1) from nI_ge (by omega) (by omega)), gA_n (show a + 3 + 1 < 100 by omega) (by decide), nI_clamp (show a + 3 + 1 < 2 ^ 31 by omega), w4, nI_1 (a + 3 + 1), fX9_does_L55, if_pos (show nI b ≤ nI (a + 3 + 1 + 1) from nI_le (by omega) (by omega)), show (10 : Int32) * 0 + nI (T (a + 3)) - 48 = nI (T (a + 3) - 48) from by rw [show (10 : Int32) * 0 = nI 0 from rfl, nI_add, show nI (0 + T (a + 3)) - 48 = nI (0 + T (a + 3) - 48) from pk_sub (b := 48) (by omega), Nat.zero_add]]
            rw [show (10 : Int32) * nI (T (a + 3) - 48) = nI (10 * (T (a + 3) - 48)) from by rw [zI_n, zI_n, show (10 : Int32) = zI 10 from rfl, zI_mul]; rfl, nI_add, nI_add, show nI (10 * (T (a + 3) - 48) + T (a + 3 + 1)) - 48 = nI (10 * (T (a + 3) - 48) + T (a + 3 + 1) - 48) from pk_sub (b := 48) (by omega), show 10 * (T (a + 3) - 48) + T (a + 3 + 1) - 48 = 10 * (T (a + 3) - 48) + (T (a + 3 + 1) - 48) from by omega]
        obtain ⟨A, hA1, hA2⟩ := ham
        rw [hA1, hA2]
        simp only [Option.bind_some]
        obtain ⟨zc, zm, p1, p2, p3, p4⟩ := p_owe (nI (T (a + 1) - 48)) (nI (T (a + 2) - 48)) A hR
        rw [p1, p2]
        simp only [Option.bind_some]
        by_cases q : zc.1 < 0
        · rw [if_pos q, if_pos (show zm.1 < 0 by rw [← p3]; exact q)]
          exact ⟨_, _, rfl, rfl, rfl, Or.inl rfl, p4.1⟩
        · rw [if_neg q, if_neg (show ¬ zm.1 < 0 by rw [← p3]; exact q)]
          exact ⟨_, _, rfl, rfl, rfl, Or.inr rfl, p4.1⟩
      · by_cases k112 : T a = 112
        · rw [if_neg k99, if_neg k110, if_neg k111, if_pos k112] at hd
          cases hd
          have hb2 : b = a + 1 := by rcases hb with h | h <;> omega
          rw [if_pos (show nI b ≤ nI (a + 1) from nI_le (by omega) (by omega)), if_pos (show nI b ≤ nI (a + 2) from nI_le (by omega) (by omega)), l55 _ 399 (by omega)]
          simp only [k112, show ((112 : Nat) = 99) = False from by decide, show ((112 : Nat) = 110) = False from by decide, show ((112 : Nat) = 111) = False from by decide, show ((112 : Nat) = 121) = False from by decide, if_false, if_true]
          obtain ⟨zc, zm, p1, p2, p3, p4⟩ := p_person hR
          rw [p1, p2]
          simp only [Option.bind_some]
          by_cases q : zc.1 < 0
          · rw [if_pos q, if_pos (show zm.1 < 0 by rw [← p3]; exact q)]
            exact ⟨_, _, rfl, rfl, rfl, Or.inl rfl, p4.1⟩
          · rw [if_neg q, if_neg (show ¬ zm.1 < 0 by rw [← p3]; exact q)]
            exact ⟨_, _, rfl, rfl, rfl, Or.inr rfl, p4.1⟩
        · by_cases k121 : T a = 121
          · rw [if_neg k99, if_neg k110, if_neg k111, if_neg k112, if_pos k121] at hd
            cases hd
            have hb2 : b = a + 3 := by rcases hb with h | h <;> omega
            obtain ⟨x1, x2, x3, x4⟩ := tv (a + 1) (by omega) (by omega)
            rw [if_neg (show ¬ nI b ≤ nI (a + 1) from nI_ge (by omega) (by omega)), gA_n (show a + 1 < 100 by omega) (by decide), nI_clamp (show a + 1 < 2 ^ 31 by omega), x4]
            obtain ⟨y1, y2, y3, y4⟩ := tv (a + 2) (by omega) (by omega)
            rw [if_neg (show ¬ nI b ≤ nI (a + 2) from nI_ge (by omega) (by omega)), gA_n (show a + 2 < 100 by omega) (by decide), nI_clamp (show a + 2 < 2 ^ 31 by omega), y4]
            rw [l55 _ 399 (by omega)]
            rw [if_pos (dgB_iff.mpr ⟨x1, x2, x3⟩), show nI (T (a + 1)) - 48 = nI (T (a + 1) - 48) from pk_sub (b := 48) x2]
            rw [if_pos (dgB_iff.mpr ⟨y1, y2, y3⟩), show nI (T (a + 2)) - 48 = nI (T (a + 2) - 48) from pk_sub (b := 48) y2]
            simp only [k121, show ((121 : Nat) = 99) = False from by decide, show ((121 : Nat) = 110) = False from by decide, show ((121 : Nat) = 111) = False from by decide, show ((121 : Nat) = 112) = False from by decide, if_false, if_true]
            obtain ⟨zc, zm, p1, p2, p3, p4⟩ := p_consent (nI (T (a + 1) - 48)) (nI (T (a + 2) - 48)) 1 (Or.inr rfl) hR
            rw [p1, p2]
            simp only [Option.bind_some]
            by_cases q : zc.1 < 0
            · rw [if_pos q, if_pos (show zm.1 < 0 by rw [← p3]; exact q)]
              exact ⟨_, _, rfl, rfl, rfl, Or.inl rfl, p4.1⟩
            · rw [if_neg q, if_neg (show ¬ zm.1 < 0 by rw [← p3]; exact q)]
              exact ⟨_, _, rfl, rfl, rfl, Or.inr rfl, p4.1⟩
          · rw [if_neg k99, if_neg k110, if_neg k111, if_neg k112, if_neg k121] at hd
            cases hd
theorem dgs_59 {c n : Nat} (h : dgs c = some n) : c ≠ 59 := fun e => by rw [e] at h; cases h
theorem asn01 (x : Int32) (h : x = 0 ∨ x = 1) : fX8_asNumber x = some x := by rcases h with h | h <;> rw [h] <;> rfl
set_option maxHeartbeats 4000000 in
theorem read_l {ss : Int32} {sn : Nat → Int32} {es : Int32} {en : Nat → Int32} {bs : Int32} {bn : Nat → Int32} {ms : Int32} {msn : Nat → Int32} {me : Int32} {men : Nat → Int32} {mb : Int32} {mbn : Nat → Int32} {ik kpe ksz : Int32} {kow kod kre : Nat → Int32} {kts : Int32} {ktn : Nat → Int32} {kss : Int32} {ksn : Nat → Int32} {kes : Int32} {ken : Nat → Int32} {kbs : Int32} {kbn : Nat → Int32} {im : Int32} {g : Nat → Int32} {qs ql : Nat → Int32} {qi : Nat → Nat → Int64} {mts mtl : Nat → Int32} {mti : Nat → Int64} {t : Nat} {sg mx : Nat → Int32} {T : Nat → Nat} (gr pd : Int32) (hK : KeptR ik kpe ksz kow kod kre kts ktn kss ksn kes ken kbs kbn im g) (hX : TextR (nI t) sg (nI t) mx) (hQ : TapR qs ql qi mts mtl mti) (hT : TX t sg mx T) (k65 : Int32 → Int32 → Int32 → (Nat → Int32) → (Nat → Int32) → (Nat → Int32) → Int32 → (Nat → Int32) → Int32 → Int32 → Int32 → Int32 → (Nat → Int32) → (Nat → Int32) → (Nat → Int32) → Option (Int32 × Int32 × Int32 × (Nat → Int32) × (Nat → Int32) × (Nat → Int32) × Int32 × (Nat → Int32) × Int32 × Int32 × Int32 × Int32 × (Nat → Int32) × (Nat → Int32) × (Nat → Int32) × Int32)) (k49 : Int32 → Int32 → Int32 → Int32 → Int32 → Int32 → Int32 → Int32 → Int64 → (Nat → Int32) → (Nat → Int32) → (Nat → Int32) → (Nat → Int32) → (Nat → Int32) → (Nat → Int32) → Option (Int32 × Int32 × Int32 × Int32 × Int32 × Int32 × Int32 × Int32 × Int32 × Int64 × (Nat → Int32) × (Nat → Int32) × (Nat → Int32) × (Nat → Int32) × (Nat → Int32) × (Nat → Int32))) : ∀ (r f1 f2 a c : Nat) (x : Int32) (pe : Int32) (sz : Int32) (ow : (Nat → Int32)) (od : (Nat → Int32)) (re : (Nat → Int32)) (tz : Int32) (tn : (Nat → Int32)) (c1 : Int32) (c2 : Int32) (c3 : Int32) (c4 : Int32) (c5 : (Nat → Int32)) (c6 : (Nat → Int32)) (c7 : (Nat → Int32)) (mp : Int32) (mz : Int32) (mc : Int32) (d1 : Int32) (d2 : Int32) (d3 : Int32) (d4 : Int32) (d5 : Int64) (mo : (Nat → Int32)) (md : (Nat → Int32)) (mr : (Nat → Int32)) (mcn : (Nat → Int32)) (d6 : (Nat → Int32)) (d7 : (Nat → Int32)), c + r = 12 → r < f1 → r < f2 → a ≤ t → ft t T r a = none → AffR pe sz ow od re tz tn ss sn es en bs bn mp mo md mz mr mc mcn ms msn me men mb mbn →
    ∃ (x' : Int32) (pe' : Int32) (sz' : Int32) (ow' : (Nat → Int32)) (od' : (Nat → Int32)) (re' : (Nat → Int32)) (tz' : Int32) (tn' : (Nat → Int32)) (c1' : Int32) (c2' : Int32) (c3' : Int32) (c4' : Int32) (c5' : (Nat → Int32)) (c6' : (Nat → Int32)) (c7' : (Nat → Int32)) (mp' : Int32) (mz' : Int32) (mc' : Int32) (d1' : Int32) (d2' : Int32) (d3' : Int32) (d4' : Int32) (d5' : Int64) (mo' : (Nat → Int32)) (md' : (Nat → Int32)) (mr' : (Nat → Int32)) (mcn' : (Nat → Int32)) (d6' : (Nat → Int32)) (d7' : (Nat → Int32)), fX8_read_L15 k65 120 40 (nI t) sg (-5) f1 x (nI a) (nI c) pe sz ow od re tz tn c1 c2 c3 c4 c5 c6 c7 = k65 x' pe' sz' ow' od' re' tz' tn' c1' c2' c3' c4' c5' c6' c7' ∧ fX9_read_L9 k49 ms me mb (nI t) gr pd im mx (-1) f2 x (nI a) mp mz mc d1 d2 d3 d4 d5 mo md mr mcn d6 d7 = k49 x' mp' mz' mc' d1' d2' d3' d4' d5' mo' md' mr' mcn' d6' d7' ∧ AffR pe' sz' ow' od' re' tz' tn' ss sn es en bs bn mp' mo' md' mz' mr' mc' mcn' ms msn me men mb mbn
  | 0, _, _, _, _, _, _, _, _, _, _, _, _, _, _, _, _, _, _, _, _, _, _, _, _, _, _, _, _, _, _, _, _, _, _, _, _, _, hf, _ => by cases hf
  | r + 1, f1, f2, a, c, x, pe, sz, ow, od, re, tz, tn, c1, c2, c3, c4, c5, c6, c7, mp, mz, mc, d1, d2, d3, d4, d5, mo, md, mr, mcn, d6, d7, he, hf1, hf2, ha, hf, hA => by
    have h1 := hT.1
    obtain ⟨g1, rfl⟩ : ∃ f, f1 = f + 1 := ⟨f1 - 1, by omega⟩
    obtain ⟨g2, rfl⟩ : ∃ f, f2 = f + 1 := ⟨f2 - 1, by omega⟩
    obtain ⟨b, hce⟩ : ∃ b, ceP t T a = (true, b) := by
      refine ⟨(ceP t T a).2, ?_⟩
      cases hc : ceP t T a with
      | mk p q =>
        cases p with
        | true => rfl
        | false => simp only [ft, hc, if_true] at hf; cases hf
    have hbt := ceP_le (T := T) ha
    obtain ⟨hat, n, hd, hdig, _⟩ := ceP_ok hce
    simp only [ft, hce, Bool.true_eq_false, if_false] at hf
    rw [hce] at hbt
    simp only at hbt
    obtain ⟨zc, zm, p1, p2, p3, p4, p5⟩ := doc_n gr pd hK hX hQ hT pe sz ow od re tz tn c1 c2 c3 c4 c5 c6 c7 mp mz mc d1 d2 d3 d4 d5 mo md mr mcn d6 d7 hA hce
    have hab : a ≤ b := by rcases (ceP_ok hce).2 with ⟨n, _, _, h | h⟩ <;> omega
    have h59 : ∀ k, a ≤ k → k < b → T k ≠ 59 := fun k k1 k2 => by
      by_cases e : k = a
      · rw [e]; exact dgs_59 hd
      · have := dgB_iff.mp (hdig k (by omega) k2)
        omega
    have hbe : fX9_behind (nI t) mx (nI a) = some (nI b) := by rw [behind_n hT ha, hce]; rfl
    have hnx : (b < t → T b = 59) → fX7_nextClause (nI t) sg (nI a) = (if b = t then some (nI t) else some (nI (b + 1))) := fun h =>
      nx_l hT hbt h (some (nI t)) (b - a) 400 a (by omega) (by omega) h59
    have hx : (if zm.1 = 0 then x else x + 1) = x + zc.1 := by
      rw [← p3]
      rcases p4 with q | q
      · rw [if_pos q, q]; exact (Int32.add_zero x).symm
      · rw [if_neg (by rw [q]; decide), q]
    rw [fX8_read_L15, fX9_read_L9, if_pos rfl, if_neg (show ¬ (12 : Int32) ≤ nI c from nI_ge (b := 12) (by omega) (by decide)), if_neg (show ¬ (0 : Int32) ≤ -1 by decide), if_neg (show ¬ nI t ≤ nI a from nI_ge hat (by omega)), hbe, show fX7_size (nI t) = some (nI t) from rfl]
    simp only [Option.bind_some]
    rw [if_neg (show ¬ nI t ≤ nI a from nI_ge hat (by omega)), p1, p2]
    simp only [Option.bind_some]
    rw [asn01 _ p4]
    simp only [Option.bind_some]
    have hm : ∀ {α : Type} (F : Int32 → α), (if zm.1 = 0 then F x else F (x + 1)) = F (x + zc.1) := fun F => by
      rw [← hx]
      by_cases q : zm.1 = 0
      · rw [if_pos q, if_pos q]
      · rw [if_neg q, if_neg q]
    rw [hm (fun w => fX9_read_L9 k49 ms me mb (nI t) gr pd im mx (-1) g2 w (nI b + 1) zm.2.1 zm.2.2.1 zm.2.2.2.1 zm.2.2.2.2.1 zm.2.2.2.2.2.1 zm.2.2.2.2.2.2.1 zm.2.2.2.2.2.2.2.1 zm.2.2.2.2.2.2.2.2.1 zm.2.2.2.2.2.2.2.2.2.1 zm.2.2.2.2.2.2.2.2.2.2.1 zm.2.2.2.2.2.2.2.2.2.2.2.1 zm.2.2.2.2.2.2.2.2.2.2.2.2.1 zm.2.2.2.2.2.2.2.2.2.2.2.2.2.1 zm.2.2.2.2.2.2.2.2.2.2.2.2.2.2)]
    by_cases eb : b = t
    · rw [hnx (fun h => absurd h (by omega)), if_pos eb]
      simp only [Option.bind_some]
      obtain ⟨g1', rfl⟩ : ∃ f, g1 = f + 1 := ⟨g1 - 1, by omega⟩
      obtain ⟨g2', rfl⟩ : ∃ f, g2 = f + 1 := ⟨g2 - 1, by omega⟩
      rw [fX8_read_L15, fX9_read_L9, if_pos rfl, if_neg (show ¬ (0 : Int32) ≤ -1 by decide), nI_1 b, if_pos (show nI t ≤ nI (b + 1) from nI_le (by omega) (by omega)), show fX7_size (nI t) = some (nI t) from rfl]
      simp only [Option.bind_some]
      rw [if_pos (show nI t ≤ nI t from nI_le (Nat.le_refl _) (by omega))]
      simp only [ite_self]
      exact ⟨_, _, _, _, _, _, _, _, _, _, _, _, _, _, _, _, _, _, _, _, _, _, _, _, _, _, _, _, _, rfl, rfl, p5⟩
    · rw [if_neg eb] at hf
      have e59 : T b = 59 := by
        by_cases e : T b = 59
        · exact e
        · rw [if_neg e] at hf; cases hf
      rw [if_pos e59] at hf
      rw [hnx (fun _ => e59), if_neg eb]
      simp only [Option.bind_some]
      rw [nI_1, nI_1]
      exact read_l gr pd hK hX hQ hT k65 k49 r g1 g2 (b + 1) (c + 1) (x + zc.1) zc.2.1 zc.2.2.1 zc.2.2.2.1 zc.2.2.2.2.1 zc.2.2.2.2.2.1 zc.2.2.2.2.2.2.1 zc.2.2.2.2.2.2.2.1 zc.2.2.2.2.2.2.2.2.1 zc.2.2.2.2.2.2.2.2.2.1 zc.2.2.2.2.2.2.2.2.2.2.1 zc.2.2.2.2.2.2.2.2.2.2.2.1 zc.2.2.2.2.2.2.2.2.2.2.2.2.1 zc.2.2.2.2.2.2.2.2.2.2.2.2.2.1 zc.2.2.2.2.2.2.2.2.2.2.2.2.2.2 zm.2.1 zm.2.2.1 zm.2.2.2.1 zm.2.2.2.2.1 zm.2.2.2.2.2.1 zm.2.2.2.2.2.2.1 zm.2.2.2.2.2.2.2.1 zm.2.2.2.2.2.2.2.2.1 zm.2.2.2.2.2.2.2.2.2.1 zm.2.2.2.2.2.2.2.2.2.2.1 zm.2.2.2.2.2.2.2.2.2.2.2.1 zm.2.2.2.2.2.2.2.2.2.2.2.2.1 zm.2.2.2.2.2.2.2.2.2.2.2.2.2.1 zm.2.2.2.2.2.2.2.2.2.2.2.2.2.2 (by omega) (by omega) (by omega) (by omega) hf p5
set_option maxHeartbeats 1000000 in
theorem p_read {u_isKept u_now_people u_now_debts_size : Int32} {u_now_debts_owed u_now_debts_order u_now_consents_refused : (Nat → Int32)} {u_now_trail_size : Int32} {u_now_trail_numbers : (Nat → Int32)} {u_now_seen_size : Int32} {u_now_seen_numbers : (Nat → Int32)} {u_now_events_size : Int32} {u_now_events_numbers : (Nat → Int32)} {u_now_book_size : Int32} {u_now_book_numbers : (Nat → Int32)} {u_kept_people u_kept_debts_size : Int32} {u_kept_debts_owed u_kept_debts_order u_kept_consents_refused : (Nat → Int32)} {u_kept_trail_size : Int32} {u_kept_trail_numbers : (Nat → Int32)} {u_kept_seen_size : Int32} {u_kept_seen_numbers : (Nat → Int32)} {u_kept_events_size : Int32} {u_kept_events_numbers : (Nat → Int32)} {u_kept_book_size : Int32} {u_kept_book_numbers : (Nat → Int32)} {u_rings_rule u_rings_found u_rings_size u_rings_least : Int32} {u_rings_steps u_rings_path u_rings_taken : (Nat → Int32)} {u_text_size : Int32} {u_text_signs : (Nat → Int32)} {uM_people uM_debts uM_cuts uM_seen uM_events uM_inBook uM_texted uM_rule uM_rings uM_size uM_least : Int32} {uM_worth : Int64} {uM_groups uM_paid uM_imaged : Int32} {uM_owes uM_denies uM_debt uM_cut uM_sight uM_event uM_book uM_text uM_path uM_ring uM_image uM_tapeSort uM_tapeSize : (Nat → Int32)} {uM_items : (Nat → Int64)} {ts tl : (Nat → Int32)} {ti : (Nat → Nat → Int64)} (hR : Rel u_now_people u_now_debts_size u_now_debts_owed u_now_debts_order u_now_consents_refused u_now_trail_size u_now_trail_numbers u_now_seen_size u_now_seen_numbers u_now_events_size u_now_events_numbers u_now_book_size u_now_book_numbers u_isKept u_kept_people u_kept_debts_size u_kept_debts_owed u_kept_debts_order u_kept_consents_refused u_kept_trail_size u_kept_trail_numbers u_kept_seen_size u_kept_seen_numbers u_kept_events_size u_kept_events_numbers u_kept_book_size u_kept_book_numbers u_text_size u_text_signs ts tl ti uM_people uM_owes uM_denies uM_debts uM_debt uM_cuts uM_cut uM_seen uM_sight uM_events uM_event uM_inBook uM_book uM_texted uM_text uM_imaged uM_image uM_tapeSort uM_tapeSize uM_items) :
    ∃ (zc : (Int32 × Int32 × Int32 × (Nat → Int32) × (Nat → Int32) × (Nat → Int32) × Int32 × (Nat → Int32) × Int32 × Int32 × Int32 × Int32 × (Nat → Int32) × (Nat → Int32) × (Nat → Int32) × Int32)) (zm : (Int32 × Int32 × Int32 × Int32 × Int32 × Int32 × Int32 × Int32 × Int32 × Int64 × (Nat → Int32) × (Nat → Int32) × (Nat → Int32) × (Nat → Int32) × (Nat → Int32) × (Nat → Int32))), fX8_read 120 u_now_people u_now_debts_size u_now_debts_owed u_now_debts_order u_now_consents_refused 40 u_now_trail_size u_now_trail_numbers u_rings_rule u_rings_found u_rings_size u_rings_least u_rings_steps u_rings_path u_rings_taken u_text_size u_text_signs = some zc ∧ fX9_read uM_people uM_debts uM_cuts uM_seen uM_events uM_inBook uM_texted uM_rule uM_rings uM_size uM_least uM_worth uM_groups uM_paid uM_imaged uM_owes uM_denies uM_debt uM_cut uM_text uM_path uM_ring = some zm ∧ zc.1 = zm.1 ∧ Rel zc.2.1 zc.2.2.1 zc.2.2.2.1 zc.2.2.2.2.1 zc.2.2.2.2.2.1 zc.2.2.2.2.2.2.1 zc.2.2.2.2.2.2.2.1 u_now_seen_size u_now_seen_numbers u_now_events_size u_now_events_numbers u_now_book_size u_now_book_numbers u_isKept u_kept_people u_kept_debts_size u_kept_debts_owed u_kept_debts_order u_kept_consents_refused u_kept_trail_size u_kept_trail_numbers u_kept_seen_size u_kept_seen_numbers u_kept_events_size u_kept_events_numbers u_kept_book_size u_kept_book_numbers zc.2.2.2.2.2.2.2.2.2.2.2.2.2.2.2 u_text_signs ts tl ti zm.2.1 zm.2.2.2.2.2.2.2.2.2.2.1 zm.2.2.2.2.2.2.2.2.2.2.2.1 zm.2.2.1 zm.2.2.2.2.2.2.2.2.2.2.2.2.1 zm.2.2.2.1 zm.2.2.2.2.2.2.2.2.2.2.2.2.2.1 uM_seen uM_sight uM_events uM_event uM_inBook uM_book zm.2.2.2.2.1 uM_text uM_imaged uM_image uM_tapeSort uM_tapeSize uM_items := by
  obtain ⟨hA, hK, hX, hQ⟩ := id hR
  obtain ⟨t, rfl, rfl, hT⟩ := TX_of hX
  have h1 := hT.1
  have hX0 : TextR 0 u_text_signs 0 uM_text := ⟨0, by omega, rfl, rfl, fun k hk => absurd hk (by omega)⟩
  unfold fX8_read fX9_read
  rw [cfault_n hT, rfault_n hT]
  simp only [Option.bind_some]
  cases hf : ft t (fun k => (u_text_signs k).toNatClampNeg) 12 0 with
  | none =>
    simp only
    obtain ⟨x, y0, y1, y2, y3, y4, y5, y6, y7, y8, y9, y10, y11, y12, y13, w0, w1, w2, w3, w4, w5, w6, w7, w8, w9, w10, w11, w12, w13, a1, a2, a3⟩ := read_l uM_groups uM_paid hK hX hQ hT _ _ 12 400 400 0 0 0 _ _ _ _ _ _ _ _ _ _ _ _ _ _ _ _ _ _ _ _ _ _ _ _ _ _ _ _ rfl (by decide) (by decide) (Nat.zero_le _) hf hA
    rw [show (0 : Int32) = nI 0 from rfl] at a1 a2 ⊢
    rw [a1, a2]
    exact ⟨_, _, rfl, rfl, rfl, a3, hK, hX0, hQ⟩
  | some q =>
    have hq := ft_le _ _ _ (Nat.zero_le _) hf
    simp only
    have hn5 : ¬ nI q = (-5 : Int32) := fun e => absurd (show nI q < 0 by rw [e]; decide) (nI_pos (by omega))
    rw [fX8_read_L15, fX9_read_L9, if_neg hn5, if_pos (nI_pos' (by omega)), show fX7_clear = some 0 from rfl]
    simp only [Option.bind_some]
    rw [if_neg hn5, if_neg (nI_pos (by omega))]
    exact ⟨_, _, rfl, rfl, rfl, hA, hK, hX0, hQ⟩
end
