section
/-! ===== each call: the image ===== -/
theorem rtk_l {N M R t : Nat} (hN : 3 * R ≤ N) (hN2 : N ≤ 120) (hM : 3 * t ≤ M) (hM2 : M ≤ 120) (ht : t ≤ R) {num : Nat → Int32} : ∀ (r fuel k : Nat) (nm : Nat → Int32), k + r = t → r < fuel → (∀ j, j < 3 * k → nm j = num j) →
    ∃ nm', fX5_take_L6 N M (nI R) (nI t) num fuel (nI k) (nI k) nm = some (nI t, nm') ∧ ∀ j, j < 3 * t → nm' j = num j
  | 0, fuel, k, nm, he, hf, h => by
    obtain ⟨f, rfl⟩ : ∃ f, fuel = f + 1 := ⟨fuel - 1, by omega⟩
    rw [fX5_take_L6, if_pos (nI_le (by omega) (by omega)), show k = t from by omega]
    exact ⟨nm, rfl, fun j hj => h j (by omega)⟩
  | r + 1, fuel, k, nm, he, hf, h => by
    obtain ⟨f, rfl⟩ : ∃ f, fuel = f + 1 := ⟨fuel - 1, by omega⟩
    rw [fX5_take_L6, if_neg (nI_ge (by omega) (by omega)), show fX5_at M (nI t) num (nI k) 0 = _ from at_n (w := 0) hM hM2 (by omega) (by decide), show fX5_at M (nI t) num (nI k) 1 = _ from at_n (w := 1) hM hM2 (by omega) (by decide), show fX5_at M (nI t) num (nI k) 2 = _ from at_n (w := 2) hM hM2 (by omega) (by decide)]
    simp only [Option.bind_some]
    rw [add_n hN hN2 (show k < R by omega)]
    simp only [Option.bind_some, nI_1, Nat.add_zero]
    refine rtk_l hN hN2 hM hM2 ht r f (k + 1) _ (by omega) (by omega) (fun j hj => ?_)
    rw [up_eq, up_eq, up_eq]
    by_cases e1 : j = 3 * k + 2
    · rw [if_pos e1, e1]
    · rw [if_neg e1]
      by_cases e2 : j = 3 * k + 1
      · rw [if_pos e2, e2]
      · rw [if_neg e2]
        by_cases e3 : j = 3 * k
        · rw [if_pos e3, e3]
        · rw [if_neg e3]; exact h j (by omega)
theorem rtk_n {N M R t : Nat} (hN : 3 * R ≤ N) (hN2 : N ≤ 120) (hM : 3 * t ≤ M) (hM2 : M ≤ 120) (ht : t ≤ R) (num nm : Nat → Int32) : ∃ nm', fX5_take N M (nI R) nm (nI t) num = some (nI t, nm') ∧ ∀ j, j < 3 * t → nm' j = num j := by
  obtain ⟨nm', a1, a2⟩ := rtk_l (num := num) hN hN2 hM hM2 ht t 400 0 nm (by omega) (by omega) (fun j hj => by omega)
  unfold fX5_take fX5_clear
  exact ⟨nm', a1, a2⟩
theorem ctk_l {re : Nat → Int32} (hre : ∀ k, k < 36 → re k = 0 ∨ re k = 1) : ∀ (r fuel k : Nat) (o : Nat → Int32), k + r = 36 → r < fuel → (∀ j, j < k → o j = re j) →
    ∃ o', fX1_take_L2 re fuel (nI k) o = some o' ∧ ∀ j, j < 36 → o' j = re j
  | 0, fuel, k, o, he, hf, h => by
    obtain ⟨f, rfl⟩ : ∃ f, fuel = f + 1 := ⟨fuel - 1, by omega⟩
    rw [fX1_take_L2, if_pos (e36 (by omega) (by omega))]
    exact ⟨o, rfl, fun j hj => h j (by omega)⟩
  | r + 1, fuel, k, o, he, hf, h => by
    obtain ⟨f, rfl⟩ : ∃ f, fuel = f + 1 := ⟨fuel - 1, by omega⟩
    have e : vp_nar .boolean (re k) = re k := by rcases hre k (by omega) with e | e <;> rw [e] <;> rfl
    rw [fX1_take_L2, if_neg (g36 (by omega)), gA_n (by omega) (by decide), gA_n (by omega) (by decide), nI_clamp (by omega), nI_1, e]
    refine ctk_l hre r f (k + 1) _ (by omega) (by omega) (fun j hj => ?_)
    rw [up_eq]
    by_cases e : j = k
    · rw [if_pos e, e]
    · rw [if_neg e]; exact h j (by omega)
def RowC (sz : Int32) (a b : Nat → Int32) : Prop := ∀ t : Nat, t ≤ 40 → sz = nI t → ∀ j, j < 3 * t → b j = a j
theorem RowC_of {t : Nat} {a b : Nat → Int32} (ht : t ≤ 40) (h : ∀ j, j < 3 * t → b j = a j) : RowC (nI t) a b := fun t' ht' e => by
  rw [← (nI_eq (a := t) (b := t') (by omega) (by omega)).mp e]; exact h
theorem AffR.cp {pe sz : Int32} {ow od re : Nat → Int32} {ts : Int32} {tn : Nat → Int32} {ss : Int32} {sn : Nat → Int32} {es : Int32} {en : Nat → Int32} {bs : Int32} {bn : Nat → Int32} {mp : Int32} {mo md : Nat → Int32} {mz : Int32} {mr : Nat → Int32} {mc : Int32} {mcn : Nat → Int32} {ms : Int32} {msn : Nat → Int32} {me : Int32} {men : Nat → Int32} {mb : Int32} {mbn : Nat → Int32} {ow' od' re' tn' sn' en' bn' mo' md' mr' mcn' msn' men' mbn' : Nat → Int32}
    (h : AffR pe sz ow od re ts tn ss sn es en bs bn mp mo md mz mr mc mcn ms msn me men mb mbn) (h1 : ∀ j, j < 36 → ow' j = ow j) (h2 : ∀ j, j < 30 → od' j = od j) (h3 : ∀ j, j < 36 → re' j = re j) (h4 : RowC ts tn tn') (h5 : RowC ss sn sn') (h6 : RowC es en en') (h7 : RowC bs bn bn') (g1 : ∀ j, j < 36 → mo' j = mo j) (g2 : ∀ j, j < 36 → md' j = md j) (g3 : ∀ j, j < 30 → mr' j = mr j) (g4 : ∀ j, j < 120 → mcn' j = mcn j) (g5 : ∀ j, j < 15 → msn' j = msn j) (g6 : ∀ j, j < 16 → men' j = men j) (g7 : ∀ j, j < 24 → mbn' j = mbn j) :
    AffR pe sz ow' od' re' ts tn' ss sn' es en' bs bn' mp mo' md' mz mr' mc mcn' ms msn' me men' mb mbn' := by
  obtain ⟨n, v, L, hn, e1, e2, hW, hR1, hR2, hC, ⟨t1, a1, a2, a3, a4⟩, ⟨t2, b1, b2, b3, b4⟩, ⟨t3, c1, c2, c3, c4⟩, ⟨t4, d1, d2, d3, d4⟩⟩ := h
  refine ⟨n, v, L, hn, e1, e2, hW, hR1.cong hW h1 h2, hR2.cong hW g1 g3, ⟨fun k hk => ?_, fun k hk hk2 => ?_⟩, ⟨t1, a1, a2, a3, fun k hk => ?_⟩, ⟨t2, b1, b2, b3, fun k hk => ?_⟩, ⟨t3, c1, c2, c3, fun k hk => ?_⟩, ⟨t4, d1, d2, d3, fun k hk => ?_⟩⟩
  · rw [h3 k hk, g2 k hk]; exact hC.1 k hk
  · rw [h3 k hk]; exact hC.2 k hk hk2
  · rw [h4 t1 a1 a2 k hk, g4 k (by omega)]; exact a4 k hk
  · rw [h5 t2 (by omega) b2 k hk, g5 k (by omega)]; exact b4 k hk
  · rw [h6 t3 (by omega) c2 (3 * k) (by omega), h6 t3 (by omega) c2 (3 * k + 1) (by omega), g6 (2 * k) (by omega), g6 (2 * k + 1) (by omega)]; exact c4 k hk
  · rw [h7 t4 (by omega) d2 k hk, g7 k (by omega)]; exact d4 k hk
/-- the class's copy -/
theorem aft_n {pe sz : Int32} {ow od re : Nat → Int32} {ts : Int32} {tn : Nat → Int32} {ss : Int32} {sn : Nat → Int32} {es : Int32} {en : Nat → Int32} {bs : Int32} {bn : Nat → Int32} {mp : Int32} {mo md : Nat → Int32} {mz : Int32} {mr : Nat → Int32} {mc : Int32} {mcn : Nat → Int32} {ms : Int32} {msn : Nat → Int32} {me : Int32} {men : Nat → Int32} {mb : Int32} {mbn : Nat → Int32} (h : AffR pe sz ow od re ts tn ss sn es en bs bn mp mo md mz mr mc mcn ms msn me men mb mbn) (kow kod kre ktn ksn ken kbn : Nat → Int32) :
    ∃ (ow' od' re' tn' sn' en' bn' : Nat → Int32), fX0_take 120 15 24 24 120 15 24 24 kow kod kre 40 ktn 5 ksn 8 ken 8 kbn pe sz ow od re ts tn ss sn es en bs bn = some (pe, sz, ow', od', re', ts, tn', ss, sn', es, en', bs, bn') ∧ (∀ j, j < 36 → ow' j = ow j) ∧ (∀ j, j < 30 → od' j = od j) ∧ (∀ j, j < 36 → re' j = re j) ∧ RowC ts tn tn' ∧ RowC ss sn sn' ∧ RowC es en en' ∧ RowC bs bn bn' := by
  obtain ⟨n, v, L, hn, e1, e2, hW, hR1, hR2, hC, ⟨t1, a1, rfl, a3, a4⟩, ⟨t2, b1, rfl, b3, b4⟩, ⟨t3, c1, rfl, c3, c4⟩, ⟨t4, d1, rfl, d3, d4⟩⟩ := h
  obtain ⟨o', d', x1, x2⟩ := take_l (fun (u_owed_6 : (Nat → Int32)) (u_order_6 : (Nat → Int32)) => some (sz, u_owed_6, u_order_6)) ow od 36 400 0 kow kod rfl (by decide) (fun j hj => absurd hj (Nat.not_lt_zero _))
  obtain ⟨r', x3, x4⟩ := ctk_l (re := re) (fun k hk => (hC.1 k hk).2) 36 400 0 kre rfl (by decide) (fun j hj => absurd hj (Nat.not_lt_zero _))
  obtain ⟨p1, y1, y2⟩ := rtk_n (N := 120) (M := 120) (R := 40) (t := t1) (by decide) (by decide) (by omega) (by decide) a1 tn ktn
  obtain ⟨p2, y3, y4⟩ := rtk_n (N := 15) (M := 15) (R := 5) (t := t2) (by decide) (by decide) (by omega) (by decide) b1 sn ksn
  obtain ⟨p3, y5, y6⟩ := rtk_n (N := 24) (M := 24) (R := 8) (t := t3) (by decide) (by decide) (by omega) (by decide) c1 en ken
  obtain ⟨p4, y7, y8⟩ := rtk_n (N := 24) (M := 24) (R := 8) (t := t4) (by decide) (by decide) (by omega) (by decide) d1 bn kbn
  refine ⟨o', d', r', p1, p2, p3, p4, ?_, fun j hj => (x2 j hj).1, fun j hj => (x2 j (by omega)).2, x4, RowC_of a1 y2, RowC_of (by omega) y4, RowC_of (by omega) y6, RowC_of (by omega) y8⟩
  unfold fX0_take fX2_take fX1_take
  rw [show fX2_take_L2 _ ow od 400 0 kow kod = _ from x1, show fX1_take_L2 re 400 0 kre = _ from x3, show fX5_take 120 120 40 ktn (nI t1) tn = _ from y1, show fX5_take 15 15 5 ksn (nI t2) sn = _ from y3, show fX5_take 24 24 8 ken (nI t3) en = _ from y5, show fX5_take 24 24 8 kbn (nI t4) bn = _ from y7]
  simp only [Option.bind_some]
abbrev ITy : Type := Option (Int32 × Int32 × (Nat → Int32))
abbrev UTy : Type := Option (Int32 × Int32 × Int32 × Int32 × Int32 × Int32 × Int32 × (Nat → Int32) × (Nat → Int32) × (Nat → Int32) × (Nat → Int32) × (Nat → Int32) × (Nat → Int32) × (Nat → Int32))
theorem im48_l (kx : (Nat → Int32) → ITy) (src g0 : Nat → Int32) : ∀ (r fuel k : Nat) (g : Nat → Int32), k + r = 30 → r < fuel → (∀ j, g j = if 72 ≤ j ∧ j < 72 + k then src (j - 72) else g0 j) →
    ∃ g', fX9_image_L48 kx src fuel (nI k) g = kx g' ∧ ∀ j, g' j = if 72 ≤ j ∧ j < 72 + 30 then src (j - 72) else g0 j
  | 0, fuel, k, g, he, hf, h => by
    obtain ⟨f, rfl⟩ : ∃ f, fuel = f + 1 := ⟨fuel - 1, by omega⟩
    rw [fX9_image_L48, if_pos (show (30 : Int32) ≤ nI k from nI_le (a := 30) (by omega) (by omega))]
    rw [show k = 30 from by omega] at h
    exact ⟨g, rfl, h⟩
  | r + 1, fuel, k, g, he, hf, h => by
    obtain ⟨f, rfl⟩ : ∃ f, fuel = f + 1 := ⟨fuel - 1, by omega⟩
    rw [fX9_image_L48, if_neg (show ¬ (30 : Int32) ≤ nI k from nI_ge (b := 30) (by omega) (by decide)), gA_n (by omega) (by decide), show (72 : Int32) + nI k = nI (72 + k) from nI_add 72 k, gA_n (by omega) (by decide), nI_clamp (by omega), nI_clamp (by omega), nI_1]
    refine im48_l kx src g0 r f (k + 1) _ (by omega) (by omega) (fun j => ?_)
    rw [up_eq, h j]
    by_cases e : j = 72 + k
    · rw [if_pos e, if_pos (by omega), e, Nat.add_sub_cancel_left]
    · rw [if_neg e]
      by_cases e2 : 72 ≤ j ∧ j < 72 + k
      · rw [if_pos e2, if_pos (by omega)]
      · rw [if_neg e2, if_neg (by omega)]
theorem im77_l (kx : (Nat → Int32) → ITy) (src g0 : Nat → Int32) : ∀ (r fuel k : Nat) (g : Nat → Int32), k + r = 120 → r < fuel → (∀ j, g j = if 102 ≤ j ∧ j < 102 + k then src (j - 102) else g0 j) →
    ∃ g', fX9_image_L77 kx src fuel (nI k) g = kx g' ∧ ∀ j, g' j = if 102 ≤ j ∧ j < 102 + 120 then src (j - 102) else g0 j
  | 0, fuel, k, g, he, hf, h => by
    obtain ⟨f, rfl⟩ : ∃ f, fuel = f + 1 := ⟨fuel - 1, by omega⟩
    rw [fX9_image_L77, if_pos (show (120 : Int32) ≤ nI k from nI_le (a := 120) (by omega) (by omega))]
    rw [show k = 120 from by omega] at h
    exact ⟨g, rfl, h⟩
  | r + 1, fuel, k, g, he, hf, h => by
    obtain ⟨f, rfl⟩ : ∃ f, fuel = f + 1 := ⟨fuel - 1, by omega⟩
    rw [fX9_image_L77, if_neg (show ¬ (120 : Int32) ≤ nI k from nI_ge (b := 120) (by omega) (by decide)), gA_n (by omega) (by decide), show (102 : Int32) + nI k = nI (102 + k) from nI_add 102 k, gA_n (by omega) (by decide), nI_clamp (by omega), nI_clamp (by omega), nI_1]
    refine im77_l kx src g0 r f (k + 1) _ (by omega) (by omega) (fun j => ?_)
    rw [up_eq, h j]
    by_cases e : j = 102 + k
    · rw [if_pos e, if_pos (by omega), e, Nat.add_sub_cancel_left]
    · rw [if_neg e]
      by_cases e2 : 102 ≤ j ∧ j < 102 + k
      · rw [if_pos e2, if_pos (by omega)]
      · rw [if_neg e2, if_neg (by omega)]
theorem im106_l (kx : (Nat → Int32) → ITy) (src g0 : Nat → Int32) : ∀ (r fuel k : Nat) (g : Nat → Int32), k + r = 15 → r < fuel → (∀ j, g j = if 222 ≤ j ∧ j < 222 + k then src (j - 222) else g0 j) →
    ∃ g', fX9_image_L106 kx src fuel (nI k) g = kx g' ∧ ∀ j, g' j = if 222 ≤ j ∧ j < 222 + 15 then src (j - 222) else g0 j
  | 0, fuel, k, g, he, hf, h => by
    obtain ⟨f, rfl⟩ : ∃ f, fuel = f + 1 := ⟨fuel - 1, by omega⟩
    rw [fX9_image_L106, if_pos (show (15 : Int32) ≤ nI k from nI_le (a := 15) (by omega) (by omega))]
    rw [show k = 15 from by omega] at h
    exact ⟨g, rfl, h⟩
  | r + 1, fuel, k, g, he, hf, h => by
    obtain ⟨f, rfl⟩ : ∃ f, fuel = f + 1 := ⟨fuel - 1, by omega⟩
    rw [fX9_image_L106, if_neg (show ¬ (15 : Int32) ≤ nI k from nI_ge (b := 15) (by omega) (by decide)), gA_n (by omega) (by decide), show (222 : Int32) + nI k = nI (222 + k) from nI_add 222 k, gA_n (by omega) (by decide), nI_clamp (by omega), nI_clamp (by omega), nI_1]
    refine im106_l kx src g0 r f (k + 1) _ (by omega) (by omega) (fun j => ?_)
    rw [up_eq, h j]
    by_cases e : j = 222 + k
    · rw [if_pos e, if_pos (by omega), e, Nat.add_sub_cancel_left]
    · rw [if_neg e]
      by_cases e2 : 222 ≤ j ∧ j < 222 + k
      · rw [if_pos e2, if_pos (by omega)]
      · rw [if_neg e2, if_neg (by omega)]
theorem im136_l (kx : (Nat → Int32) → ITy) (src g0 : Nat → Int32) : ∀ (r fuel k : Nat) (g : Nat → Int32), k + r = 16 → r < fuel → (∀ j, g j = if 237 ≤ j ∧ j < 237 + k then src (j - 237) else g0 j) →
    ∃ g', fX9_image_L136 kx src fuel (nI k) g = kx g' ∧ ∀ j, g' j = if 237 ≤ j ∧ j < 237 + 16 then src (j - 237) else g0 j
  | 0, fuel, k, g, he, hf, h => by
    obtain ⟨f, rfl⟩ : ∃ f, fuel = f + 1 := ⟨fuel - 1, by omega⟩
    rw [fX9_image_L136, if_pos (show (16 : Int32) ≤ nI k from nI_le (a := 16) (by omega) (by omega))]
    rw [show k = 16 from by omega] at h
    exact ⟨g, rfl, h⟩
  | r + 1, fuel, k, g, he, hf, h => by
    obtain ⟨f, rfl⟩ : ∃ f, fuel = f + 1 := ⟨fuel - 1, by omega⟩
    rw [fX9_image_L136, if_neg (show ¬ (16 : Int32) ≤ nI k from nI_ge (b := 16) (by omega) (by decide)), gA_n (by omega) (by decide), show (237 : Int32) + nI k = nI (237 + k) from nI_add 237 k, gA_n (by omega) (by decide), nI_clamp (by omega), nI_clamp (by omega), nI_1]
    refine im136_l kx src g0 r f (k + 1) _ (by omega) (by omega) (fun j => ?_)
    rw [up_eq, h j]
    by_cases e : j = 237 + k
    · rw [if_pos e, if_pos (by omega), e, Nat.add_sub_cancel_left]
    · rw [if_neg e]
      by_cases e2 : 237 ≤ j ∧ j < 237 + k
      · rw [if_pos e2, if_pos (by omega)]
      · rw [if_neg e2, if_neg (by omega)]
theorem im166_l (kx : (Nat → Int32) → ITy) (src g0 : Nat → Int32) : ∀ (r fuel k : Nat) (g : Nat → Int32), k + r = 24 → r < fuel → (∀ j, g j = if 253 ≤ j ∧ j < 253 + k then src (j - 253) else g0 j) →
    ∃ g', fX9_image_L166 kx src fuel (nI k) g = kx g' ∧ ∀ j, g' j = if 253 ≤ j ∧ j < 253 + 24 then src (j - 253) else g0 j
  | 0, fuel, k, g, he, hf, h => by
    obtain ⟨f, rfl⟩ : ∃ f, fuel = f + 1 := ⟨fuel - 1, by omega⟩
    rw [fX9_image_L166, if_pos (show (24 : Int32) ≤ nI k from nI_le (a := 24) (by omega) (by omega))]
    rw [show k = 24 from by omega] at h
    exact ⟨g, rfl, h⟩
  | r + 1, fuel, k, g, he, hf, h => by
    obtain ⟨f, rfl⟩ : ∃ f, fuel = f + 1 := ⟨fuel - 1, by omega⟩
    rw [fX9_image_L166, if_neg (show ¬ (24 : Int32) ≤ nI k from nI_ge (b := 24) (by omega) (by decide)), gA_n (by omega) (by decide), show (253 : Int32) + nI k = nI (253 + k) from nI_add 253 k, gA_n (by omega) (by decide), nI_clamp (by omega), nI_clamp (by omega), nI_1]
    refine im166_l kx src g0 r f (k + 1) _ (by omega) (by omega) (fun j => ?_)
    rw [up_eq, h j]
    by_cases e : j = 253 + k
    · rw [if_pos e, if_pos (by omega), e, Nat.add_sub_cancel_left]
    · rw [if_neg e]
      by_cases e2 : 253 ≤ j ∧ j < 253 + k
      · rw [if_pos e2, if_pos (by omega)]
      · rw [if_neg e2, if_neg (by omega)]
theorem im7_l (kx : (Nat → Int32) → ITy) (ow de g0 : Nat → Int32) : ∀ (r fuel k : Nat) (g : Nat → Int32), k + r = 36 → r < fuel → (∀ j, g j = if j < k then ow j else if 36 ≤ j ∧ j < 36 + k then de (j - 36) else g0 j) →
    ∃ g', fX9_image_L7 kx ow de fuel (nI k) g = kx g' ∧ ∀ j, g' j = if j < 36 then ow j else if 36 ≤ j ∧ j < 36 + 36 then de (j - 36) else g0 j
  | 0, fuel, k, g, he, hf, h => by
    obtain ⟨f, rfl⟩ : ∃ f, fuel = f + 1 := ⟨fuel - 1, by omega⟩
    rw [fX9_image_L7, if_pos (e36 (by omega) (by omega))]
    rw [show k = 36 from by omega] at h
    exact ⟨g, rfl, h⟩
  | r + 1, fuel, k, g, he, hf, h => by
    obtain ⟨f, rfl⟩ : ∃ f, fuel = f + 1 := ⟨fuel - 1, by omega⟩
    rw [fX9_image_L7, if_neg (g36 (by omega)), gA_n (by omega) (by decide), gA_n (by omega) (by decide), gA_n (by omega) (by decide), nn36, nI_add, gA_n (by omega) (by decide), nI_clamp (by omega), nI_clamp (by omega), nI_1]
    refine im7_l kx ow de g0 r f (k + 1) _ (by omega) (by omega) (fun j => ?_)
    rw [up_eq, up_eq, h j]
    by_cases e : j = 36 + k
    · rw [if_pos e, if_neg (by omega), if_pos (by omega), e, Nat.add_sub_cancel_left]
    · rw [if_neg e]
      by_cases e2 : j = k
      · rw [if_pos e2, if_pos (by omega), e2]
      · rw [if_neg e2]
        by_cases e3 : j < k
        · rw [if_pos e3, if_pos (by omega)]
        · rw [if_neg e3]
          by_cases e4 : 36 ≤ j ∧ j < 36 + k
          · rw [if_pos e4, if_neg (show ¬ j < k + 1 by omega), if_pos (by omega)]
          · rw [if_neg e4, if_neg (show ¬ j < k + 1 by omega), if_neg (by omega)]
theorem img_n (pe sz cu se ev bo : Int32) (ow de od cn sn en bn g0 : Nat → Int32) : ∃ g, fX9_image pe sz cu se ev bo ow de od cn sn en bn g0 = some (pe, 1, g) ∧ g 277 = pe ∧ g 278 = sz ∧ g 279 = cu ∧ g 280 = se ∧ g 281 = ev ∧ g 282 = bo ∧ (∀ j, j < 36 → g j = ow j) ∧ (∀ j, j < 36 → g (36 + j) = de j) ∧ (∀ j, j < 30 → g (72 + j) = od j) ∧ (∀ j, j < 120 → g (102 + j) = cn j) ∧ (∀ j, j < 15 → g (222 + j) = sn j) ∧ (∀ j, j < 16 → g (237 + j) = en j) ∧ ∀ j, j < 24 → g (253 + j) = bn j := by
  unfold fX9_image
  obtain ⟨g1, a1, b1⟩ := im7_l (fun (u_image_6 : (Nat → Int32)) => fX9_image_L48 (fun (u_image_10 : (Nat → Int32)) => fX9_image_L77 (fun (u_image_14 : (Nat → Int32)) => fX9_image_L106 (fun (u_image_18 : (Nat → Int32)) => fX9_image_L136 (fun (u_image_22 : (Nat → Int32)) => fX9_image_L166 (fun (u_image_26 : (Nat → Int32)) => gA 277 284 (gA 278 284 (gA 279 284 (gA 280 284 (gA 281 284 (gA 282 284 (some (pe, 1, upd (upd (upd (upd (upd (upd u_image_26 (277 : Int32).toNatClampNeg pe) (278 : Int32).toNatClampNeg sz) (279 : Int32).toNatClampNeg cu) (280 : Int32).toNatClampNeg se) (281 : Int32).toNatClampNeg ev) (282 : Int32).toNatClampNeg bo)))))))) bn 400 0 u_image_22) en 400 0 u_image_18) sn 400 0 u_image_14) cn 400 0 u_image_10) od 400 0 u_image_6) ow de g0 36 400 0 g0 rfl (by decide) (fun j => by rw [if_neg (by omega), if_neg (by omega)])
  rw [show (0 : Int32) = nI 0 from rfl] at *
  rw [a1]
  obtain ⟨g2, a2, b2⟩ := im48_l (fun (u_image_10 : (Nat → Int32)) => fX9_image_L77 (fun (u_image_14 : (Nat → Int32)) => fX9_image_L106 (fun (u_image_18 : (Nat → Int32)) => fX9_image_L136 (fun (u_image_22 : (Nat → Int32)) => fX9_image_L166 (fun (u_image_26 : (Nat → Int32)) => gA 277 284 (gA 278 284 (gA 279 284 (gA 280 284 (gA 281 284 (gA 282 284 (some (pe, 1, upd (upd (upd (upd (upd (upd u_image_26 (277 : Int32).toNatClampNeg pe) (278 : Int32).toNatClampNeg sz) (279 : Int32).toNatClampNeg cu) (280 : Int32).toNatClampNeg se) (281 : Int32).toNatClampNeg ev) (282 : Int32).toNatClampNeg bo)))))))) bn 400 (nI 0) u_image_22) en 400 (nI 0) u_image_18) sn 400 (nI 0) u_image_14) cn 400 (nI 0) u_image_10) od g1 30 400 0 g1 rfl (by decide) (fun j => by rw [if_neg (by omega)])
  rw [a2]
  obtain ⟨g3, a3, b3⟩ := im77_l (fun (u_image_14 : (Nat → Int32)) => fX9_image_L106 (fun (u_image_18 : (Nat → Int32)) => fX9_image_L136 (fun (u_image_22 : (Nat → Int32)) => fX9_image_L166 (fun (u_image_26 : (Nat → Int32)) => gA 277 284 (gA 278 284 (gA 279 284 (gA 280 284 (gA 281 284 (gA 282 284 (some (pe, 1, upd (upd (upd (upd (upd (upd u_image_26 (277 : Int32).toNatClampNeg pe) (278 : Int32).toNatClampNeg sz) (279 : Int32).toNatClampNeg cu) (280 : Int32).toNatClampNeg se) (281 : Int32).toNatClampNeg ev) (282 : Int32).toNatClampNeg bo)))))))) bn 400 (nI 0) u_image_22) en 400 (nI 0) u_image_18) sn 400 (nI 0) u_image_14) cn g2 120 400 0 g2 rfl (by decide) (fun j => by rw [if_neg (by omega)])
  rw [a3]
  obtain ⟨g4, a4, b4⟩ := im106_l (fun (u_image_18 : (Nat → Int32)) => fX9_image_L136 (fun (u_image_22 : (Nat → Int32)) => fX9_image_L166 (fun (u_image_26 : (Nat → Int32)) => gA 277 284 (gA 278 284 (gA 279 284 (gA 280 284 (gA 281 284 (gA 282 284 (some (pe, 1, upd (upd (upd (upd (upd (upd u_image_26 (277 : Int32).toNatClampNeg pe) (278 : Int32).toNatClampNeg sz) (279 : Int32).toNatClampNeg cu) (280 : Int32).toNatClampNeg se) (281 : Int32).toNatClampNeg ev) (282 : Int32).toNatClampNeg bo)))))))) bn 400 (nI 0) u_image_22) en 400 (nI 0) u_image_18) sn g3 15 400 0 g3 rfl (by decide) (fun j => by rw [if_neg (by omega)])
  rw [a4]
  obtain ⟨g5, a5, b5⟩ := im136_l (fun (u_image_22 : (Nat → Int32)) => fX9_image_L166 (fun (u_image_26 : (Nat → Int32)) => gA 277 284 (gA 278 284 (gA 279 284 (gA 280 284 (gA 281 284 (gA 282 284 (some (pe, 1, upd (upd (upd (upd (upd (upd u_image_26 (277 : Int32).toNatClampNeg pe) (278 : Int32).toNatClampNeg sz) (279 : Int32).toNatClampNeg cu) (280 : Int32).toNatClampNeg se) (281 : Int32).toNatClampNeg ev) (282 : Int32).toNatClampNeg bo)))))))) bn 400 (nI 0) u_image_22) en g4 16 400 0 g4 rfl (by decide) (fun j => by rw [if_neg (by omega)])
  rw [a5]
  obtain ⟨g6, a6, b6⟩ := im166_l (fun (u_image_26 : (Nat → Int32)) => gA 277 284 (gA 278 284 (gA 279 284 (gA 280 284 (gA 281 284 (gA 282 284 (some (pe, 1, upd (upd (upd (upd (upd (upd u_image_26 (277 : Int32).toNatClampNeg pe) (278 : Int32).toNatClampNeg sz) (279 : Int32).toNatClampNeg cu) (280 : Int32).toNatClampNeg se) (281 : Int32).toNatClampNeg ev) (282 : Int32).toNatClampNeg bo)))))))) bn g5 24 400 0 g5 rfl (by decide) (fun j => by rw [if_neg (by omega)])
  rw [a6]
  have k7 : (277 : Int32).toNatClampNeg = 277 := nI_clamp (n := 277) (by decide)
  have k8 : (278 : Int32).toNatClampNeg = 278 := nI_clamp (n := 278) (by decide)
  have k9 : (279 : Int32).toNatClampNeg = 279 := nI_clamp (n := 279) (by decide)
  have k0 : (280 : Int32).toNatClampNeg = 280 := nI_clamp (n := 280) (by decide)
  have k1 : (281 : Int32).toNatClampNeg = 281 := nI_clamp (n := 281) (by decide)
  have k2 : (282 : Int32).toNatClampNeg = 282 := nI_clamp (n := 282) (by decide)
  rw [k7, k8, k9, k0, k1, k2]
  have low : ∀ j, j < 277 → upd (upd (upd (upd (upd (upd g6 277 pe) 278 sz) 279 cu) 280 se) 281 ev) 282 bo j = g6 j := by
    intro j hj
    rw [up_eq, if_neg (by omega), up_eq, if_neg (by omega), up_eq, if_neg (by omega), up_eq, if_neg (by omega), up_eq, if_neg (by omega), up_eq, if_neg (by omega)]
  refine ⟨_, rfl, ?_, ?_, ?_, ?_, ?_, ?_, fun j hj => ?_, fun j hj => ?_, fun j hj => ?_, fun j hj => ?_, fun j hj => ?_, fun j hj => ?_, fun j hj => ?_⟩
  · rw [up_eq, if_neg (by omega), up_eq, if_neg (by omega), up_eq, if_neg (by omega), up_eq, if_neg (by omega), up_eq, if_neg (by omega), up_eq, if_pos rfl]
  · rw [up_eq, if_neg (by omega), up_eq, if_neg (by omega), up_eq, if_neg (by omega), up_eq, if_neg (by omega), up_eq, if_pos rfl]
  · rw [up_eq, if_neg (by omega), up_eq, if_neg (by omega), up_eq, if_neg (by omega), up_eq, if_pos rfl]
  · rw [up_eq, if_neg (by omega), up_eq, if_neg (by omega), up_eq, if_pos rfl]
  · rw [up_eq, if_neg (by omega), up_eq, if_pos rfl]
  · rw [up_eq, if_pos rfl]
  · rw [low _ (by omega), b6, if_neg (by omega), b5, if_neg (by omega), b4, if_neg (by omega), b3, if_neg (by omega), b2, if_neg (by omega), b1, if_pos hj]
  · rw [low _ (by omega), b6, if_neg (by omega), b5, if_neg (by omega), b4, if_neg (by omega), b3, if_neg (by omega), b2, if_neg (by omega), b1, if_neg (by omega), if_pos (by omega), Nat.add_sub_cancel_left]
  · rw [low _ (by omega), b6, if_neg (by omega), b5, if_neg (by omega), b4, if_neg (by omega), b3, if_neg (by omega), b2, if_pos (by omega), Nat.add_sub_cancel_left]
  · rw [low _ (by omega), b6, if_neg (by omega), b5, if_neg (by omega), b4, if_neg (by omega), b3, if_pos (by omega), Nat.add_sub_cancel_left]
  · rw [low _ (by omega), b6, if_neg (by omega), b5, if_neg (by omega), b4, if_pos (by omega), Nat.add_sub_cancel_left]
  · rw [low _ (by omega), b6, if_neg (by omega), b5, if_pos (by omega), Nat.add_sub_cancel_left]
  · rw [low _ (by omega), b6, if_pos (by omega), Nat.add_sub_cancel_left]
theorem un53_l (kx : (Nat → Int32) → UTy) (g : Nat → Int32) : ∀ (r fuel k : Nat) (o : Nat → Int32), k + r = 30 → r < fuel → (∀ j, j < k → o j = g (72 + j)) →
    ∃ o', fX9_undo_L53 kx g fuel (nI k) o = kx o' ∧ ∀ j, j < 30 → o' j = g (72 + j)
  | 0, fuel, k, o, he, hf, h => by
    obtain ⟨f, rfl⟩ : ∃ f, fuel = f + 1 := ⟨fuel - 1, by omega⟩
    rw [fX9_undo_L53, if_pos (show (30 : Int32) ≤ nI k from nI_le (a := 30) (by omega) (by omega))]
    exact ⟨o, rfl, fun j hj => h j (by omega)⟩
  | r + 1, fuel, k, o, he, hf, h => by
    obtain ⟨f, rfl⟩ : ∃ f, fuel = f + 1 := ⟨fuel - 1, by omega⟩
    rw [fX9_undo_L53, if_neg (show ¬ (30 : Int32) ≤ nI k from nI_ge (b := 30) (by omega) (by decide)), show (72 : Int32) + nI k = nI (72 + k) from nI_add 72 k, gA_n (by omega) (by decide), gA_n (by omega) (by decide), nI_clamp (by omega), nI_clamp (by omega), nI_1]
    refine un53_l kx g r f (k + 1) _ (by omega) (by omega) (fun j hj => ?_)
    rw [up_eq]
    by_cases e : j = k
    · rw [if_pos e, e]
    · rw [if_neg e]; exact h j (by omega)
theorem un82_l (kx : (Nat → Int32) → UTy) (g : Nat → Int32) : ∀ (r fuel k : Nat) (o : Nat → Int32), k + r = 120 → r < fuel → (∀ j, j < k → o j = g (102 + j)) →
    ∃ o', fX9_undo_L82 kx g fuel (nI k) o = kx o' ∧ ∀ j, j < 120 → o' j = g (102 + j)
  | 0, fuel, k, o, he, hf, h => by
    obtain ⟨f, rfl⟩ : ∃ f, fuel = f + 1 := ⟨fuel - 1, by omega⟩
    rw [fX9_undo_L82, if_pos (show (120 : Int32) ≤ nI k from nI_le (a := 120) (by omega) (by omega))]
    exact ⟨o, rfl, fun j hj => h j (by omega)⟩
  | r + 1, fuel, k, o, he, hf, h => by
    obtain ⟨f, rfl⟩ : ∃ f, fuel = f + 1 := ⟨fuel - 1, by omega⟩
    rw [fX9_undo_L82, if_neg (show ¬ (120 : Int32) ≤ nI k from nI_ge (b := 120) (by omega) (by decide)), show (102 : Int32) + nI k = nI (102 + k) from nI_add 102 k, gA_n (by omega) (by decide), gA_n (by omega) (by decide), nI_clamp (by omega), nI_clamp (by omega), nI_1]
    refine un82_l kx g r f (k + 1) _ (by omega) (by omega) (fun j hj => ?_)
    rw [up_eq]
    by_cases e : j = k
    · rw [if_pos e, e]
    · rw [if_neg e]; exact h j (by omega)
theorem un111_l (kx : (Nat → Int32) → UTy) (g : Nat → Int32) : ∀ (r fuel k : Nat) (o : Nat → Int32), k + r = 15 → r < fuel → (∀ j, j < k → o j = g (222 + j)) →
    ∃ o', fX9_undo_L111 kx g fuel (nI k) o = kx o' ∧ ∀ j, j < 15 → o' j = g (222 + j)
  | 0, fuel, k, o, he, hf, h => by
    obtain ⟨f, rfl⟩ : ∃ f, fuel = f + 1 := ⟨fuel - 1, by omega⟩
    rw [fX9_undo_L111, if_pos (show (15 : Int32) ≤ nI k from nI_le (a := 15) (by omega) (by omega))]
    exact ⟨o, rfl, fun j hj => h j (by omega)⟩
  | r + 1, fuel, k, o, he, hf, h => by
    obtain ⟨f, rfl⟩ : ∃ f, fuel = f + 1 := ⟨fuel - 1, by omega⟩
    rw [fX9_undo_L111, if_neg (show ¬ (15 : Int32) ≤ nI k from nI_ge (b := 15) (by omega) (by decide)), show (222 : Int32) + nI k = nI (222 + k) from nI_add 222 k, gA_n (by omega) (by decide), gA_n (by omega) (by decide), nI_clamp (by omega), nI_clamp (by omega), nI_1]
    refine un111_l kx g r f (k + 1) _ (by omega) (by omega) (fun j hj => ?_)
    rw [up_eq]
    by_cases e : j = k
    · rw [if_pos e, e]
    · rw [if_neg e]; exact h j (by omega)
theorem un141_l (kx : (Nat → Int32) → UTy) (g : Nat → Int32) : ∀ (r fuel k : Nat) (o : Nat → Int32), k + r = 16 → r < fuel → (∀ j, j < k → o j = g (237 + j)) →
    ∃ o', fX9_undo_L141 kx g fuel (nI k) o = kx o' ∧ ∀ j, j < 16 → o' j = g (237 + j)
  | 0, fuel, k, o, he, hf, h => by
    obtain ⟨f, rfl⟩ : ∃ f, fuel = f + 1 := ⟨fuel - 1, by omega⟩
    rw [fX9_undo_L141, if_pos (show (16 : Int32) ≤ nI k from nI_le (a := 16) (by omega) (by omega))]
    exact ⟨o, rfl, fun j hj => h j (by omega)⟩
  | r + 1, fuel, k, o, he, hf, h => by
    obtain ⟨f, rfl⟩ : ∃ f, fuel = f + 1 := ⟨fuel - 1, by omega⟩
    rw [fX9_undo_L141, if_neg (show ¬ (16 : Int32) ≤ nI k from nI_ge (b := 16) (by omega) (by decide)), show (237 : Int32) + nI k = nI (237 + k) from nI_add 237 k, gA_n (by omega) (by decide), gA_n (by omega) (by decide), nI_clamp (by omega), nI_clamp (by omega), nI_1]
    refine un141_l kx g r f (k + 1) _ (by omega) (by omega) (fun j hj => ?_)
    rw [up_eq]
    by_cases e : j = k
    · rw [if_pos e, e]
    · rw [if_neg e]; exact h j (by omega)
theorem un171_l (kx : (Nat → Int32) → UTy) (g : Nat → Int32) : ∀ (r fuel k : Nat) (o : Nat → Int32), k + r = 24 → r < fuel → (∀ j, j < k → o j = g (253 + j)) →
    ∃ o', fX9_undo_L171 kx g fuel (nI k) o = kx o' ∧ ∀ j, j < 24 → o' j = g (253 + j)
  | 0, fuel, k, o, he, hf, h => by
    obtain ⟨f, rfl⟩ : ∃ f, fuel = f + 1 := ⟨fuel - 1, by omega⟩
    rw [fX9_undo_L171, if_pos (show (24 : Int32) ≤ nI k from nI_le (a := 24) (by omega) (by omega))]
    exact ⟨o, rfl, fun j hj => h j (by omega)⟩
  | r + 1, fuel, k, o, he, hf, h => by
    obtain ⟨f, rfl⟩ : ∃ f, fuel = f + 1 := ⟨fuel - 1, by omega⟩
    rw [fX9_undo_L171, if_neg (show ¬ (24 : Int32) ≤ nI k from nI_ge (b := 24) (by omega) (by decide)), show (253 : Int32) + nI k = nI (253 + k) from nI_add 253 k, gA_n (by omega) (by decide), gA_n (by omega) (by decide), nI_clamp (by omega), nI_clamp (by omega), nI_1]
    refine un171_l kx g r f (k + 1) _ (by omega) (by omega) (fun j hj => ?_)
    rw [up_eq]
    by_cases e : j = k
    · rw [if_pos e, e]
    · rw [if_neg e]; exact h j (by omega)
theorem un12_l (kx : (Nat → Int32) → (Nat → Int32) → UTy) (g : Nat → Int32) : ∀ (r fuel k : Nat) (o d : Nat → Int32), k + r = 36 → r < fuel → (∀ j, j < k → o j = g j ∧ d j = g (36 + j)) →
    ∃ o' d', fX9_undo_L12 kx g fuel (nI k) o d = kx o' d' ∧ ∀ j, j < 36 → o' j = g j ∧ d' j = g (36 + j)
  | 0, fuel, k, o, d, he, hf, h => by
    obtain ⟨f, rfl⟩ : ∃ f, fuel = f + 1 := ⟨fuel - 1, by omega⟩
    rw [fX9_undo_L12, if_pos (e36 (by omega) (by omega))]
    exact ⟨o, d, rfl, fun j hj => h j (by omega)⟩
  | r + 1, fuel, k, o, d, he, hf, h => by
    obtain ⟨f, rfl⟩ : ∃ f, fuel = f + 1 := ⟨fuel - 1, by omega⟩
    rw [fX9_undo_L12, if_neg (g36 (by omega)), gA_n (by omega) (by decide), gA_n (by omega) (by decide), nn36, nI_add, gA_n (by omega) (by decide), gA_n (by omega) (by decide), nI_clamp (by omega), nI_clamp (by omega), nI_1]
    refine un12_l kx g r f (k + 1) _ _ (by omega) (by omega) (fun j hj => ?_)
    rw [up_eq, up_eq]
    by_cases e : j = k
    · rw [if_pos e, if_pos e, e]; exact ⟨rfl, rfl⟩
    · rw [if_neg e, if_neg e]; exact h j (by omega)
theorem und_n (pe sz cu se ev bo : Int32) (ow de od cn sn en bn g : Nat → Int32) : ∃ (ow' de' od' cn' sn' en' bn' : Nat → Int32), fX9_undo pe sz cu se ev bo 1 ow de od cn sn en bn g = some (g 277, g 277, g 278, g 279, g 280, g 281, g 282, ow', de', od', cn', sn', en', bn') ∧ (∀ j, j < 36 → ow' j = g j) ∧ (∀ j, j < 36 → de' j = g (36 + j)) ∧ (∀ j, j < 30 → od' j = g (72 + j)) ∧ (∀ j, j < 120 → cn' j = g (102 + j)) ∧ (∀ j, j < 15 → sn' j = g (222 + j)) ∧ (∀ j, j < 16 → en' j = g (237 + j)) ∧ ∀ j, j < 24 → bn' j = g (253 + j) := by
  unfold fX9_undo
  rw [if_neg (by decide)]
  have k7 : (277 : Int32).toNatClampNeg = 277 := nI_clamp (n := 277) (by decide)
  have k8 : (278 : Int32).toNatClampNeg = 278 := nI_clamp (n := 278) (by decide)
  have k9 : (279 : Int32).toNatClampNeg = 279 := nI_clamp (n := 279) (by decide)
  have k0 : (280 : Int32).toNatClampNeg = 280 := nI_clamp (n := 280) (by decide)
  have k1 : (281 : Int32).toNatClampNeg = 281 := nI_clamp (n := 281) (by decide)
  have k2 : (282 : Int32).toNatClampNeg = 282 := nI_clamp (n := 282) (by decide)
  rw [k7, k8, k9, k0, k1, k2]
  have c1 : ∀ x : UTy, gA 277 284 (gA 278 284 (gA 279 284 (gA 280 284 (gA 281 284 (gA 282 284 x))))) = x := by
    intro x
    rw [show gA 277 284 _ = _ from gA_n (i := 277) (n := 284) (by decide) (by decide), show gA 278 284 _ = _ from gA_n (i := 278) (n := 284) (by decide) (by decide), show gA 279 284 _ = _ from gA_n (i := 279) (n := 284) (by decide) (by decide), show gA 280 284 _ = _ from gA_n (i := 280) (n := 284) (by decide) (by decide), show gA 281 284 _ = _ from gA_n (i := 281) (n := 284) (by decide) (by decide), show gA 282 284 _ = _ from gA_n (i := 282) (n := 284) (by decide) (by decide)]
  simp only [c1]
  have r1 := fun kx => un12_l kx g 36 400 0 ow de rfl (by decide) (fun j hj => absurd hj (Nat.not_lt_zero _))
  have r2 := fun kx => un53_l kx g 30 400 0 od rfl (by decide) (fun j hj => absurd hj (Nat.not_lt_zero _))
  have r3 := fun kx => un82_l kx g 120 400 0 cn rfl (by decide) (fun j hj => absurd hj (Nat.not_lt_zero _))
  have r4 := fun kx => un111_l kx g 15 400 0 sn rfl (by decide) (fun j hj => absurd hj (Nat.not_lt_zero _))
  have r5 := fun kx => un141_l kx g 16 400 0 en rfl (by decide) (fun j hj => absurd hj (Nat.not_lt_zero _))
  have r6 := fun kx => un171_l kx g 24 400 0 bn rfl (by decide) (fun j hj => absurd hj (Nat.not_lt_zero _))
  rw [show (0 : Int32) = nI 0 from rfl]
  obtain ⟨o1, o2, a1, b1⟩ := r1 _
  rw [a1]
  obtain ⟨o3, a2, b2⟩ := r2 _
  rw [a2]
  obtain ⟨o4, a3, b3⟩ := r3 _
  rw [a3]
  obtain ⟨o5, a4, b4⟩ := r4 _
  rw [a4]
  obtain ⟨o6, a5, b5⟩ := r5 _
  rw [a5]
  obtain ⟨o7, a6, b6⟩ := r6 _
  rw [a6]
  exact ⟨o1, o2, o3, o4, o5, o6, o7, rfl, fun j hj => (b1 j hj).1, fun j hj => (b1 j hj).2, b2, b3, b4, b5, b6⟩
set_option maxHeartbeats 1000000 in
theorem p_image {u_isKept u_now_people u_now_debts_size : Int32} {u_now_debts_owed u_now_debts_order u_now_consents_refused : (Nat → Int32)} {u_now_trail_size : Int32} {u_now_trail_numbers : (Nat → Int32)} {u_now_seen_size : Int32} {u_now_seen_numbers : (Nat → Int32)} {u_now_events_size : Int32} {u_now_events_numbers : (Nat → Int32)} {u_now_book_size : Int32} {u_now_book_numbers : (Nat → Int32)} {u_kept_people u_kept_debts_size : Int32} {u_kept_debts_owed u_kept_debts_order u_kept_consents_refused : (Nat → Int32)} {u_kept_trail_size : Int32} {u_kept_trail_numbers : (Nat → Int32)} {u_kept_seen_size : Int32} {u_kept_seen_numbers : (Nat → Int32)} {u_kept_events_size : Int32} {u_kept_events_numbers : (Nat → Int32)} {u_kept_book_size : Int32} {u_kept_book_numbers : (Nat → Int32)} {u_text_size : Int32} {u_text_signs : (Nat → Int32)} {uM_people uM_debts uM_cuts uM_seen uM_events uM_inBook uM_texted uM_imaged : Int32} {uM_owes uM_denies uM_debt uM_cut uM_sight uM_event uM_book uM_text uM_image uM_tapeSort uM_tapeSize : (Nat → Int32)} {uM_items : (Nat → Int64)} {ts tl : (Nat → Int32)} {ti : (Nat → Nat → Int64)} (hR : Rel u_now_people u_now_debts_size u_now_debts_owed u_now_debts_order u_now_consents_refused u_now_trail_size u_now_trail_numbers u_now_seen_size u_now_seen_numbers u_now_events_size u_now_events_numbers u_now_book_size u_now_book_numbers u_isKept u_kept_people u_kept_debts_size u_kept_debts_owed u_kept_debts_order u_kept_consents_refused u_kept_trail_size u_kept_trail_numbers u_kept_seen_size u_kept_seen_numbers u_kept_events_size u_kept_events_numbers u_kept_book_size u_kept_book_numbers u_text_size u_text_signs ts tl ti uM_people uM_owes uM_denies uM_debts uM_debt uM_cuts uM_cut uM_seen uM_sight uM_events uM_event uM_inBook uM_book uM_texted uM_text uM_imaged uM_image uM_tapeSort uM_tapeSize uM_items) :
    ∃ (zc : (Int32 × Int32 × Int32 × Int32 × (Nat → Int32) × (Nat → Int32) × (Nat → Int32) × Int32 × (Nat → Int32) × Int32 × (Nat → Int32) × Int32 × (Nat → Int32) × Int32 × (Nat → Int32))) (zm : (Int32 × Int32 × (Nat → Int32))), fX8_image 120 15 24 24 120 15 24 24 u_now_people u_now_debts_size u_now_debts_owed u_now_debts_order u_now_consents_refused u_now_trail_size u_now_trail_numbers u_now_seen_size u_now_seen_numbers u_now_events_size u_now_events_numbers u_now_book_size u_now_book_numbers u_kept_debts_owed u_kept_debts_order u_kept_consents_refused 40 u_kept_trail_numbers 5 u_kept_seen_numbers 8 u_kept_events_numbers 8 u_kept_book_numbers = some zc ∧ fX9_image uM_people uM_debts uM_cuts uM_seen uM_events uM_inBook uM_owes uM_denies uM_debt uM_cut uM_sight uM_event uM_book uM_image = some zm ∧ zc.1 = zm.1 ∧ Rel u_now_people u_now_debts_size u_now_debts_owed u_now_debts_order u_now_consents_refused u_now_trail_size u_now_trail_numbers u_now_seen_size u_now_seen_numbers u_now_events_size u_now_events_numbers u_now_book_size u_now_book_numbers zc.2.1 zc.2.2.1 zc.2.2.2.1 zc.2.2.2.2.1 zc.2.2.2.2.2.1 zc.2.2.2.2.2.2.1 zc.2.2.2.2.2.2.2.1 zc.2.2.2.2.2.2.2.2.1 zc.2.2.2.2.2.2.2.2.2.1 zc.2.2.2.2.2.2.2.2.2.2.1 zc.2.2.2.2.2.2.2.2.2.2.2.1 zc.2.2.2.2.2.2.2.2.2.2.2.2.1 zc.2.2.2.2.2.2.2.2.2.2.2.2.2.1 zc.2.2.2.2.2.2.2.2.2.2.2.2.2.2 u_text_size u_text_signs ts tl ti uM_people uM_owes uM_denies uM_debts uM_debt uM_cuts uM_cut uM_seen uM_sight uM_events uM_event uM_inBook uM_book uM_texted uM_text zm.2.1 zm.2.2 uM_tapeSort uM_tapeSize uM_items := by
  obtain ⟨hA, hK, hX, hQ⟩ := id hR
  obtain ⟨ow', od', re', tn', sn', en', bn', a1, a2, a3, a4, a5, a6, a7, a8⟩ := aft_n hA u_kept_debts_owed u_kept_debts_order u_kept_consents_refused u_kept_trail_numbers u_kept_seen_numbers u_kept_events_numbers u_kept_book_numbers
  obtain ⟨g, b1, b2, b3, b4, b5, b6, b7, c1, c2, c3, c4, c5, c6, c7⟩ := img_n uM_people uM_debts uM_cuts uM_seen uM_events uM_inBook uM_owes uM_denies uM_debt uM_cut uM_sight uM_event uM_book uM_image
  have hpe : u_now_people = uM_people := by
    obtain ⟨n, v, L, hn, e1, e2, _⟩ := hA
    rw [e1, e2]
  unfold fX8_image
  rw [a1, b1]
  simp only [Option.bind_some]
  refine ⟨_, _, rfl, rfl, hpe, hA, Or.inr ⟨rfl, rfl, ?_⟩, hX, hQ⟩
  show AffR _ _ _ _ _ _ _ _ _ _ _ _ _ (g 277) (fun j => g j) (fun j => g (36 + j)) (g 278) (fun j => g (72 + j)) (g 279) (fun j => g (102 + j)) (g 280) (fun j => g (222 + j)) (g 281) (fun j => g (237 + j)) (g 282) (fun j => g (253 + j))
  rw [b2, b3, b4, b5, b6, b7]
  exact hA.cp a2 a3 a4 a5 a6 a7 a8 c1 c2 c3 c4 c5 c6 c7
set_option maxHeartbeats 1000000 in
theorem p_undo {u_isKept u_now_people u_now_debts_size : Int32} {u_now_debts_owed u_now_debts_order u_now_consents_refused : (Nat → Int32)} {u_now_trail_size : Int32} {u_now_trail_numbers : (Nat → Int32)} {u_now_seen_size : Int32} {u_now_seen_numbers : (Nat → Int32)} {u_now_events_size : Int32} {u_now_events_numbers : (Nat → Int32)} {u_now_book_size : Int32} {u_now_book_numbers : (Nat → Int32)} {u_kept_people u_kept_debts_size : Int32} {u_kept_debts_owed u_kept_debts_order u_kept_consents_refused : (Nat → Int32)} {u_kept_trail_size : Int32} {u_kept_trail_numbers : (Nat → Int32)} {u_kept_seen_size : Int32} {u_kept_seen_numbers : (Nat → Int32)} {u_kept_events_size : Int32} {u_kept_events_numbers : (Nat → Int32)} {u_kept_book_size : Int32} {u_kept_book_numbers : (Nat → Int32)} {u_text_size : Int32} {u_text_signs : (Nat → Int32)} {uM_people uM_debts uM_cuts uM_seen uM_events uM_inBook uM_texted uM_imaged : Int32} {uM_owes uM_denies uM_debt uM_cut uM_sight uM_event uM_book uM_text uM_image uM_tapeSort uM_tapeSize : (Nat → Int32)} {uM_items : (Nat → Int64)} {ts tl : (Nat → Int32)} {ti : (Nat → Nat → Int64)} (hR : Rel u_now_people u_now_debts_size u_now_debts_owed u_now_debts_order u_now_consents_refused u_now_trail_size u_now_trail_numbers u_now_seen_size u_now_seen_numbers u_now_events_size u_now_events_numbers u_now_book_size u_now_book_numbers u_isKept u_kept_people u_kept_debts_size u_kept_debts_owed u_kept_debts_order u_kept_consents_refused u_kept_trail_size u_kept_trail_numbers u_kept_seen_size u_kept_seen_numbers u_kept_events_size u_kept_events_numbers u_kept_book_size u_kept_book_numbers u_text_size u_text_signs ts tl ti uM_people uM_owes uM_denies uM_debts uM_debt uM_cuts uM_cut uM_seen uM_sight uM_events uM_event uM_inBook uM_book uM_texted uM_text uM_imaged uM_image uM_tapeSort uM_tapeSize uM_items) :
    ∃ (zc : (Int32 × Int32 × Int32 × (Nat → Int32) × (Nat → Int32) × (Nat → Int32) × Int32 × (Nat → Int32) × Int32 × (Nat → Int32) × Int32 × (Nat → Int32) × Int32 × (Nat → Int32))) (zm : (Int32 × Int32 × Int32 × Int32 × Int32 × Int32 × Int32 × (Nat → Int32) × (Nat → Int32) × (Nat → Int32) × (Nat → Int32) × (Nat → Int32) × (Nat → Int32) × (Nat → Int32))), fX8_undo 120 15 24 24 120 15 24 24 u_isKept u_now_people u_now_debts_size u_now_debts_owed u_now_debts_order u_now_consents_refused 40 u_now_trail_size u_now_trail_numbers 5 u_now_seen_size u_now_seen_numbers 8 u_now_events_size u_now_events_numbers 8 u_now_book_size u_now_book_numbers u_kept_people u_kept_debts_size u_kept_debts_owed u_kept_debts_order u_kept_consents_refused u_kept_trail_size u_kept_trail_numbers u_kept_seen_size u_kept_seen_numbers u_kept_events_size u_kept_events_numbers u_kept_book_size u_kept_book_numbers = some zc ∧ fX9_undo uM_people uM_debts uM_cuts uM_seen uM_events uM_inBook uM_imaged uM_owes uM_denies uM_debt uM_cut uM_sight uM_event uM_book uM_image = some zm ∧ zc.1 = zm.1 ∧ Rel zc.2.1 zc.2.2.1 zc.2.2.2.1 zc.2.2.2.2.1 zc.2.2.2.2.2.1 zc.2.2.2.2.2.2.1 zc.2.2.2.2.2.2.2.1 zc.2.2.2.2.2.2.2.2.1 zc.2.2.2.2.2.2.2.2.2.1 zc.2.2.2.2.2.2.2.2.2.2.1 zc.2.2.2.2.2.2.2.2.2.2.2.1 zc.2.2.2.2.2.2.2.2.2.2.2.2.1 zc.2.2.2.2.2.2.2.2.2.2.2.2.2 u_isKept u_kept_people u_kept_debts_size u_kept_debts_owed u_kept_debts_order u_kept_consents_refused u_kept_trail_size u_kept_trail_numbers u_kept_seen_size u_kept_seen_numbers u_kept_events_size u_kept_events_numbers u_kept_book_size u_kept_book_numbers u_text_size u_text_signs ts tl ti zm.2.1 zm.2.2.2.2.2.2.2.1 zm.2.2.2.2.2.2.2.2.1 zm.2.2.1 zm.2.2.2.2.2.2.2.2.2.1 zm.2.2.2.1 zm.2.2.2.2.2.2.2.2.2.2.1 zm.2.2.2.2.1 zm.2.2.2.2.2.2.2.2.2.2.2.1 zm.2.2.2.2.2.1 zm.2.2.2.2.2.2.2.2.2.2.2.2.1 zm.2.2.2.2.2.2.1 zm.2.2.2.2.2.2.2.2.2.2.2.2.2 uM_texted uM_text uM_imaged uM_image uM_tapeSort uM_tapeSize uM_items := by
  obtain ⟨hA, hK, hX, hQ⟩ := id hR
  unfold fX8_undo
  rcases hK with ⟨rfl, rfl⟩ | ⟨rfl, rfl, hk⟩
  · unfold fX9_undo
    rw [if_pos rfl, if_pos rfl]
    exact ⟨_, _, rfl, rfl, rfl, hR⟩
  · obtain ⟨ow', od', re', tn', sn', en', bn', a1, a2, a3, a4, a5, a6, a7, a8⟩ := aft_n hk u_now_debts_owed u_now_debts_order u_now_consents_refused u_now_trail_numbers u_now_seen_numbers u_now_events_numbers u_now_book_numbers
    obtain ⟨mo, md, mr, mc, ms, me, mb, b1, c1, c2, c3, c4, c5, c6, c7⟩ := und_n uM_people uM_debts uM_cuts uM_seen uM_events uM_inBook uM_owes uM_denies uM_debt uM_cut uM_sight uM_event uM_book uM_image
    have hpe : u_kept_people = uM_image 277 := by
      obtain ⟨n, v, L, hn, e1, e2, _⟩ := hk
      rw [e1, e2]
    rw [if_neg (by decide), a1, b1]
    simp only [Option.bind_some]
    exact ⟨_, _, rfl, rfl, hpe, hk.cp a2 a3 a4 a5 a6 a7 a8 c1 c2 c3 c4 c5 c6 c7, Or.inr ⟨rfl, rfl, hk⟩, hX, hQ⟩
end
