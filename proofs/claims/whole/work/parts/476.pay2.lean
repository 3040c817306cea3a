/-! ===== payments read, looked at, made debts ===== -/
section
theorem at_n {N t k w : Nat} {num : Nat → Int32} (hN : 3 * t ≤ N) (hN2 : N ≤ 120) (hk : k < t) (hw : w ≤ 2) : fX5_at N (nI t) num (nI k) (nI w) = some (num (3 * k + w)) := by
  unfold fX5_at
  rw [if_neg (nI_pos (by omega)), if_neg (nI_ge hk (by omega)), if_neg (nI_pos (by omega)), if_pos (show nI w ≤ (2 : Int32) from nI_le hw (by decide)), nn3, pk_mul, nI_add, gA_n (by omega) (by omega), nI_clamp (by omega)]
theorem at_any {N t : Nat} {num : Nat → Int32} (hN : 3 * t ≤ N) (hN2 : N ≤ 120) (x y : Int32) : (∃ k w, k < t ∧ w ≤ 2 ∧ x = nI k ∧ y = nI w ∧ fX5_at N (nI t) num x y = some (num (3 * k + w))) ∨ (¬ (∃ k w, k < t ∧ w ≤ 2 ∧ x = nI k ∧ y = nI w) ∧ fX5_at N (nI t) num x y = some (-1)) := by
  have e2 : (2 : Int32).toInt = 2 := by decide
  have e0 : (0 : Int32).toInt = 0 := by decide
  rcases pk_ix x (n := t) (by omega) with h | h | ⟨k, hk, rfl⟩
  · right
    refine ⟨?_, ?_⟩
    · rintro ⟨k, w, h1, h2, rfl, rfl⟩
      exact absurd h (nI_pos (by omega))
    · unfold fX5_at; rw [if_pos h]
  · right
    refine ⟨?_, ?_⟩
    · rintro ⟨k, w, h1, h2, rfl, rfl⟩
      exact absurd h (nI_ge h1 (by omega))
    · unfold fX5_at
      by_cases h0 : x < 0
      · rw [if_pos h0]
      · rw [if_neg h0, if_pos h]
  · by_cases h1 : y < 0
    · right
      refine ⟨?_, ?_⟩
      · rintro ⟨k', w, g1, g2, _, rfl⟩
        exact absurd h1 (nI_pos (by omega))
      · unfold fX5_at
        rw [if_neg (nI_pos (by omega)), if_neg (nI_ge hk (by omega)), if_pos h1]
    · by_cases h2 : y ≤ 2
      · left
        have g1 : ¬ y.toInt < 0 := by rw [xlt, e0] at h1; exact h1
        have g2 : y.toInt ≤ 2 := by rw [xle, e2] at h2; exact h2
        have ey : y = nI y.toInt.toNat := by rw [← Int32.toInt_inj, nI_toInt (by omega)]; omega
        have h3 := at_n (N := N) (num := num) (k := k) (w := y.toInt.toNat) hN hN2 hk (by omega)
        rw [← ey] at h3
        exact ⟨k, y.toInt.toNat, hk, by omega, rfl, ey, h3⟩
      · right
        refine ⟨?_, ?_⟩
        · rintro ⟨k', w, g1, g2, _, rfl⟩
          exact h2 (nI_le g2 (by decide))
        · unfold fX5_at
          rw [if_neg (nI_pos (by omega)), if_neg (nI_ge hk (by omega)), if_neg h1, if_neg h2]
/-- the reference reads a row -/
theorem rd_any {N t : Nat} {num : Nat → Int32} (hN : 3 * t ≤ N) (hN2 : N ≤ 120) (x y : Int32) : (∃ k w, k < t ∧ w ≤ 2 ∧ x = nI k ∧ y = nI w ∧ ((fX9_within x 0 (nI t - 1)).bind (fun z1 => if z1 = 0 then (some (-1)) else ((fX9_within y 0 2).bind (fun z3 => if z3 = 0 then (some (-1)) else (gA ((3 * x) + y) N (some (num ((3 * x) + y).toNatClampNeg))))))) = some (num (3 * k + w))) ∨ (¬ (∃ k w, k < t ∧ w ≤ 2 ∧ x = nI k ∧ y = nI w) ∧ ((fX9_within x 0 (nI t - 1)).bind (fun z1 => if z1 = 0 then (some (-1)) else ((fX9_within y 0 2).bind (fun z3 => if z3 = 0 then (some (-1)) else (gA ((3 * x) + y) N (some (num ((3 * x) + y).toNatClampNeg))))))) = some (-1)) := by
  rcases wn t (by omega) x with ⟨k, hk, rfl, e⟩ | ⟨h, e⟩
  · rw [e]
    simp only [Option.bind_some, on0, if_false]
    rcases wi 0 2 (by decide) (by decide) y with ⟨w, _, hw, rfl, e2⟩ | ⟨h2, e2⟩
    · left
      refine ⟨k, w, hk, hw, rfl, rfl, ?_⟩
      rw [show fX9_within (nI w) 0 2 = some 1 from e2]
      simp only [Option.bind_some, on0, if_false]
      rw [nn3, pk_mul, nI_add, gA_n (by omega) (by omega), nI_clamp (by omega)]
    · right
      refine ⟨?_, ?_⟩
      · rintro ⟨k', w, g1, g2, _, rfl⟩
        rcases h2 with h2 | h2
        · exact absurd h2 (nI_pos (by omega))
        · exact absurd h2.2 (nI_nlt g2 (by decide))
      · rw [show fX9_within y 0 2 = some 0 from e2]; rfl
  · right
    refine ⟨?_, ?_⟩
    · rintro ⟨k, w, g1, g2, rfl, rfl⟩
      rcases h with h | h
      · exact absurd h (nI_pos (by omega))
      · exact absurd h.2 (nI_ge g1 (by omega))
    · rw [e]; rfl
/-- both read the same -/
theorem rd_same {N M t : Nat} {num mum : Nat → Int32} (hN : 3 * t ≤ N) (hN2 : N ≤ 120) (hM : 3 * t ≤ M) (hM2 : M ≤ 120) (h : ∀ k, k < 3 * t → num k = mum k) (x y : Int32) : ∃ z : Int32, fX5_at N (nI t) num x y = some z ∧ ((fX9_within x 0 (nI t - 1)).bind (fun z1 => if z1 = 0 then (some (-1)) else ((fX9_within y 0 2).bind (fun z3 => if z3 = 0 then (some (-1)) else (gA ((3 * x) + y) M (some (mum ((3 * x) + y).toNatClampNeg))))))) = some z := by
  rcases at_any (num := num) hN hN2 x y with ⟨k, w, hk, hw, rfl, rfl, e⟩ | ⟨hno, e⟩
  · rcases rd_any (num := mum) hM hM2 (nI k) (nI w) with ⟨k', w', hk', hw', ex, ey, e'⟩ | ⟨hno, e'⟩
    · have h1 := (nI_eq (a := k) (b := k') (by omega) (by omega)).mp ex
      have h2 := (nI_eq (a := w) (b := w') (by omega) (by omega)).mp ey
      subst h1 h2
      exact ⟨_, e, by rw [e', h _ (by omega)]⟩
    · exact absurd ⟨k, w, hk, hw, rfl, rfl⟩ hno
  · rcases rd_any (num := mum) hM hM2 x y with ⟨k', w', hk', hw', ex, ey, e'⟩ | ⟨hno', e'⟩
    · exact absurd ⟨k', w', hk', hw', ex, ey⟩ hno
    · exact ⟨_, e, e'⟩
theorem LR_same {f g : Nat → Int32} {L : List Nat} (h1 : LR f 0 L) (h2 : LR g 0 L) : ∀ k, k < L.length → f k = g k := fun k hk => by rw [LR_gp0 h1 hk, LR_gp0 h2 hk]
theorem pay_same {S : PS} {lf lm num mum : Nat → Int32} {sz sm : Int32} (h : S.2.length ≤ 6) (h1 : PR S lf sz num) (h2 : PR S lm sm mum) (x y : Int32) : ∃ z : Int32, fX5_at 18 sz num x y = some z ∧ fX9_paidOf sm mum x y = some z := by
  obtain ⟨_, rfl, a3⟩ := h1
  obtain ⟨_, rfl, b3⟩ := h2
  unfold fX9_paidOf
  exact rd_same (by omega) (by decide) (by omega) (by decide) (fun k hk => LR_same a3 b3 k (by rw [fl_len]; exact hk)) x y
-- each row of three
theorem fl_at {num : Nat → Int32} : ∀ (H : TL) (k : Nat), LR num (3 * k) (fl H) → ∀ x t, H = x :: t → num (3 * k) = nI x.1 ∧ num (3 * k + 1) = nI x.2.1 ∧ num (3 * k + 2) = nI x.2.2 ∧ LR num (3 * (k + 1)) (fl t)
  | [], _, _, _, _, h => by cases h
  | x :: t, k, h, y, u, e => by
    cases e
    simp only [fl, LR] at h
    exact ⟨h.1, h.2.1, h.2.2.1, h.2.2.2⟩
-- settling
def setI : TL → (Nat → Nat) × List Nat → (Nat → Nat) × List Nat
  | [], S => S
  | x :: t, S => setI t (sV S.1 (6 * x.1 + x.2.1) x.2.2, sL S.1 S.2 (6 * x.1 + x.2.1) x.2.2)
def okP (P : TL) : Bool := P.all (fun x => decide (x.2.2 ≤ 999))
theorem okP_cons {x : Nat × Nat × Nat} {t : TL} : okP (x :: t) = true ↔ x.2.2 ≤ 999 ∧ okP t = true := by
  unfold okP
  rw [List.all_cons, Bool.and_eq_true, decide_eq_true_iff]
/-- debts that are payments -/
def stl (v : Nat → Nat) (L : List Nat) : (Nat → Nat) × List Nat := if okP (PG v).2 = true then setI (PG v).2 (fun _ => 0, []) else (v, L)
theorem setI_W {n : Nat} (hn : n ≤ 6) : ∀ (P : TL) (S : (Nat → Nat) × List Nat), (∀ x ∈ P, TO n x) → okP P = true → DebW n S.1 S.2 → DebW n (setI P S).1 (setI P S).2
  | [], _, _, _, h => h
  | x :: t, S, hT, ho, h => by
    obtain ⟨o1, o2⟩ := okP_cons.mp ho
    obtain ⟨t1, t2, t3, t4, t5⟩ := hT x (List.mem_cons_self ..)
    simp only [setI]
    exact setI_W hn t _ (fun y hy => hT y (List.mem_cons_of_mem _ hy)) o2 (h.set _ _ (by omega) o1 (Or.inr ⟨by omega, by omega, by omega⟩))
theorem stl_W {n : Nat} {v : Nat → Nat} {L : List Nat} (hn : n ≤ 6) (hW : DebW n v L) : DebW n (stl v L).1 (stl v L).2 := by
  unfold stl
  by_cases e : okP (PG v).2 = true
  · rw [if_pos e]; exact setI_W hn _ _ (PG_PI hn hW).2.2.1 e (DebW_0 n)
  · rw [if_neg e]; exact hW
abbrev BTy : Type := Option (Int32 × Int32 × (Nat → Int32) × (Nat → Int32) × (Nat → Int32) × (Nat → Int32) × (Nat → Int32) × Int32 × (Nat → Int32) × Int32 × (Nat → Int32) × (Nat → Int32))
theorem bp1_l (kx : BTy) (a1 : Int32) (a2 a3 a4 a5 a6 : Nat → Int32) {num : Nat → Int32} {t : Nat} (ht : t ≤ 6) (b1 : Int32) (b2 b3 : Nat → Int32) : ∀ (H : TL) (fuel k : Nat), k + H.length = t → H.length < fuel → (∀ x ∈ H, x.2.2 ≤ 5994) → LR num (3 * k) (fl H) →
    fX8_becomePayments_L18 kx 18 a1 a2 a3 a4 a5 a6 (nI t) num b1 b2 b3 fuel (nI k) = if okP H = true then kx else some (0, a1, a2, a3, a4, a5, a6, nI t, num, b1, b2, b3)
  | [], fuel, k, he, hf, hb, h => by
    obtain ⟨f, rfl⟩ : ∃ f, fuel = f + 1 := ⟨fuel - 1, by simp only [List.length_nil] at hf; omega⟩
    simp only [List.length_nil, Nat.add_zero] at he
    rw [fX8_becomePayments_L18, fX5_size]
    simp only [Option.bind_some]
    rw [if_pos (nI_le (by omega) (by omega))]; rfl
  | x :: H, fuel, k, he, hf, hb, h => by
    obtain ⟨f, rfl⟩ : ∃ f, fuel = f + 1 := ⟨fuel - 1, by simp only [List.length_cons] at hf; omega⟩
    simp only [List.length_cons] at he hf
    obtain ⟨g1, g2, g3, g4⟩ := fl_at (x :: H) k h x H rfl
    have hx := hb x (List.mem_cons_self ..)
    rw [fX8_becomePayments_L18, fX5_size]
    simp only [Option.bind_some]
    rw [if_neg (nI_ge (by omega) (by omega)), show fX5_at 18 (nI t) num (nI k) 2 = _ from at_n (w := 2) (by omega) (by decide) (by omega) (by decide), g3]
    simp only [Option.bind_some, nI_1]
    by_cases e : x.2.2 ≤ 999
    · rw [if_pos (show nI x.2.2 ≤ (999 : Int32) from nI_le e (by decide)), bp1_l kx a1 a2 a3 a4 a5 a6 ht b1 b2 b3 H f (k + 1) (by omega) (by omega) (fun y hy => hb y (List.mem_cons_of_mem _ hy)) g4]
      by_cases e2 : okP H = true
      · rw [if_pos e2, if_pos (okP_cons.mpr ⟨e, e2⟩)]
      · rw [if_neg e2, if_neg (fun z => e2 (okP_cons.mp z).2)]
    · rw [if_neg (show ¬ nI x.2.2 ≤ (999 : Int32) from nI_ge (a := 999) (by omega) (by omega)), if_neg (fun z => e (okP_cons.mp z).1)]
theorem bp2_l {n : Nat} (hn : n ≤ 6) (a1 : Int32) (a2 a3 a4 a5 a6 : Nat → Int32) {num : Nat → Int32} {t : Nat} (ht : t ≤ 6) : ∀ (H : TL) (fuel k : Nat) (S : (Nat → Nat) × List Nat) (sz : Int32) (ow od : Nat → Int32), k + H.length = t → H.length < fuel → (∀ x ∈ H, TO n x) → okP H = true → LR num (3 * k) (fl H) → DebW n S.1 S.2 → DebR sz ow od S.1 S.2 →
    ∃ sz' ow' od', fX8_becomePayments_L52 18 a1 a2 a3 a4 a5 a6 (nI t) num fuel (nI k) sz ow od = some (1, a1, a2, a3, a4, a5, a6, nI t, num, sz', ow', od') ∧ DebR sz' ow' od' (setI H S).1 (setI H S).2
  | [], fuel, k, S, sz, ow, od, he, hf, hT, ho, h, hW, hR => by
    obtain ⟨f, rfl⟩ : ∃ f, fuel = f + 1 := ⟨fuel - 1, by simp only [List.length_nil] at hf; omega⟩
    simp only [List.length_nil, Nat.add_zero] at he
    rw [fX8_becomePayments_L52, fX5_size]
    simp only [Option.bind_some]
    rw [if_pos (nI_le (by omega) (by omega))]
    exact ⟨_, _, _, rfl, hR⟩
  | x :: H, fuel, k, S, sz, ow, od, he, hf, hT, ho, h, hW, hR => by
    obtain ⟨f, rfl⟩ : ∃ f, fuel = f + 1 := ⟨fuel - 1, by simp only [List.length_cons] at hf; omega⟩
    simp only [List.length_cons] at he hf
    obtain ⟨g1, g2, g3, g4⟩ := fl_at (x :: H) k h x H rfl
    obtain ⟨o1, o2⟩ := okP_cons.mp ho
    obtain ⟨t1, t2, t3, t4, t5⟩ := hT x (List.mem_cons_self ..)
    rw [fX8_becomePayments_L52, fX5_size]
    simp only [Option.bind_some]
    rw [if_neg (nI_ge (by omega) (by omega)), show fX5_at 18 (nI t) num (nI k) 0 = _ from at_n (w := 0) (by omega) (by decide) (by omega) (by decide), show fX5_at 18 (nI t) num (nI k) 1 = _ from at_n (w := 1) (by omega) (by decide) (by omega) (by decide), show fX5_at 18 (nI t) num (nI k) 2 = _ from at_n (w := 2) (by omega) (by decide) (by omega) (by decide), Nat.add_zero, g1, g2, g3]
    simp only [Option.bind_some, nI_1]
    obtain ⟨z, a, b⟩ := put_n (a := x.2.2) hW hR (show x.1 < 6 by omega) (show x.2.1 < 6 by omega) o1
    rw [a]
    simp only [Option.bind_some, setI]
    exact bp2_l hn a1 a2 a3 a4 a5 a6 ht H f (k + 1) _ _ _ _ (by omega) (by omega) (fun y hy => hT y (List.mem_cons_of_mem _ hy)) o2 g4 (hW.set _ _ (by omega) o1 (Or.inr ⟨by omega, by omega, by omega⟩)) b
theorem bp_n {n : Nat} {v : Nat → Nat} {L : List Nat} {ba lf su mo gr num : Nat → Int32} {sz : Int32} {ow od : Nat → Int32} (hn : n ≤ 6) (hW : DebW n v L) (hR : DebR sz ow od v L) :
    ∃ z, fX8_becomePayments 18 ba lf su mo gr 6 num sz ow od = some z ∧ z.1 = (if okP (PG v).2 = true then 1 else 0) ∧ DebR z.2.2.2.2.2.2.2.2.2.1 z.2.2.2.2.2.2.2.2.2.2.1 z.2.2.2.2.2.2.2.2.2.2.2 (stl v L).1 (stl v L).2 := by
  obtain ⟨⟨z1, z2, z3, z4, z5, z6, z7, z8⟩, a1, a2, a3, a4, a5⟩ := net_n (ba := ba) (lf := lf) (su := su) (mo := mo) (gr := gr) (num := num) hn hR.2.1 hW
  have hI := PG_PI hn hW
  obtain ⟨b1, b2, b3⟩ := a5
  simp only at b2 b3
  subst b2
  have hl : (PG v).2.length ≤ 6 := by have := hI.2.2.2; omega
  unfold fX8_becomePayments
  rw [a1]
  simp only [Option.bind_some]
  obtain ⟨y, c1, c2⟩ := clear_n (ow := ow) (od := od)
  rw [show (0 : Int32) = nI 0 from rfl, bp1_l _ _ _ _ _ _ _ hl _ _ _ (PG v).2 400 0 (by omega) (by omega) (fun x hx => (hI.2.2.1 x hx).2.2.2.2) b3]
  unfold stl
  by_cases e : okP (PG v).2 = true
  · rw [if_pos e, if_pos e, if_pos e, c1]
    simp only [Option.bind_some]
    obtain ⟨sz', ow', od', d1, d2⟩ := bp2_l hn z1 z2 z3 z4 z5 z6 hl (PG v).2 400 0 (fun _ => 0, []) y.1 y.2 od (by omega) (by omega) hI.2.2.1 e b3 (DebW_0 n) c2
    rw [d1]
    exact ⟨_, rfl, rfl, d2⟩
  · rw [if_neg e, if_neg e, if_neg e]
    exact ⟨_, rfl, rfl, hR⟩
abbrev STy : Type := Option (Int32 × Int32 × Int32 × Int32 × (Nat → Int32) × (Nat → Int32) × (Nat → Int32) × (Nat → Int32) × (Nat → Int32) × (Nat → Int32) × (Nat → Int32) × (Nat → Int32))
theorem rs1_l (kx : STy) (a1 a2 : Int32) (a3 a4 a5 a6 a7 a8 a9 : Nat → Int32) {num : Nat → Int32} {t : Nat} (ht : t ≤ 6) : ∀ (H : TL) (fuel k : Nat), k + H.length = t → H.length < fuel → (∀ x ∈ H, x.2.2 ≤ 5994) → LR num (3 * k) (fl H) →
    fX9_settles_L6 kx a1 a2 (nI t) a3 a4 a5 a6 a7 a8 a9 num fuel (nI k) = if okP H = true then kx else some (0, a1, a2, nI t, a3, a4, a5, a6, a7, a8, a9, num)
  | [], fuel, k, he, hf, hb, h => by
    obtain ⟨f, rfl⟩ : ∃ f, fuel = f + 1 := ⟨fuel - 1, by simp only [List.length_nil] at hf; omega⟩
    simp only [List.length_nil, Nat.add_zero] at he
    rw [fX9_settles_L6, if_pos (nI_le (by omega) (by omega))]; rfl
  | x :: H, fuel, k, he, hf, hb, h => by
    obtain ⟨f, rfl⟩ : ∃ f, fuel = f + 1 := ⟨fuel - 1, by simp only [List.length_cons] at hf; omega⟩
    simp only [List.length_cons] at he hf
    obtain ⟨g1, g2, g3, g4⟩ := fl_at (x :: H) k h x H rfl
    have hx := hb x (List.mem_cons_self ..)
    rw [fX9_settles_L6, if_neg (nI_ge (by omega) (by omega)), nn3, pk_mul, nn2, nI_add, gA_n (by omega) (by decide), nI_clamp (by omega), g3, nI_1]
    by_cases e : x.2.2 ≤ 999
    · rw [if_pos (show nI x.2.2 ≤ (999 : Int32) from nI_le e (by decide)), rs1_l kx a1 a2 a3 a4 a5 a6 a7 a8 a9 ht H f (k + 1) (by omega) (by omega) (fun y hy => hb y (List.mem_cons_of_mem _ hy)) g4]
      by_cases e2 : okP H = true
      · rw [if_pos e2, if_pos (okP_cons.mpr ⟨e, e2⟩)]
      · rw [if_neg e2, if_neg (fun z => e2 (okP_cons.mp z).2)]
    · rw [if_neg (show ¬ nI x.2.2 ≤ (999 : Int32) from nI_ge (a := 999) (by omega) (by omega)), if_neg (fun z => e (okP_cons.mp z).1)]
theorem rs2_l (kx : (Nat → Int32) → STy) : ∀ (r fuel k : Nat) (o : Nat → Int32), k + r = 36 → r < fuel → (∀ j, j < k → o j = 0) →
    ∃ o', fX9_settles_L40 kx fuel (nI k) o = kx o' ∧ ∀ j, j < 36 → o' j = 0
  | 0, fuel, k, o, he, hf, h => by
    obtain ⟨f, rfl⟩ : ∃ f, fuel = f + 1 := ⟨fuel - 1, by omega⟩
    rw [fX9_settles_L40, if_pos (e36 (by omega) (by omega))]
    exact ⟨o, rfl, fun j hj => h j (by omega)⟩
  | r + 1, fuel, k, o, he, hf, h => by
    obtain ⟨f, rfl⟩ : ∃ f, fuel = f + 1 := ⟨fuel - 1, by omega⟩
    rw [fX9_settles_L40, if_neg (g36 (by omega)), gA_n (by omega) (by decide), nI_clamp (by omega), nI_1]
    refine rs2_l kx r f (k + 1) _ (by omega) (by omega) (fun j hj => ?_)
    rw [up_eq]
    by_cases e : j = k
    · rw [if_pos e]
    · rw [if_neg e]; exact h j (by omega)
theorem rs3_l {n : Nat} (hn : n ≤ 6) (a2 : Int32) (a5 a6 a7 a8 a9 : Nat → Int32) {num : Nat → Int32} {t : Nat} (ht : t ≤ 6) : ∀ (H : TL) (fuel k : Nat) (S : (Nat → Nat) × List Nat) (sz : Int32) (ow od : Nat → Int32), k + H.length = t → H.length < fuel → (∀ x ∈ H, TO n x) → okP H = true → LR num (3 * k) (fl H) → DebW n S.1 S.2 → DebR sz ow od S.1 S.2 →
    ∃ sz' ow' od', fX9_settles_L66 a2 (nI t) a5 a6 a7 a8 a9 num fuel (nI k) sz ow od = some (1, sz', a2, nI t, ow', od', a5, a6, a7, a8, a9, num) ∧ DebR sz' ow' od' (setI H S).1 (setI H S).2
  | [], fuel, k, S, sz, ow, od, he, hf, hT, ho, h, hW, hR => by
    obtain ⟨f, rfl⟩ : ∃ f, fuel = f + 1 := ⟨fuel - 1, by simp only [List.length_nil] at hf; omega⟩
    simp only [List.length_nil, Nat.add_zero] at he
    rw [fX9_settles_L66, if_pos (nI_le (by omega) (by omega))]
    exact ⟨_, _, _, rfl, hR⟩
  | x :: H, fuel, k, S, sz, ow, od, he, hf, hT, ho, h, hW, hR => by
    obtain ⟨f, rfl⟩ : ∃ f, fuel = f + 1 := ⟨fuel - 1, by simp only [List.length_cons] at hf; omega⟩
    simp only [List.length_cons] at he hf
    obtain ⟨g1, g2, g3, g4⟩ := fl_at (x :: H) k h x H rfl
    obtain ⟨o1, o2⟩ := okP_cons.mp ho
    obtain ⟨t1, t2, t3, t4, t5⟩ := hT x (List.mem_cons_self ..)
    rw [fX9_settles_L66, if_neg (nI_ge (by omega) (by omega)), nn3, pk_mul, nn1, nI_add, nn2, nI_add, nI_add, gA_n (by omega) (by decide), gA_n (by omega) (by decide), gA_n (by omega) (by decide), nI_clamp (by omega), nI_clamp (by omega), nI_clamp (by omega), g1, g2, g3, ix6']
    obtain ⟨z, a, b⟩ := becomes_n (c := 6 * x.1 + x.2.1) (a := x.2.2) hW hR (by omega) o1 (Or.inr ⟨by omega, by omega, by omega⟩)
    rw [a]
    simp only [Option.bind_some, setI]
    exact rs3_l hn a2 a5 a6 a7 a8 a9 ht H f (k + 1) _ _ _ _ (by omega) (by omega) (fun y hy => hT y (List.mem_cons_of_mem _ hy)) o2 g4 (hW.set _ _ (by omega) o1 (Or.inr ⟨by omega, by omega, by omega⟩)) b
theorem rset_n {n : Nat} {v : Nat → Nat} {L : List Nat} {ba lf su pa gr num : Nat → Int32} {sz : Int32} {ow od : Nat → Int32} (hn : n ≤ 6) (hW : DebW n v L) (hR : DebR sz ow od v L) :
    ∃ z, fX9_settles (nI n) sz ow od ba lf su pa gr num = some z ∧ z.1 = (if okP (PG v).2 = true then 1 else 0) ∧ DebR z.2.1 z.2.2.2.2.1 z.2.2.2.2.2.1 (stl v L).1 (stl v L).2 := by
  obtain ⟨⟨z1, z2, z3, z4, z5, z6, z7, z8⟩, a1, a2, b1, b2, b3⟩ := payments_n (ba := ba) (lf := lf) (su := su) (pa := pa) (gr := gr) (num := num) hn hR.2.1 hW
  have hI := PG_PI hn hW
  simp only at b2 b3
  subst b2
  have hl : (PG v).2.length ≤ 6 := by have := hI.2.2.2; omega
  unfold fX9_settles
  rw [a1]
  simp only [Option.bind_some]
  rw [show (0 : Int32) = nI 0 from rfl, rs1_l _ _ _ _ _ _ _ _ _ _ hl (PG v).2 400 0 (by omega) (by omega) (fun x hx => (hI.2.2.1 x hx).2.2.2.2) b3]
  unfold stl
  by_cases e : okP (PG v).2 = true
  · rw [if_pos e, if_pos e, if_pos e]
    obtain ⟨o', c1, c2⟩ := rs2_l (fun (u_owes_8 : (Nat → Int32)) => fX9_settles_L66 z1 (nI (PG v).2.length) z3 z4 z5 z6 z7 z8 400 (nI 0) (nI 0) u_owes_8 od) 36 400 0 ow rfl (by decide) (fun j hj => absurd hj (Nat.not_lt_zero _))
    rw [c1]
    obtain ⟨sz', ow', od', d1, d2⟩ := rs3_l hn z1 z3 z4 z5 z6 z7 hl (PG v).2 400 0 (fun _ => 0, []) (nI 0) o' od (by omega) (by omega) hI.2.2.1 e b3 (DebW_0 n) ⟨rfl, c2, fun k hk => absurd hk (Nat.not_lt_zero _)⟩
    rw [d1]
    exact ⟨_, rfl, rfl, d2⟩
  · rw [if_neg e, if_neg e, if_neg e]
    exact ⟨_, rfl, rfl, hR⟩
-- is it among the payments
def hasP (x y z : Int32) : TL → Bool
  | [] => false
  | p :: t => (decide (nI p.1 = x) && decide (nI p.2.1 = y) && decide (nI p.2.2 = z)) || hasP x y z t
theorem has_l {num : Nat → Int32} {t : Nat} (ht : t ≤ 6) (x y z : Int32) : ∀ (H : TL) (fuel k : Nat), k + H.length = t → H.length < fuel → LR num (3 * k) (fl H) → fX5_has_L3 18 (nI t) num x y z fuel (nI k) = some (if hasP x y z H = true then 1 else 0)
  | [], fuel, k, he, hf, h => by
    obtain ⟨f, rfl⟩ : ∃ f, fuel = f + 1 := ⟨fuel - 1, by simp only [List.length_nil] at hf; omega⟩
    simp only [List.length_nil, Nat.add_zero] at he
    rw [fX5_has_L3, if_pos (nI_le (by omega) (by omega))]; rfl
  | p :: H, fuel, k, he, hf, h => by
    obtain ⟨f, rfl⟩ : ∃ f, fuel = f + 1 := ⟨fuel - 1, by simp only [List.length_cons] at hf; omega⟩
    simp only [List.length_cons] at he hf
    obtain ⟨g1, g2, g3, g4⟩ := fl_at (p :: H) k h p H rfl
    rw [fX5_has_L3, if_neg (nI_ge (by omega) (by omega)), show fX5_at 18 (nI t) num (nI k) 0 = _ from at_n (w := 0) (by omega) (by decide) (by omega) (by decide), show fX5_at 18 (nI t) num (nI k) 1 = _ from at_n (w := 1) (by omega) (by decide) (by omega) (by decide), show fX5_at 18 (nI t) num (nI k) 2 = _ from at_n (w := 2) (by omega) (by decide) (by omega) (by decide), Nat.add_zero, g1, g2, g3, nI_1, has_l ht x y z H f (k + 1) (by omega) (by omega) g4]
    simp only [Option.bind_some]
    by_cases e1 : nI p.1 = x
    · by_cases e2 : nI p.2.1 = y
      · by_cases e3 : nI p.2.2 = z
        · simp [hasP, e1, e2, e3]
        · simp [hasP, e1, e2, e3]
      · simp [hasP, e1, e2]
    · simp [hasP, e1]
theorem isp_l {num : Nat → Int32} {t : Nat} (ht : t ≤ 6) (x y z : Int32) : ∀ (H : TL) (fuel k : Nat), k + H.length = t → H.length < fuel → LR num (3 * k) (fl H) → fX9_isPaid_L3 (nI t) num x y z fuel (nI k) = some (if hasP x y z H = true then 1 else 0)
  | [], fuel, k, he, hf, h => by
    obtain ⟨f, rfl⟩ : ∃ f, fuel = f + 1 := ⟨fuel - 1, by simp only [List.length_nil] at hf; omega⟩
    simp only [List.length_nil, Nat.add_zero] at he
    rw [fX9_isPaid_L3, if_pos (nI_le (by omega) (by omega))]; rfl
  | p :: H, fuel, k, he, hf, h => by
    obtain ⟨f, rfl⟩ : ∃ f, fuel = f + 1 := ⟨fuel - 1, by simp only [List.length_cons] at hf; omega⟩
    simp only [List.length_cons] at he hf
    obtain ⟨g1, g2, g3, g4⟩ := fl_at (p :: H) k h p H rfl
    have ih := isp_l ht x y z H f (k + 1) (by omega) (by omega) g4
    rw [fX9_isPaid_L3, if_neg (nI_ge (by omega) (by omega)), nI_1, ih, nn3, pk_mul, show nI (3 * k) + 1 = nI (3 * k + 1) from nI_1 _, show nI (3 * k) + 2 = nI (3 * k + 2) from nI_add _ 2, gA_n (by omega) (by decide), gA_n (by omega) (by decide), gA_n (by omega) (by decide), nI_clamp (by omega), nI_clamp (by omega), nI_clamp (by omega), g1, g2, g3]
    by_cases e1 : nI p.1 = x
    · by_cases e2 : nI p.2.1 = y
      · by_cases e3 : nI p.2.2 = z
        · simp [hasP, e1, e2, e3]
        · simp [hasP, e1, e2, e3]
      · simp [hasP, e1, e2]
    · simp [hasP, e1]
theorem has_n {S : PS} {lf num : Nat → Int32} {sz : Int32} (h : S.2.length ≤ 6) (h1 : PR S lf sz num) (x y z : Int32) : fX5_has 18 sz num x y z = some (if hasP x y z S.2 = true then 1 else 0) := by
  obtain ⟨_, rfl, a3⟩ := h1
  exact has_l h x y z S.2 400 0 (by omega) (by omega) a3
theorem isp_n {S : PS} {lf num : Nat → Int32} {sz : Int32} (h : S.2.length ≤ 6) (h1 : PR S lf sz num) (x y z : Int32) : fX9_isPaid sz num x y z = some (if hasP x y z S.2 = true then 1 else 0) := by
  obtain ⟨_, rfl, a3⟩ := h1
  exact isp_l h x y z S.2 400 0 (by omega) (by omega) a3
/-- the first row that isn't paid -/
def fuI (P : TL) (num : Nat → Int32) : Nat → Nat → Int32
  | 0, _ => -5
  | r + 1, k => if hasP (num (3 * k)) (num (3 * k + 1)) (num (3 * k + 2)) P = true then fuI P num r (k + 1) else nI k
theorem fu_l {S : PS} {lf pn num : Nat → Int32} {sz : Int32} {N t : Nat} (h : S.2.length ≤ 6) (h1 : PR S lf sz pn) (hN : 3 * t ≤ N) (hN2 : N ≤ 120) : ∀ (r fuel k : Nat), k + r = t → r < fuel → fX8_firstUnpaid_L2 18 N sz pn (nI t) num fuel (nI k) = some (fuI S.2 num r k)
  | 0, fuel, k, he, hf => by
    obtain ⟨f, rfl⟩ : ∃ f, fuel = f + 1 := ⟨fuel - 1, by omega⟩
    rw [fX8_firstUnpaid_L2, fX5_size]
    simp only [Option.bind_some]
    rw [if_pos (nI_le (by omega) (by omega))]; rfl
  | r + 1, fuel, k, he, hf => by
    obtain ⟨f, rfl⟩ : ∃ f, fuel = f + 1 := ⟨fuel - 1, by omega⟩
    rw [fX8_firstUnpaid_L2, fX5_size]
    simp only [Option.bind_some]
    rw [if_neg (nI_ge (by omega) (by omega)), show fX5_at N (nI t) num (nI k) 0 = _ from at_n (w := 0) hN hN2 (by omega) (by decide), show fX5_at N (nI t) num (nI k) 1 = _ from at_n (w := 1) hN hN2 (by omega) (by decide), show fX5_at N (nI t) num (nI k) 2 = _ from at_n (w := 2) hN hN2 (by omega) (by decide)]
    simp only [Option.bind_some, Nat.add_zero]
    rw [has_n h h1]
    simp only [Option.bind_some, fuI, nI_1]
    by_cases e : hasP (num (3 * k)) (num (3 * k + 1)) (num (3 * k + 2)) S.2 = true
    · rw [if_pos e, if_neg (by decide), if_pos e]
      exact fu_l h h1 hN hN2 r f (k + 1) (by omega) (by omega)
    · rw [if_neg e, if_pos rfl, if_neg e]
theorem fuI_cong {P : TL} {num mum : Nat → Int32} {t : Nat} (h : ∀ k, k < 3 * t → num k = mum k) : ∀ r k, k + r = t → fuI P num r k = fuI P mum r k
  | 0, _, _ => rfl
  | r + 1, k, he => by
    simp only [fuI]
    rw [h (3 * k) (by omega), h (3 * k + 1) (by omega), h (3 * k + 2) (by omega), fuI_cong h r (k + 1) (by omega)]
theorem lk_l {S : PS} {lf pn num : Nat → Int32} {sz : Int32} {t : Nat} (g1 : Int32) (g2 g3 g4 g5 g6 : Nat → Int32) (h : S.2.length ≤ 6) (h1 : PR S lf sz pn) (ht : t ≤ 8) : ∀ (r fuel k : Nat), k + r = t → r < fuel → fX9_looked_L6 (nI t) g1 sz num g2 g3 g4 g5 g6 pn fuel (nI k) = some (fuI S.2 num r k, g1, sz, g2, g3, g4, g5, g6, pn)
  | 0, fuel, k, he, hf => by
    obtain ⟨f, rfl⟩ : ∃ f, fuel = f + 1 := ⟨fuel - 1, by omega⟩
    rw [fX9_looked_L6, if_pos (nI_le (by omega) (by omega))]; rfl
  | r + 1, fuel, k, he, hf => by
    obtain ⟨f, rfl⟩ : ∃ f, fuel = f + 1 := ⟨fuel - 1, by omega⟩
    rw [fX9_looked_L6, if_neg (nI_ge (by omega) (by omega)), nn3, pk_mul, show nI (3 * k) + 1 = nI (3 * k + 1) from nI_1 _, show nI (3 * k) + 2 = nI (3 * k + 2) from nI_add _ 2, gA_n (by omega) (by decide), gA_n (by omega) (by decide), gA_n (by omega) (by decide), nI_clamp (by omega), nI_clamp (by omega), nI_clamp (by omega), isp_n h h1, nI_1]
    simp only [Option.bind_some, fuI]
    by_cases e : hasP (num (3 * k)) (num (3 * k + 1)) (num (3 * k + 2)) S.2 = true
    · rw [if_pos e, if_neg (by decide), if_pos e]
      exact lk_l g1 g2 g3 g4 g5 g6 h h1 ht r f (k + 1) (by omega) (by omega)
    · rw [if_neg e, if_pos rfl, if_neg e]
theorem fi_l {S : PS} {lf pn num : Nat → Int32} {sz : Int32} {t : Nat} (g1 : Int32) (g2 g3 g4 g5 g6 : Nat → Int32) (h : S.2.length ≤ 6) (h1 : PR S lf sz pn) (ht : t ≤ 5) : ∀ (r fuel k : Nat), k + r = t → r < fuel → fX9_fits_L6 (nI t) g1 sz num g2 g3 g4 g5 g6 pn fuel (nI k) = some (if fuI S.2 num r k = -5 then 1 else 0, g1, sz, g2, g3, g4, g5, g6, pn)
  | 0, fuel, k, he, hf => by
    obtain ⟨f, rfl⟩ : ∃ f, fuel = f + 1 := ⟨fuel - 1, by omega⟩
    rw [fX9_fits_L6, if_pos (nI_le (by omega) (by omega))]; rfl
  | r + 1, fuel, k, he, hf => by
    obtain ⟨f, rfl⟩ : ∃ f, fuel = f + 1 := ⟨fuel - 1, by omega⟩
    rw [fX9_fits_L6, if_neg (nI_ge (by omega) (by omega)), nn3, pk_mul, show nI (3 * k) + 1 = nI (3 * k + 1) from nI_1 _, show nI (3 * k) + 2 = nI (3 * k + 2) from nI_add _ 2, gA_n (by omega) (by decide), gA_n (by omega) (by decide), gA_n (by omega) (by decide), nI_clamp (by omega), nI_clamp (by omega), nI_clamp (by omega), isp_n h h1, nI_1]
    simp only [Option.bind_some]
    by_cases e : hasP (num (3 * k)) (num (3 * k + 1)) (num (3 * k + 2)) S.2 = true
    · have hfu : fuI S.2 num (r + 1) k = fuI S.2 num r (k + 1) := if_pos e
      rw [if_pos e, if_neg (by decide), hfu]
      exact fi_l g1 g2 g3 g4 g5 g6 h h1 ht r f (k + 1) (by omega) (by omega)
    · have hfu : fuI S.2 num (r + 1) k = nI k := if_neg e
      rw [if_neg e, if_pos rfl, hfu, if_neg (by rw [nI_em5 (by omega)]; exact id)]
end
