/-! ===== what is above, open, kept; lowest terms ===== -/
section
def abv (f : Nat → Int) : Nat → Int
  | 0 => 0
  | k + 1 => abv f k + (if f k ≤ 0 then 0 else f k)
theorem abv_n {f : Nat → Int} {n : Nat} (h : ∀ p, n ≤ p → p < 6 → f p = 0) : ∀ d, n + d ≤ 6 → abv f (n + d) = abv f n
  | 0, _ => rfl
  | d + 1, hd => by
    rw [show n + (d + 1) = n + d + 1 from rfl]
    simp only [abv]
    rw [h (n + d) (by omega) (by omega), abv_n h d (by omega)]; simp
theorem cab_l {f : Nat → Int} {a : Nat → Int32} (hb : ∀ p, p < 6 → -5994 ≤ f p ∧ f p ≤ 5994) (ha : ∀ p, p < 6 → a p = zI (f p)) : ∀ (r fuel k : Nat), k + r = 6 → r < fuel → fX3_above_L4 6 a fuel (zI (abv f k)) (nI k) = some (zI (abv f 6))
  | 0, fuel, k, he, hf => by
    obtain ⟨fu, rfl⟩ : ∃ f, fuel = f + 1 := ⟨fuel - 1, by omega⟩
    rw [fX3_above_L4, if_pos (show Int32.ofNat 6 ≤ nI k from nI_le (a := 6) (by omega) (by omega)), show k = 6 from by omega]
  | r + 1, fuel, k, he, hf => by
    obtain ⟨fu, rfl⟩ : ∃ f, fuel = f + 1 := ⟨fuel - 1, by omega⟩
    have h := hb k (by omega)
    rw [fX3_above_L4, if_neg (show ¬ Int32.ofNat 6 ≤ nI k from nI_ge (b := 6) (by omega) (by omega)), gA_n (by omega) (by decide), nI_clamp (by omega), ha k (by omega), nI_1]
    have e : (if zI (f k) < 0 then (0 : Int32) else zI (f k)) = zI (if f k ≤ 0 then 0 else f k) := by
      by_cases h1 : f k < 0
      · rw [if_pos (by rw [zI_0, zI_lt (by omega) (by omega)]; exact h1), if_pos (by omega)]; rfl
      · rw [if_neg (by rw [zI_0, zI_lt (by omega) (by omega)]; exact h1)]
        by_cases h2 : f k ≤ 0
        · rw [if_pos h2, show f k = 0 from by omega]
        · rw [if_neg h2]
    rw [e, zI_add]
    exact cab_l hb ha r fu (k + 1) (by omega) (by omega)
theorem rab_l {n : Nat} {f : Nat → Int} {a : Nat → Int32} (hn : n ≤ 6) (hb : ∀ p, p < 6 → -5994 ≤ f p ∧ f p ≤ 5994) (ha : ∀ p, p < 6 → a p = zI (f p)) : ∀ (r fuel k : Nat), k + r = n → r < fuel → fX9_above_L4 (nI n) a fuel (zI (abv f k)) (nI k) = some (zI (abv f n))
  | 0, fuel, k, he, hf => by
    obtain ⟨fu, rfl⟩ : ∃ f, fuel = f + 1 := ⟨fuel - 1, by omega⟩
    rw [fX9_above_L4, if_pos (nI_le (by omega) (by omega)), show k = n from by omega]
  | r + 1, fuel, k, he, hf => by
    obtain ⟨fu, rfl⟩ : ∃ f, fuel = f + 1 := ⟨fuel - 1, by omega⟩
    have h := hb k (by omega)
    have ih := rab_l hn hb ha r fu (k + 1) (by omega) (by omega)
    simp only [abv] at ih
    rw [fX9_above_L4, if_neg (nI_ge (by omega) (by omega)), gA_n (by omega) (by decide), nI_clamp (by omega), ha k (by omega), nI_1]
    by_cases h2 : f k ≤ 0
    · rw [if_pos h2, Int.add_zero] at ih
      rw [if_pos (by rw [zI_0, zI_le (by omega) (by omega)]; exact h2)]
      exact ih
    · rw [if_neg h2] at ih
      rw [if_neg (by rw [zI_0, zI_le (by omega) (by omega)]; exact h2), gA_n (by omega) (by decide), zI_add]
      exact ih
theorem cab_n {f : Nat → Int} {a : Nat → Int32} (hb : ∀ p, p < 6 → -5994 ≤ f p ∧ f p ≤ 5994) (ha : ∀ p, p < 6 → a p = zI (f p)) : fX3_above 6 a = some (zI (abv f 6)) := cab_l hb ha 6 400 0 rfl (by decide)
theorem rab_n {n : Nat} {f : Nat → Int} {a : Nat → Int32} (hn : n ≤ 6) (hb : ∀ p, p < 6 → -5994 ≤ f p ∧ f p ≤ 5994) (h0 : ∀ p, n ≤ p → p < 6 → f p = 0) (ha : ∀ p, p < 6 → a p = zI (f p)) : fX9_above (nI n) a = some (zI (abv f 6)) := by
  have h := abv_n h0 (6 - n) (by omega)
  rw [show n + (6 - n) = 6 from by omega] at h
  rw [h]
  exact rab_l hn hb ha n 400 0 (by omega) (by omega)
theorem bitc_n {s : Nat} (h : s < 64) : fJ6_bitCount_0f7a4 (nI s) = some (nI (pcS s)) := all64 (P := fun s => fJ6_bitCount_0f7a4 (nI s) = some (nI (pcS s))) (by decide +kernel) h
theorem pc_op (B : Nat → Int) : pcS (opI B 6) = nz B 6 := by
  unfold pcS
  rw [opI_bit, opI_bit, opI_bit, opI_bit, opI_bit, opI_bit]
  simp only [nz]
  by_cases e0 : B 0 = 0 <;> by_cases e1 : B 1 = 0 <;> by_cases e2 : B 2 = 0 <;> by_cases e3 : B 3 = 0 <;> by_cases e4 : B 4 = 0 <;> by_cases e5 : B 5 = 0 <;> simp [e0, e1, e2, e3, e4, e5]
theorem nz_n {f : Nat → Int} {n : Nat} (h : ∀ p, n ≤ p → p < 6 → f p = 0) : ∀ d, n + d ≤ 6 → nz f (n + d) = nz f n
  | 0, _ => rfl
  | d + 1, hd => by
    rw [show n + (d + 1) = n + d + 1 from rfl]
    simp only [nz]
    rw [if_pos (h (n + d) (by omega) (by omega)), nz_n h d (by omega)]; rfl
theorem rop_l {n : Nat} {f : Nat → Int} {a : Nat → Int32} (hn : n ≤ 6) (hb : ∀ p, p < 6 → -5994 ≤ f p ∧ f p ≤ 5994) (ha : ∀ p, p < 6 → a p = zI (f p)) : ∀ (r fuel k : Nat), k + r = n → r < fuel → fX9_open_L8 (nI n) a fuel (nI (nz f k)) (nI k) = some (nI (nz f n), a)
  | 0, fuel, k, he, hf => by
    obtain ⟨fu, rfl⟩ : ∃ f, fuel = f + 1 := ⟨fuel - 1, by omega⟩
    rw [fX9_open_L8, if_pos (nI_le (by omega) (by omega)), show k = n from by omega]
  | r + 1, fuel, k, he, hf => by
    obtain ⟨fu, rfl⟩ : ∃ f, fuel = f + 1 := ⟨fuel - 1, by omega⟩
    have h := hb k (by omega)
    have ih := rop_l hn hb ha r fu (k + 1) (by omega) (by omega)
    simp only [nz] at ih
    rw [fX9_open_L8, if_neg (nI_ge (by omega) (by omega)), gA_n (by omega) (by decide), nI_clamp (by omega), ha k (by omega), nI_1]
    by_cases h2 : f k = 0
    · rw [if_pos h2, Nat.add_zero] at ih
      rw [if_pos (by rw [h2]; rfl)]
      exact ih
    · rw [if_neg h2] at ih
      rw [if_neg (by rw [zI_0, zI_eq (by omega) (by omega)]; exact h2), nI_1]
      exact ih
theorem rop_n {n : Nat} {v : Nat → Nat} {L : List Nat} {ow b : Nat → Int32} (hn : n ≤ 6) (hW : DebW n v L) (ho : ∀ k, k < 36 → ow k = nI (v k)) : ∃ z, fX9_open (nI n) ow b = some z ∧ z.1 = nI (nz (bal v) 6) := by
  obtain ⟨z, a1, a2⟩ := bals_n (b := b) hn ho hW.out
  have hB := BB_bal hW.1
  have h := nz_n (f := bal v) (n := n) (fun p h1 h2 => bal_out hW.out h2 h1) (6 - n) (by omega)
  rw [show n + (6 - n) = 6 from by omega] at h
  unfold fX9_open
  rw [a1]
  simp only [Option.bind_some]
  rw [show fX9_open_L8 (nI n) z 400 0 0 = _ from rop_l hn hB.1 a2 n 400 0 (by omega) (by omega)]
  exact ⟨_, rfl, by rw [h]⟩
-- kept
def kp (re : Nat → Int32) : TL → Nat
  | [] => 0
  | x :: t => (if re (6 * x.1 + x.2.1) = 0 then 1 else 0) + kp re t
theorem asn (z : Int32) (h : z = 0 ∨ z = 1) : fX8_asNumber z = some z := by rcases h with rfl | rfl <;> rfl
theorem ckp_l {n : Nat} {re : Nat → Int32} {num : Nat → Int32} {t : Nat} (hn : n ≤ 6) (ht : t ≤ 6) : ∀ (H : TL) (fuel k acc : Nat), k + H.length = t → H.length < fuel → (∀ x ∈ H, TO n x) → LR num (3 * k) (fl H) → fX8_consentedPayments_L12 18 re (nI t) num fuel (nI acc) (nI k) = some (nI (acc + kp re H))
  | [], fuel, k, acc, he, hf, hT, h => by
    obtain ⟨f, rfl⟩ : ∃ f, fuel = f + 1 := ⟨fuel - 1, by simp only [List.length_nil] at hf; omega⟩
    simp only [List.length_nil, Nat.add_zero] at he
    rw [fX8_consentedPayments_L12, fX5_size]
    simp only [Option.bind_some]
    rw [if_pos (nI_le (by omega) (by omega))]; rfl
  | x :: H, fuel, k, acc, he, hf, hT, h => by
    obtain ⟨f, rfl⟩ : ∃ f, fuel = f + 1 := ⟨fuel - 1, by simp only [List.length_cons] at hf; omega⟩
    simp only [List.length_cons] at he hf
    obtain ⟨g1, g2, g3, g4⟩ := fl_at (x :: H) k h x H rfl
    obtain ⟨t1, t2, t3, t4, t5⟩ := hT x (List.mem_cons_self ..)
    have ih := fun acc => ckp_l (re := re) hn ht H f (k + 1) acc (by omega) (by omega) (fun y hy => hT y (List.mem_cons_of_mem _ hy)) g4
    rw [fX8_consentedPayments_L12, fX5_size]
    simp only [Option.bind_some]
    rw [if_neg (nI_ge (by omega) (by omega)), show fX5_at 18 (nI t) num (nI k) 0 = _ from at_n (w := 0) (by omega) (by decide) (by omega) (by decide), show fX5_at 18 (nI t) num (nI k) 1 = _ from at_n (w := 1) (by omega) (by decide) (by omega) (by decide), Nat.add_zero, g1, g2, nI_1]
    simp only [Option.bind_some]
    rw [given_n (by omega) (by omega)]
    simp only [Option.bind_some, kp]
    by_cases e : re (6 * x.1 + x.2.1) = 0
    · rw [if_pos e, if_pos e, asn 1 (Or.inr rfl)]
      simp only [Option.bind_some]
      rw [nI_1, ih, Nat.add_assoc]
    · rw [if_neg e, if_neg e, asn 0 (Or.inl rfl)]
      simp only [Option.bind_some]
      rw [show nI acc + 0 = nI acc from nI_add acc 0, ih, Nat.zero_add]
theorem rkp_l {n : Nat} {re md : Nat → Int32} {num : Nat → Int32} {t : Nat} (g1 : Int32) (g2 g3 g4 g5 g6 : Nat → Int32) (hn : n ≤ 6) (hC : ConR n re md) (ht : t ≤ 6) : ∀ (H : TL) (fuel k acc : Nat), k + H.length = t → H.length < fuel → (∀ x ∈ H, TO n x) → LR num (3 * k) (fl H) → fX9_kept_L8 g1 (nI t) md g2 g3 g4 g5 g6 num fuel (nI acc) (nI k) = some (nI (acc + kp re H), g1, nI t, g2, g3, g4, g5, g6, num)
  | [], fuel, k, acc, he, hf, hT, h => by
    obtain ⟨f, rfl⟩ : ∃ f, fuel = f + 1 := ⟨fuel - 1, by simp only [List.length_nil] at hf; omega⟩
    simp only [List.length_nil, Nat.add_zero] at he
    rw [fX9_kept_L8, if_pos (nI_le (by omega) (by omega))]; rfl
  | x :: H, fuel, k, acc, he, hf, hT, h => by
    obtain ⟨f, rfl⟩ : ∃ f, fuel = f + 1 := ⟨fuel - 1, by simp only [List.length_cons] at hf; omega⟩
    simp only [List.length_cons] at he hf
    obtain ⟨y1, y2, y3, y4⟩ := fl_at (x :: H) k h x H rfl
    obtain ⟨t1, t2, t3, t4, t5⟩ := hT x (List.mem_cons_self ..)
    have ih := fun acc => rkp_l g1 g2 g3 g4 g5 g6 hn hC ht H f (k + 1) acc (by omega) (by omega) (fun y hy => hT y (List.mem_cons_of_mem _ hy)) y4
    have hmd := (hC.1 (6 * x.1 + x.2.1) (by omega)).1
    rw [fX9_kept_L8, if_neg (nI_ge (by omega) (by omega)), nI_1, nI_1, nn3, pk_mul, show nI (3 * k) + 1 = nI (3 * k + 1) from nI_1 _, gA_n (by omega) (by decide), gA_n (by omega) (by decide), nI_clamp (by omega), nI_clamp (by omega), y1, y2, ix6', gA_n (by omega) (by decide), nI_clamp (by omega), ← hmd]
    simp only [kp]
    by_cases e : re (6 * x.1 + x.2.1) = 0
    · rw [if_pos e, if_pos e, ih, Nat.add_assoc]
    · rw [if_neg e, if_neg e, ih, Nat.zero_add]
-- lowest terms
theorem gcd_dn {a b d : Nat} (hb : 0 < b) (h1 : d ∣ a) (h2 : d ∣ b) : d ≤ Nat.gcd a b := Nat.le_of_dvd (Nat.gcd_pos_of_pos_right a hb) (Nat.dvd_gcd h1 h2)
theorem ilt_l {a b : Nat} (kx : Int32 → Option Int64) (x3 : Int32) (ha : a < 2 ^ 20) (hb : b ≤ 36) (h0 : 0 < b) : ∀ (d fuel : Nat), Nat.gcd a b ≤ d → d ≤ 36 → d < fuel → fX8_inLowestTerms_L13 kx (nI a) (nI b) x3 fuel (nI d) = if Nat.gcd a b = 1 then some x3.toInt64 else kx (nI (Nat.gcd a b))
  | d, 0, h, h36, hf => absurd hf (Nat.not_lt_zero _)
  | d, fuel + 1, h, h36, hf => by
    have hg := Nat.gcd_pos_of_pos_right a h0
    rw [fX8_inLowestTerms_L13]
    by_cases e : d ≤ 1
    · rw [if_pos (show nI d ≤ (1 : Int32) from nI_le e (by decide)), if_pos (by omega)]
    · rw [if_neg (show ¬ nI d ≤ (1 : Int32) from nI_ge (a := 1) (by omega) (by omega)), gZ_n (by omega) (by omega), gZ_n (by omega) (by omega), pk_rem (by omega) (by omega) (by omega), pk_rem (by omega) (by omega) (by omega)]
      obtain ⟨d', rfl⟩ : ∃ d', d = d' + 1 := ⟨d - 1, by omega⟩
      rw [pk_m1]
      have hma : a % (d' + 1) < d' + 1 := Nat.mod_lt _ (by omega)
      have hmb : b % (d' + 1) < d' + 1 := Nat.mod_lt _ (by omega)
      have low : Nat.gcd a b ≠ d' + 1 → fX8_inLowestTerms_L13 kx (nI a) (nI b) x3 fuel (nI d') = if Nat.gcd a b = 1 then some x3.toInt64 else kx (nI (Nat.gcd a b)) := fun hne => ilt_l kx x3 ha hb h0 d' fuel (by omega) (by omega) (by omega)
      by_cases e1 : a % (d' + 1) = 0
      · rw [if_pos (by rw [e1]; rfl)]
        by_cases e2 : b % (d' + 1) = 0
        · rw [if_pos (by rw [e2]; rfl)]
          have := gcd_dn h0 (Nat.dvd_of_mod_eq_zero e1) (Nat.dvd_of_mod_eq_zero e2)
          have hgd : Nat.gcd a b = d' + 1 := by omega
          rw [if_neg (show ¬ Nat.gcd a b = 1 by omega), hgd]
        · rw [if_neg (by rw [nI_e0 (by omega)]; exact e2)]
          exact low (fun hh => e2 (Nat.mod_eq_zero_of_dvd (by rw [← hh]; exact Nat.gcd_dvd_right a b)))
      · rw [if_neg (by rw [nI_e0 (by omega)]; exact e1)]
        exact low (fun hh => e1 (Nat.mod_eq_zero_of_dvd (by rw [← hh]; exact Nat.gcd_dvd_left a b)))
theorem ilt_n {a b : Nat} (ha : a < 2 ^ 20) (hb : b ≤ 36) (h0 : 0 < b) (x : Int32) : fX8_inLowestTerms (nI a) (nI b) x = some (lN ((if x = 0 then a else b) / Nat.gcd a b)) := by
  have hg := Nat.gcd_pos_of_pos_right a h0
  have hle : Nat.gcd a b ≤ b := Nat.le_of_dvd h0 (Nat.gcd_dvd_right a b)
  unfold fX8_inLowestTerms
  rw [ilt_l _ _ ha hb h0 b 400 hle hb (by omega), ilt_l _ _ ha hb h0 b 400 hle hb (by omega)]
  have hda : a / Nat.gcd a b ≤ a := Nat.div_le_self _ _
  have hdb : b / Nat.gcd a b ≤ b := Nat.div_le_self _ _
  by_cases e : x = 0
  · rw [if_pos e, if_pos e]
    by_cases e1 : Nat.gcd a b = 1
    · rw [if_pos e1, e1, Nat.div_one, nI_l (by omega)]
    · rw [if_neg e1, gZ_n hg (by omega), pk_div (by omega) hg (by omega), nI_l (by omega)]
  · rw [if_neg e, if_neg e]
    by_cases e1 : Nat.gcd a b = 1
    · rw [if_pos e1, e1, Nat.div_one, nI_l (by omega)]
    · rw [if_neg e1, gZ_n hg (by omega), pk_div (by omega) hg (by omega), nI_l (by omega)]
theorem lcz {b : Nat} (hb : b < 2 ^ 31) : lg_cmp (lN b) 0 = 0 ↔ b = 0 := by
  unfold lg_cmp
  have e0 : (0 : Int64) = lN 0 := rfl
  by_cases h1 : lN b > 0
  · rw [if_pos h1]
    rw [e0] at h1
    have := (lN_lt (by decide) hb).mp h1
    exact ⟨fun h => absurd h (by decide), fun h => by omega⟩
  · rw [if_neg h1]
    rw [e0] at h1
    have h2 : ¬ 0 < b := fun x => h1 ((lN_lt (by decide) hb).mpr x)
    have h3 : b = 0 := by omega
    subst h3
    exact ⟨fun _ => rfl, fun _ => by decide⟩
theorem com_l : ∀ (fuel a b : Nat), b < fuel → a < 2 ^ 31 → b < 2 ^ 31 → fX9_common fuel (lN a) (lN b) = some (lN (Nat.gcd a b))
  | 0, a, b, hf, _, _ => absurd hf (Nat.not_lt_zero _)
  | fuel + 1, a, b, hf, ha, hb => by
    rw [fX9_common]
    by_cases e : b = 0
    · rw [if_pos ((lcz hb).mpr e), e, Nat.gcd_zero_right]
    · have hlt : a % b < b := Nat.mod_lt _ (by omega)
      have hne : ¬ lN b = 0 := fun x => e ((lN_eq hb (by decide)).mp (show lN b = lN 0 from x))
      rw [if_neg (fun x => e ((lcz hb).mp x))]
      unfold gL
      rw [if_neg hne, pk_lRem (by omega) (by omega) (by omega), com_l fuel b (a % b) (by omega) hb (by omega)]
      simp only [Option.bind_some]
      rw [Nat.gcd_comm a b, Nat.gcd_rec b a, Nat.gcd_comm (a % b) b]
theorem prt_n {a b : Nat} (ha : a < 2 ^ 20) (hb : b ≤ 36) (h0 : 0 < b) (x : Int32) : fX9_part (lN a) (lN b) x = some (lN ((if x = 0 then a else b) / Nat.gcd a b)) := by
  have hg := Nat.gcd_pos_of_pos_right a h0
  have hle : Nat.gcd a b ≤ b := Nat.le_of_dvd h0 (Nat.gcd_dvd_right a b)
  unfold fX9_part
  rw [com_l 60 a b (by omega) (by omega) (by omega)]
  simp only [Option.bind_some]
  have hne : ¬ lN (Nat.gcd a b) = 0 := fun x => by
    have := (lN_eq (a := Nat.gcd a b) (b := 0) (by omega) (by decide)).mp x
    omega
  unfold gL
  rw [if_neg hne, pk_lDiv (by omega) hg (by omega), pk_lDiv (by omega) hg (by omega)]
  by_cases e : x = 0
  · rw [if_pos e, if_pos e]
  · rw [if_neg e, if_neg e, if_neg hne]
end
