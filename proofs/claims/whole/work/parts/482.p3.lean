section
/-! ===== each call: what is told, seen, likely ===== -/
theorem ncp_l {B : Nat → Int} {ba : Nat → Int32} (hb : ∀ p, p < 6 → ba p = zI (B p)) (kx : (Nat → Int32) → Option (Int32 × (Nat → Int32) × (Nat → Int32))) : ∀ (r fuel k : Nat) (lf : Nat → Int32), k + r = 6 → r < fuel → (∀ j, j < k → lf j = zI (B j)) →
    ∃ lf', fX9_net_L6 kx ba fuel (nI k) lf = kx lf' ∧ ∀ j, j < 6 → lf' j = zI (B j)
  | 0, fuel, k, lf, he, hf, h => by
    obtain ⟨f, rfl⟩ : ∃ f, fuel = f + 1 := ⟨fuel - 1, by omega⟩
    rw [fX9_net_L6, if_pos (e6 (by omega) (by omega))]
    exact ⟨lf, rfl, fun j hj => h j (by omega)⟩
  | r + 1, fuel, k, lf, he, hf, h => by
    obtain ⟨f, rfl⟩ : ∃ f, fuel = f + 1 := ⟨fuel - 1, by omega⟩
    rw [fX9_net_L6, if_neg (g6 (by omega)), gA_n (by omega) (by decide), gA_n (by omega) (by decide), nI_clamp (by omega), nI_1]
    refine ncp_l hb kx r f (k + 1) _ (by omega) (by omega) (fun j hj => ?_)
    rw [up_eq]
    by_cases e : j = k
    · rw [if_pos e, e]; exact hb k (by omega)
    · rw [if_neg e]; exact h j (by omega)
theorem rnet_n {n : Nat} {v : Nat → Nat} {L : List Nat} {ow b lf : Nat → Int32} (hn : n ≤ 6) (hW : DebW n v L) (ho : ∀ k, k < 36 → ow k = nI (v k)) : ∃ z, fX9_net (nI n) ow b lf = some z ∧ z.1 = zI (abv (bal v) 6) := by
  obtain ⟨z, a1, a2⟩ := bals_n (b := b) hn ho hW.out
  have hB := BB_bal hW.1
  unfold fX9_net
  rw [a1]
  simp only [Option.bind_some]
  obtain ⟨lf', b1, b2⟩ := ncp_l a2 (fun (u_left_5 : (Nat → Int32)) => (fX9_above (nI n) u_left_5).bind (fun z6 => some (z6, z, u_left_5))) 6 400 0 lf rfl (by decide) (fun j hj => absurd hj (Nat.not_lt_zero _))
  rw [show (0 : Int32) = nI 0 from rfl, b1, rab_n hn hB.1 (fun p h1 h2 => bal_out hW.out h2 h1) b2]
  exact ⟨_, rfl, rfl⟩
theorem few_n {n : Nat} {v : Nat → Nat} {L : List Nat} {ow ba lf su mo gr num : Nat → Int32} (hn : n ≤ 6) (ho : ∀ k, k < 36 → ow k = nI (v k)) (hW : DebW n v L) :
    ∃ z, fX8_fewest 18 ba lf su mo gr 6 num ow = some z ∧ z.1 = nI (PG v).2.length := by
  obtain ⟨z, a1, a2, a3, a4, a5⟩ := net_n (ba := ba) (lf := lf) (su := su) (mo := mo) (gr := gr) (num := num) hn ho hW
  unfold fX8_fewest fX5_size
  rw [a1]
  simp only [Option.bind_some]
  exact ⟨_, rfl, a5.2.1⟩
theorem rfew_n {n : Nat} {v : Nat → Nat} {L : List Nat} {ow ba lf su pa gr num : Nat → Int32} (hn : n ≤ 6) (ho : ∀ k, k < 36 → ow k = nI (v k)) (hW : DebW n v L) :
    ∃ z, fX9_fewest (nI n) ow ba lf su pa gr num = some z ∧ z.1 = nI (PG v).2.length := by
  obtain ⟨z, a1, a2, a3⟩ := payments_n (ba := ba) (lf := lf) (su := su) (pa := pa) (gr := gr) (num := num) hn ho hW
  unfold fX9_fewest
  rw [a1]
  simp only [Option.bind_some]
  exact ⟨_, rfl, a3.2.1⟩
theorem ckp_n {n : Nat} {re : Nat → Int32} {S : PS} {lf num : Nat → Int32} {sz : Int32} (hn : n ≤ 6) (hI : PI n S) (h : PR S lf sz num) : fX8_consentedPayments 18 re sz num = some (nI (kp re S.2)) := by
  obtain ⟨_, rfl, h3⟩ := h
  have hl : S.2.length ≤ 6 := by have := hI.2.2.2; omega
  have := ckp_l (re := re) hn hl S.2 400 0 0 (by omega) (by omega) hI.2.2.1 h3
  unfold fX8_consentedPayments
  rw [show fX8_consentedPayments_L12 18 re (nI S.2.length) num 400 0 0 = _ from this, Nat.zero_add]
theorem rkp_n {n : Nat} {v : Nat → Nat} {L : List Nat} {re md ow ba lf su pa gr num : Nat → Int32} (hn : n ≤ 6) (hC : ConR n re md) (ho : ∀ k, k < 36 → ow k = nI (v k)) (hW : DebW n v L) :
    ∃ z, fX9_kept (nI n) ow md ba lf su pa gr num = some z ∧ z.1 = nI (kp re (PG v).2) := by
  obtain ⟨⟨z1, z2, z3, z4, z5, z6, z7, z8⟩, a1, a2, b1, b2, b3⟩ := payments_n (ba := ba) (lf := lf) (su := su) (pa := pa) (gr := gr) (num := num) hn ho hW
  have hI := PG_PI hn hW
  have hl : (PG v).2.length ≤ 6 := by have := hI.2.2.2; omega
  simp only at b2 b3
  subst b2
  unfold fX9_kept
  rw [a1]
  simp only [Option.bind_some]
  rw [show fX9_kept_L8 z1 (nI (PG v).2.length) md z3 z4 z5 z6 z7 z8 400 0 0 = _ from rkp_l z1 z3 z4 z5 z6 z7 hn hC hl (PG v).2 400 0 0 (by omega) (by omega) hI.2.2.1 b3]
  exact ⟨_, rfl, by rw [Nat.zero_add]⟩
theorem fits_l {n i j t : Nat} (hn : n ≤ 6) (hi : i < n) (hj : j < n) (hij : i ≠ j) (ht : t ≤ 5) {num mum : Nat → Int32} (hnum : ∀ k, k < 3 * t → num k = mum k) (kc : Int32 → Int32 → Int32 → (Nat → Int32) → (Nat → Int32) → Int32 → (Nat → Int32) → (Nat → Int32) → (Nat → Int32) → (Nat → Int32) → (Nat → Int32) → Int32 → (Nat → Int32) → Option (Int32 × Int32 × (Nat → Int32) × (Nat → Int32) × Int32 × (Nat → Int32) × (Nat → Int32) × (Nat → Int32) × (Nat → Int32) × (Nat → Int32) × Int32 × (Nat → Int32)))
    (kr : Int32 → Int32 → Int32 → Int32 → Int32 → (Nat → Int32) → (Nat → Int32) → (Nat → Int32) → (Nat → Int32) → (Nat → Int32) → (Nat → Int32) → (Nat → Int32) → (Nat → Int32) → Option (Int32 × Int32 × Int32 × Int32 × (Nat → Int32) × (Nat → Int32) × (Nat → Int32) × (Nat → Int32) × (Nat → Int32) × (Nat → Int32) × (Nat → Int32) × (Nat → Int32) × (Nat → Int32))) : ∀ (r fuel a c : Nat) (l : Int32) (v : Nat → Nat) (L : List Nat) (sz : Int32) (ow od : Nat → Int32) (c1 : Int32) (c2 c3 c4 c5 c6 : Nat → Int32) (c7 : Int32) (c8 : Nat → Int32) (ms : Int32) (mo mr : Nat → Int32) (d1 d2 : Int32) (d3 d4 d5 d6 d7 d8 : Nat → Int32), a + r = 31 → r < fuel → c ≤ a → (c = 0 ↔ l = -5) → DebW n v L → DebR sz ow od v L → DebR ms mo mr v L →
    ∃ (c' : Nat) (l' : Int32) (p1 : Int32) (p2 p3 : Nat → Int32) (p4 : Int32) (p5 p6 p7 p8 p9 : Nat → Int32) (p10 : Int32) (p11 : Nat → Int32) (q1 q2 q3 : Int32) (q4 q5 q6 q7 q8 q9 q10 q11 : Nat → Int32), fX8_fits_L44 kc 15 18 (nI t) num 6 (nI i) (nI j) fuel (nI c) l (nI a) sz ow od c1 c2 c3 c4 c5 c6 c7 c8 = kc (nI c') l' p1 p2 p3 p4 p5 p6 p7 p8 p9 p10 p11 ∧ fX9_fits__L34 kr (nI n) (nI t) mum (nI i) (nI j) fuel (nI c) l (nI a) ms d1 d2 mo mr d3 d4 d5 d6 d7 d8 = kr (nI c') l' q1 q2 q3 q4 q5 q6 q7 q8 q9 q10 q11
  | 0, fuel, a, c, l, v, L, sz, ow, od, c1, c2, c3, c4, c5, c6, c7, c8, ms, mo, mr, d1, d2, d3, d4, d5, d6, d7, d8, he, hf, hca, hcl, hW, hR1, hR2 => by
    obtain ⟨f, rfl⟩ : ∃ f, fuel = f + 1 := ⟨fuel - 1, by omega⟩
    rw [fX8_fits_L44, fX9_fits__L34, if_pos (show (30 : Int32) < nI a from nI_lt (a := 30) (by omega) (by omega)), if_pos (show (30 : Int32) < nI a from nI_lt (a := 30) (by omega) (by omega))]
    exact ⟨_, _, _, _, _, _, _, _, _, _, _, _, _, _, _, _, _, _, _, _, _, _, _, _, rfl, rfl⟩
  | r + 1, fuel, a, c, l, v, L, sz, ow, od, c1, c2, c3, c4, c5, c6, c7, c8, ms, mo, mr, d1, d2, d3, d4, d5, d6, d7, d8, he, hf, hca, hcl, hW, hR1, hR2 => by
    obtain ⟨f, rfl⟩ : ∃ f, fuel = f + 1 := ⟨fuel - 1, by omega⟩
    have hp : a = 0 ∨ ((6 * i + j) / 6 < n ∧ (6 * i + j) % 6 < n ∧ (6 * i + j) / 6 ≠ (6 * i + j) % 6) := Or.inr ⟨by omega, by omega, by omega⟩
    have hc36 : 6 * i + j < 36 := by omega
    obtain ⟨z, a1, a2⟩ := put_n (a := a) hW hR1 (show i < 6 by omega) (show j < 6 by omega) (by omega)
    obtain ⟨y, b1, b2⟩ := becomes_n (c := 6 * i + j) (a := a) hW hR2 hc36 (by omega) hp
    have hW2 := hW.set (6 * i + j) a hc36 (by omega) hp
    obtain ⟨w, e1, e2, e3, e4, e5⟩ := net_n (ba := c2) (lf := c3) (su := c4) (mo := c5) (gr := c6) (num := c8) hn a2.2.1 hW2
    obtain ⟨⟨u1, u2, u3, u4, u5, u6, u7, u8⟩, g1, g2, g3⟩ := payments_n (ba := d3) (lf := d4) (su := d5) (pa := d6) (gr := d7) (num := d8) hn b2.2.1 hW2
    have hI := PG_PI hn hW2
    have hl : (PG (sV v (6 * i + j) a)).2.length ≤ 6 := by have := hI.2.2.2; omega
    have hfu := fu_l (S := PG (sV v (6 * i + j) a)) (num := num) (N := 15) (t := t) hl e5 (by omega) (by decide) t 400 0 (by omega) (by omega)
    have hfi := fi_l (S := PG (sV v (6 * i + j) a)) (num := mum) (t := t) u1 u3 u4 u5 u6 u7 hl g3 ht t 400 0 (by omega) (by omega)
    rw [← fuI_cong hnum t 0 (by omega)] at hfi
    rw [fX8_fits_L44, fX9_fits__L34, if_neg (show ¬ (30 : Int32) < nI a from nI_nlt (a := 30) (by omega) (by omega)), if_neg (show ¬ (30 : Int32) < nI a from nI_nlt (a := 30) (by omega) (by omega)), a1, ix6', b1]
    simp only [Option.bind_some]
    unfold fX9_fits fX8_firstUnpaid
    rw [e1, g1]
    simp only [Option.bind_some]
    rw [show fX8_firstUnpaid_L2 18 15 w.2.2.2.2.2.2.1 w.2.2.2.2.2.2.2 (nI t) num 400 0 = _ from hfu, show fX9_fits_L6 (nI t) u1 u2 mum u3 u4 u5 u6 u7 u8 400 0 = _ from hfi]
    simp only [Option.bind_some, nI_1]
    by_cases ef : fuI (PG (sV v (6 * i + j) a)).2 num t 0 = -5
    · simp only [if_pos ef, on0, if_false, nI_e0 (show c < 2 ^ 31 by omega)]
      by_cases ec : c = 0
      · simp only [if_pos ec, if_pos (hcl.mp ec)]
        exact fits_l hn hi hj hij ht hnum kc kr r f (a + 1) (c + 1) (nI a) _ _ _ _ _ _ _ _ _ _ _ _ _ _ _ _ _ _ _ _ _ _ _ _ (by omega) (by omega) (by omega) ⟨fun x => by omega, fun x => by rw [nI_em5 (by omega)] at x; exact x.elim⟩ hW2 a2 b2
      · simp only [if_neg ec, if_neg (fun x => ec (hcl.mpr x))]
        exact fits_l hn hi hj hij ht hnum kc kr r f (a + 1) (c + 1) l _ _ _ _ _ _ _ _ _ _ _ _ _ _ _ _ _ _ _ _ _ _ _ _ (by omega) (by omega) (by omega) ⟨fun x => by omega, fun x => absurd (hcl.mpr x) ec⟩ hW2 a2 b2
    · simp only [if_neg ef, if_true]
      exact fits_l hn hi hj hij ht hnum kc kr r f (a + 1) c l _ _ _ _ _ _ _ _ _ _ _ _ _ _ _ _ _ _ _ _ _ _ _ _ (by omega) (by omega) (by omega) hcl hW2 a2 b2
def hsI (p : List Nat) (i j : Nat) : Nat → Nat → Bool
  | 0, _ => false
  | r + 1, k => (decide (gp p k = i) && decide (gp p (if k + 1 < p.length then k + 1 else 0) = j)) || hsI p i j r (k + 1)
theorem chs_l {ta : Nat → Int32} {p : List Nat} {i j : Nat} (hp : LR ta 0 p) (h6 : p.length ≤ 6) (hb : ∀ q ∈ p, q < 6) (hi : i < 6) (hj : j < 6) : ∀ (r fuel k : Nat), k + r = p.length → r < fuel → fX4_hasStep_L2 (nI p.length) ta (nI i) (nI j) fuel (nI k) = some (if hsI p i j r k = true then 1 else 0)
  | 0, fuel, k, he, hf => by
    obtain ⟨f, rfl⟩ : ∃ f, fuel = f + 1 := ⟨fuel - 1, by omega⟩
    rw [fX4_hasStep_L2, if_pos (nI_le (by omega) (by omega))]; rfl
  | r + 1, fuel, k, he, hf => by
    obtain ⟨f, rfl⟩ : ∃ f, fuel = f + 1 := ⟨fuel - 1, by omega⟩
    obtain ⟨b1, b2, b3, b4⟩ := ec_lt hb k (by omega)
    rw [fX4_hasStep_L2, if_neg (nI_ge (by omega) (by omega)), pat_n hp h6 (by omega), pbh_n hp h6 (by omega), nI_1, chs_l hp h6 hb hi hj r f (k + 1) (by omega) (by omega)]
    simp only [Option.bind_some, nI_eq (show gp p k < 2 ^ 31 by omega) (show i < 2 ^ 31 by omega), nI_eq (show gp p (if k + 1 < p.length then k + 1 else 0) < 2 ^ 31 by omega) (show j < 2 ^ 31 by omega)]
    by_cases e1 : gp p k = i
    · by_cases e2 : gp p (if k + 1 < p.length then k + 1 else 0) = j
      · rw [if_pos e1, if_pos e2, if_pos (by simp only [hsI]; rw [decide_eq_true e1, decide_eq_true e2]; rfl)]
      · have : hsI p i j (r + 1) k = hsI p i j r (k + 1) := by simp only [hsI]; rw [decide_eq_false e2, Bool.and_false, Bool.false_or]
        rw [if_pos e1, if_neg e2, this]
    · have : hsI p i j (r + 1) k = hsI p i j r (k + 1) := by simp only [hsI]; rw [decide_eq_false e1, Bool.false_and, Bool.false_or]
      rw [if_neg e1, this]
theorem rhs_l {ta : Nat → Int32} {p : List Nat} {i j : Nat} (hp : LR ta 0 p) (h6 : p.length ≤ 6) (hb : ∀ q ∈ p, q < 6) (hi : i < 6) (hj : j < 6) : ∀ (r fuel k : Nat), k + r = p.length → r < fuel → fX9_isBehind_L2 (nI p.length) ta (nI i) (nI j) fuel (nI k) = some (if hsI p i j r k = true then 1 else 0)
  | 0, fuel, k, he, hf => by
    obtain ⟨f, rfl⟩ : ∃ f, fuel = f + 1 := ⟨fuel - 1, by omega⟩
    rw [fX9_isBehind_L2, if_pos (nI_le (by omega) (by omega))]; rfl
  | r + 1, fuel, k, he, hf => by
    obtain ⟨f, rfl⟩ : ∃ f, fuel = f + 1 := ⟨fuel - 1, by omega⟩
    obtain ⟨b1, b2, b3, b4⟩ := ec_lt hb k (by omega)
    have ih := rhs_l hp h6 hb hi hj r f (k + 1) (by omega) (by omega)
    rw [fX9_isBehind_L2, if_neg (nI_ge (by omega) (by omega)), gA_n (by omega) (by decide), nI_clamp (by omega), LR_gp0 hp (by omega), gZ_n (by omega) (by omega), md_n (by omega) h6, gA_n (by omega) (by decide), nI_clamp (by omega), LR_gp0 hp b4, nI_1, ih]
    simp only [nI_eq (show gp p k < 2 ^ 31 by omega) (show i < 2 ^ 31 by omega), nI_eq (show gp p (if k + 1 < p.length then k + 1 else 0) < 2 ^ 31 by omega) (show j < 2 ^ 31 by omega)]
    by_cases e1 : gp p k = i
    · by_cases e2 : gp p (if k + 1 < p.length then k + 1 else 0) = j
      · rw [if_pos e1, if_pos e2, if_pos (by simp only [hsI]; rw [decide_eq_true e1, decide_eq_true e2]; rfl)]
      · have : hsI p i j (r + 1) k = hsI p i j r (k + 1) := by simp only [hsI]; rw [decide_eq_false e2, Bool.and_false, Bool.false_or]
        rw [if_pos e1, if_neg e2, this]
    · have : hsI p i j (r + 1) k = hsI p i j r (k + 1) := by simp only [hsI]; rw [decide_eq_false e1, Bool.false_and, Bool.false_or]
      rw [if_neg e1, this]
theorem rT_6 {rule : Nat} {re : Nat → Int32} {v : Nat → Nat} : ∀ q ∈ rT rule re v, q < 6 := by
  rcases rT_ok (rule := rule) (re := re) (v := v) with h | h
  · rw [h]; intro q hq; exact absurd hq List.not_mem_nil
  · exact h.1.1.2.2.1
theorem odds_l {n i j : Nat} {re md : Nat → Int32} (x1 x2 x3 x4 x5 x6 x7 x8 : Int32) (hn : n ≤ 6) (hi : i < n) (hj : j < n) (hij : i ≠ j) (hC : ConR n re md) (kc : Int32 → Int32 → (Nat → Int32) → (Nat → Int32) → Int32 → Int32 → Int32 → Int32 → (Nat → Int32) → (Nat → Int32) → (Nat → Int32) → Option (Int64 × Int32 × (Nat → Int32) × (Nat → Int32) × Int32 × Int32 × Int32 × Int32 × (Nat → Int32) × (Nat → Int32) × (Nat → Int32)))
    (kr : Int64 → Int32 → Int32 → Int32 → Int32 → Int32 → Int64 → (Nat → Int32) → (Nat → Int32) → (Nat → Int32) → (Nat → Int32) → Option (Int64 × Int32 × Int32 × Int32 × Int32 × Int32 × Int64 × (Nat → Int32) × (Nat → Int32) × (Nat → Int32) × (Nat → Int32) × (Nat → Int32))) : ∀ (r fuel a c : Nat) (v : Nat → Nat) (L : List Nat) (sz : Int32) (ow od : Nat → Int32) (c1 c2 c3 c4 : Int32) (c5 c6 c7 : Nat → Int32) (ms : Int32) (mo mr : Nat → Int32) (d1 d2 d3 d4 : Int32) (d5 : Int64) (d6 d7 : Nat → Int32), a + r = 10 → r < fuel → c ≤ a → DebW n v L → DebR sz ow od v L → DebR ms mo mr v L →
    ∃ (c' : Nat) (p1 : Int32) (p2 p3 : Nat → Int32) (p4 p5 p6 p7 : Int32) (p8 p9 p10 : Nat → Int32) (q1 q2 q3 q4 q5 : Int32) (q6 : Int64) (q7 q8 q9 q10 : Nat → Int32), c' ≤ 10 ∧ fX8_odds_L40 kc re (nI i) (nI j) fuel (nI c) (nI a) sz ow od c1 c2 c3 c4 c5 c6 c7 = kc (nI c') p1 p2 p3 p4 p5 p6 p7 p8 p9 p10 ∧ fX9_odds_L32 kr (nI n) x1 x2 x3 x4 x5 x6 x7 x8 md (nI i) (nI j) fuel (lN c) (nI a) ms d1 d2 d3 d4 d5 mo mr d6 d7 = kr (lN c') q1 q2 q3 q4 q5 q6 q7 q8 q9 q10
  | 0, fuel, a, c, v, L, sz, ow, od, c1, c2, c3, c4, c5, c6, c7, ms, mo, mr, d1, d2, d3, d4, d5, d6, d7, he, hf, hca, hW, hR1, hR2 => by
    obtain ⟨f, rfl⟩ : ∃ f, fuel = f + 1 := ⟨fuel - 1, by omega⟩
    rw [fX8_odds_L40, fX9_odds_L32, if_pos (show (10 : Int32) ≤ nI a from nI_le (a := 10) (by omega) (by omega)), if_pos (show (10 : Int32) ≤ nI a from nI_le (a := 10) (by omega) (by omega))]
    exact ⟨c, _, _, _, _, _, _, _, _, _, _, _, _, _, _, _, _, _, _, _, _, by omega, rfl, rfl⟩
  | r + 1, fuel, a, c, v, L, sz, ow, od, c1, c2, c3, c4, c5, c6, c7, ms, mo, mr, d1, d2, d3, d4, d5, d6, d7, he, hf, hca, hW, hR1, hR2 => by
    obtain ⟨f, rfl⟩ : ∃ f, fuel = f + 1 := ⟨fuel - 1, by omega⟩
    have hp : a = 0 ∨ ((6 * i + j) / 6 < n ∧ (6 * i + j) % 6 < n ∧ (6 * i + j) / 6 ≠ (6 * i + j) % 6) := Or.inr ⟨by omega, by omega, by omega⟩
    have hc36 : 6 * i + j < 36 := by omega
    obtain ⟨z, a1, a2⟩ := put_n (a := a) hW hR1 (show i < 6 by omega) (show j < 6 by omega) (by omega)
    obtain ⟨y, b1, b2⟩ := becomes_n (c := 6 * i + j) (a := a) hW hR2 hc36 (by omega) hp
    have hW2 := hW.set (6 * i + j) a hc36 (by omega) hp
    obtain ⟨w, e1, e2, e3, e4⟩ := search_r (rule := 1) (st := c5) (pa := c6) (tk := c7) (re := re) (by decide) hW2 a2.2.1
    obtain ⟨u, g1, g2, g3, g4, g5, g6'⟩ := takes_r (rule := 1) (pa := d6) (ra := d7) (le := d4) y.1 x1 x2 x3 x4 x5 x6 x7 x8 hn (by decide) hC b2.2.1 hW2
    have hlen := rT_len (rule := 1) (re := re) (v := sV v (6 * i + j) a)
    rw [fX8_odds_L40, fX9_odds_L32, if_neg (show ¬ (10 : Int32) ≤ nI a from nI_ge (b := 10) (by omega) (by omega)), if_neg (show ¬ (10 : Int32) ≤ nI a from nI_ge (b := 10) (by omega) (by omega)), a1, ix6', b1]
    simp only [Option.bind_some]
    unfold fX4_hasStep fX9_isBehind
    rw [show fX4_search c5 c6 c7 z.2.1 re 1 = some w from e1, show fX9_takes (nI n) y.1 x1 x2 x3 x4 x5 d4 x6 x7 x8 y.2.1 md d6 d7 1 = some u from g1]
    simp only [Option.bind_some]
    rw [e2, show fX4_hasStep_L2 (nI (rT 1 re (sV v (6 * i + j) a)).length) w.2.2.2.2.2.2 (nI i) (nI j) 400 0 = _ from chs_l e4 hlen rT_6 (by omega) (by omega) (rT 1 re (sV v (6 * i + j) a)).length 400 0 (by omega) (by omega), g2, g4]
    rw [show fX9_isBehind_L2 (nI (rT 1 re (sV v (6 * i + j) a)).length) u.2.2.2.2.2.2.2 (nI i) (nI j) 400 0 = _ from rhs_l g6' hlen rT_6 (by omega) (by omega) (rT 1 re (sV v (6 * i + j) a)).length 400 0 (by omega) (by omega)]
    simp only [Option.bind_some, nI_1]
    by_cases eh : hsI (rT 1 re (sV v (6 * i + j) a)) i j (rT 1 re (sV v (6 * i + j) a)).length 0 = true
    · have hne : ¬ rT 1 re (sV v (6 * i + j) a) = [] := fun x => by rw [x] at eh; exact Bool.false_ne_true eh
      rw [if_pos eh, asn 1 (Or.inr rfl), if_neg hne]
      simp only [Option.bind_some, on0, if_false, nI_1, lN_1]
      exact odds_l x1 x2 x3 x4 x5 x6 x7 x8 hn hi hj hij hC kc kr r f (a + 1) (c + 1) _ _ _ _ _ _ _ _ _ _ _ _ _ _ _ _ _ _ _ _ _ _ (by omega) (by omega) (by omega) hW2 a2 b2
    · rw [if_neg eh, asn 0 (Or.inl rfl)]
      simp only [Option.bind_some, if_true]
      rw [show nI c + 0 = nI c from nI_add c 0]
      by_cases hne : rT 1 re (sV v (6 * i + j) a) = []
      · rw [if_pos hne]
        simp only [if_true]
        exact odds_l x1 x2 x3 x4 x5 x6 x7 x8 hn hi hj hij hC kc kr r f (a + 1) c _ _ _ _ _ _ _ _ _ _ _ _ _ _ _ _ _ _ _ _ _ _ (by omega) (by omega) (by omega) hW2 a2 b2
      · rw [if_neg hne]
        simp only [on0, if_false]
        exact odds_l x1 x2 x3 x4 x5 x6 x7 x8 hn hi hj hij hC kc kr r f (a + 1) c _ _ _ _ _ _ _ _ _ _ _ _ _ _ _ _ _ _ _ _ _ _ (by omega) (by omega) (by omega) hW2 a2 b2
theorem part_n (x : Int32) : (fX8_isPart x = some 1 ∧ fX9_within x 0 1 = some 1) ∨ (fX8_isPart x = some 0 ∧ fX9_within x 0 1 = some 0) := by
  unfold fX8_isPart
  rcases wi 0 1 (by decide) (by decide) x with ⟨r, _, hr, rfl, e⟩ | ⟨h, e⟩
  · left
    refine ⟨?_, e⟩
    rcases (show r = 0 ∨ r = 1 by omega) with rfl | rfl <;> rfl
  · right
    refine ⟨?_, e⟩
    have n0 : ¬ x = 0 := fun q => by
      rw [q] at h
      rcases h with h | h
      · exact absurd h (by decide)
      · exact absurd h.2 (by decide)
    have n1 : ¬ x = 1 := fun q => by
      rw [q] at h
      rcases h with h | h
      · exact absurd h (by decide)
      · exact absurd h.2 (by decide)
    rw [if_neg n0, if_neg n1]
set_option maxHeartbeats 1000000 in
theorem p_without {u_isKept u_now_people u_now_debts_size : Int32} {u_now_debts_owed u_now_debts_order u_now_consents_refused : (Nat → Int32)} {u_now_trail_size : Int32} {u_now_trail_numbers : (Nat → Int32)} {u_now_seen_size : Int32} {u_now_seen_numbers : (Nat → Int32)} {u_now_events_size : Int32} {u_now_events_numbers : (Nat → Int32)} {u_now_book_size : Int32} {u_now_book_numbers : (Nat → Int32)} {u_kept_people u_kept_debts_size : Int32} {u_kept_debts_owed u_kept_debts_order u_kept_consents_refused : (Nat → Int32)} {u_kept_trail_size : Int32} {u_kept_trail_numbers : (Nat → Int32)} {u_kept_seen_size : Int32} {u_kept_seen_numbers : (Nat → Int32)} {u_kept_events_size : Int32} {u_kept_events_numbers : (Nat → Int32)} {u_kept_book_size : Int32} {u_kept_book_numbers : (Nat → Int32)} {u_supposed_size : Int32} {u_supposed_owed u_supposed_order : (Nat → Int32)} {u_netting_groupCount : Int32} {u_netting_balances u_netting_left u_netting_sums u_netting_most u_netting_groups : (Nat → Int32)} {u_netting_payments_size : Int32} {u_netting_payments_numbers : (Nat → Int32)} {u_text_size : Int32} {u_text_signs : (Nat → Int32)} {uM_people uM_debts uM_cuts uM_seen uM_events uM_inBook uM_texted uM_groups uM_paid uM_imaged : Int32} {uM_owes uM_denies uM_debt uM_cut uM_sight uM_event uM_book uM_text uM_balance uM_left uM_sum uM_parts uM_group uM_payment uM_then uM_image uM_tapeSort uM_tapeSize : (Nat → Int32)} {uM_items : (Nat → Int64)} {ts tl : (Nat → Int32)} {ti : (Nat → Nat → Int64)} (x1 : Int32) (hR : Rel u_now_people u_now_debts_size u_now_debts_owed u_now_debts_order u_now_consents_refused u_now_trail_size u_now_trail_numbers u_now_seen_size u_now_seen_numbers u_now_events_size u_now_events_numbers u_now_book_size u_now_book_numbers u_isKept u_kept_people u_kept_debts_size u_kept_debts_owed u_kept_debts_order u_kept_consents_refused u_kept_trail_size u_kept_trail_numbers u_kept_seen_size u_kept_seen_numbers u_kept_events_size u_kept_events_numbers u_kept_book_size u_kept_book_numbers u_text_size u_text_signs ts tl ti uM_people uM_owes uM_denies uM_debts uM_debt uM_cuts uM_cut uM_seen uM_sight uM_events uM_event uM_inBook uM_book uM_texted uM_text uM_imaged uM_image uM_tapeSort uM_tapeSize uM_items) :
    ∃ (zc : (Int32 × Int32 × (Nat → Int32) × (Nat → Int32) × Int32 × (Nat → Int32) × (Nat → Int32) × (Nat → Int32) × (Nat → Int32) × (Nat → Int32) × Int32 × (Nat → Int32))) (zm : (Int32 × Int32 × Int32 × Int32 × (Nat → Int32) × (Nat → Int32) × (Nat → Int32) × (Nat → Int32) × (Nat → Int32) × (Nat → Int32) × (Nat → Int32) × (Nat → Int32) × (Nat → Int32))), fX8_without 18 u_now_people u_now_debts_size u_now_debts_owed u_now_debts_order u_supposed_size u_supposed_owed u_supposed_order u_netting_groupCount u_netting_balances u_netting_left u_netting_sums u_netting_most u_netting_groups 6 u_netting_payments_size u_netting_payments_numbers x1 = some zc ∧ fX9_without uM_people uM_debts uM_groups uM_paid uM_owes uM_debt uM_balance uM_left uM_sum uM_parts uM_group uM_payment uM_then x1 = some zm ∧ zc.1 = zm.1 ∧ Rel u_now_people u_now_debts_size u_now_debts_owed u_now_debts_order u_now_consents_refused u_now_trail_size u_now_trail_numbers u_now_seen_size u_now_seen_numbers u_now_events_size u_now_events_numbers u_now_book_size u_now_book_numbers u_isKept u_kept_people u_kept_debts_size u_kept_debts_owed u_kept_debts_order u_kept_consents_refused u_kept_trail_size u_kept_trail_numbers u_kept_seen_size u_kept_seen_numbers u_kept_events_size u_kept_events_numbers u_kept_book_size u_kept_book_numbers u_text_size u_text_signs ts tl ti uM_people zm.2.2.2.2.1 uM_denies zm.2.1 zm.2.2.2.2.2.1 uM_cuts uM_cut uM_seen uM_sight uM_events uM_event uM_inBook uM_book uM_texted uM_text uM_imaged uM_image uM_tapeSort uM_tapeSize uM_items := by
  obtain ⟨⟨n, v, L, hn, rfl, rfl, hW, hR1, hR2, hC, hT, hS, hE, hB⟩, hK, hX, hQ⟩ := id hR
  unfold fX8_without fX9_without
  rcases px n hn x1 with ⟨p, hp, rfl, e1, e2⟩ | ⟨_, e1, e2⟩
  · rw [e1, e2]
    simp only [Option.bind_some, on0, if_false]
    obtain ⟨z, a1, a2⟩ := take_n (o := u_supposed_owed) (d := u_supposed_order) hW hR1
    obtain ⟨z2, a3, a4, a5⟩ := clby_n (p := p) (S := (v, L)) (by omega) hW a2
    obtain ⟨z3, a6, a7, a8⟩ := clto_n (p := p) (by omega) a5 a4
    obtain ⟨z4, a9, a10⟩ := few_n (ba := u_netting_balances) (lf := u_netting_left) (su := u_netting_sums) (mo := u_netting_most) (gr := u_netting_groups) (num := u_netting_payments_numbers) hn a7.2.1 a8
    obtain ⟨y, b1, b2⟩ := keeps_n (sz := uM_debts) (ow := uM_owes) (od := uM_debt) (t := uM_then)
    obtain ⟨y2, b3, b4⟩ := rcl_n (p := p) (b := 0) (f := fby p) (S := (v, L)) (Or.inl ⟨rfl, rfl⟩) hn (by omega) hW hR2
    obtain ⟨y3, b5, b6⟩ := rcl_n (p := p) (b := 1) (f := fto p) (Or.inr ⟨rfl, rfl⟩) hn (by omega) a5 b4
    obtain ⟨y4, b7, b8⟩ := rfew_n (ba := uM_balance) (lf := uM_left) (su := uM_sum) (pa := uM_parts) (gr := uM_group) (num := uM_payment) hn b6.2.1 a8
    obtain ⟨y5, b9, b10⟩ := returns_n (o := y3.2.1) (d := y3.2.2) hW hR2 b2
    rw [a1, b1]
    simp only [Option.bind_some]
    rw [a3, b3]
    simp only [Option.bind_some]
    rw [a6, b5]
    simp only [Option.bind_some]
    rw [a9, b7]
    simp only [Option.bind_some]
    rw [b9]
    simp only [Option.bind_some]
    exact ⟨_, _, rfl, rfl, by show z4.1 = y4.1; rw [a10, b8], ⟨n, v, L, hn, rfl, rfl, hW, hR1, b10, hC, hT, hS, hE, hB⟩, hK, hX, hQ⟩
  · rw [e1, e2]
    simp only [Option.bind_some, on1, if_true]
    exact ⟨_, _, rfl, rfl, rfl, hR⟩
set_option maxHeartbeats 1000000 in
theorem p_fits {u_isKept u_now_people u_now_debts_size : Int32} {u_now_debts_owed u_now_debts_order u_now_consents_refused : (Nat → Int32)} {u_now_trail_size : Int32} {u_now_trail_numbers : (Nat → Int32)} {u_now_seen_size : Int32} {u_now_seen_numbers : (Nat → Int32)} {u_now_events_size : Int32} {u_now_events_numbers : (Nat → Int32)} {u_now_book_size : Int32} {u_now_book_numbers : (Nat → Int32)} {u_kept_people u_kept_debts_size : Int32} {u_kept_debts_owed u_kept_debts_order u_kept_consents_refused : (Nat → Int32)} {u_kept_trail_size : Int32} {u_kept_trail_numbers : (Nat → Int32)} {u_kept_seen_size : Int32} {u_kept_seen_numbers : (Nat → Int32)} {u_kept_events_size : Int32} {u_kept_events_numbers : (Nat → Int32)} {u_kept_book_size : Int32} {u_kept_book_numbers : (Nat → Int32)} {u_supposed_size : Int32} {u_supposed_owed u_supposed_order : (Nat → Int32)} {u_netting_groupCount : Int32} {u_netting_balances u_netting_left u_netting_sums u_netting_most u_netting_groups : (Nat → Int32)} {u_netting_payments_size : Int32} {u_netting_payments_numbers : (Nat → Int32)} {u_text_size : Int32} {u_text_signs : (Nat → Int32)} {uM_people uM_debts uM_cuts uM_seen uM_events uM_inBook uM_texted uM_groups uM_paid uM_imaged : Int32} {uM_owes uM_denies uM_debt uM_cut uM_sight uM_event uM_book uM_text uM_balance uM_left uM_sum uM_parts uM_group uM_payment uM_then uM_image uM_tapeSort uM_tapeSize : (Nat → Int32)} {uM_items : (Nat → Int64)} {ts tl : (Nat → Int32)} {ti : (Nat → Nat → Int64)} (x1 : Int32) (x2 : Int32) (x3 : Int32) (hR : Rel u_now_people u_now_debts_size u_now_debts_owed u_now_debts_order u_now_consents_refused u_now_trail_size u_now_trail_numbers u_now_seen_size u_now_seen_numbers u_now_events_size u_now_events_numbers u_now_book_size u_now_book_numbers u_isKept u_kept_people u_kept_debts_size u_kept_debts_owed u_kept_debts_order u_kept_consents_refused u_kept_trail_size u_kept_trail_numbers u_kept_seen_size u_kept_seen_numbers u_kept_events_size u_kept_events_numbers u_kept_book_size u_kept_book_numbers u_text_size u_text_signs ts tl ti uM_people uM_owes uM_denies uM_debts uM_debt uM_cuts uM_cut uM_seen uM_sight uM_events uM_event uM_inBook uM_book uM_texted uM_text uM_imaged uM_image uM_tapeSort uM_tapeSize uM_items) :
    ∃ (zc : (Int32 × Int32 × (Nat → Int32) × (Nat → Int32) × Int32 × (Nat → Int32) × (Nat → Int32) × (Nat → Int32) × (Nat → Int32) × (Nat → Int32) × Int32 × (Nat → Int32))) (zm : (Int32 × Int32 × Int32 × Int32 × (Nat → Int32) × (Nat → Int32) × (Nat → Int32) × (Nat → Int32) × (Nat → Int32) × (Nat → Int32) × (Nat → Int32) × (Nat → Int32) × (Nat → Int32))), fX8_fits 15 18 u_now_people u_now_debts_size u_now_debts_owed u_now_debts_order u_now_seen_size u_now_seen_numbers u_supposed_size u_supposed_owed u_supposed_order u_netting_groupCount u_netting_balances u_netting_left u_netting_sums u_netting_most u_netting_groups 6 u_netting_payments_size u_netting_payments_numbers x1 x2 x3 = some zc ∧ fX9_fits_ uM_people uM_debts uM_seen uM_groups uM_paid uM_owes uM_debt uM_sight uM_balance uM_left uM_sum uM_parts uM_group uM_payment uM_then x1 x2 x3 = some zm ∧ zc.1 = zm.1 ∧ Rel u_now_people u_now_debts_size u_now_debts_owed u_now_debts_order u_now_consents_refused u_now_trail_size u_now_trail_numbers u_now_seen_size u_now_seen_numbers u_now_events_size u_now_events_numbers u_now_book_size u_now_book_numbers u_isKept u_kept_people u_kept_debts_size u_kept_debts_owed u_kept_debts_order u_kept_consents_refused u_kept_trail_size u_kept_trail_numbers u_kept_seen_size u_kept_seen_numbers u_kept_events_size u_kept_events_numbers u_kept_book_size u_kept_book_numbers u_text_size u_text_signs ts tl ti uM_people zm.2.2.2.2.1 uM_denies zm.2.1 zm.2.2.2.2.2.1 uM_cuts uM_cut uM_seen uM_sight uM_events uM_event uM_inBook uM_book uM_texted uM_text uM_imaged uM_image uM_tapeSort uM_tapeSize uM_items := by
  obtain ⟨⟨n, v, L, hn, rfl, rfl, hW, hR1, hR2, hC, hT, hS, hE, hB⟩, hK, hX, hQ⟩ := id hR
  obtain ⟨t, ht, rfl, rfl, hx⟩ := id hS
  unfold fX8_fits fX9_fits_
  rcases pp n hn x1 x2 with ⟨i, j, hi, hj, hij, rfl, rfl, e1, e2⟩ | ⟨e1, e2⟩
  · rw [e1, e2]
    simp only [Option.bind_some, on0, if_false]
    rcases wi 0 1 (by decide) (by decide) x3 with ⟨q, _, hq, rfl, e⟩ | ⟨h, e⟩
    · obtain ⟨z, a1, a2⟩ := take_n (o := u_supposed_owed) (d := u_supposed_order) hW hR1
      obtain ⟨y, b1, b2⟩ := keeps_n (sz := uM_debts) (ow := uM_owes) (od := uM_debt) (t := uM_then)
      rw [show fX9_within (nI q) 0 1 = some 1 from e, if_neg (nI_pos (by omega)), if_pos (show nI q ≤ (1 : Int32) from nI_le hq (by decide)), a1]
      simp only [Option.bind_some, on0, if_false]
      rw [b1]
      simp only [Option.bind_some]
      have key := fun kc kr => fits_l (t := t) hn hi hj hij ht hx kc kr 31 400 0 0 (-5) v L z.1 z.2.1 z.2.2 u_netting_groupCount u_netting_balances u_netting_left u_netting_sums u_netting_most u_netting_groups u_netting_payments_size u_netting_payments_numbers uM_debts uM_owes uM_debt uM_groups uM_paid uM_balance uM_left uM_sum uM_parts uM_group uM_payment rfl (by decide) (by decide) ⟨fun _ => rfl, fun _ => rfl⟩ hW a2 hR2
      rw [show (0 : Int32) = nI 0 from rfl] at *
      obtain ⟨c', l', p1, p2, p3, p4, p5, p6, p7, p8, p9, p10, p11, q1, q2, q3, q4, q5, q6, q7, q8, q9, q10, q11, k1, k2⟩ := key _ _
      rw [k1, k2]
      obtain ⟨w, w1, w2⟩ := returns_n (o := q4) (d := q5) hW hR2 b2
      rw [w1]
      simp only [Option.bind_some]
      by_cases e0 : nI q = nI 0
      · simp only [if_pos e0]
        exact ⟨_, _, rfl, rfl, rfl, ⟨n, v, L, hn, rfl, rfl, hW, hR1, w2, hC, hT, hS, hE, hB⟩, hK, hX, hQ⟩
      · simp only [if_neg e0]
        exact ⟨_, _, rfl, rfl, rfl, ⟨n, v, L, hn, rfl, rfl, hW, hR1, w2, hC, hT, hS, hE, hB⟩, hK, hX, hQ⟩
    · rw [show fX9_within x3 0 1 = some 0 from e]
      simp only [Option.bind_some, on1, if_true]
      rcases h with h | ⟨h, h2⟩
      · rw [if_pos (show x3 < 0 from h)]
        exact ⟨_, _, rfl, rfl, rfl, hR⟩
      · rw [if_neg (show ¬ x3 < 0 from h), if_neg (show ¬ x3 ≤ 1 from lt_nle h2)]
        exact ⟨_, _, rfl, rfl, rfl, hR⟩
  · rw [e1, e2]
    simp only [Option.bind_some, on1, if_true]
    exact ⟨_, _, rfl, rfl, rfl, hR⟩
set_option maxHeartbeats 1000000 in
theorem p_odds {u_isKept u_now_people u_now_debts_size : Int32} {u_now_debts_owed u_now_debts_order u_now_consents_refused : (Nat → Int32)} {u_now_trail_size : Int32} {u_now_trail_numbers : (Nat → Int32)} {u_now_seen_size : Int32} {u_now_seen_numbers : (Nat → Int32)} {u_now_events_size : Int32} {u_now_events_numbers : (Nat → Int32)} {u_now_book_size : Int32} {u_now_book_numbers : (Nat → Int32)} {u_kept_people u_kept_debts_size : Int32} {u_kept_debts_owed u_kept_debts_order u_kept_consents_refused : (Nat → Int32)} {u_kept_trail_size : Int32} {u_kept_trail_numbers : (Nat → Int32)} {u_kept_seen_size : Int32} {u_kept_seen_numbers : (Nat → Int32)} {u_kept_events_size : Int32} {u_kept_events_numbers : (Nat → Int32)} {u_kept_book_size : Int32} {u_kept_book_numbers : (Nat → Int32)} {u_supposed_size : Int32} {u_supposed_owed u_supposed_order : (Nat → Int32)} {u_rings_rule u_rings_found u_rings_size u_rings_least : Int32} {u_rings_steps u_rings_path u_rings_taken : (Nat → Int32)} {u_text_size : Int32} {u_text_signs : (Nat → Int32)} {uM_people uM_debts uM_cuts uM_seen uM_events uM_inBook uM_texted uM_rule uM_rings uM_size uM_least : Int32} {uM_worth : Int64} {uM_groups uM_paid uM_imaged : Int32} {uM_owes uM_denies uM_debt uM_cut uM_sight uM_event uM_book uM_text uM_path uM_ring uM_then uM_image uM_tapeSort uM_tapeSize : (Nat → Int32)} {uM_items : (Nat → Int64)} {ts tl : (Nat → Int32)} {ti : (Nat → Nat → Int64)} (x1 : Int32) (x2 : Int32) (x3 : Int32) (hR : Rel u_now_people u_now_debts_size u_now_debts_owed u_now_debts_order u_now_consents_refused u_now_trail_size u_now_trail_numbers u_now_seen_size u_now_seen_numbers u_now_events_size u_now_events_numbers u_now_book_size u_now_book_numbers u_isKept u_kept_people u_kept_debts_size u_kept_debts_owed u_kept_debts_order u_kept_consents_refused u_kept_trail_size u_kept_trail_numbers u_kept_seen_size u_kept_seen_numbers u_kept_events_size u_kept_events_numbers u_kept_book_size u_kept_book_numbers u_text_size u_text_signs ts tl ti uM_people uM_owes uM_denies uM_debts uM_debt uM_cuts uM_cut uM_seen uM_sight uM_events uM_event uM_inBook uM_book uM_texted uM_text uM_imaged uM_image uM_tapeSort uM_tapeSize uM_items) :
    ∃ (zc : (Int64 × Int32 × (Nat → Int32) × (Nat → Int32) × Int32 × Int32 × Int32 × Int32 × (Nat → Int32) × (Nat → Int32) × (Nat → Int32))) (zm : (Int64 × Int32 × Int32 × Int32 × Int32 × Int32 × Int64 × (Nat → Int32) × (Nat → Int32) × (Nat → Int32) × (Nat → Int32) × (Nat → Int32))), fX8_odds u_now_people u_now_debts_size u_now_debts_owed u_now_debts_order u_now_consents_refused u_supposed_size u_supposed_owed u_supposed_order u_rings_rule u_rings_found u_rings_size u_rings_least u_rings_steps u_rings_path u_rings_taken x1 x2 x3 = some zc ∧ fX9_odds uM_people uM_debts uM_cuts uM_seen uM_events uM_inBook uM_texted uM_rule uM_rings uM_size uM_least uM_worth uM_groups uM_paid uM_imaged uM_owes uM_denies uM_debt uM_path uM_ring uM_then x1 x2 x3 = some zm ∧ zc.1 = zm.1 ∧ Rel u_now_people u_now_debts_size u_now_debts_owed u_now_debts_order u_now_consents_refused u_now_trail_size u_now_trail_numbers u_now_seen_size u_now_seen_numbers u_now_events_size u_now_events_numbers u_now_book_size u_now_book_numbers u_isKept u_kept_people u_kept_debts_size u_kept_debts_owed u_kept_debts_order u_kept_consents_refused u_kept_trail_size u_kept_trail_numbers u_kept_seen_size u_kept_seen_numbers u_kept_events_size u_kept_events_numbers u_kept_book_size u_kept_book_numbers u_text_size u_text_signs ts tl ti uM_people zm.2.2.2.2.2.2.2.1 uM_denies zm.2.1 zm.2.2.2.2.2.2.2.2.1 uM_cuts uM_cut uM_seen uM_sight uM_events uM_event uM_inBook uM_book uM_texted uM_text uM_imaged uM_image uM_tapeSort uM_tapeSize uM_items := by
  obtain ⟨⟨n, v, L, hn, rfl, rfl, hW, hR1, hR2, hC, hT, hS, hE, hB⟩, hK, hX, hQ⟩ := id hR
  unfold fX8_odds fX9_odds
  rcases pp n hn x1 x2 with ⟨i, j, hi, hj, hij, rfl, rfl, e1, e2⟩ | ⟨e1, e2⟩
  · rw [e1, e2]
    simp only [Option.bind_some, on0, if_false]
    rcases part_n x3 with ⟨e3, e4⟩ | ⟨e3, e4⟩
    · obtain ⟨z, a1, a2⟩ := take_n (o := u_supposed_owed) (d := u_supposed_order) hW hR1
      obtain ⟨y, b1, b2⟩ := keeps_n (sz := uM_debts) (ow := uM_owes) (od := uM_debt) (t := uM_then)
      rw [e3, e4, a1]
      simp only [Option.bind_some, on0, if_false]
      rw [b1]
      simp only [Option.bind_some]
      have key := fun kc kr => odds_l uM_cuts uM_seen uM_events uM_inBook uM_texted uM_groups uM_paid uM_imaged hn hi hj hij hC kc kr 10 400 0 0 v L z.1 z.2.1 z.2.2 u_rings_rule u_rings_found u_rings_size u_rings_least u_rings_steps u_rings_path u_rings_taken uM_debts uM_owes uM_debt uM_rule uM_rings uM_size uM_least uM_worth uM_path uM_ring rfl (by decide) (by decide) hW a2 hR2
      obtain ⟨c', p1, p2, p3, p4, p5, p6, p7, p8, p9, p10, q1, q2, q3, q4, q5, q6, q7, q8, q9, q10, hc', k1, k2⟩ := key (fun (x4_11 : Int32) (u_supposed_size_11 : Int32) (u_supposed_owed_11 : (Nat → Int32)) (u_supposed_order_11 : (Nat → Int32)) (u_rings_rule_11 : Int32) (u_rings_found_11 : Int32) (u_rings_size_11 : Int32) (u_rings_least_11 : Int32) (u_rings_steps_11 : (Nat → Int32)) (u_rings_path_11 : (Nat → Int32)) (u_rings_taken_11 : (Nat → Int32)) => (fX8_inLowestTerms x4_11 10 x3).bind (fun z12 => some (z12, u_supposed_size_11, u_supposed_owed_11, u_supposed_order_11, u_rings_rule_11, u_rings_found_11, u_rings_size_11, u_rings_least_11, u_rings_steps_11, u_rings_path_11, u_rings_taken_11))) (fun (x4_12 : Int64) (u_debts_12 : Int32) (u_rule_12 : Int32) (u_rings_12 : Int32) (u_size_12 : Int32) (u_least_12 : Int32) (u_worth_12 : Int64) (u_owes_12 : (Nat → Int32)) (u_debt_12 : (Nat → Int32)) (u_path_12 : (Nat → Int32)) (u_ring_12 : (Nat → Int32)) => (fX9_returns u_owes_12 u_debt_12 y).bind (fun z13 => (fX9_part x4_12 10 x3).bind (fun z14 => some (z14, z13.1, u_rule_12, u_rings_12, u_size_12, u_least_12, u_worth_12, z13.2.1, z13.2.2, u_path_12, u_ring_12, y))))
      obtain ⟨w, w1, w2⟩ := returns_n (o := q7) (d := q8) hW hR2 b2
      rw [show (10 : Int32) = nI 10 from rfl] at k1
      rw [ilt_n (by omega) (by decide) (by decide)] at k1
      rw [w1, show (10 : Int64) = lN 10 from rfl] at k2
      simp only [Option.bind_some] at k1 k2
      rw [prt_n (by omega) (by decide) (by decide)] at k2
      exact ⟨_, _, k1, k2, rfl, ⟨n, v, L, hn, rfl, rfl, hW, hR1, w2, hC, hT, hS, hE, hB⟩, hK, hX, hQ⟩
    · rw [e3, e4]
      simp only [Option.bind_some, on1, if_true]
      exact ⟨_, _, rfl, rfl, rfl, hR⟩
  · rw [e1, e2]
    simp only [Option.bind_some, on1, if_true]
    exact ⟨_, _, rfl, rfl, rfl, hR⟩
set_option maxHeartbeats 1000000 in
theorem p_mean {u_isKept u_now_people u_now_debts_size : Int32} {u_now_debts_owed u_now_debts_order u_now_consents_refused : (Nat → Int32)} {u_now_trail_size : Int32} {u_now_trail_numbers : (Nat → Int32)} {u_now_seen_size : Int32} {u_now_seen_numbers : (Nat → Int32)} {u_now_events_size : Int32} {u_now_events_numbers : (Nat → Int32)} {u_now_book_size : Int32} {u_now_book_numbers : (Nat → Int32)} {u_kept_people u_kept_debts_size : Int32} {u_kept_debts_owed u_kept_debts_order u_kept_consents_refused : (Nat → Int32)} {u_kept_trail_size : Int32} {u_kept_trail_numbers : (Nat → Int32)} {u_kept_seen_size : Int32} {u_kept_seen_numbers : (Nat → Int32)} {u_kept_events_size : Int32} {u_kept_events_numbers : (Nat → Int32)} {u_kept_book_size : Int32} {u_kept_book_numbers : (Nat → Int32)} {u_text_size : Int32} {u_text_signs : (Nat → Int32)} {uM_people uM_debts uM_cuts uM_seen uM_events uM_inBook uM_texted uM_imaged : Int32} {uM_owes uM_denies uM_debt uM_cut uM_sight uM_event uM_book uM_text uM_image uM_tapeSort uM_tapeSize : (Nat → Int32)} {uM_items : (Nat → Int64)} {ts tl : (Nat → Int32)} {ti : (Nat → Nat → Int64)} (x1 : Int32) (hR : Rel u_now_people u_now_debts_size u_now_debts_owed u_now_debts_order u_now_consents_refused u_now_trail_size u_now_trail_numbers u_now_seen_size u_now_seen_numbers u_now_events_size u_now_events_numbers u_now_book_size u_now_book_numbers u_isKept u_kept_people u_kept_debts_size u_kept_debts_owed u_kept_debts_order u_kept_consents_refused u_kept_trail_size u_kept_trail_numbers u_kept_seen_size u_kept_seen_numbers u_kept_events_size u_kept_events_numbers u_kept_book_size u_kept_book_numbers u_text_size u_text_signs ts tl ti uM_people uM_owes uM_denies uM_debts uM_debt uM_cuts uM_cut uM_seen uM_sight uM_events uM_event uM_inBook uM_book uM_texted uM_text uM_imaged uM_image uM_tapeSort uM_tapeSize uM_items) :
    ∃ (zc : Int64) (zm : Int64), fX8_mean u_now_debts_size u_now_debts_owed x1 = some zc ∧ fX9_mean uM_debts uM_owes uM_debt x1 = some zm ∧ zc = zm ∧ Rel u_now_people u_now_debts_size u_now_debts_owed u_now_debts_order u_now_consents_refused u_now_trail_size u_now_trail_numbers u_now_seen_size u_now_seen_numbers u_now_events_size u_now_events_numbers u_now_book_size u_now_book_numbers u_isKept u_kept_people u_kept_debts_size u_kept_debts_owed u_kept_debts_order u_kept_consents_refused u_kept_trail_size u_kept_trail_numbers u_kept_seen_size u_kept_seen_numbers u_kept_events_size u_kept_events_numbers u_kept_book_size u_kept_book_numbers u_text_size u_text_signs ts tl ti uM_people uM_owes uM_denies uM_debts uM_debt uM_cuts uM_cut uM_seen uM_sight uM_events uM_event uM_inBook uM_book uM_texted uM_text uM_imaged uM_image uM_tapeSort uM_tapeSize uM_items := by
  obtain ⟨⟨n, v, L, hn, rfl, rfl, hW, hR1, hR2, hC, hT, hS, hE, hB⟩, hK, hX, hQ⟩ := id hR
  have hlen := hW.len
  have hs1 := hR1.1
  have hs2 := hR2.1
  subst hs1 hs2
  have htot := tot_bd hW.1 36 (Nat.le_refl _)
  unfold fX8_mean fX9_mean fX2_size
  simp only [Option.bind_some]
  rw [ctot_n hR1.2.1, rtot_n hW hR2]
  simp only [Option.bind_some, nI_e0 (show L.length < 2 ^ 31 by omega), nI_l (show tot v 36 < 2 ^ 31 by omega), nI_l (show L.length < 2 ^ 31 by omega)]
  rcases part_n x1 with ⟨e3, e4⟩ | ⟨e3, e4⟩
  · rw [e3, e4]
    simp only [Option.bind_some, on0, if_false]
    by_cases e : L.length = 0
    · simp only [if_pos e]
      exact ⟨_, _, rfl, rfl, rfl, hR⟩
    · simp only [if_neg e]
      rw [ilt_n (by omega) (by omega) (by omega), prt_n (by omega) (by omega) (by omega)]
      exact ⟨_, _, rfl, rfl, rfl, hR⟩
  · rw [e3, e4]
    simp only [Option.bind_some, on1, if_true]
    by_cases e : L.length = 0
    · simp only [if_pos e]
      exact ⟨_, _, rfl, rfl, rfl, hR⟩
    · simp only [if_neg e]
      exact ⟨_, _, rfl, rfl, rfl, hR⟩
end
