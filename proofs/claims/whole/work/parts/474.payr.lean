/-! ===== the reference's payments; payments of the willing ===== -/
section
abbrev QTy : Type := Option (Int32 × Int32 × (Nat → Int32) × (Nat → Int32) × (Nat → Int32) × (Nat → Int32) × (Nat → Int32) × (Nat → Int32))
theorem bitn {g p : Nat} (hg : g < 64) (hp : p < 6) : ((nI g >>> (nI p &&& 31)) &&& 1) = 1 ↔ g.testBit p = true := by rw [sb_bit hg hp]; exact bit1
theorem rq_l {n g p k : Nat} {gr : Nat → Int32} (hn : n ≤ 6) (hg : g < 64) (hp : p < n) (hk : k < 3) (hgr : gr k = nI g) (kx : Int32 → (Nat → Int32) → (Nat → Int32) → QTy) : ∀ (r fuel q : Nat) (S : PS) (lf num : Nat → Int32) (sz : Int32), q + r = n → r < fuel → PI n S → PR S lf sz num →
    ∃ lf' sz' num', fX9_payments_L57 kx (nI n) gr (nI k) (nI p) fuel (nI q) sz lf num = kx sz' lf' num' ∧ PR (payQ (gc g p) p (6 - q) q S) lf' sz' num'
  | 0, fuel, q, S, lf, num, sz, he, hf, hI, h => by
    obtain ⟨f, rfl⟩ : ∃ f, fuel = f + 1 := ⟨fuel - 1, by omega⟩
    rw [fX9_payments_L57, if_pos (nI_le (by omega) (by omega)), payQ_out (6 - q) q S (by omega) hI (Or.inl (by omega))]
    exact ⟨_, _, _, rfl, h⟩
  | r + 1, fuel, q, S, lf, num, sz, he, hf, hI, h => by
    obtain ⟨f, rfl⟩ : ∃ f, fuel = f + 1 := ⟨fuel - 1, by omega⟩
    have hq : q < 6 := by omega
    have hgc : gc g p q = true ↔ (g.testBit p = true ∧ g.testBit q = true) := by unfold gc; rw [Bool.and_eq_true]
    have b1 := hI.1 p (by omega)
    have b2 := hI.1 q hq
    have hsp : payQ (gc g p) p (6 - q) q S = payQ (gc g p) p (6 - (q + 1)) (q + 1) (if gc g p q = true then pay1 S p q else S) := by
      rw [show 6 - q = (6 - (q + 1)) + 1 from by omega]; rfl
    rw [hsp]
    have skip : (if gc g p q = true then pay1 S p q else S) = S → ∃ lf' sz' num', fX9_payments_L57 kx (nI n) gr (nI k) (nI p) f (nI (q + 1)) sz lf num = kx sz' lf' num' ∧ PR (payQ (gc g p) p (6 - (q + 1)) (q + 1) (if gc g p q = true then pay1 S p q else S)) lf' sz' num' := by
      intro e
      rw [e]
      exact rq_l hn hg hp hk hgr kx r f (q + 1) S lf num sz (by omega) (by omega) hI h
    rw [fX9_payments_L57, if_neg (nI_ge (by omega) (by omega)), gA_n hk (by decide), nI_clamp (by omega), hgr, nI_1]
    by_cases e1 : g.testBit p = true
    · rw [if_pos ((bitn hg (by omega)).mpr e1), gA_n hk (by decide)]
      by_cases e2 : g.testBit q = true
      · have e12 := hgc.mpr ⟨e1, e2⟩
        rw [if_pos ((bitn hg hq).mpr e2), gA_n (show p < 6 by omega) (by decide), nI_clamp (by omega), h.1 p (by omega), zI_0]
        by_cases e3 : 0 ≤ S.1 p
        · rw [if_pos ((zI_le (by omega) (by omega)).mpr e3)]
          exact skip (by rw [if_pos e12]; exact pay1_no (by omega))
        · rw [if_neg (fun x => e3 ((zI_le (by omega) (by omega)).mp x)), gA_n hq (by decide), nI_clamp (by omega), h.1 q hq]
          by_cases e4 : S.1 q ≤ 0
          · rw [if_pos ((zI_le (by omega) (by omega)).mpr e4)]
            exact skip (by rw [if_pos e12]; exact pay1_no (by omega))
          · rw [if_neg (fun x => e4 ((zI_le (by omega) (by omega)).mp x))]
            obtain ⟨z, a1, a2⟩ := ps_n hI h (show p < 6 by omega) hq (by omega)
            rw [a1, if_pos e12]
            exact rq_l hn hg hp hk hgr kx r f (q + 1) _ _ _ _ (by omega) (by omega) (hI.pay (by omega) hq) a2
      · rw [if_neg (fun x => e2 ((bitn hg hq).mp x))]
        exact skip (if_neg (fun x => e2 (hgc.mp x).2))
    · rw [if_neg (fun x => e1 ((bitn hg (by omega)).mp x))]
      exact skip (if_neg (fun x => e1 (hgc.mp x).1))
theorem rp_l {n g k : Nat} {gr : Nat → Int32} (hn : n ≤ 6) (hg : g < 64) (hk : k < 3) (hgr : gr k = nI g) (kx : Int32 → (Nat → Int32) → (Nat → Int32) → QTy) : ∀ (r fuel p : Nat) (S : PS) (lf num : Nat → Int32) (sz : Int32), p + r = n → r < fuel → PI n S → PR S lf sz num →
    ∃ lf' sz' num', fX9_payments_L47 kx (nI n) gr (nI k) fuel (nI p) sz lf num = kx sz' lf' num' ∧ PR (payP (gc g) (6 - p) p S) lf' sz' num'
  | 0, fuel, p, S, lf, num, sz, he, hf, hI, h => by
    obtain ⟨f, rfl⟩ : ∃ f, fuel = f + 1 := ⟨fuel - 1, by omega⟩
    rw [fX9_payments_L47, if_pos (nI_le (by omega) (by omega)), payP_out (6 - p) p S (by omega) hI (by omega)]
    exact ⟨_, _, _, rfl, h⟩
  | r + 1, fuel, p, S, lf, num, sz, he, hf, hI, h => by
    obtain ⟨f, rfl⟩ : ∃ f, fuel = f + 1 := ⟨fuel - 1, by omega⟩
    have hsp : payP (gc g) (6 - p) p S = payP (gc g) (6 - (p + 1)) (p + 1) (payQ (gc g p) p 6 0 S) := by
      rw [show 6 - p = (6 - (p + 1)) + 1 from by omega]; rfl
    rw [hsp, fX9_payments_L47, if_neg (nI_ge (by omega) (by omega)), nI_1]
    obtain ⟨lf', sz', num', a1, a2⟩ := rq_l (p := p) hn hg (by omega) hk hgr (fun (u_paid_18 : Int32) (u_left_18 : (Nat → Int32)) (u_payment_18 : (Nat → Int32)) => fX9_payments_L47 kx (nI n) gr (nI k) f (nI (p + 1)) u_paid_18 u_left_18 u_payment_18) n 400 0 S lf num sz (by omega) (by omega) hI h
    rw [show (0 : Int32) = nI 0 from rfl, a1]
    exact rp_l hn hg hk hgr kx r f (p + 1) _ _ _ _ (by omega) (by omega) (payQ_PI (by omega) 6 0 S (by omega) hI) a2
theorem rg_l {n : Nat} {G : List Nat} {gr : Nat → Int32} (ba su pa : Nat → Int32) (hn : n ≤ 6) (hgr : LR gr 0 G) (hl : G.length ≤ 3) (hlt : ∀ g ∈ G, g < 64) : ∀ (H : List Nat) (fuel k : Nat) (S : PS) (lf num : Nat → Int32) (sz : Int32), k + H.length = G.length → H = G.drop k → H.length < fuel → PI n S → PR S lf sz num →
    ∃ lf' sz' num', fX9_payments_L37 (nI n) (nI G.length) ba su pa gr fuel (nI k) sz lf num = some (nI G.length, sz', ba, lf', su, pa, gr, num') ∧ PR (payG H S) lf' sz' num'
  | [], fuel, k, S, lf, num, sz, he, hd, hf, hI, h => by
    obtain ⟨f, rfl⟩ : ∃ f, fuel = f + 1 := ⟨fuel - 1, by simp only [List.length_nil] at hf; omega⟩
    simp only [List.length_nil, Nat.add_zero] at he
    rw [fX9_payments_L37, if_pos (nI_le (by omega) (by omega))]
    exact ⟨_, _, _, rfl, h⟩
  | g :: H, fuel, k, S, lf, num, sz, he, hd, hf, hI, h => by
    obtain ⟨f, rfl⟩ : ∃ f, fuel = f + 1 := ⟨fuel - 1, by simp only [List.length_cons] at hf; omega⟩
    simp only [List.length_cons] at he hf
    have hk : k < G.length := by omega
    have hgk : gp G k = g := by
      have h1 : G = G.take k ++ g :: H := by rw [hd, List.take_append_drop]
      have h2 : (G.take k).length = k := by rw [List.length_take]; omega
      have h3 := gp_a2 (G.take k) H g
      rw [← h1, h2] at h3
      exact h3
    have hgm : g ∈ G := by rw [← hgk]; exact gp_mem G k hk
    rw [fX9_payments_L37, if_neg (nI_ge hk (by omega)), nI_1]
    obtain ⟨lf', sz', num', a1, a2⟩ := rp_l (k := k) (gr := gr) hn (hlt g hgm) (by omega) (by rw [LR_gp0 hgr hk, hgk]) (fun (u_paid_19 : Int32) (u_left_19 : (Nat → Int32)) (u_payment_19 : (Nat → Int32)) => fX9_payments_L37 (nI n) (nI G.length) ba su pa gr f (nI (k + 1)) u_paid_19 u_left_19 u_payment_19) n 400 0 S lf num sz (by omega) (by omega) hI h
    rw [show (0 : Int32) = nI 0 from rfl, a1]
    have hd2 : H = G.drop (k + 1) := by rw [← List.drop_drop, ← hd]; rfl
    exact rg_l ba su pa hn hgr hl hlt H f (k + 1) _ _ _ _ (by omega) hd2 (by omega) (payP_PI 6 0 S (by omega) hI) a2
theorem rcp_l {B : Nat → Int} {ba : Nat → Int32} (hb : ∀ p, p < 6 → ba p = zI (B p)) (kx : (Nat → Int32) → QTy) : ∀ (r fuel k : Nat) (lf : Nat → Int32), k + r = 6 → r < fuel → (∀ j, j < k → lf j = zI (B j)) →
    ∃ lf', fX9_payments_L11 kx ba fuel (nI k) lf = kx lf' ∧ ∀ j, j < 6 → lf' j = zI (B j)
  | 0, fuel, k, lf, he, hf, h => by
    obtain ⟨f, rfl⟩ : ∃ f, fuel = f + 1 := ⟨fuel - 1, by omega⟩
    rw [fX9_payments_L11, if_pos (e6 (by omega) (by omega))]
    exact ⟨lf, rfl, fun j hj => h j (by omega)⟩
  | r + 1, fuel, k, lf, he, hf, h => by
    obtain ⟨f, rfl⟩ : ∃ f, fuel = f + 1 := ⟨fuel - 1, by omega⟩
    rw [fX9_payments_L11, if_neg (g6 (by omega)), gA_n (by omega) (by decide), gA_n (by omega) (by decide), nI_clamp (by omega), nI_1]
    refine rcp_l hb kx r f (k + 1) _ (by omega) (by omega) (fun j hj => ?_)
    rw [up_eq]
    by_cases e : j = k
    · rw [if_pos e, e]; exact hb k (by omega)
    · rw [if_neg e]; exact h j (by omega)
theorem payments_n {n : Nat} {v : Nat → Nat} {L : List Nat} {ow ba lf su pa gr num : Nat → Int32} (hn : n ≤ 6) (ho : ∀ k, k < 36 → ow k = nI (v k)) (hW : DebW n v L) :
    ∃ z, fX9_payments (nI n) ow ba lf su pa gr num = some z ∧ z.1 = nI (gsB (bal v)).length ∧ PR (PG v) z.2.2.2.1 z.2.1 z.2.2.2.2.2.2.2 := by
  obtain ⟨⟨z1, z2, z3, z4, z5⟩, a1, a2, a3, a4⟩ := groups_r (b := ba) (su := su) (pa := pa) (gr := gr) hn ho hW
  have hB := BB_bal hW.1
  have hlen := gsB_len hB
  unfold fX9_payments
  rw [a1]
  simp only [Option.bind_some]
  simp only at a2 a3 a4
  subst a2
  obtain ⟨lf1, b1, b2⟩ := rcp_l a3 (fun (u_left_5 : (Nat → Int32)) => fX9_payments_L37 (nI n) (nI (gsB (bal v)).length) z2 z3 z4 z5 400 0 0 u_left_5 num) 6 400 0 lf rfl (by decide) (fun j hj => absurd hj (Nat.not_lt_zero _))
  obtain ⟨lf', sz', num', c1, c2⟩ := rg_l (n := n) (G := gsB (bal v)) z2 z3 z4 hn a4 hlen (gsB_lt hB) (gsB (bal v)) 400 0 (S0 v) lf1 num 0 (by omega) rfl (by omega) (PI_0 hn hW) ⟨b2, rfl, trivial⟩
  have e1 : fX9_payments_L11 (fun (u_left_5 : (Nat → Int32)) => fX9_payments_L37 (nI n) (nI (gsB (bal v)).length) z2 z3 z4 z5 400 0 0 u_left_5 num) z2 400 0 lf = some (nI (gsB (bal v)).length, sz', z2, lf', z3, z4, z5, num') := b1.trans c1
  rw [e1]
  exact ⟨_, rfl, rfl, c2⟩
-- the willing
def wc (re : Nat → Int32) (p q : Nat) : Bool := decide (re (6 * p + q) = 0)
theorem wc_iff {re : Nat → Int32} {p q : Nat} : wc re p q = true ↔ re (6 * p + q) = 0 := by unfold wc; exact decide_eq_true_iff
/-- payments of the willing -/
def PW2 (re : Nat → Int32) (v : Nat → Nat) : PS := payP (wc re) 6 0 (S0 v)
theorem PW2_PI {n : Nat} {re : Nat → Int32} {v : Nat → Nat} {L : List Nat} (hn : n ≤ 6) (hW : DebW n v L) : PI n (PW2 re v) := payP_PI 6 0 _ (by omega) (PI_0 hn hW)
theorem cwq_l {n p : Nat} {re : Nat → Int32} (hp : p < 6) (kx : (Nat → Int32) → Int32 → (Nat → Int32) → Option ((Nat → Int32) × (Nat → Int32) × Int32 × (Nat → Int32))) : ∀ (r fuel q : Nat) (S : PS) (lf num : Nat → Int32) (sz : Int32), q + r = 6 → r < fuel → PI n S → PR S lf sz num →
    ∃ lf' sz' num', fX3_netWilling_L23 kx 18 6 re (nI p) fuel (nI q) lf sz num = kx lf' sz' num' ∧ PR (payQ (wc re p) p r q S) lf' sz' num'
  | 0, fuel, q, S, lf, num, sz, he, hf, hI, h => by
    obtain ⟨f, rfl⟩ : ∃ f, fuel = f + 1 := ⟨fuel - 1, by omega⟩
    rw [fX3_netWilling_L23, if_pos (e6 (by omega) (by omega))]
    exact ⟨_, _, _, rfl, h⟩
  | r + 1, fuel, q, S, lf, num, sz, he, hf, hI, h => by
    obtain ⟨f, rfl⟩ : ∃ f, fuel = f + 1 := ⟨fuel - 1, by omega⟩
    rw [fX3_netWilling_L23, if_neg (g6 (by omega)), given_n hp (by omega), nI_1]
    simp only [payQ, Option.bind_some]
    by_cases e : re (6 * p + q) = 0
    · rw [if_pos e, if_neg (by decide), if_pos (wc_iff.mpr e)]
      obtain ⟨z, a1, a2⟩ := pw_n hI h hp (show q < 6 by omega)
      rw [a1]
      exact cwq_l hp kx r f (q + 1) _ _ _ _ (by omega) (by omega) (hI.pay hp (by omega)) a2
    · rw [if_neg e, if_pos rfl, if_neg (fun x => e (wc_iff.mp x))]
      exact cwq_l hp kx r f (q + 1) _ _ _ _ (by omega) (by omega) hI h
theorem cwp_l {n : Nat} {re : Nat → Int32} (ba : Nat → Int32) : ∀ (r fuel p : Nat) (S : PS) (lf num : Nat → Int32) (sz : Int32), p + r = 6 → r < fuel → PI n S → PR S lf sz num →
    ∃ lf' sz' num', fX3_netWilling_L14 18 ba 6 re fuel (nI p) lf sz num = some (ba, lf', sz', num') ∧ PR (payP (wc re) r p S) lf' sz' num'
  | 0, fuel, p, S, lf, num, sz, he, hf, hI, h => by
    obtain ⟨f, rfl⟩ : ∃ f, fuel = f + 1 := ⟨fuel - 1, by omega⟩
    rw [fX3_netWilling_L14, if_pos (e6 (by omega) (by omega))]
    exact ⟨_, _, _, rfl, h⟩
  | r + 1, fuel, p, S, lf, num, sz, he, hf, hI, h => by
    obtain ⟨f, rfl⟩ : ∃ f, fuel = f + 1 := ⟨fuel - 1, by omega⟩
    rw [fX3_netWilling_L14, if_neg (g6 (by omega)), nI_1]
    simp only [payP]
    obtain ⟨lf', sz', num', a1, a2⟩ := cwq_l (p := p) (re := re) (by omega) (fun (u_left_8 : (Nat → Int32)) (u_payments_size_8 : Int32) (u_payments_numbers_8 : (Nat → Int32)) => fX3_netWilling_L14 18 ba 6 re f (nI (p + 1)) u_left_8 u_payments_size_8 u_payments_numbers_8) 6 400 0 S lf num sz rfl (by decide) hI h
    rw [show (0 : Int32) = nI 0 from rfl, a1]
    exact cwp_l ba r f (p + 1) _ _ _ _ (by omega) (by omega) (payQ_PI (by omega) 6 0 S (by omega) hI) a2
theorem cwill_n {n : Nat} {v : Nat → Nat} {L : List Nat} {re ow ba lf num : Nat → Int32} (hn : n ≤ 6) (ho : ∀ k, k < 36 → ow k = nI (v k)) (hW : DebW n v L) :
    ∃ z, fX3_netWilling 18 ba lf 6 num ow re = some z ∧ PR (PW2 re v) z.2.1 z.2.2.1 z.2.2.2 := by
  obtain ⟨⟨b', l'⟩, a1, a2⟩ := weigh_n (b := ba) (l := lf) ho
  obtain ⟨lf', sz', num', c1, c2⟩ := cwp_l (n := n) (re := re) b' 6 400 0 (S0 v) l' num 0 rfl (by decide) (PI_0 hn hW) ⟨fun p hp => (a2 p hp).2, rfl, trivial⟩
  unfold fX3_netWilling fX5_clear
  rw [a1]
  simp only [Option.bind_some]
  rw [show fX3_netWilling_L14 18 b' 6 re 400 0 l' 0 num = _ from c1]
  exact ⟨_, rfl, c2⟩
theorem rwq_l {n p : Nat} {re md : Nat → Int32} (hn : n ≤ 6) (hC : ConR n re md) (hp : p < n) (kx : Int32 → (Nat → Int32) → (Nat → Int32) → Option (Int32 × (Nat → Int32) × (Nat → Int32) × (Nat → Int32))) : ∀ (r fuel q : Nat) (S : PS) (lf num : Nat → Int32) (sz : Int32), q + r = n → r < fuel → PI n S → PR S lf sz num →
    ∃ lf' sz' num', fX9_willing_L47 kx (nI n) md (nI p) fuel (nI q) sz lf num = kx sz' lf' num' ∧ PR (payQ (wc re p) p (6 - q) q S) lf' sz' num'
  | 0, fuel, q, S, lf, num, sz, he, hf, hI, h => by
    obtain ⟨f, rfl⟩ : ∃ f, fuel = f + 1 := ⟨fuel - 1, by omega⟩
    rw [fX9_willing_L47, if_pos (nI_le (by omega) (by omega)), payQ_out (6 - q) q S (by omega) hI (Or.inl (by omega))]
    exact ⟨_, _, _, rfl, h⟩
  | r + 1, fuel, q, S, lf, num, sz, he, hf, hI, h => by
    obtain ⟨f, rfl⟩ : ∃ f, fuel = f + 1 := ⟨fuel - 1, by omega⟩
    have hq : q < 6 := by omega
    have b1 := hI.1 p (by omega)
    have b2 := hI.1 q hq
    have hmd := (hC.1 (6 * p + q) (by omega)).1
    have hsp : payQ (wc re p) p (6 - q) q S = payQ (wc re p) p (6 - (q + 1)) (q + 1) (if wc re p q = true then pay1 S p q else S) := by
      rw [show 6 - q = (6 - (q + 1)) + 1 from by omega]; rfl
    rw [hsp]
    have skip : (if wc re p q = true then pay1 S p q else S) = S → ∃ lf' sz' num', fX9_willing_L47 kx (nI n) md (nI p) f (nI (q + 1)) sz lf num = kx sz' lf' num' ∧ PR (payQ (wc re p) p (6 - (q + 1)) (q + 1) (if wc re p q = true then pay1 S p q else S)) lf' sz' num' := by
      intro e
      rw [e]
      exact rwq_l hn hC hp kx r f (q + 1) S lf num sz (by omega) (by omega) hI h
    have ite_id : pay1 S p q = S → (if wc re p q = true then pay1 S p q else S) = S := fun e => by rw [e]; split <;> rfl
    rw [fX9_willing_L47, if_neg (nI_ge (by omega) (by omega)), gA_n (show p < 6 by omega) (by decide), nI_clamp (by omega), h.1 p (by omega), nI_1, zI_0]
    by_cases e3 : 0 ≤ S.1 p
    · rw [if_pos ((zI_le (by omega) (by omega)).mpr e3)]
      exact skip (ite_id (pay1_no (by omega)))
    · rw [if_neg (fun x => e3 ((zI_le (by omega) (by omega)).mp x)), gA_n hq (by decide), nI_clamp (by omega), h.1 q hq]
      by_cases e4 : S.1 q ≤ 0
      · rw [if_pos ((zI_le (by omega) (by omega)).mpr e4)]
        exact skip (ite_id (pay1_no (by omega)))
      · rw [if_neg (fun x => e4 ((zI_le (by omega) (by omega)).mp x)), ix6', gA_n (show 6 * p + q < 36 by omega) (by decide), nI_clamp (by omega), ← hmd, ← zI_0]
        by_cases e5 : re (6 * p + q) = 0
        · rw [if_pos e5]
          obtain ⟨z, a1, a2⟩ := ps_n hI h (show p < 6 by omega) hq (by omega)
          rw [a1, if_pos (wc_iff.mpr e5)]
          exact rwq_l hn hC hp kx r f (q + 1) _ _ _ _ (by omega) (by omega) (hI.pay (by omega) hq) a2
        · rw [if_neg e5]
          exact skip (if_neg (fun x => e5 (wc_iff.mp x)))
theorem rwp_l {n : Nat} {re md : Nat → Int32} (ba : Nat → Int32) (hn : n ≤ 6) (hC : ConR n re md) : ∀ (r fuel p : Nat) (S : PS) (lf num : Nat → Int32) (sz : Int32), p + r = n → r < fuel → PI n S → PR S lf sz num →
    ∃ lf' sz' num', fX9_willing_L37 (nI n) md ba fuel (nI p) sz lf num = some (sz', ba, lf', num') ∧ PR (payP (wc re) (6 - p) p S) lf' sz' num'
  | 0, fuel, p, S, lf, num, sz, he, hf, hI, h => by
    obtain ⟨f, rfl⟩ : ∃ f, fuel = f + 1 := ⟨fuel - 1, by omega⟩
    rw [fX9_willing_L37, if_pos (nI_le (by omega) (by omega)), payP_out (6 - p) p S (by omega) hI (by omega)]
    exact ⟨_, _, _, rfl, h⟩
  | r + 1, fuel, p, S, lf, num, sz, he, hf, hI, h => by
    obtain ⟨f, rfl⟩ : ∃ f, fuel = f + 1 := ⟨fuel - 1, by omega⟩
    have hsp : payP (wc re) (6 - p) p S = payP (wc re) (6 - (p + 1)) (p + 1) (payQ (wc re p) p 6 0 S) := by
      rw [show 6 - p = (6 - (p + 1)) + 1 from by omega]; rfl
    rw [hsp, fX9_willing_L37, if_neg (nI_ge (by omega) (by omega)), nI_1]
    obtain ⟨lf', sz', num', a1, a2⟩ := rwq_l (p := p) hn hC (by omega) (fun (u_paid_15 : Int32) (u_left_15 : (Nat → Int32)) (u_payment_15 : (Nat → Int32)) => fX9_willing_L37 (nI n) md ba f (nI (p + 1)) u_paid_15 u_left_15 u_payment_15) n 400 0 S lf num sz (by omega) (by omega) hI h
    rw [show (0 : Int32) = nI 0 from rfl, a1]
    exact rwp_l ba hn hC r f (p + 1) _ _ _ _ (by omega) (by omega) (payQ_PI (by omega) 6 0 S (by omega) hI) a2
theorem wcp_l {B : Nat → Int} {ba : Nat → Int32} (hb : ∀ p, p < 6 → ba p = zI (B p)) (kx : (Nat → Int32) → Option (Int32 × (Nat → Int32) × (Nat → Int32) × (Nat → Int32))) : ∀ (r fuel k : Nat) (lf : Nat → Int32), k + r = 6 → r < fuel → (∀ j, j < k → lf j = zI (B j)) →
    ∃ lf', fX9_willing_L11 kx ba fuel (nI k) lf = kx lf' ∧ ∀ j, j < 6 → lf' j = zI (B j)
  | 0, fuel, k, lf, he, hf, h => by
    obtain ⟨f, rfl⟩ : ∃ f, fuel = f + 1 := ⟨fuel - 1, by omega⟩
    rw [fX9_willing_L11, if_pos (e6 (by omega) (by omega))]
    exact ⟨lf, rfl, fun j hj => h j (by omega)⟩
  | r + 1, fuel, k, lf, he, hf, h => by
    obtain ⟨f, rfl⟩ : ∃ f, fuel = f + 1 := ⟨fuel - 1, by omega⟩
    rw [fX9_willing_L11, if_neg (g6 (by omega)), gA_n (by omega) (by decide), gA_n (by omega) (by decide), nI_clamp (by omega), nI_1]
    refine wcp_l hb kx r f (k + 1) _ (by omega) (by omega) (fun j hj => ?_)
    rw [up_eq]
    by_cases e : j = k
    · rw [if_pos e, e]; exact hb k (by omega)
    · rw [if_neg e]; exact h j (by omega)
theorem rwill_n {n : Nat} {v : Nat → Nat} {L : List Nat} {re md ow ba lf num : Nat → Int32} (hn : n ≤ 6) (hC : ConR n re md) (ho : ∀ k, k < 36 → ow k = nI (v k)) (hW : DebW n v L) :
    ∃ z, fX9_willing (nI n) ow md ba lf num = some z ∧ PR (PW2 re v) z.2.2.1 z.1 z.2.2.2 := by
  obtain ⟨z1, a1, a2⟩ := bals_n (b := ba) hn ho hW.out
  obtain ⟨lf1, b1, b2⟩ := wcp_l a2 (fun (u_left_5 : (Nat → Int32)) => fX9_willing_L37 (nI n) md z1 400 0 0 u_left_5 num) 6 400 0 lf rfl (by decide) (fun j hj => absurd hj (Nat.not_lt_zero _))
  obtain ⟨lf', sz', num', c1, c2⟩ := rwp_l z1 hn hC n 400 0 (S0 v) lf1 num 0 (by omega) (by omega) (PI_0 hn hW) ⟨b2, rfl, trivial⟩
  have e1 : fX9_willing_L11 (fun (u_left_5 : (Nat → Int32)) => fX9_willing_L37 (nI n) md z1 400 0 0 u_left_5 num) z1 400 0 lf = some (sz', z1, lf', num') := b1.trans c1
  unfold fX9_willing
  rw [a1]
  simp only [Option.bind_some]
  rw [e1]
  exact ⟨_, rfl, c2⟩
end
