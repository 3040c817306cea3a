/-! ===== balances and groups ===== -/
section
def bsum (v : Nat → Nat) (p : Nat) : Nat → Int
  | 0 => 0
  | k + 1 => bsum v p k + (((v (6 * k + p) : Nat) : Int) - ((v (6 * p + k) : Nat) : Int))
def bal (v : Nat → Nat) (p : Nat) : Int := bsum v p 6
theorem bsum_bd {v : Nat → Nat} (hv : ∀ k, k < 36 → v k ≤ 999) {p : Nat} (hp : p < 6) : ∀ k : Nat, k ≤ 6 → -(999 * (k : Int)) ≤ bsum v p k ∧ bsum v p k ≤ 999 * (k : Int)
  | 0, _ => by simp [bsum]
  | k + 1, hk => by
    have h1 := bsum_bd hv hp k (by omega)
    have h2 := hv (6 * k + p) (by omega)
    have h3 := hv (6 * p + k) (by omega)
    simp only [bsum]
    omega
theorem bal_bd {v : Nat → Nat} (hv : ∀ k, k < 36 → v k ≤ 999) {p : Nat} (hp : p < 6) : -5994 ≤ bal v p ∧ bal v p ≤ 5994 := by
  have := bsum_bd hv hp 6 (Nat.le_refl _)
  unfold bal; omega
theorem bsum_out {n : Nat} {v : Nat → Nat} (hout : OutN n v) {p : Nat} (hp : p < 6) (hpn : n ≤ p) : ∀ k, k ≤ 6 → bsum v p k = 0
  | 0, _ => rfl
  | k + 1, hk => by
    simp only [bsum]
    rw [bsum_out hout hp hpn k (by omega), hout (6 * k + p) (by omega) (by omega), hout (6 * p + k) (by omega) (by omega)]; rfl
theorem bsum_n {n : Nat} {v : Nat → Nat} (hout : OutN n v) {p : Nat} (hp : p < 6) : ∀ d, n + d ≤ 6 → bsum v p (n + d) = bsum v p n
  | 0, _ => rfl
  | d + 1, hd => by
    have e : bsum v p (n + d + 1) = bsum v p (n + d) + (((v (6 * (n + d) + p) : Nat) : Int) - ((v (6 * p + (n + d)) : Nat) : Int)) := rfl
    rw [show n + (d + 1) = n + d + 1 from rfl, e, bsum_n hout hp d (by omega), hout (6 * (n + d) + p) (by omega) (by omega), hout (6 * p + (n + d)) (by omega) (by omega)]; simp
theorem bal_out {n : Nat} {v : Nat → Nat} (hout : OutN n v) {p : Nat} (hp : p < 6) (hpn : n ≤ p) : bal v p = 0 := bsum_out hout hp hpn 6 (Nat.le_refl _)
theorem bal_sum (v : Nat → Nat) : bal v 0 + bal v 1 + bal v 2 + bal v 3 + bal v 4 + bal v 5 = 0 := by
  simp only [bal, bsum]
  omega
-- the class weighs
theorem weigh_in {v : Nat → Nat} {ow : Nat → Int32} (ho : ∀ k, k < 36 → ow k = nI (v k)) {p : Nat} (hp : p < 6) (kx : Int32 → Option ((Nat → Int32) × (Nat → Int32))) : ∀ (r fuel k : Nat), k + r = 6 → r < fuel → fX3_weigh_L13 kx ow (nI p) fuel (zI (bsum v p k)) (nI k) = kx (zI (bal v p))
  | 0, fuel, k, he, hf => by
    obtain ⟨f, rfl⟩ : ∃ f, fuel = f + 1 := ⟨fuel - 1, by omega⟩
    rw [fX3_weigh_L13, if_pos (e6 (by omega) (by omega)), show k = 6 from by omega]; rfl
  | r + 1, fuel, k, he, hf => by
    obtain ⟨f, rfl⟩ : ∃ f, fuel = f + 1 := ⟨fuel - 1, by omega⟩
    rw [fX3_weigh_L13, if_neg (g6 (by omega)), amount_n (by omega) hp, amount_n hp (by omega)]
    simp only [Option.bind_some]
    rw [ho _ (by omega), ho _ (by omega), zI_n (v _), zI_n (v _), zI_sub, zI_add, nI_1]
    exact weigh_in ho hp kx r f (k + 1) (by omega) (by omega)
theorem weigh_l {v : Nat → Nat} {ow : Nat → Int32} (ho : ∀ k, k < 36 → ow k = nI (v k)) : ∀ (r fuel p : Nat) (b l : Nat → Int32), p + r = 6 → r < fuel → (∀ j, j < p → b j = zI (bal v j) ∧ l j = zI (bal v j)) →
    ∃ z, fX3_weigh_L2 ow fuel (nI p) b l = some z ∧ ∀ j, j < 6 → z.1 j = zI (bal v j) ∧ z.2 j = zI (bal v j)
  | 0, fuel, p, b, l, he, hf, h => by
    obtain ⟨f, rfl⟩ : ∃ f, fuel = f + 1 := ⟨fuel - 1, by omega⟩
    refine ⟨(b, l), ?_, fun j hj => h j (by omega)⟩
    rw [fX3_weigh_L2, if_pos (e6 (by omega) (by omega))]
  | r + 1, fuel, p, b, l, he, hf, h => by
    obtain ⟨f, rfl⟩ : ∃ f, fuel = f + 1 := ⟨fuel - 1, by omega⟩
    rw [fX3_weigh_L2, if_neg (g6 (by omega))]
    rw [show fX3_weigh_L13 _ ow (nI p) 400 0 0 = _ from weigh_in ho (by omega) _ 6 400 0 rfl (by decide)]
    rw [gA_n (by omega) (by decide), gA_n (by omega) (by decide), nI_1, nI_clamp (by omega)]
    refine weigh_l ho r f (p + 1) _ _ (by omega) (by omega) (fun j hj => ?_)
    rw [up_eq, up_eq]
    by_cases e : j = p
    · rw [if_pos e, if_pos e, e]; exact ⟨rfl, rfl⟩
    · rw [if_neg e, if_neg e]; exact h j (by omega)
theorem weigh_n {v : Nat → Nat} {ow b l : Nat → Int32} (ho : ∀ k, k < 36 → ow k = nI (v k)) : ∃ z, fX3_weigh b l ow = some z ∧ ∀ j, j < 6 → z.1 j = zI (bal v j) ∧ z.2 j = zI (bal v j) :=
  weigh_l ho 6 400 0 b l rfl (by decide) (fun j hj => absurd hj (Nat.not_lt_zero _))
-- the reference does
theorem bals_in {n : Nat} {v : Nat → Nat} {ow : Nat → Int32} (hn : n ≤ 6) (ho : ∀ k, k < 36 → ow k = nI (v k)) {p : Nat} (hp : p < n) (kx : (Nat → Int32) → Option (Nat → Int32)) : ∀ (r fuel k : Nat) (b : Nat → Int32), k + r = n → r < fuel → b p = zI (bsum v p k) →
    ∃ b', fX9_balances_L17 kx (nI n) ow (nI p) fuel (nI k) b = kx b' ∧ b' p = zI (bsum v p n) ∧ ∀ j, j ≠ p → b' j = b j
  | 0, fuel, k, b, he, hf, h => by
    obtain ⟨f, rfl⟩ : ∃ f, fuel = f + 1 := ⟨fuel - 1, by omega⟩
    refine ⟨b, ?_, by rw [h, show k = n from by omega], fun j _ => rfl⟩
    rw [fX9_balances_L17, if_pos (nI_le (by omega) (by omega))]
  | r + 1, fuel, k, b, he, hf, h => by
    obtain ⟨f, rfl⟩ : ∃ f, fuel = f + 1 := ⟨fuel - 1, by omega⟩
    rw [fX9_balances_L17, if_neg (nI_ge (by omega) (by omega)), if_neg (nI_ge (by omega) (by omega)), gA_n (by omega) (by decide), ix6', ix6', gA_n (by omega) (by decide), gA_n (by omega) (by decide), gA_n (by omega) (by decide), nI_clamp (by omega), nI_clamp (by omega), nI_clamp (by omega), h, ho _ (by omega), ho _ (by omega), zI_n (v _), zI_n (v _), zI_sub, zI_add, nI_1]
    obtain ⟨b', a1, a2, a3⟩ := bals_in hn ho hp kx r f (k + 1) (upd b p (zI (bsum v p k + (((v (6 * k + p) : Nat) : Int) - ((v (6 * p + k) : Nat) : Int))))) (by omega) (by omega) (by rw [up_eq, if_pos rfl]; rfl)
    refine ⟨b', a1, a2, fun j hj => ?_⟩
    rw [a3 j hj, up_eq, if_neg hj]
theorem bals_l {n : Nat} {v : Nat → Nat} {ow : Nat → Int32} (hn : n ≤ 6) (ho : ∀ k, k < 36 → ow k = nI (v k)) (hout : OutN n v) : ∀ (r fuel p : Nat) (b : Nat → Int32), p + r = 6 → r < fuel → (∀ j, j < p → b j = zI (bal v j)) →
    ∃ z, fX9_balances_L2 (nI n) ow fuel (nI p) b = some z ∧ ∀ j, j < 6 → z j = zI (bal v j)
  | 0, fuel, p, b, he, hf, h => by
    obtain ⟨f, rfl⟩ : ∃ f, fuel = f + 1 := ⟨fuel - 1, by omega⟩
    refine ⟨b, ?_, fun j hj => h j (by omega)⟩
    rw [fX9_balances_L2, if_pos (e6 (by omega) (by omega))]
  | r + 1, fuel, p, b, he, hf, h => by
    obtain ⟨f, rfl⟩ : ∃ f, fuel = f + 1 := ⟨fuel - 1, by omega⟩
    rw [fX9_balances_L2, if_neg (g6 (by omega)), gA_n (by omega) (by decide), nI_clamp (by omega), nI_1]
    by_cases hp : p < n
    · obtain ⟨b', a1, a2, a3⟩ := bals_in hn ho hp (fun (u_balance_9 : (Nat → Int32)) => fX9_balances_L2 (nI n) ow f (nI (p + 1)) u_balance_9) n 400 0 (upd b p 0) (by omega) (by omega) (by rw [up_eq, if_pos rfl]; rfl)
      rw [show (0 : Int32) = nI 0 from rfl] at *
      rw [a1]
      refine bals_l hn ho hout r f (p + 1) b' (by omega) (by omega) (fun j hj => ?_)
      by_cases e : j = p
      · rw [e, a2]
        have := bsum_n hout (show p < 6 by omega) (6 - n) (by omega)
        unfold bal
        rw [← this, show n + (6 - n) = 6 from by omega]
      · rw [a3 j e, up_eq, if_neg e]; exact h j (by omega)
    · have e1 : fX9_balances_L17 (fun (u_balance_9 : (Nat → Int32)) => fX9_balances_L2 (nI n) ow f (nI (p + 1)) u_balance_9) (nI n) ow (nI p) 400 0 (upd b p 0) = fX9_balances_L2 (nI n) ow f (nI (p + 1)) (upd b p 0) := by
        rw [fX9_balances_L17]
        by_cases e0 : nI n ≤ 0
        · rw [if_pos e0]
        · rw [if_neg e0, if_pos (nI_le (by omega) (by omega))]
      rw [e1]
      refine bals_l hn ho hout r f (p + 1) _ (by omega) (by omega) (fun j hj => ?_)
      rw [up_eq]
      by_cases e : j = p
      · rw [if_pos e, e, bal_out hout (by omega) (by omega)]; rfl
      · rw [if_neg e]; exact h j (by omega)
theorem bals_n {n : Nat} {v : Nat → Nat} {ow b : Nat → Int32} (hn : n ≤ 6) (ho : ∀ k, k < 36 → ow k = nI (v k)) (hout : OutN n v) : ∃ z, fX9_balances (nI n) ow b = some z ∧ ∀ j, j < 6 → z j = zI (bal v j) :=
  bals_l hn ho hout 6 400 0 b rfl (by decide) (fun j hj => absurd hj (Nat.not_lt_zero _))
-- sums and parts: the mathematics; z says which sets are nothing together
def mx (z : Nat → Bool) (M : Nat → Nat) (s : Nat) : Nat → Nat
  | 0 => 0
  | k + 1 => if (gq (k + 1) s && z (k + 1)) = true then max (mx z M s k) (1 + M (dif s (k + 1))) else mx z M s k
def Mt (z : Nat → Bool) (op : Nat) : Nat → Nat → Nat
  | 0 => fun _ => 0
  | k + 1 => fun j => if j = k + 1 then (if (sub (k + 1) op && z (k + 1)) = true then mx z (Mt z op k) (k + 1) (k + 1) else 0) else Mt z op k j
theorem mx_cong {z : Nat → Bool} {M N : Nat → Nat} {s : Nat} (hs : s < 64) (h0 : 0 < s) (h : ∀ j, j < s → M j = N j) : ∀ k, k ≤ s → mx z M s k = mx z N s k
  | 0, _ => rfl
  | k + 1, hk => by
    simp only [mx]
    rw [mx_cong hs h0 h k (by omega)]
    by_cases e : (gq (k + 1) s && z (k + 1)) = true
    · rw [if_pos e, if_pos e]
      rw [Bool.and_eq_true] at e
      rw [h _ (gq_fact hs (by omega) h0 e.1).2.2.2]
    · rw [if_neg e, if_neg e]
theorem Mt_st {z : Nat → Bool} {op : Nat} : ∀ (d k j : Nat), j ≤ k → Mt z op (k + d) j = Mt z op k j
  | 0, _, _, _ => rfl
  | d + 1, k, j, hj => by
    have : Mt z op (k + d + 1) j = Mt z op (k + d) j := if_neg (by omega)
    rw [show k + (d + 1) = k + d + 1 from rfl, this]
    exact Mt_st d k j hj
def MM (z : Nat → Bool) (op : Nat) : Nat → Nat := Mt z op 63
theorem MM_0 (z : Nat → Bool) (op : Nat) : MM z op 0 = 0 := Mt_st 63 0 0 (Nat.le_refl _)
theorem MM_s {z : Nat → Bool} {op s : Nat} (hs : s < 64) (h0 : 0 < s) : MM z op s = if (sub s op && z s) = true then mx z (MM z op) s s else 0 := by
  obtain ⟨k, rfl⟩ : ∃ k, s = k + 1 := ⟨s - 1, by omega⟩
  have h1 : MM z op (k + 1) = Mt z op (k + 1) (k + 1) := by
    have := Mt_st (z := z) (op := op) (63 - (k + 1)) (k + 1) (k + 1) (Nat.le_refl _)
    rw [show k + 1 + (63 - (k + 1)) = 63 from by omega] at this
    exact this
  have h2 : Mt z op (k + 1) (k + 1) = (if (sub (k + 1) op && z (k + 1)) = true then mx z (Mt z op k) (k + 1) (k + 1) else 0) := if_pos rfl
  rw [h1, h2]
  congr 1
  refine mx_cong hs h0 (fun j hj => ?_) (k + 1) (Nat.le_refl _)
  have := Mt_st (z := z) (op := op) (63 - k) k j (by omega)
  rw [show k + (63 - k) = 63 from by omega] at this
  exact this.symm
theorem mx_bd {z : Nat → Bool} {M : Nat → Nat} {s c : Nat} (h : ∀ j, M j ≤ c) : ∀ k, mx z M s k ≤ c + 1
  | 0 => by simp [mx]
  | k + 1 => by
    have h1 := mx_bd (z := z) (s := s) h k
    have h2 := h (dif s (k + 1))
    simp only [mx]
    split <;> omega
theorem Mt_bd {z : Nat → Bool} {op : Nat} : ∀ k j, Mt z op k j ≤ k
  | 0, j => Nat.le_refl _
  | k + 1, j => by
    have h := Mt_bd (z := z) (op := op) k
    have h2 := mx_bd (z := z) (s := k + 1) h (k + 1)
    simp only [Mt]
    split
    · split
      · exact h2
      · omega
    · exact Nat.le_succ_of_le (h j)
theorem MM_bd (z : Nat → Bool) (op j : Nat) : MM z op j ≤ 63 := Mt_bd 63 j
theorem mxM_bd (z : Nat → Bool) (op s k : Nat) : mx z (MM z op) s k ≤ 64 := mx_bd (MM_bd z op) k
theorem mx_att {z : Nat → Bool} {M : Nat → Nat} {s : Nat} : ∀ k, 0 < mx z M s k → ∃ g, 1 ≤ g ∧ g ≤ k ∧ (gq g s && z g) = true ∧ mx z M s k = 1 + M (dif s g)
  | 0, h => absurd h (Nat.lt_irrefl _)
  | k + 1, h => by
    simp only [mx] at h ⊢
    by_cases e : (gq (k + 1) s && z (k + 1)) = true
    · rw [if_pos e] at h ⊢
      by_cases h2 : mx z M s k ≤ 1 + M (dif s (k + 1))
      · exact ⟨k + 1, by omega, by omega, e, by omega⟩
      · obtain ⟨g, g1, g2, g3, g4⟩ := mx_att (z := z) (M := M) (s := s) k (by omega)
        exact ⟨g, g1, by omega, g3, by omega⟩
    · rw [if_neg e] at h ⊢
      obtain ⟨g, g1, g2, g3, g4⟩ := mx_att k h
      exact ⟨g, g1, by omega, g3, g4⟩
theorem mx_pos {z : Nat → Bool} {M : Nat → Nat} {s : Nat} {g : Nat} (hg : (gq g s && z g) = true) : ∀ k, g ≤ k → 1 ≤ g → 1 + M (dif s g) ≤ mx z M s k
  | 0, h, h1 => by omega
  | k + 1, h, h1 => by
    simp only [mx]
    by_cases e : g = k + 1
    · rw [← e, if_pos hg]; omega
    · have := mx_pos (M := M) hg k (by omega) h1
      split <;> omega
def fgS (z : Nat → Bool) (M : Nat → Nat) (s : Nat) : Nat → Nat → Nat
  | 0, g => g
  | r + 1, g => if (gq g s && z g) = true ∧ 1 + M (dif s g) = M s then g else fgS z M s r (g + 1)
def fgr (z : Nat → Bool) (M : Nat → Nat) (s : Nat) : Nat := fgS z M s (s - 1) 1
theorem fgS_skip {z : Nat → Bool} {M : Nat → Nat} {s : Nat} : ∀ (d r g : Nat), (∀ x, g ≤ x → x < g + d → gq x s = false) → fgS z M s (d + r) g = fgS z M s r (g + d)
  | 0, r, g, _ => by rw [Nat.zero_add, Nat.add_zero]
  | d + 1, r, g, h => by
    rw [show d + 1 + r = (d + r) + 1 from by omega]
    simp only [fgS]
    rw [if_neg (fun x => by rw [h g (by omega) (by omega), Bool.false_and] at x; exact absurd x.1 Bool.false_ne_true), fgS_skip d r (g + 1) (fun x h1 h2 => h x (by omega) (by omega))]
    rw [show g + 1 + d = g + (d + 1) from by omega]
theorem fgr_low {z : Nat → Bool} {M : Nat → Nat} {s : Nat} (hs : s < 64) (h0 : 0 < s) : fgr z M s = fgS z M s (s - 2 ^ lwS s) (2 ^ lwS s) := by
  have h2 := (lw_bit hs h0).2.1
  have h1 : 1 ≤ 2 ^ lwS s := Nat.one_le_two_pow
  unfold fgr
  rw [show s - 1 = (2 ^ lwS s - 1) + (s - 2 ^ lwS s) from by omega, fgS_skip (2 ^ lwS s - 1) (s - 2 ^ lwS s) 1 (fun x g1 g2 => ?_), show 1 + (2 ^ lwS s - 1) = 2 ^ lwS s from by omega]
  cases e : gq x s with
  | false => rfl
  | true =>
    have := (gq_fact hs (by omega) h0 e).2.2.1
    omega
theorem fgS_ok {z : Nat → Bool} {M : Nat → Nat} {s : Nat} (hs : s < 64) (h0 : 0 < s) (hz : z s = true) : ∀ (r g : Nat), g + r = s → (gq (fgS z M s r g) s && z (fgS z M s r g)) = true ∧ fgS z M s r g ≤ s
  | 0, g, h => by
    simp only [fgS]
    rw [show g = s from by omega, (gq_self hs h0).1, hz]
    exact ⟨rfl, Nat.le_refl _⟩
  | r + 1, g, h => by
    simp only [fgS]
    by_cases e : (gq g s && z g) = true ∧ 1 + M (dif s g) = M s
    · rw [if_pos e]; exact ⟨e.1, by omega⟩
    · rw [if_neg e]; exact fgS_ok hs h0 hz r (g + 1) (by omega)
def glS (z : Nat → Bool) (M : Nat → Nat) : Nat → Nat → List Nat
  | 0, _ => []
  | f + 1, s => if s = 0 then [] else fgr z M s :: glS z M f (dif s (fgr z M s))
/-- what the balances give -/
def zB (B : Nat → Int) (s : Nat) : Bool := decide (ssum B s 6 = 0)
def gsB (B : Nat → Int) : List Nat := glS (zB B) (MM (zB B) (opI B 6)) 3 (opI B 6)
def BB (B : Nat → Int) : Prop := (∀ p, p < 6 → -5994 ≤ B p ∧ B p ≤ 5994) ∧ B 0 + B 1 + B 2 + B 3 + B 4 + B 5 = 0
theorem BB_bal {v : Nat → Nat} (hv : ∀ k, k < 36 → v k ≤ 999) : BB (bal v) := ⟨fun _ hp => bal_bd hv hp, bal_sum v⟩
theorem zB_op {B : Nat → Int} (h : BB B) : zB B (opI B 6) = true := by
  unfold zB
  apply decide_eq_true
  have e : ∀ k, k < 6 → (if (opI B 6).testBit k then B k else 0) = B k := by
    intro k hk
    rw [opI_bit]
    by_cases e : B k = 0
    · simp [e]
    · simp [e, hk]
  simp only [ssum]
  rw [e 0 (by omega), e 1 (by omega), e 2 (by omega), e 3 (by omega), e 4 (by omega), e 5 (by omega)]
  have := h.2
  omega
theorem zB_dif {B : Nat → Int} {s g : Nat} (hs : s < 64) (hg : g < 64) (hq : gq g s = true) (hz : zB B g = true) : zB B (dif s g) = zB B s := by
  unfold zB at hz ⊢
  have h1 := of_decide_eq_true hz
  have h2 := ssum_dif (B := B) hs hg hq
  congr 1
  apply propext
  constructor <;> intro h <;> omega
theorem sub_difs {s g o : Nat} (hs : s < 64) (hg : g < 64) (ho : o < 64) (h : sub s o = true) : sub (dif s g) o = true := by
  refine sub_of (dif_lt hs hg).1 ho (fun x hx hb => ?_)
  rw [dif_bit hs hg hx, Bool.and_eq_true] at hb
  exact sub_bit hs ho hx h hb.1
theorem sub_gq {s g o : Nat} (hs : s < 64) (hg : g < 64) (ho : o < 64) (hq : gq g s = true) (h : sub s o = true) : sub g o = true :=
  sub_of hg ho (fun x hx hb => sub_bit hs ho hx h (gq_bit hs hg hx hq hb))
/-- a group has two people or more -/
theorem grp_two {B : Nat → Int} {s g : Nat} (hs : s < 64) (hg : g < 64) (h0 : 0 < s) (hq : gq g s = true) (hz : zB B g = true) (ho : sub s (opI B 6) = true) : pcS (dif s g) + 2 ≤ pcS s := by
  have one : ∀ p, p < 6 → g ≠ 2 ^ p := by
    intro p hp e
    have h1 := of_decide_eq_true hz
    rw [e, ssum_one hp] at h1
    have h2 := sub_bit hs (opI_6 B) hp ho (gq_bit hs hg hp hq (by rw [e, Nat.testBit_two_pow]; simp))
    rw [opI_bit] at h2
    exact (of_decide_eq_true h2).2 h1
  exact pc_dif hs hg h0 hq ⟨one 0 (by omega), one 1 (by omega), one 2 (by omega), one 3 (by omega), one 4 (by omega), one 5 (by omega)⟩
end
