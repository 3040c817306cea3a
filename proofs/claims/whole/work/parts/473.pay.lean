/-! ===== payments ===== -/
section
abbrev TL : Type := List (Nat × Nat × Nat)
def fl : TL → List Nat
  | [] => []
  | x :: t => x.1 :: x.2.1 :: x.2.2 :: fl t
theorem fl_app : ∀ (A B : TL), fl (A ++ B) = fl A ++ fl B
  | [], _ => rfl
  | x :: A, B => by simp only [List.cons_append, fl, fl_app A B]
theorem fl_len : ∀ (A : TL), (fl A).length = 3 * A.length
  | [] => rfl
  | x :: A => by simp only [fl, List.length_cons, fl_len A]; omega
def nz (f : Nat → Int) : Nat → Nat
  | 0 => 0
  | k + 1 => nz f k + (if f k = 0 then 0 else 1)
def uI (f : Nat → Int) (p : Nat) (x : Int) : Nat → Int := fun k => if k = p then x else f k
theorem nz_out {f : Nat → Int} {p : Nat} {x : Int} : ∀ k, k ≤ p → nz (uI f p x) k = nz f k
  | 0, _ => rfl
  | k + 1, h => by
    simp only [nz]
    have : uI f p x k = f k := by unfold uI; exact if_neg (by omega)
    rw [nz_out k (by omega), this]
theorem nz_u {f : Nat → Int} {p : Nat} {x : Int} : ∀ k, p < k → nz (uI f p x) k + (if f p = 0 then 0 else 1) = nz f k + (if x = 0 then 0 else 1)
  | 0, h => absurd h (Nat.not_lt_zero _)
  | k + 1, h => by
    simp only [nz]
    by_cases e : p = k
    · subst e
      rw [nz_out p (Nat.le_refl _)]
      have : uI f p x p = x := by unfold uI; rw [if_pos rfl]
      rw [this]; omega
    · have ih := nz_u (f := f) (p := p) (x := x) k (by omega)
      have : uI f p x k = f k := by unfold uI; rw [if_neg (by omega)]
      rw [this]; omega
theorem nz_le (f : Nat → Int) : ∀ k, nz f k ≤ k
  | 0 => Nat.le_refl _
  | k + 1 => by
    have := nz_le f k
    simp only [nz]
    split <;> omega
abbrev PS : Type := (Nat → Int) × TL
def pay1 (S : PS) (p q : Nat) : PS := if S.1 p < 0 ∧ 0 < S.1 q then (uI (uI S.1 p (S.1 p + min (-(S.1 p)) (S.1 q))) q (S.1 q - min (-(S.1 p)) (S.1 q)), S.2 ++ [(p, q, (min (-(S.1 p)) (S.1 q)).toNat)]) else S
def payQ (c : Nat → Bool) (p : Nat) : Nat → Nat → PS → PS
  | 0, _, S => S
  | r + 1, q, S => payQ c p r (q + 1) (if c q = true then pay1 S p q else S)
def payP (c : Nat → Nat → Bool) : Nat → Nat → PS → PS
  | 0, _, S => S
  | r + 1, p, S => payP c r (p + 1) (payQ (c p) p 6 0 S)
def gc (g p q : Nat) : Bool := g.testBit p && g.testBit q
def payG : List Nat → PS → PS
  | [], S => S
  | g :: t, S => payG t (payP (gc g) 6 0 S)
/-- a payment is in order -/
def TO (n : Nat) (x : Nat × Nat × Nat) : Prop := x.1 < n ∧ x.2.1 < n ∧ x.1 ≠ x.2.1 ∧ 1 ≤ x.2.2 ∧ x.2.2 ≤ 5994
def PI (n : Nat) (S : PS) : Prop := (∀ p, p < 6 → -5994 ≤ S.1 p ∧ S.1 p ≤ 5994) ∧ (∀ p, n ≤ p → p < 6 → S.1 p = 0) ∧ (∀ x ∈ S.2, TO n x) ∧ S.2.length + nz S.1 6 ≤ 6
theorem pay1_no {S : PS} {p q : Nat} (h : ¬ (S.1 p < 0 ∧ 0 < S.1 q)) : pay1 S p q = S := if_neg h
theorem pay1_yes {S : PS} {p q : Nat} (h : S.1 p < 0 ∧ 0 < S.1 q) : pay1 S p q = (uI (uI S.1 p (S.1 p + min (-(S.1 p)) (S.1 q))) q (S.1 q - min (-(S.1 p)) (S.1 q)), S.2 ++ [(p, q, (min (-(S.1 p)) (S.1 q)).toNat)]) := if_pos h
theorem PI.room {n : Nat} {S : PS} (h : PI n S) {p : Nat} (hp : p < 6) (h0 : S.1 p ≠ 0) : S.2.length < 6 := by
  have h4 := h.2.2.2
  have := nz_u (f := S.1) (x := 0) 6 hp
  rw [if_neg h0, if_pos rfl] at this
  omega
theorem PI.pay {n : Nat} {S : PS} (h : PI n S) {p q : Nat} (hp : p < 6) (hq : q < 6) : PI n (pay1 S p q) := by
  by_cases e : S.1 p < 0 ∧ 0 < S.1 q
  · rw [pay1_yes e]
    obtain ⟨h1, h2, h3, h4⟩ := h
    have b1 := h1 p hp
    have b2 := h1 q hq
    have hne : q ≠ p := fun x => by rw [x] at e; omega
    have hpn : p < n := Nat.lt_of_not_le (fun x => by have := h2 p x hp; omega)
    have hqn : q < n := Nat.lt_of_not_le (fun x => by have := h2 q x hq; omega)
    have e1 : uI S.1 p (S.1 p + min (-(S.1 p)) (S.1 q)) q = S.1 q := by unfold uI; rw [if_neg hne]
    have n1 := nz_u (f := S.1) (x := S.1 p + min (-(S.1 p)) (S.1 q)) 6 hp
    have n2 := nz_u (f := uI S.1 p (S.1 p + min (-(S.1 p)) (S.1 q))) (x := S.1 q - min (-(S.1 p)) (S.1 q)) 6 hq
    rw [e1] at n2
    rw [if_neg (by omega)] at n1 n2
    refine ⟨fun k hk => ?_, fun k hk hk6 => ?_, fun x hx => ?_, ?_⟩
    · show -5994 ≤ uI _ q _ k ∧ uI _ q _ k ≤ 5994
      unfold uI
      split
      · omega
      · split
        · omega
        · exact h1 k hk
    · show uI _ q _ k = 0
      unfold uI
      rw [if_neg (by omega), if_neg (by omega)]
      exact h2 k hk hk6
    · rw [List.mem_append, List.mem_singleton] at hx
      rcases hx with hx | rfl
      · exact h3 x hx
      · exact ⟨hpn, hqn, fun x => hne x.symm, by show 1 ≤ (min (-(S.1 p)) (S.1 q)).toNat; omega, by show (min (-(S.1 p)) (S.1 q)).toNat ≤ 5994; omega⟩
    · show (S.2 ++ [(p, q, (min (-(S.1 p)) (S.1 q)).toNat)]).length + nz (uI (uI S.1 p (S.1 p + min (-(S.1 p)) (S.1 q))) q (S.1 q - min (-(S.1 p)) (S.1 q))) 6 ≤ 6
      rw [List.length_append, List.length_singleton]
      by_cases z1 : S.1 p + min (-(S.1 p)) (S.1 q) = 0
      · rw [if_pos z1] at n1
        split at n2 <;> omega
      · rw [if_neg z1] at n1
        rw [if_pos (by omega)] at n2
        omega
  · rw [pay1_no e]; exact h
theorem payQ_PI {n : Nat} {c : Nat → Bool} {p : Nat} (hp : p < 6) : ∀ (r q : Nat) (S : PS), q + r ≤ 6 → PI n S → PI n (payQ c p r q S)
  | 0, _, _, _, h => h
  | r + 1, q, S, hq, h => by
    simp only [payQ]
    refine payQ_PI hp r (q + 1) _ (by omega) ?_
    split
    · exact h.pay hp (by omega)
    · exact h
theorem payQ_out {n : Nat} {c : Nat → Bool} {p : Nat} : ∀ (r q : Nat) (S : PS), q + r ≤ 6 → PI n S → (n ≤ q ∨ (n ≤ p ∧ p < 6)) → payQ c p r q S = S
  | 0, _, _, _, _, _ => rfl
  | r + 1, q, S, hq, h, ho => by
    have : pay1 S p q = S := pay1_no (fun x => by
      rcases ho with e | e
      · have := h.2.1 q e (by omega); omega
      · have := h.2.1 p e.1 e.2; omega)
    simp only [payQ]
    rw [this]
    have e2 : (if c q = true then S else S) = S := by split <;> rfl
    rw [e2]
    exact payQ_out r (q + 1) S (by omega) h (ho.elim (fun e => Or.inl (by omega)) Or.inr)
theorem payP_PI {n : Nat} {c : Nat → Nat → Bool} : ∀ (r p : Nat) (S : PS), p + r ≤ 6 → PI n S → PI n (payP c r p S)
  | 0, _, _, _, h => h
  | r + 1, p, S, hp, h => by
    simp only [payP]
    exact payP_PI r (p + 1) _ (by omega) (payQ_PI (by omega) 6 0 S (by omega) h)
theorem payP_out {n : Nat} {c : Nat → Nat → Bool} : ∀ (r p : Nat) (S : PS), p + r ≤ 6 → PI n S → n ≤ p → payP c r p S = S
  | 0, _, _, _, _, _ => rfl
  | r + 1, p, S, hp, h, ho => by
    simp only [payP]
    rw [payQ_out 6 0 S (by omega) h (Or.inr ⟨ho, by omega⟩)]
    exact payP_out r (p + 1) S (by omega) h (by omega)
theorem payG_PI {n : Nat} : ∀ (G : List Nat) (S : PS), PI n S → PI n (payG G S)
  | [], _, h => h
  | g :: t, S, h => by
    simp only [payG]
    exact payG_PI t _ (payP_PI 6 0 S (by omega) h)
/-- what the rows of a machine hold -/
def PR (S : PS) (lf : Nat → Int32) (sz : Int32) (num : Nat → Int32) : Prop := (∀ p, p < 6 → lf p = zI (S.1 p)) ∧ sz = nI S.2.length ∧ LR num 0 (fl S.2)
theorem add_n {N R t : Nat} {num : Nat → Int32} (hN : 3 * R ≤ N) (hN2 : N ≤ 120) (ht : t < R) (x y z : Int32) : fX5_add N (nI R) (nI t) num x y z = some (nI (t + 1), nI (t + 1), upd (upd (upd num (3 * t) x) (3 * t + 1) y) (3 * t + 2) z) := by
  unfold fX5_add
  rw [if_pos (nI_lt ht (by omega)), nn3, pk_mul, nn1, nI_add, nn2, nI_add, gA_n (by omega) (by omega), gA_n (by omega) (by omega), gA_n (by omega) (by omega), nI_add, nI_clamp (by omega), nI_clamp (by omega), nI_clamp (by omega)]
theorem add_f {N R t : Nat} {num : Nat → Int32} (hN2 : t ≤ 120) (ht : R ≤ t) (x y z : Int32) : fX5_add N (nI R) (nI t) num x y z = some (-4, nI t, num) := by
  unfold fX5_add
  rw [if_neg (nI_nlt ht (by omega))]
theorem LR_3 {num : Nat → Int32} {P : TL} {p q a : Nat} (h : LR num 0 (fl P)) : LR (upd (upd (upd num (3 * P.length) (nI p)) (3 * P.length + 1) (nI q)) (3 * P.length + 2) (nI a)) 0 (fl (P ++ [(p, q, a)])) := by
  have hl := fl_len P
  rw [fl_app, LR_app]
  refine ⟨LR_upd _ 0 (Or.inr (by omega)) (LR_upd _ 0 (Or.inr (by omega)) (LR_upd _ 0 (Or.inr (by omega)) h)), ?_⟩
  simp only [fl, LR, up_eq]
  refine ⟨?_, ?_, ?_, trivial⟩
  · rw [if_neg (by omega), if_neg (by omega), if_pos (by omega)]
  · rw [if_neg (by omega), if_pos (by omega)]
  · rw [if_pos (by omega)]
theorem zmin {a b : Int} (ha : -2 ^ 31 ≤ a ∧ a < 2 ^ 31) (hb : -2 ^ 31 ≤ b ∧ b < 2 ^ 31) : (if zI a < zI b then zI a else zI b) = zI (min b a) := by
  by_cases h : a < b
  · rw [if_pos ((zI_lt ha hb).mpr h)]; congr 1; omega
  · rw [if_neg (fun x => h ((zI_lt ha hb).mp x))]; congr 1; omega
theorem zmin' {a b : Int} (ha : -2 ^ 31 ≤ a ∧ a < 2 ^ 31) (hb : -2 ^ 31 ≤ b ∧ b < 2 ^ 31) {α : Type} (g : Int32 → α) : (if zI a ≤ zI b then g (zI a) else g (zI b)) = g (zI (min b a)) := by
  by_cases h : a ≤ b
  · rw [if_pos ((zI_le ha hb).mpr h)]; congr 2; omega
  · rw [if_neg (fun x => h ((zI_le ha hb).mp x))]; congr 2; omega
theorem zI_tn {a : Int} (h : 0 ≤ a) : zI a = nI a.toNat := by rw [zI_n]; congr 1; omega
theorem paid_rows {n : Nat} {S : PS} {lf num : Nat → Int32} {p q : Nat} (hI : PI n S) (h : PR S lf (nI S.2.length) num) (hp : p < 6) (hq : q < 6) (e : S.1 p < 0 ∧ 0 < S.1 q) :
    PR (pay1 S p q) (upd (upd lf p (lf p + zI (min (-(S.1 p)) (S.1 q)))) q ((upd lf p (lf p + zI (min (-(S.1 p)) (S.1 q)))) q - zI (min (-(S.1 p)) (S.1 q)))) (nI (S.2.length + 1)) (upd (upd (upd num (3 * S.2.length) (nI p)) (3 * S.2.length + 1) (nI q)) (3 * S.2.length + 2) (zI (min (-(S.1 p)) (S.1 q)))) := by
  obtain ⟨h1, h2, h3⟩ := h
  have hne : q ≠ p := fun x => by rw [x] at e; omega
  rw [pay1_yes e]
  refine ⟨fun k hk => ?_, ?_, ?_⟩
  · show _ = zI (uI _ q _ k)
    unfold uI
    rw [up_eq, up_eq, if_neg hne, up_eq, h1 q hq, h1 p hp, zI_add, zI_sub]
    by_cases e1 : k = q
    · rw [if_pos e1, if_pos e1]
    · rw [if_neg e1, if_neg e1]
      by_cases e2 : k = p
      · rw [if_pos e2, if_pos e2]
      · rw [if_neg e2, if_neg e2]; exact h1 k hk
  · simp
  · rw [zI_tn (show 0 ≤ min (-(S.1 p)) (S.1 q) by omega)]
    exact LR_3 h3
theorem pw_n {n : Nat} {S : PS} {lf num : Nat → Int32} {sz : Int32} {p q : Nat} (hI : PI n S) (h : PR S lf sz num) (hp : p < 6) (hq : q < 6) :
    ∃ z, fX3_payWhatBothHave 18 lf 6 sz num (nI p) (nI q) = some z ∧ PR (pay1 S p q) z.1 z.2.1 z.2.2 := by
  have hsz := h.2.1
  subst hsz
  have b1 := hI.1 p hp
  have b2 := hI.1 q hq
  have hm : (if lf q < -lf p then lf q else -lf p) = zI (min (-(S.1 p)) (S.1 q)) := by
    rw [h.1 p hp, h.1 q hq, zI_neg]
    exact zmin (by omega) (by omega)
  unfold fX3_payWhatBothHave
  rw [gA_n hp (by decide), gA_n hq (by decide), nI_clamp (by omega), nI_clamp (by omega), hm]
  by_cases e : S.1 p < 0 ∧ 0 < S.1 q
  · rw [if_neg (by rw [zI_0, zI_le (by omega) (by omega)]; omega), gA_n hp (by decide), gA_n hp (by decide), gA_n hq (by decide), gA_n hq (by decide)]
    rw [show fX5_add 18 6 (nI S.2.length) num (nI p) (nI q) _ = _ from add_n (R := 6) (by decide) (by decide) (hI.room hp (by omega)) _ _ _]
    exact ⟨_, rfl, paid_rows hI h hp hq e⟩
  · rw [if_pos (by rw [zI_0, zI_le (by omega) (by omega)]; omega), pay1_no e]
    exact ⟨_, rfl, h⟩
theorem ps_n {n : Nat} {S : PS} {lf num : Nat → Int32} {sz : Int32} {p q : Nat} (hI : PI n S) (h : PR S lf sz num) (hp : p < 6) (hq : q < 6) (e : S.1 p < 0 ∧ 0 < S.1 q) :
    ∃ z, fX9_pays sz lf num (nI p) (nI q) = some z ∧ PR (pay1 S p q) z.2.1 z.1 z.2.2 := by
  have hsz := h.2.1
  subst hsz
  have b1 := hI.1 p hp
  have b2 := hI.1 q hq
  have hr := hI.room hp (by omega)
  unfold fX9_pays
  rw [gA_n hp (by decide), gA_n hq (by decide), nI_clamp (by omega), nI_clamp (by omega), nn3, pk_mul, nn1, nI_add, nn2, nI_add, nI_add]
  simp only [jn_eq, gA_n hp (show 6 < 2 ^ 31 by decide), gA_n hq (show 6 < 2 ^ 31 by decide), gA_n (show 3 * S.2.length < 30 by omega) (show 30 < 2 ^ 31 by decide), gA_n (show 3 * S.2.length + 1 < 30 by omega) (show 30 < 2 ^ 31 by decide), gA_n (show 3 * S.2.length + 2 < 30 by omega) (show 30 < 2 ^ 31 by decide), nI_clamp (show 3 * S.2.length < 2 ^ 31 by omega), nI_clamp (show 3 * S.2.length + 1 < 2 ^ 31 by omega), nI_clamp (show 3 * S.2.length + 2 < 2 ^ 31 by omega)]
  have key : ∀ {α : Type} (g : Int32 → α), (if lf q ≤ -lf p then g (lf q) else g (-lf p)) = g (zI (min (-(S.1 p)) (S.1 q))) := by
    intro α g
    rw [h.1 p hp, h.1 q hq, zI_neg]
    exact zmin' (by omega) (by omega) g
  rw [key (fun y => some (nI (S.2.length + 1), upd (upd lf p (lf p + y)) q (upd lf p (lf p + y) q - y), upd (upd (upd num (3 * S.2.length) (nI p)) (3 * S.2.length + 1) (nI q)) (3 * S.2.length + 2) y))]
  exact ⟨_, rfl, paid_rows hI h hp hq e⟩
-- the class pays in groups
theorem pigq_l {n g p : Nat} (hg : g < 64) (hp : p < 6) (kx : (Nat → Int32) → Int32 → (Nat → Int32) → Option ((Nat → Int32) × Int32 × (Nat → Int32))) : ∀ (r fuel q : Nat) (S : PS) (lf num : Nat → Int32) (sz : Int32), q + r = 6 → r < fuel → PI n S → PR S lf sz num →
    ∃ lf' sz' num', fX3_payInGroup_L10 kx 18 6 (nI g) (nI p) fuel (nI q) lf sz num = kx lf' sz' num' ∧ PR (payQ (gc g p) p r q S) lf' sz' num'
  | 0, fuel, q, S, lf, num, sz, he, hf, hI, h => by
    obtain ⟨f, rfl⟩ : ∃ f, fuel = f + 1 := ⟨fuel - 1, by omega⟩
    rw [fX3_payInGroup_L10, if_pos (e6 (by omega) (by omega))]
    exact ⟨_, _, _, rfl, h⟩
  | r + 1, fuel, q, S, lf, num, sz, he, hf, hI, h => by
    obtain ⟨f, rfl⟩ : ∃ f, fuel = f + 1 := ⟨fuel - 1, by omega⟩
    rw [fX3_payInGroup_L10, if_neg (g6 (by omega)), sb_two hg hp (by omega), nI_1]
    simp only [payQ]
    have hgc : gc g p q = true ↔ (g.testBit p = true ∧ g.testBit q = true) := by unfold gc; rw [Bool.and_eq_true]
    by_cases e : g.testBit p = true ∧ g.testBit q = true
    · rw [if_pos (by rw [if_pos e]; rfl), if_pos (hgc.mpr e)]
      obtain ⟨z, a1, a2⟩ := pw_n hI h hp (show q < 6 by omega)
      rw [a1]
      exact pigq_l hg hp kx r f (q + 1) _ _ _ _ (by omega) (by omega) (hI.pay hp (by omega)) a2
    · rw [if_neg (by rw [if_neg e]; decide), if_neg (fun x => e (hgc.mp x))]
      exact pigq_l hg hp kx r f (q + 1) _ _ _ _ (by omega) (by omega) hI h
theorem pigp_l {n g : Nat} (hg : g < 64) : ∀ (r fuel p : Nat) (S : PS) (lf num : Nat → Int32) (sz : Int32), p + r = 6 → r < fuel → PI n S → PR S lf sz num →
    ∃ z, fX3_payInGroup_L2 18 6 (nI g) fuel (nI p) lf sz num = some z ∧ PR (payP (gc g) r p S) z.1 z.2.1 z.2.2
  | 0, fuel, p, S, lf, num, sz, he, hf, hI, h => by
    obtain ⟨f, rfl⟩ : ∃ f, fuel = f + 1 := ⟨fuel - 1, by omega⟩
    rw [fX3_payInGroup_L2, if_pos (e6 (by omega) (by omega))]
    exact ⟨_, rfl, h⟩
  | r + 1, fuel, p, S, lf, num, sz, he, hf, hI, h => by
    obtain ⟨f, rfl⟩ : ∃ f, fuel = f + 1 := ⟨fuel - 1, by omega⟩
    rw [fX3_payInGroup_L2, if_neg (g6 (by omega)), nI_1]
    simp only [payP]
    obtain ⟨lf', sz', num', a1, a2⟩ := pigq_l hg (show p < 6 by omega) (fun (u_left_5 : (Nat → Int32)) (u_payments_size_5 : Int32) (u_payments_numbers_5 : (Nat → Int32)) => fX3_payInGroup_L2 18 6 (nI g) f (nI (p + 1)) u_left_5 u_payments_size_5 u_payments_numbers_5) 6 400 0 S lf num sz rfl (by decide) hI h
    rw [show (0 : Int32) = nI 0 from rfl, a1]
    exact pigp_l hg r f (p + 1) _ _ _ _ (by omega) (by omega) (payQ_PI (by omega) 6 0 S (by omega) hI) a2
theorem gat_n {G : List Nat} {gr : Nat → Int32} {k : Nat} (h : LR gr 0 G) (hl : G.length ≤ 6) (hk : k < G.length) : fX3_groupAt (nI G.length) gr (nI k) = some (nI (gp G k)) := by
  unfold fX3_groupAt
  rw [if_neg (nI_pos (by omega)), if_neg (nI_ge hk (by omega)), if_neg (g6 (by omega)), gA_n (by omega) (by decide), nI_clamp (by omega), LR_gp0 h hk]
theorem netg_l {n : Nat} {G : List Nat} {gr : Nat → Int32} (ba su mo : Nat → Int32) (hgr : LR gr 0 G) (hl : G.length ≤ 6) (hlt : ∀ g ∈ G, g < 64) : ∀ (H : List Nat) (fuel k : Nat) (S : PS) (lf num : Nat → Int32) (sz : Int32), k + H.length = G.length → H = G.drop k → H.length < fuel → PI n S → PR S lf sz num →
    ∃ lf' sz' num', fX3_net_L26 18 (nI G.length) ba su mo gr 6 fuel (nI k) lf sz num = some (nI G.length, ba, lf', su, mo, gr, sz', num') ∧ PR (payG H S) lf' sz' num'
  | [], fuel, k, S, lf, num, sz, he, hd, hf, hI, h => by
    obtain ⟨f, rfl⟩ : ∃ f, fuel = f + 1 := ⟨fuel - 1, by simp only [List.length_nil] at hf; omega⟩
    simp only [List.length_nil, Nat.add_zero] at he
    rw [fX3_net_L26, if_pos (nI_le (by omega) (by omega))]
    exact ⟨_, _, _, rfl, h⟩
  | g :: H, fuel, k, S, lf, num, sz, he, hd, hf, hI, h => by
    obtain ⟨f, rfl⟩ : ∃ f, fuel = f + 1 := ⟨fuel - 1, by simp only [List.length_cons] at hf; omega⟩
    simp only [List.length_cons] at he hf
    have hk : k < G.length := by omega
    have hgk : gp G k = g := by
      have h1 : G = G.take k ++ g :: H := by rw [hd, List.take_append_drop]
      have h2 : (G.take k).length = k := by rw [List.length_take]; omega
      have h3 := gp_a2 (G.take k) H g
      rw [← h1, h2] at h3
      exact h3
    have hgm : g ∈ G := by rw [← hgk]; exact gp_mem G k hk
    rw [fX3_net_L26, if_neg (nI_ge hk (by omega)), gat_n hgr hl hk, hgk]
    simp only [Option.bind_some, nI_1]
    unfold fX3_payInGroup
    obtain ⟨z, a1, a2⟩ := pigp_l (hlt g hgm) 6 400 0 S lf num sz rfl (by decide) hI h
    rw [show (0 : Int32) = nI 0 from rfl, a1]
    have hd2 : H = G.drop (k + 1) := by rw [← List.drop_drop, ← hd]; rfl
    exact netg_l ba su mo hgr hl hlt H f (k + 1) _ _ _ _ (by omega) hd2 (by omega) (payP_PI 6 0 S (by omega) hI) a2
def S0 (v : Nat → Nat) : PS := (bal v, [])
theorem PI_0 {n : Nat} {v : Nat → Nat} {L : List Nat} (hn : n ≤ 6) (hW : DebW n v L) : PI n (S0 v) := by
  refine ⟨fun p hp => bal_bd hW.1 hp, fun p h1 h2 => bal_out hW.out h2 h1, fun x hx => absurd hx List.not_mem_nil, ?_⟩
  have := nz_le (bal v) 6
  show 0 + nz (bal v) 6 ≤ 6
  omega
/-- payments of the groups -/
def PG (v : Nat → Nat) : PS := payG (gsB (bal v)) (S0 v)
theorem PG_PI {n : Nat} {v : Nat → Nat} {L : List Nat} (hn : n ≤ 6) (hW : DebW n v L) : PI n (PG v) := payG_PI _ _ (PI_0 hn hW)
theorem net_n {n : Nat} {v : Nat → Nat} {L : List Nat} {ow ba lf su mo gr num : Nat → Int32} (hn : n ≤ 6) (ho : ∀ k, k < 36 → ow k = nI (v k)) (hW : DebW n v L) :
    ∃ z, fX3_net 18 ba lf su mo gr 6 num ow = some z ∧ z.1 = nI (gsB (bal v)).length ∧ (∀ p, p < 6 → z.2.1 p = zI (bal v p)) ∧ LR z.2.2.2.2.2.1 0 (gsB (bal v)) ∧ PR (PG v) z.2.2.1 z.2.2.2.2.2.2.1 z.2.2.2.2.2.2.2 := by
  have hB := BB_bal hW.1
  obtain ⟨⟨b', l'⟩, a1, a2⟩ := weigh_n (b := ba) (l := lf) ho
  obtain ⟨su', mo', gr', b1, b2, b3, b4⟩ := groups_c (b := b') (su := su) (mo := mo) (gr := gr) hB (fun p hp => (a2 p hp).1)
  unfold fX3_net
  rw [a1]
  simp only [Option.bind_some]
  rw [b1]
  simp only [Option.bind_some]
  rw [b2]
  simp only [Option.bind_some]
  rw [b3]
  have hlen := gsB_len hB
  obtain ⟨lf', sz', num', c1, c2⟩ := netg_l (n := n) (G := gsB (bal v)) b' su' mo' b4 (by omega) (gsB_lt hB) (gsB (bal v)) 400 0 (S0 v) l' num 0 (by omega) rfl (by omega) (PI_0 hn hW) ⟨fun p hp => (a2 p hp).2, rfl, trivial⟩
  unfold fX5_clear
  simp only [Option.bind_some]
  rw [show (0 : Int32) = nI 0 from rfl] at *
  rw [c1]
  exact ⟨_, rfl, rfl, fun p hp => (a2 p hp).1, b4, c2⟩
end
