/-! ===== sets of people, as bits ===== -/
section
def dif (s g : Nat) : Nat := s &&& (63 ^^^ g)
def lwS (s : Nat) : Nat := if s.testBit 0 then 0 else if s.testBit 1 then 1 else if s.testBit 2 then 2 else if s.testBit 3 then 3 else if s.testBit 4 then 4 else 5
def pcS (s : Nat) : Nat := (if s.testBit 0 then 1 else 0) + (if s.testBit 1 then 1 else 0) + (if s.testBit 2 then 1 else 0) + (if s.testBit 3 then 1 else 0) + (if s.testBit 4 then 1 else 0) + (if s.testBit 5 then 1 else 0)
theorem all64 {P : Nat → Prop} [DecidablePred P] (h : (List.range 64).all (fun i => decide (P i)) = true) {i : Nat} (hi : i < 64) : P i := co_dec h hi
theorem all64_2 {P : Nat → Nat → Prop} [∀ a b, Decidable (P a b)] (h : (List.range 64).all (fun i => (List.range 64).all (fun j => decide (P i j))) = true) {i j : Nat} (hi : i < 64) (hj : j < 64) : P i j := by
  rw [List.all_eq_true] at h
  have := h i (List.mem_range.mpr hi)
  rw [List.all_eq_true] at this
  exact of_decide_eq_true (this j (List.mem_range.mpr hj))
theorem all64_6 {P : Nat → Nat → Prop} [∀ a b, Decidable (P a b)] (h : (List.range 64).all (fun i => (List.range 6).all (fun j => decide (P i j))) = true) {i j : Nat} (hi : i < 64) (hj : j < 6) : P i j := by
  rw [List.all_eq_true] at h
  have := h i (List.mem_range.mpr hi)
  rw [List.all_eq_true] at this
  exact of_decide_eq_true (this j (List.mem_range.mpr hj))
-- the machine's bits
theorem sb_bit {s x : Nat} (hs : s < 64) (hx : x < 6) : (nI s >>> (nI x &&& 31)) &&& 1 = nI (if s.testBit x then 1 else 0) := all64_6 (P := fun s x => (nI s >>> (nI x &&& 31)) &&& 1 = nI (if s.testBit x then 1 else 0)) (by decide +kernel) hs hx
theorem sb_two {s x y : Nat} (hs : s < 64) (hx : x < 6) (hy : y < 6) : ((nI s >>> (nI x &&& 31)) &&& (nI s >>> (nI y &&& 31))) &&& 1 = nI (if s.testBit x ∧ s.testBit y then 1 else 0) := by
  have h := all64 (P := fun s => (List.range 6).all (fun x => (List.range 6).all (fun y => decide (((nI s >>> (nI x &&& 31)) &&& (nI s >>> (nI y &&& 31))) &&& 1 = nI (if s.testBit x ∧ s.testBit y then 1 else 0)))) = true) (by decide +kernel) hs
  rw [List.all_eq_true] at h
  have h2 := h x (List.mem_range.mpr hx)
  rw [List.all_eq_true] at h2
  exact of_decide_eq_true (h2 y (List.mem_range.mpr hy))
theorem sb_and {s g : Nat} (hs : s < 64) (hg : g < 64) : nI s &&& nI g = nI (s &&& g) := all64_2 (P := fun s g => nI s &&& nI g = nI (s &&& g)) (by decide +kernel) hs hg
theorem sb_dif {s g : Nat} (hs : s < 64) (hg : g < 64) : nI s &&& (nI g ^^^ (-1)) = nI (dif s g) := all64_2 (P := fun s g => nI s &&& (nI g ^^^ (-1)) = nI (dif s g)) (by decide +kernel) hs hg
theorem sb_low {s g : Nat} (hs : s < 64) (hg : g < 64) : nI g &&& (nI s &&& (-nI s)) = nI (g &&& (s &&& (64 - s))) := all64_2 (P := fun s g => nI g &&& (nI s &&& (-nI s)) = nI (g &&& (s &&& (64 - s)))) (by decide +kernel) hs hg
theorem sb_or {s x : Nat} (hs : s < 64) (hx : x < 6) : nI s ||| (1 <<< (nI x &&& 31)) = nI (s ||| 2 ^ x) := all64_6 (P := fun s x => nI s ||| (1 <<< (nI x &&& 31)) = nI (s ||| 2 ^ x)) (by decide +kernel) hs hx
theorem sb_one {x : Nat} (hx : x < 6) : (1 : Int32) <<< (nI x &&& 31) = nI (2 ^ x) := co_dec (N := 6) (P := fun x => (1 : Int32) <<< (nI x &&& 31) = nI (2 ^ x)) (by decide +kernel) hx
theorem sb_rest {s : Nat} (hs : s < 64) (h0 : 0 < s) : nI s &&& (nI s - 1) = nI (s &&& (s - 1)) := all64 (P := fun s => 0 < s → nI s &&& (nI s - 1) = nI (s &&& (s - 1))) (by decide +kernel) hs h0
-- plain facts
theorem lwS_lt (s : Nat) : lwS s < 6 := by
  unfold lwS
  repeat' split
  all_goals omega
theorem dif_lt {s g : Nat} (hs : s < 64) (hg : g < 64) : dif s g < 64 ∧ dif s g ≤ s := all64_2 (P := fun s g => dif s g < 64 ∧ dif s g ≤ s) (by decide +kernel) hs hg
theorem dif_bit {s g x : Nat} (hs : s < 64) (hg : g < 64) (hx : x < 6) : (dif s g).testBit x = (s.testBit x && !g.testBit x) := by
  have h := all64_2 (P := fun s g => (List.range 6).all (fun x => decide ((dif s g).testBit x = (s.testBit x && !g.testBit x))) = true) (by decide +kernel) hs hg
  rw [List.all_eq_true] at h
  exact of_decide_eq_true (h x (List.mem_range.mpr hx))
theorem rest_bit {s x : Nat} (hs : s < 64) (h0 : 0 < s) (hx : x < 6) : (s &&& (s - 1)).testBit x = (s.testBit x && decide (x ≠ lwS s)) := all64_6 (P := fun s x => 0 < s → (s &&& (s - 1)).testBit x = (s.testBit x && decide (x ≠ lwS s))) (by decide +kernel) hs hx h0
theorem rest_lt {s : Nat} (hs : s < 64) (h0 : 0 < s) : s &&& (s - 1) < s := all64 (P := fun s => 0 < s → s &&& (s - 1) < s) (by decide +kernel) hs h0
theorem lw_bit {s : Nat} (hs : s < 64) (h0 : 0 < s) : s.testBit (lwS s) = true ∧ 2 ^ lwS s ≤ s ∧ ∀ x, x < lwS s → s.testBit x = false := by
  have h := all64 (P := fun s => 0 < s → s.testBit (lwS s) = true ∧ 2 ^ lwS s ≤ s ∧ (List.range (lwS s)).all (fun x => decide (s.testBit x = false)) = true) (by decide +kernel) hs h0
  refine ⟨h.1, h.2.1, fun x hx => ?_⟩
  have h3 := h.2.2
  rw [List.all_eq_true] at h3
  exact of_decide_eq_true (h3 x (List.mem_range.mpr hx))
/-- g is a group of s with its least one, but for the sum -/
def gq (g s : Nat) : Bool := (g &&& s == g) && g.testBit (lwS s)
theorem gq_c {g s : Nat} (hs : s < 64) (hg : g < 64) (h0 : 0 < s) : (g &&& s = g ∧ g &&& (s &&& (64 - s)) ≠ 0) ↔ gq g s = true := all64_2 (P := fun s g => 0 < s → ((g &&& s = g ∧ g &&& (s &&& (64 - s)) ≠ 0) ↔ gq g s = true)) (by decide +kernel) hs hg h0
theorem gq_r {g s : Nat} (hs : s < 64) (hg : g < 64) : (dif g s = 0 ∧ g.testBit (lwS s) = true) ↔ gq g s = true := all64_2 (P := fun s g => (dif g s = 0 ∧ g.testBit (lwS s) = true) ↔ gq g s = true) (by decide +kernel) hs hg
theorem gq_fact {g s : Nat} (hs : s < 64) (hg : g < 64) (h0 : 0 < s) (h : gq g s = true) : g ≤ s ∧ 0 < g ∧ 2 ^ lwS s ≤ g ∧ dif s g < s := all64_2 (P := fun s g => 0 < s → gq g s = true → g ≤ s ∧ 0 < g ∧ 2 ^ lwS s ≤ g ∧ dif s g < s) (by decide +kernel) hs hg h0 h
theorem gq_bit {g s x : Nat} (hs : s < 64) (hg : g < 64) (hx : x < 6) (h : gq g s = true) (hb : g.testBit x = true) : s.testBit x = true := by
  have h1 := all64_2 (P := fun s g => gq g s = true → (List.range 6).all (fun x => decide (g.testBit x = true → s.testBit x = true)) = true) (by decide +kernel) hs hg h
  rw [List.all_eq_true] at h1
  exact of_decide_eq_true (h1 x (List.mem_range.mpr hx)) hb
theorem gq_self {s : Nat} (hs : s < 64) (h0 : 0 < s) : gq s s = true ∧ dif s s = 0 := all64 (P := fun s => 0 < s → gq s s = true ∧ dif s s = 0) (by decide +kernel) hs h0
theorem pc_dif {g s : Nat} (hs : s < 64) (hg : g < 64) (h0 : 0 < s) (h : gq g s = true) (hn : g ≠ 1 ∧ g ≠ 2 ∧ g ≠ 4 ∧ g ≠ 8 ∧ g ≠ 16 ∧ g ≠ 32) : pcS (dif s g) + 2 ≤ pcS s := all64_2 (P := fun s g => 0 < s → gq g s = true → (g ≠ 1 ∧ g ≠ 2 ∧ g ≠ 4 ∧ g ≠ 8 ∧ g ≠ 16 ∧ g ≠ 32) → pcS (dif s g) + 2 ≤ pcS s) (by decide +kernel) hs hg h0 h hn
theorem pc_le (s : Nat) : pcS s ≤ 6 := by
  unfold pcS
  repeat' split
  all_goals omega
theorem pc_0 {s : Nat} (hs : s < 64) (h : pcS s = 0) : s = 0 := all64 (P := fun s => pcS s = 0 → s = 0) (by decide +kernel) hs h
-- subsets of the open ones
def sub (s o : Nat) : Bool := s &&& o == s
theorem sub_bit {s o x : Nat} (hs : s < 64) (ho : o < 64) (hx : x < 6) (h : sub s o = true) (hb : s.testBit x = true) : o.testBit x = true := by
  have h1 := all64_2 (P := fun s o => sub s o = true → (List.range 6).all (fun x => decide (s.testBit x = true → o.testBit x = true)) = true) (by decide +kernel) hs ho h
  rw [List.all_eq_true] at h1
  exact of_decide_eq_true (h1 x (List.mem_range.mpr hx)) hb
theorem sub_of {s o : Nat} (hs : s < 64) (ho : o < 64) (h : ∀ x, x < 6 → s.testBit x = true → o.testBit x = true) : sub s o = true := by
  have h1 := all64_2 (P := fun s o => (List.range 6).all (fun x => decide (s.testBit x = true → o.testBit x = true)) = true → sub s o = true) (by decide +kernel) hs ho
  apply h1
  rw [List.all_eq_true]
  intro x hx
  exact decide_eq_true (h x (List.mem_range.mp hx))
theorem sub_dif {s o : Nat} (hs : s < 64) (ho : o < 64) : dif s o = 0 ↔ sub s o = true := all64_2 (P := fun s o => dif s o = 0 ↔ sub s o = true) (by decide +kernel) hs ho
-- sums
def ssum (B : Nat → Int) (s : Nat) : Nat → Int
  | 0 => 0
  | k + 1 => ssum B s k + (if s.testBit k then B k else 0)
theorem ssum_add {B : Nat → Int} {s a b : Nat} : ∀ k, k ≤ 6 → (∀ x, x < 6 → s.testBit x = (a.testBit x || b.testBit x) ∧ (a.testBit x && b.testBit x) = false) → ssum B s k = ssum B a k + ssum B b k
  | 0, _, _ => rfl
  | k + 1, hk, h => by
    simp only [ssum]
    rw [ssum_add k (by omega) h]
    obtain ⟨h1, h2⟩ := h k (by omega)
    rw [h1]
    cases ha : a.testBit k <;> cases hb : b.testBit k
    · simp
    · simp; omega
    · simp; omega
    · rw [ha, hb] at h2; exact absurd h2 (by decide)
theorem ssum_dif {B : Nat → Int} {s g : Nat} (hs : s < 64) (hg : g < 64) (h : gq g s = true) : ssum B s 6 = ssum B g 6 + ssum B (dif s g) 6 := by
  refine ssum_add 6 (Nat.le_refl _) (fun x hx => ?_)
  rw [dif_bit hs hg hx]
  have := gq_bit hs hg hx h
  cases hg' : g.testBit x <;> cases hs' : s.testBit x
  · simp
  · simp
  · exact absurd (this hg') (by rw [hs']; decide)
  · simp
theorem ssum_one {B : Nat → Int} {p : Nat} (hp : p < 6) : ssum B (2 ^ p) 6 = B p := by
  rcases (show p = 0 ∨ p = 1 ∨ p = 2 ∨ p = 3 ∨ p = 4 ∨ p = 5 by omega) with rfl | rfl | rfl | rfl | rfl | rfl <;> simp [ssum, Nat.testBit, Nat.shiftRight_eq_div_pow]
theorem ssum_low {B : Nat → Int} {s : Nat} (hs : s < 64) (h0 : 0 < s) : ssum B s 6 = ssum B (s &&& (s - 1)) 6 + B (lwS s) := by
  rw [← ssum_one (B := B) (lwS_lt s)]
  refine ssum_add 6 (Nat.le_refl _) (fun x hx => ?_)
  rw [rest_bit hs h0 hx]
  have hb : (2 ^ lwS s).testBit x = decide (lwS s = x) := Nat.testBit_two_pow ..
  rw [hb]
  have := lw_bit hs h0
  by_cases e : x = lwS s
  · subst e
    rw [this.1]; simp
  · have e' : ¬ lwS s = x := fun z => e z.symm
    simp [e, e']
theorem ssum_0 (B : Nat → Int) : ∀ k, ssum B 0 k = 0
  | 0 => rfl
  | k + 1 => by simp [ssum, ssum_0 B k]
theorem ssum_bd {B : Nat → Int} {c : Int} (h0 : 0 ≤ c) (hB : ∀ p, p < 6 → -c ≤ B p ∧ B p ≤ c) (s : Nat) : ∀ k : Nat, k ≤ 6 → -(c * k) ≤ ssum B s k ∧ ssum B s k ≤ c * k
  | 0, _ => by simp [ssum]
  | k + 1, hk => by
    have h1 := ssum_bd h0 hB s k (by omega)
    have h2 := hB k (by omega)
    have h3 : c * ((k + 1 : Nat) : Int) = c * k + c := by rw [Int.natCast_add, Int.mul_add]; simp
    simp only [ssum]
    rw [h3]
    split <;> omega
def opI (B : Nat → Int) : Nat → Nat
  | 0 => 0
  | k + 1 => if B k = 0 then opI B k else opI B k ||| 2 ^ k
theorem opI_lt (B : Nat → Int) : ∀ k, opI B k < 2 ^ k
  | 0 => by simp [opI]
  | k + 1 => by
    have h := opI_lt B k
    have h2 : 2 ^ (k + 1) = 2 ^ k + 2 ^ k := by rw [Nat.pow_succ]; omega
    simp only [opI]
    split
    · omega
    · exact Nat.or_lt_two_pow (by omega) (by omega)
theorem opI_bit (B : Nat → Int) : ∀ k x, (opI B k).testBit x = decide (x < k ∧ B x ≠ 0)
  | 0, x => by simp [opI]
  | k + 1, x => by
    simp only [opI]
    by_cases e : B k = 0
    · rw [if_pos e, opI_bit B k x]
      congr 1
      apply propext
      constructor
      · rintro ⟨h1, h2⟩; exact ⟨by omega, h2⟩
      · rintro ⟨h1, h2⟩
        exact ⟨by rcases (show x < k ∨ x = k by omega) with h | rfl; exact h; exact absurd e h2, h2⟩
    · rw [if_neg e, Nat.testBit_or, opI_bit B k x, Nat.testBit_two_pow]
      by_cases hx : x = k
      · subst hx; simp [e]
      · have : ¬ k = x := fun z => hx z.symm
        simp only [this, decide_false, Bool.or_false]
        congr 1
        apply propext
        constructor
        · rintro ⟨h1, h2⟩; exact ⟨by omega, h2⟩
        · rintro ⟨h1, h2⟩; exact ⟨by omega, h2⟩
theorem opI_6 (B : Nat → Int) : opI B 6 < 64 := opI_lt B 6
end
