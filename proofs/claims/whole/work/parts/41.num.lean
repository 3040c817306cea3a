/-! ===== numbers: a class int is nI of a Nat, or zI of an Int ===== -/
section
theorem nn0 : (0 : Int32) = nI 0 := rfl
theorem nn1 : (1 : Int32) = nI 1 := rfl
theorem nn2 : (2 : Int32) = nI 2 := rfl
theorem nn3 : (3 : Int32) = nI 3 := rfl
theorem nn4 : (4 : Int32) = nI 4 := rfl
theorem nn5 : (5 : Int32) = nI 5 := rfl
theorem nn6 : (6 : Int32) = nI 6 := rfl
theorem nn10 : (10 : Int32) = nI 10 := rfl
theorem nn12 : (12 : Int32) = nI 12 := rfl
theorem nn30 : (30 : Int32) = nI 30 := rfl
theorem nn36 : (36 : Int32) = nI 36 := rfl
theorem nn40 : (40 : Int32) = nI 40 := rfl
theorem nn48 : (48 : Int32) = nI 48 := rfl
theorem nn57 : (57 : Int32) = nI 57 := rfl
theorem nn59 : (59 : Int32) = nI 59 := rfl
theorem nn60 : (60 : Int32) = nI 60 := rfl
theorem nn64 : (64 : Int32) = nI 64 := rfl
theorem nn99 : (99 : Int32) = nI 99 := rfl
theorem nn100 : (100 : Int32) = nI 100 := rfl
theorem nn111 : (111 : Int32) = nI 111 := rfl
theorem nn120 : (120 : Int32) = nI 120 := rfl
theorem nn127 : (127 : Int32) = nI 127 := rfl
theorem nn400 : (400 : Int32) = nI 400 := rfl
theorem nn999 : (999 : Int32) = nI 999 := rfl
def zI (z : Int) : Int32 := Int32.ofInt z
theorem zI_n (n : Nat) : nI n = zI (n : Int) := rfl
theorem zI_toInt {z : Int} (h1 : -2 ^ 31 ≤ z) (h2 : z < 2 ^ 31) : (zI z).toInt = z := Int32.toInt_ofInt_of_le h1 h2
theorem zI_add (a b : Int) : zI a + zI b = zI (a + b) := (Int32.ofInt_add a b).symm
theorem zI_sub (a b : Int) : zI a - zI b = zI (a - b) := (Int32.ofInt_sub a b).symm
theorem zI_mul (a b : Int) : zI a * zI b = zI (a * b) := (Int32.ofInt_mul a b).symm
theorem zI_neg (a : Int) : -zI a = zI (-a) := (Int32.ofInt_neg a).symm
theorem zI_lt {a b : Int} (h1 : -2 ^ 31 ≤ a ∧ a < 2 ^ 31) (h2 : -2 ^ 31 ≤ b ∧ b < 2 ^ 31) : zI a < zI b ↔ a < b := by
  rw [Int32.lt_iff_toInt_lt, zI_toInt h1.1 h1.2, zI_toInt h2.1 h2.2]
theorem zI_le {a b : Int} (h1 : -2 ^ 31 ≤ a ∧ a < 2 ^ 31) (h2 : -2 ^ 31 ≤ b ∧ b < 2 ^ 31) : zI a ≤ zI b ↔ a ≤ b := by
  rw [Int32.le_iff_toInt_le, zI_toInt h1.1 h1.2, zI_toInt h2.1 h2.2]
theorem zI_eq {a b : Int} (h1 : -2 ^ 31 ≤ a ∧ a < 2 ^ 31) (h2 : -2 ^ 31 ≤ b ∧ b < 2 ^ 31) : zI a = zI b ↔ a = b := by
  rw [← Int32.toInt_inj, zI_toInt h1.1 h1.2, zI_toInt h2.1 h2.2]
theorem zI_0 : (0 : Int32) = zI 0 := rfl
theorem zI_1 : (1 : Int32) = zI 1 := rfl
theorem zI_m1 : (-1 : Int32) = zI (-1) := rfl
theorem zI_m2 : (-2 : Int32) = zI (-2) := rfl
theorem zI_m5 : (-5 : Int32) = zI (-5) := rfl
theorem xlt (x y : Int32) : x < y ↔ x.toInt < y.toInt := Int32.lt_iff_toInt_lt
theorem xle (x y : Int32) : x ≤ y ↔ x.toInt ≤ y.toInt := Int32.le_iff_toInt_le
theorem nI_lt0 {n : Nat} (h : n < 2 ^ 31) : nI n < 0 ↔ False := iff_false_intro (nI_pos h)
theorem nI_ge0 {n : Nat} (h : n < 2 ^ 31) : 0 ≤ nI n ↔ True := iff_true_intro (nI_pos' h)
theorem nI_e0 {n : Nat} (h : n < 2 ^ 31) : nI n = 0 ↔ n = 0 := nI_eq h (by decide)
theorem nI_le0 {n : Nat} (h : n < 2 ^ 31) : nI n ≤ 0 ↔ n = 0 := by
  rw [nn0, nI_leI h (by decide)]; omega
theorem nI_gt0 {n : Nat} (h : n < 2 ^ 31) : 0 < nI n ↔ 0 < n := by
  rw [nn0, nI_ltI (by decide) h]
theorem nI_em {n : Nat} {k : Nat} (h : n < 2 ^ 31) (hk : 0 < k ∧ k < 2 ^ 31) : nI n = zI (-(k : Int)) ↔ False := by
  rw [zI_n, zI_eq (by omega) (by omega)]; constructor
  · intro h; omega
  · exact False.elim
theorem nI_em1 {n : Nat} (h : n < 2 ^ 31) : nI n = -1 ↔ False := nI_em (k := 1) h (by decide)
theorem nI_em5 {n : Nat} (h : n < 2 ^ 31) : nI n = -5 ↔ False := nI_em (k := 5) h (by decide)
theorem gA_n {α : Type} {i n : Nat} {x : Option α} (h : i < n) (hn : n < 2 ^ 31) : gA (nI i) n x = x := by
  unfold gA; rw [if_neg (nI_in h hn)]
theorem gA_0 {α : Type} {n : Nat} {x : Option α} (h : 0 < n) (hn : n < 2 ^ 31) : gA 0 n x = x := gA_n (i := 0) h hn
theorem gB_n {α : Type} {y : Int32} {x : Option α} (h : y = 0 ∨ y = 1) : gB y x = x := if_pos h
theorem gB_0 {α : Type} {x : Option α} : gB 0 x = x := if_pos (Or.inl rfl)
theorem gB_1 {α : Type} {x : Option α} : gB 1 x = x := if_pos (Or.inr rfl)
theorem gZ_n {α : Type} {n : Nat} {x : Option α} (h : 0 < n) (hn : n < 2 ^ 31) : gZ (nI n) x = x := if_neg (nI_ne0 h hn)
theorem jn_eq {α β : Type} (k : α) (b : α → β) : jn k b = b k := rfl
theorem up_eq {f : Nat → Int32} {k j : Nat} {x : Int32} : upd f k x j = if j = k then x else f j := by
  by_cases h : j = k
  · rw [if_pos h, h]; exact pk_us
  · rw [if_neg h]; exact pk_un h
theorem upL_eq {f : Nat → Int64} {k j : Nat} {x : Int64} : vp_updL f k x j = if j = k then x else f j := rfl
theorem on0 : ((1 : Int32) = 0) ↔ False := by decide
theorem on1 : ((0 : Int32) = 0) ↔ True := by decide
theorem on2 : ((0 : Int32) < 0) ↔ False := by decide
theorem on3 : ((1 : Int32) < 0) ↔ False := by decide
theorem on4 : ((0 : Int32) ≤ 0) ↔ True := by decide
theorem on5 : ((0 : Int32) = 1) ↔ False := by decide
theorem on6 : ((1 : Int32) = 1) ↔ True := by decide
theorem on7 : ((1 : Int32) ≤ 0) ↔ False := by decide
theorem g6 {i : Nat} (h : i < 6) : ¬ (6 : Int32) ≤ nI i := nI_ge h (by decide)
theorem e6 {i : Nat} (h : 6 ≤ i) (hi : i < 2 ^ 31) : (6 : Int32) ≤ nI i := nI_le h hi
theorem g36 {i : Nat} (h : i < 36) : ¬ (36 : Int32) ≤ nI i := nI_ge h (by decide)
theorem e36 {i : Nat} (h : 36 ≤ i) (hi : i < 2 ^ 31) : (36 : Int32) ≤ nI i := nI_le h hi
theorem g60 {i : Nat} (h : i < 60) : ¬ (60 : Int32) ≤ nI i := nI_ge h (by decide)
theorem e60 {i : Nat} (h : 60 ≤ i) (hi : i < 2 ^ 31) : (60 : Int32) ≤ nI i := nI_le h hi
theorem g64 {i : Nat} (h : i < 64) : ¬ (64 : Int32) ≤ nI i := nI_ge h (by decide)
theorem e64 {i : Nat} (h : 64 ≤ i) (hi : i < 2 ^ 31) : (64 : Int32) ≤ nI i := nI_le h hi
theorem n6 {i : Nat} (h : i ≤ 6) : ¬ (6 : Int32) < nI i := nI_nlt h (by decide)
theorem f6 {i : Nat} (h : 6 < i) (hi : i < 2 ^ 31) : (6 : Int32) < nI i := nI_lt h hi
theorem i1 {i : Nat} (h : 1 ≤ i) (hi : i < 2 ^ 31) : ¬ nI i < (1 : Int32) := nI_nlt h hi
-- persons
theorem px (n : Nat) (hn : n ≤ 6) (x : Int32) : (∃ j, j < n ∧ x = nI j ∧ fX8_isPerson (nI n) x = some 1 ∧ fX9_isPerson (nI n) x = some 1) ∨ (¬ (∃ j, j < n ∧ x = nI j) ∧ fX8_isPerson (nI n) x = some 0 ∧ fX9_isPerson (nI n) x = some 0) := by
  have e : nI n - 1 = zI ((n : Int) - 1) := by rw [zI_1, zI_n, zI_sub]
  have et : (nI n - 1).toInt = (n : Int) - 1 := by rw [e, zI_toInt (by omega) (by omega)]
  have en : (nI n).toInt = n := nI_toInt (by omega)
  have e0 : (0 : Int32).toInt = 0 := by decide
  unfold fX8_isPerson fX9_isPerson fX9_within
  simp only [xlt, xle, et, en, e0]
  by_cases h1 : x.toInt < 0
  · right
    refine ⟨?_, ?_, ?_⟩
    · rintro ⟨j, hj, rfl⟩
      rw [nI_toInt (by omega)] at h1; omega
    · rw [if_pos h1]
    · rw [if_pos h1]; rfl
  · by_cases h2 : (n : Int) ≤ x.toInt
    · right
      refine ⟨?_, ?_, ?_⟩
      · rintro ⟨j, hj, rfl⟩
        rw [nI_toInt (by omega)] at h2; omega
      · rw [if_neg h1, if_pos h2]
      · rw [if_neg h1, if_pos (by omega)]; rfl
    · left
      refine ⟨x.toInt.toNat, by omega, ?_, ?_, ?_⟩
      · rw [← Int32.toInt_inj, nI_toInt (by omega)]; omega
      · rw [if_neg h1, if_neg h2]
      · rw [if_neg h1, if_neg (by omega)]; rfl
theorem pp (n : Nat) (hn : n ≤ 6) (x y : Int32) : (∃ i j, i < n ∧ j < n ∧ i ≠ j ∧ x = nI i ∧ y = nI j ∧ fX8_isPair (nI n) x y = some 1 ∧ fX9_areTwo (nI n) x y = some 1) ∨ (fX8_isPair (nI n) x y = some 0 ∧ fX9_areTwo (nI n) x y = some 0) := by
  unfold fX8_isPair fX9_areTwo
  rcases px n hn x with ⟨i, hi, ex, a1, a2⟩ | ⟨_, a1, a2⟩
  · rw [a1, a2]
    simp only [Option.bind_some, on0, if_false]
    rcases px n hn y with ⟨j, hj, ey, b1, b2⟩ | ⟨_, b1, b2⟩
    · rw [b1, b2]
      simp only [Option.bind_some, on0, if_false]
      by_cases hij : i = j
      · right
        have : x = y := by rw [ex, ey, hij]
        rw [if_pos this]; exact ⟨rfl, rfl⟩
      · left
        have : ¬ x = y := by
          rw [ex, ey, nI_eq (by omega) (by omega)]; exact hij
        rw [if_neg this]
        exact ⟨i, j, hi, hj, hij, ex, ey, rfl, rfl⟩
    · right
      rw [b1, b2]; exact ⟨rfl, rfl⟩
  · right
    rw [a1, a2]; exact ⟨rfl, rfl⟩
/-- a number within bounds -/
theorem wi (a b : Nat) (ha : a < 2 ^ 31) (hb : b < 2 ^ 31) (x : Int32) : (∃ j, a ≤ j ∧ j ≤ b ∧ x = nI j ∧ fX9_within x (nI a) (nI b) = some 1) ∨ ((x < nI a ∨ (¬ x < nI a ∧ nI b < x)) ∧ fX9_within x (nI a) (nI b) = some 0) := by
  unfold fX9_within
  by_cases h1 : x < nI a
  · right; exact ⟨Or.inl h1, if_pos h1⟩
  · by_cases h2 : nI b < x
    · right; refine ⟨Or.inr ⟨h1, h2⟩, ?_⟩; rw [if_neg h1, if_pos h2]
    · left
      have g1 : ¬ x.toInt < a := by rw [xlt, nI_toInt ha] at h1; exact h1
      have g2 : ¬ (b : Int) < x.toInt := by rw [xlt, nI_toInt hb] at h2; exact h2
      refine ⟨x.toInt.toNat, by omega, by omega, ?_, ?_⟩
      · rw [← Int32.toInt_inj, nI_toInt (by omega)]; omega
      · rw [if_neg h1, if_neg h2]
/-- a place in a row of n -/
theorem wn (n : Nat) (hn : n < 2 ^ 31) (x : Int32) : (∃ j, j < n ∧ x = nI j ∧ fX9_within x 0 (nI n - 1) = some 1) ∨ ((x < 0 ∨ (¬ x < 0 ∧ nI n ≤ x)) ∧ fX9_within x 0 (nI n - 1) = some 0) := by
  have e : nI n - 1 = zI ((n : Int) - 1) := by rw [zI_1, zI_n, zI_sub]
  have et : (nI n - 1).toInt = (n : Int) - 1 := by rw [e, zI_toInt (by omega) (by omega)]
  have en : (nI n).toInt = n := nI_toInt (by omega)
  have e0 : (0 : Int32).toInt = 0 := by decide
  unfold fX9_within
  simp only [xlt, xle, et, en, e0]
  by_cases h1 : x.toInt < 0
  · right; exact ⟨Or.inl h1, if_pos h1⟩
  · by_cases h2 : (n : Int) ≤ x.toInt
    · right; refine ⟨Or.inr ⟨h1, h2⟩, ?_⟩; rw [if_neg h1, if_pos (by omega)]
    · left
      refine ⟨x.toInt.toNat, by omega, ?_, ?_⟩
      · rw [← Int32.toInt_inj, nI_toInt (by omega)]; omega
      · rw [if_neg h1, if_neg (by omega)]
end
