section
/-! ===== each call: tapes ===== -/
theorem upu_eq {α : Type} {f : Nat → α} {k j : Nat} {v : α} : va_up f k v j = if j = k then v else f j := rfl
theorem tap_n (x : Int32) {k1 : Nat} (hx : ¬ (x < 0 ∨ 6 ≤ x) → x = nI k1) (hk : k1 < 6) : (x = nI k1 ∧ ¬ (x < 0 ∨ 6 ≤ x) ∧ fX9_isTape x = some 1) ∨ ((x < 0 ∨ 6 ≤ x) ∧ fX9_isTape x = some 0) := by
  unfold fX9_isTape
  rcases wi 0 5 (by decide) (by decide) x with ⟨j, _, hj, rfl, e⟩ | ⟨h, e⟩
  · left
    have hno : ¬ (nI j < 0 ∨ 6 ≤ nI j) := fun q => q.elim (nI_pos (by omega)) (g6 (by omega))
    refine ⟨hx hno, hno, ?_⟩
    rw [show fX9_within (nI j) 0 5 = some 1 from e]
    simp only [Option.bind_some]
    exact gB_1
  · right
    refine ⟨?_, ?_⟩
    · rcases h with h | ⟨h, h2⟩
      · exact Or.inl h
      · right
        have e5 : (nI 5).toInt = 5 := nI_toInt (by decide)
        have e6 : (6 : Int32).toInt = 6 := by decide
        rw [xlt, e5] at h2
        rw [xle, e6]; omega
    · rw [show fX9_within x 0 5 = some 0 from e]
      simp only [Option.bind_some]
      exact gB_0
theorem bec_l (so le : Int32) : ∀ (r fuel k : Nat) (it : Nat → Int64), k + r = 60 → r < fuel → (∀ j, j < k → it j = 0) →
    ∃ it', fX6_become_L12 so le fuel (nI k) it = some (so, le, it') ∧ ∀ j, j < 60 → it' j = 0
  | 0, fuel, k, it, he, hf, h => by
    obtain ⟨f, rfl⟩ : ∃ f, fuel = f + 1 := ⟨fuel - 1, by omega⟩
    rw [fX6_become_L12, if_pos (e60 (by omega) (by omega))]
    exact ⟨it, rfl, fun j hj => h j (by omega)⟩
  | r + 1, fuel, k, it, he, hf, h => by
    obtain ⟨f, rfl⟩ : ∃ f, fuel = f + 1 := ⟨fuel - 1, by omega⟩
    rw [fX6_become_L12, if_neg (g60 (by omega)), gA_n (by omega) (by decide), nI_clamp (by omega), nI_1]
    refine bec_l so le r f (k + 1) _ (by omega) (by omega) (fun j hj => ?_)
    rw [upL_eq]
    by_cases e : j = k
    · rw [if_pos e]
    · rw [if_neg e]; exact h j (by omega)
theorem bec_n (it : Nat → Int64) (so le : Int32) : ∃ it', fX6_become it so le = some (so, le, it') ∧ ∀ j, j < 60 → it' j = 0 := by
  unfold fX6_become
  obtain ⟨it', a1, a2⟩ := bec_l so le 60 400 0 it rfl (by decide) (fun j hj => absurd hj (Nat.not_lt_zero _))
  exact ⟨it', a1, a2⟩
theorem rbec_l (so si : Nat → Int32) {k1 : Nat} (hk1 : k1 < 6) (it0 : Nat → Int64) : ∀ (r fuel k : Nat) (it : Nat → Int64), k + r = 60 → r < fuel → (∀ j, it j = if 60 * k1 ≤ j ∧ j < 60 * k1 + k then 0 else it0 j) →
    ∃ it', fX9_tape_L67 so si (nI k1) fuel (nI k) it = some (1, so, si, it') ∧ ∀ j, it' j = if 60 * k1 ≤ j ∧ j < 60 * k1 + 60 then 0 else it0 j
  | 0, fuel, k, it, he, hf, h => by
    obtain ⟨f, rfl⟩ : ∃ f, fuel = f + 1 := ⟨fuel - 1, by omega⟩
    rw [fX9_tape_L67, if_pos (e60 (by omega) (by omega))]
    rw [show k = 60 from by omega] at h
    exact ⟨it, rfl, h⟩
  | r + 1, fuel, k, it, he, hf, h => by
    obtain ⟨f, rfl⟩ : ∃ f, fuel = f + 1 := ⟨fuel - 1, by omega⟩
    rw [fX9_tape_L67, if_neg (g60 (by omega)), nn60, pk_mul, nI_add, gA_n (by omega) (by decide), nI_clamp (by omega), nI_1]
    refine rbec_l so si hk1 it0 r f (k + 1) _ (by omega) (by omega) (fun j => ?_)
    rw [upL_eq]
    by_cases e : j = 60 * k1 + k
    · rw [if_pos e, if_pos (by omega)]
    · rw [if_neg e, h j]
      by_cases e2 : 60 * k1 ≤ j ∧ j < 60 * k1 + k
      · rw [if_pos e2, if_pos (by omega)]
      · rw [if_neg e2, if_neg (by omega)]
theorem TapR.tape {ts tl : Nat → Int32} {ti : Nat → Nat → Int64} {ms ml : Nat → Int32} {mi : Nat → Int64} (h : TapR ts tl ti ms ml mi) {k1 : Nat} (hk1 : k1 < 6) {so le : Int32} (hs : (so = -1 ∧ le = 0) ∨ ∃ r n : Nat, r ≤ 4 ∧ n ≤ 60 ∧ so = nI r ∧ le = nI n) {it : Nat → Int64} {mi' : Nat → Int64} (h1 : ∀ j, j < 60 → it j = 0) (h2 : ∀ j, mi' j = if 60 * k1 ≤ j ∧ j < 60 * k1 + 60 then 0 else mi j) : TapR (va_up ts k1 so) (va_up tl k1 le) (va_up ti k1 it) (upd ms k1 so) (upd ml k1 le) mi' := by
  intro k hk
  obtain ⟨a, b, c, d⟩ := h k hk
  rw [upu_eq, upu_eq, upu_eq, up_eq, up_eq]
  by_cases e : k = k1
  · subst e
    simp only [if_pos rfl, if_true]
    refine ⟨trivial, trivial, fun j hj => ?_, hs⟩
    rw [h1 j hj, h2, if_pos (by omega)]
  · simp only [if_neg e]
    refine ⟨a, b, fun j hj => ?_, d⟩
    rw [c j hj, h2, if_neg (by omega)]
theorem TapR.items {ts tl : Nat → Int32} {ti : Nat → Nat → Int64} {ms ml : Nat → Int32} {mi : Nat → Int64} (h : TapR ts tl ti ms ml mi) {k1 : Nat} {it : Nat → Int64} {mi' : Nat → Int64} (h1 : ∀ j, j < 60 → it j = mi' (60 * k1 + j)) (h2 : ∀ j, ¬ (60 * k1 ≤ j ∧ j < 60 * k1 + 60) → mi' j = mi j) : TapR ts tl (va_up ti k1 it) ms ml mi' := by
  intro k hk
  obtain ⟨a, b, c, d⟩ := h k hk
  refine ⟨a, b, fun j hj => ?_, d⟩
  rw [upu_eq]
  by_cases e : k = k1
  · subst e
    rw [if_pos rfl]; exact h1 j hj
  · rw [if_neg e, c j hj, h2 _ (by omega)]
theorem hp_n {n : Nat} (hn : n ≤ 60) (x : Int32) : (∃ i, i < n ∧ x = nI i ∧ fX6_hasPlace (nI n) x = some 1 ∧ fX9_within x 0 (nI n - 1) = some 1) ∨ (fX6_hasPlace (nI n) x = some 0 ∧ fX9_within x 0 (nI n - 1) = some 0) := by
  unfold fX6_hasPlace
  rcases wn n (by omega) x with ⟨i, hi, rfl, e⟩ | ⟨h, e⟩
  · left
    refine ⟨i, hi, rfl, ?_, e⟩
    rw [if_neg (nI_pos (by omega)), if_neg (nI_ge hi (by omega)), if_neg (g60 (by omega))]
  · right
    refine ⟨?_, e⟩
    rcases h with h | ⟨h, h2⟩
    · rw [if_pos h]
    · rw [if_neg h, if_pos h2]
theorem fwd_l {a b k1 k2 n : Nat} (hk1 : k1 < 6) (hk2 : k2 < 6) (ha : a + n ≤ 60) (hb : b + n ≤ 60) (it0 : Nat → Int64) (hsafe : k1 ≠ k2 ∨ b ≤ a) : ∀ (r fuel m : Nat) (it : Nat → Int64), m + r = n → r < fuel → (∀ j, it j = if 60 * k2 + b ≤ j ∧ j < 60 * k2 + b + m then it0 (60 * k1 + a + (j - (60 * k2 + b))) else it0 j) →
    ∃ it', fX9_shift_L170 (nI k1) (nI a) (nI k2) (nI b) (nI n) fuel (nI m) it = some (nI n, it') ∧ ∀ j, it' j = if 60 * k2 + b ≤ j ∧ j < 60 * k2 + b + n then it0 (60 * k1 + a + (j - (60 * k2 + b))) else it0 j
  | 0, fuel, m, it, he, hf, h => by
    obtain ⟨f, rfl⟩ : ∃ f, fuel = f + 1 := ⟨fuel - 1, by omega⟩
    rw [fX9_shift_L170, if_pos (nI_le (by omega) (by omega))]
    rw [show m = n from by omega] at h
    exact ⟨it, rfl, h⟩
  | r + 1, fuel, m, it, he, hf, h => by
    obtain ⟨f, rfl⟩ : ∃ f, fuel = f + 1 := ⟨fuel - 1, by omega⟩
    rw [fX9_shift_L170, if_neg (nI_ge (by omega) (by omega)), nn60, pk_mul, pk_mul, nI_add, nI_add, nI_add, nI_add, gA_n (by omega) (by decide), gA_n (by omega) (by decide), nI_clamp (by omega), nI_clamp (by omega), nI_1]
    refine fwd_l hk1 hk2 ha hb it0 hsafe r f (m + 1) _ (by omega) (by omega) (fun j => ?_)
    rw [upL_eq, h (60 * k1 + a + m), h j]
    rw [if_neg (show ¬ (60 * k2 + b ≤ 60 * k1 + a + m ∧ 60 * k1 + a + m < 60 * k2 + b + m) by omega)]
    by_cases e : j = 60 * k2 + b + m
    · rw [if_pos e, if_pos (by omega)]; congr 1; omega
    · rw [if_neg e]
      by_cases e2 : 60 * k2 + b ≤ j ∧ j < 60 * k2 + b + m
      · rw [if_pos e2, if_pos (by omega)]
      · rw [if_neg e2, if_neg (by omega)]
theorem bwd_l {a b k1 n : Nat} (hk1 : k1 < 6) (ha : a + n ≤ 60) (hb : b + n ≤ 60) (it0 : Nat → Int64) (hab : a < b) : ∀ (m fuel : Nat) (it : Nat → Int64), m ≤ n → m < fuel → (∀ j, it j = if 60 * k1 + b + m ≤ j ∧ j < 60 * k1 + b + n then it0 (60 * k1 + a + (j - (60 * k1 + b))) else it0 j) →
    ∃ it', fX9_shift_L124 (nI k1) (nI a) (nI k1) (nI b) (nI n) fuel (zI ((m : Int) - 1)) it = some (nI n, it') ∧ ∀ j, it' j = if 60 * k1 + b ≤ j ∧ j < 60 * k1 + b + n then it0 (60 * k1 + a + (j - (60 * k1 + b))) else it0 j
  | 0, fuel, it, he, hf, h => by
    obtain ⟨f, rfl⟩ : ∃ f, fuel = f + 1 := ⟨fuel - 1, by omega⟩
    rw [fX9_shift_L124, if_pos (show zI (((0 : Nat) : Int) - 1) < 0 by decide)]
    exact ⟨it, rfl, h⟩
  | m + 1, fuel, it, he, hf, h => by
    obtain ⟨f, rfl⟩ : ∃ f, fuel = f + 1 := ⟨fuel - 1, by omega⟩
    have e1 : zI (((m + 1 : Nat) : Int) - 1) = nI m := by rw [zI_n]; congr 1; omega
    have e2 : nI m + (-1) = zI ((m : Int) - 1) := by rw [zI_n, zI_m1, zI_add]; rfl
    rw [fX9_shift_L124, e1, if_neg (nI_pos (by omega)), nn60, pk_mul, nI_add, nI_add, nI_add, nI_add, gA_n (by omega) (by decide), gA_n (by omega) (by decide), nI_clamp (by omega), nI_clamp (by omega), e2]
    refine bwd_l hk1 ha hb it0 hab m f _ (by omega) (by omega) (fun j => ?_)
    rw [upL_eq, h (60 * k1 + a + m), h j]
    rw [if_neg (show ¬ (60 * k1 + b + (m + 1) ≤ 60 * k1 + a + m ∧ 60 * k1 + a + m < 60 * k1 + b + n) by omega)]
    by_cases e : j = 60 * k1 + b + m
    · rw [if_pos e, if_pos (by omega)]; congr 1; omega
    · rw [if_neg e]
      by_cases e2 : 60 * k1 + b + (m + 1) ≤ j ∧ j < 60 * k1 + b + n
      · rw [if_pos e2, if_pos (by omega)]
      · rw [if_neg e2, if_neg (by omega)]
/-- a stretch -/
theorem st_n {s : Nat} (hs : s ≤ 60) (x y : Int32) (hx : ¬ x < 0) (hy : ¬ y < 0) : (∃ i m : Nat, x = nI i ∧ y = nI m ∧ i + m ≤ s ∧ fX6_hasStretch (nI s) x y = some 1 ∧ ¬ 0 < lg_cmp (x.toInt64 + y.toInt64) (nI s).toInt64 ∧ lg_cmp (x.toInt64 + y.toInt64) (nI s).toInt64 ≤ 0) ∨ (fX6_hasStretch (nI s) x y = some 0 ∧ 0 < lg_cmp (x.toInt64 + y.toInt64) (nI s).toInt64 ∧ ¬ lg_cmp (x.toInt64 + y.toInt64) (nI s).toInt64 ≤ 0) := by
  obtain ⟨i, hi, rfl⟩ := nI_of hx
  obtain ⟨m, hm, rfl⟩ := nI_of hy
  have hcmp : lg_cmp ((nI i).toInt64 + (nI m).toInt64) (nI s).toInt64 = if s < i + m then 1 else if i + m = s then 0 else -1 := by
    rw [nI_l hi, nI_l hm, nI_l (by omega), lN_add]
    unfold lg_cmp
    by_cases h1 : s < i + m
    · rw [if_pos ((pk_lLT (by omega) (by omega)).mpr h1), if_pos h1]
    · rw [if_neg (fun q => h1 ((pk_lLT (by omega) (by omega)).mp q)), if_neg h1]
      by_cases h2 : i + m = s
      · rw [if_pos (by rw [h2]), if_pos h2]
      · rw [if_neg (fun q => h2 ((pk_lEQ (by omega) (by omega)).mp q)), if_neg h2]
  rw [hcmp]
  unfold fX6_hasStretch
  rw [if_neg (nI_pos hm)]
  by_cases h : i + m ≤ s
  · left
    refine ⟨i, m, rfl, rfl, h, ?_, ?_, ?_⟩
    · rw [if_neg (nI_nlt (by omega) (by omega)), if_neg (nI_pos hi), pk_sub (by omega), if_neg (nI_nlt (by omega) (by omega))]
    · rw [if_neg (by omega)]; split <;> decide
    · rw [if_neg (by omega)]; split <;> decide
  · right
    refine ⟨?_, ?_, ?_⟩
    · by_cases h1 : s < m
      · rw [if_pos (nI_lt h1 hm)]
      · rw [if_neg (nI_nlt (by omega) (by omega)), if_neg (nI_pos hi), pk_sub (by omega), if_pos (nI_lt (by omega) hi)]
    · rw [if_pos (by omega)]; decide
    · rw [if_pos (by omega)]; decide
theorem st_neg {s : Nat} (x y : Int32) (h : x < 0 ∨ y < 0) : fX6_hasStretch (nI s) x y = some 0 := by
  unfold fX6_hasStretch
  by_cases hy : y < 0
  · rw [if_pos hy]
  · rw [if_neg hy]
    by_cases h2 : nI s < y
    · rw [if_pos h2]
    · rw [if_neg h2, if_pos (h.elim id (fun q => absurd q hy))]
theorem st_01 {s : Nat} (hs : s ≤ 60) (x y : Int32) : fX6_hasStretch (nI s) x y = some 0 ∨ fX6_hasStretch (nI s) x y = some 1 := by
  by_cases h : x < 0 ∨ y < 0
  · exact Or.inl (st_neg x y h)
  · rw [not_or] at h
    rcases st_n hs x y h.1 h.2 with ⟨_, _, _, _, _, e, _⟩ | ⟨e, _⟩
    · exact Or.inr e
    · exact Or.inl e
theorem so_m {r : Nat} (h : r ≤ 4) : ¬ nI r = (-1 : Int32) := fun q => by rw [nI_em1 (by omega)] at q; exact q
theorem cpy_eq {α : Type} {f g : Nat → α} {sp dp n k : Nat} : va_cpy f g sp dp n k = if dp ≤ k ∧ k < dp + n then f (sp + (k - dp)) else g k := rfl
theorem gC_n {α : Type} {a b n : Nat} {x : Option α} (ha : a + n ≤ 60) (hb : b + n ≤ 60) : gC (nI a) (nI b) (nI n) 60 60 x = x := by
  unfold gC
  rw [if_neg]
  rw [nI_clamp (by omega), nI_clamp (by omega), nI_clamp (by omega)]
  rintro (h | h | h | h | h)
  · exact nI_pos (by omega) h
  · exact nI_pos (by omega) h
  · exact nI_pos (by omega) h
  · omega
  · omega
theorem upu_self {α : Type} (f : Nat → α) (k : Nat) : va_up f k (f k) = f := by
  funext j
  rw [upu_eq]
  by_cases e : j = k
  · rw [if_pos e, e]
  · rw [if_neg e]
theorem bits_n {r : Nat} (hr : r ≤ 4) (x : Int64) : ∃ z, fX6_asItem (nI r) x = some z ∧ fX9_bits (nI r) x = some z := by
  unfold fX6_asItem fX9_bits
  rcases (show r = 0 ∨ r = 1 ∨ r = 2 ∨ r = 3 ∨ r = 4 by omega) with rfl | rfl | rfl | rfl | rfl
  · exact ⟨_, rfl, rfl⟩
  · exact ⟨_, rfl, rfl⟩
  · exact ⟨_, rfl, rfl⟩
  · exact ⟨_, rfl, rfl⟩
  · simp only [show (nI 4 = 0) = False from by decide, show (nI 4 = 1) = False from by decide, show (nI 4 = 2) = False from by decide, show (nI 4 = 3) = False from by decide, show (nI 4 = 4) = True from by decide, if_true, if_false]
    by_cases h : lg_cmp x 0 = 0
    · rw [if_pos h]; exact ⟨_, rfl, rfl⟩
    · rw [if_neg h]; exact ⟨_, rfl, rfl⟩
theorem nat0 : ¬ (0 : Int32) ≤ -1 := by decide
theorem neg1 : (-1 : Int32) < 0 := by decide
theorem lcl {a b : Nat} (ha : a < 2 ^ 63) (hb : b < 2 ^ 63) : lg_cmp (lN a) (lN b) < 0 ↔ a < b := by
  unfold lg_cmp
  by_cases h1 : lN a > lN b
  · rw [if_pos h1]
    have := (pk_lLT hb ha).mp h1
    exact ⟨fun h => absurd h (by decide), fun h => by omega⟩
  · rw [if_neg h1]
    have h2 : ¬ b < a := fun x => h1 ((pk_lLT hb ha).mpr x)
    by_cases h3 : lN a = lN b
    · rw [if_pos h3]
      have := (pk_lEQ ha hb).mp h3
      exact ⟨fun h => absurd h (by decide), fun h => by omega⟩
    · rw [if_neg h3]
      have h4 : a ≠ b := fun x => h3 (by rw [x])
      exact ⟨fun _ => by omega, fun _ => by decide⟩
/-- judged from some place on -/
def juI (P : List Nat) (it : Nat → Int64) (len : Nat) (x : Int32) : Nat → Nat → Int32
  | 0, _ => -5
  | r + 1, k => if x < 0 then nI (100 + k) else if len ≤ x.toNatClampNeg + k then nI (100 + k) else if lg_cmp (it (x.toNatClampNeg + k)) (((10000 * ((nI (gp P (3 * k)) : Int32).toInt64)) + (1000 * ((nI (gp P (3 * k + 1)) : Int32).toInt64))) + ((nI (gp P (3 * k + 2)) : Int32).toInt64)) = 0 then juI P it len x r (k + 1) else nI k
theorem cju_l {S : PS} {lf pn : Nat → Int32} {sz : Int32} (g1 : Int32) (g2 g3 g4 g5 g6x : Nat → Int32) {len : Nat} {it : Nat → Int64} (hl : S.2.length ≤ 6) (h1 : PR S lf sz pn) (hlen : len ≤ 60) (x : Int32) : ∀ (r fuel k : Nat), k + r = S.2.length → r < fuel → fX8_judge_L48 18 g1 g2 g3 g4 g5 g6x sz pn (nI len) it x fuel (nI k) = some (juI (fl S.2) it len x r k, g1, g2, g3, g4, g5, g6x, sz, pn)
  | 0, fuel, k, he, hf => by
    obtain ⟨f, rfl⟩ : ∃ f, fuel = f + 1 := ⟨fuel - 1, by omega⟩
    rw [fX8_judge_L48, fX5_size]
    simp only [Option.bind_some]
    rw [h1.2.1, if_pos (nI_le (by omega) (by omega))]; rfl
  | r + 1, fuel, k, he, hf => by
    obtain ⟨f, rfl⟩ : ∃ f, fuel = f + 1 := ⟨fuel - 1, by omega⟩
    have ih := cju_l g1 g2 g3 g4 g5 g6x hl h1 hlen (it := it) x r f (k + 1) (by omega) (by omega)
    obtain ⟨_, hsz, h3⟩ := h1
    subst hsz
    have hfl := fl_len S.2
    have a0 := LR_gp0 h3 (show 3 * k < (fl S.2).length by omega)
    have a1 := LR_gp0 h3 (show 3 * k + 1 < (fl S.2).length by omega)
    have a2 := LR_gp0 h3 (show 3 * k + 2 < (fl S.2).length by omega)
    rw [fX8_judge_L48, fX5_size]
    simp only [Option.bind_some, fX6_length, fX8_codeOfPayment]
    rw [if_neg (nI_ge (by omega) (by omega)), show fX5_at 18 (nI S.2.length) pn (nI k) 0 = _ from at_n (w := 0) (by omega) (by decide) (by omega) (by decide), show fX5_at 18 (nI S.2.length) pn (nI k) 1 = _ from at_n (w := 1) (by omega) (by decide) (by omega) (by decide), show fX5_at 18 (nI S.2.length) pn (nI k) 2 = _ from at_n (w := 2) (by omega) (by decide) (by omega) (by decide), Nat.add_zero, a0, a1, a2]
    simp only [Option.bind_some, nI_1, show (100 : Int32) + nI k = nI (100 + k) from nI_add 100 k]
    by_cases hx : x < 0
    · have hj : juI (fl S.2) it len x (r + 1) k = nI (100 + k) := if_pos hx
      rw [if_pos hx, hj]
    · obtain ⟨i, hi, rfl⟩ := nI_of hx
      have hcl : (nI i).toNatClampNeg = i := nI_clamp hi
      have e1 : nI len - 1 - nI k = zI ((len : Int) - 1 - k) := by rw [zI_n, zI_n, zI_1, zI_sub, zI_sub]
      rw [if_neg hx, e1]
      by_cases h6 : len ≤ i + k
      · have hj : juI (fl S.2) it len (nI i) (r + 1) k = nI (100 + k) := by
          simp only [juI]
          rw [if_neg hx, hcl, if_pos h6]
        rw [if_neg (by rw [zI_n, zI_le (by omega) (by omega)]; omega), hj]
      · rw [if_pos (by rw [zI_n, zI_le (by omega) (by omega)]; omega), nI_add]
        have hat : fX6_at (nI len) it (nI (i + k)) = some (it (i + k)) := by
          unfold fX6_at fX6_hasPlace
          rw [if_neg (nI_pos (by omega)), if_neg (nI_ge (by omega) (by omega)), if_neg (g60 (by omega))]
          simp only [Option.bind_some, on0, if_false]
          rw [gA_n (by omega) (by decide), nI_clamp (by omega)]
        rw [hat]
        simp only [Option.bind_some]
        by_cases h7 : lg_cmp (it (i + k)) (((10000 * ((nI (gp (fl S.2) (3 * k)) : Int32).toInt64)) + (1000 * ((nI (gp (fl S.2) (3 * k + 1)) : Int32).toInt64))) + ((nI (gp (fl S.2) (3 * k + 2)) : Int32).toInt64)) = 0
        · have hj : juI (fl S.2) it len (nI i) (r + 1) k = juI (fl S.2) it len (nI i) r (k + 1) := by
            simp only [juI]
            rw [if_neg hx, hcl, if_neg h6, if_pos h7]
          rw [if_pos h7, hj]; exact ih
        · have hj : juI (fl S.2) it len (nI i) (r + 1) k = nI k := by
            simp only [juI]
            rw [if_neg hx, hcl, if_neg h6, if_neg h7]
          rw [if_neg h7, hj]
theorem rju_l {S : PS} {lf pn : Nat → Int32} {sz : Int32} (g1 : Int32) (g2 g3 g4 g5 g6x : Nat → Int32) {k1 len : Nat} {it : Nat → Int64} {so si : Nat → Int32} {mi : Nat → Int64} (hl : S.2.length ≤ 6) (h1 : PR S lf sz pn) (hk1 : k1 < 6) (hq : si k1 = nI len ∧ len ≤ 60 ∧ (∀ j, j < 60 → it j = mi (60 * k1 + j)) ∧ (so k1 = -1 → len = 0)) (x : Int32) : ∀ (r fuel k : Nat), k + r = S.2.length → r < fuel → fX9_judge_L38 g1 sz g2 g3 g4 g5 g6x pn so si mi (nI k1) x fuel (nI k) = some (juI (fl S.2) it len x r k, g1, sz, g2, g3, g4, g5, g6x, pn)
  | 0, fuel, k, he, hf => by
    obtain ⟨f, rfl⟩ : ∃ f, fuel = f + 1 := ⟨fuel - 1, by omega⟩
    rw [fX9_judge_L38, h1.2.1, if_pos (nI_le (by omega) (by omega))]; rfl
  | r + 1, fuel, k, he, hf => by
    obtain ⟨f, rfl⟩ : ∃ f, fuel = f + 1 := ⟨fuel - 1, by omega⟩
    have ih := rju_l g1 g2 g3 g4 g5 g6x hl h1 hk1 hq x r f (k + 1) (by omega) (by omega)
    obtain ⟨_, hsz, h3⟩ := h1
    subst hsz
    obtain ⟨q1, q2, q3, q4⟩ := hq
    have hfl := fl_len S.2
    have a0 := LR_gp0 h3 (show 3 * k < (fl S.2).length by omega)
    have a1 := LR_gp0 h3 (show 3 * k + 1 < (fl S.2).length by omega)
    have a2 := LR_gp0 h3 (show 3 * k + 2 < (fl S.2).length by omega)
    rw [fX9_judge_L38, if_neg (nI_ge (by omega) (by omega)), gA_n hk1 (by decide), gA_n hk1 (by decide), nI_clamp (show k1 < 2 ^ 31 by omega), show (100 : Int32) + nI k = nI (100 + k) from nI_add 100 k, q1, nI_1]
    by_cases hx : x < 0
    · have hj : juI (fl S.2) it len x (r + 1) k = nI (100 + k) := if_pos hx
      simp only [if_pos hx, hj, ite_self]
    · obtain ⟨i, hi, rfl⟩ := nI_of hx
      have hcl : (nI i).toNatClampNeg = i := nI_clamp hi
      rw [if_neg hx, nI_l hi, nI_l (show k < 2 ^ 31 by omega), lN_add, nI_l (show len < 2 ^ 31 by omega)]
      by_cases h6 : len ≤ i + k
      · have hj : juI (fl S.2) it len (nI i) (r + 1) k = nI (100 + k) := by
          simp only [juI]
          rw [if_neg hx, hcl, if_pos h6]
        have hneg : ¬ lg_cmp (lN (i + k)) (lN len) < 0 := fun z => by
          have := (lcl (a := i + k) (b := len) (by omega) (by omega)).mp z
          omega
        simp only [if_neg hneg, hj, ite_self]
      · have hso : ¬ so k1 = -1 := fun z => by have := q4 z; omega
        rw [if_neg hso, if_pos ((lcl (by omega) (by omega)).mpr (by omega)), nn60, pk_mul, nI_add, nI_add, nn3, pk_mul, show nI (3 * k) + 1 = nI (3 * k + 1) from nI_1 _, show nI (3 * k) + 2 = nI (3 * k + 2) from nI_add _ 2, gA_n (by omega) (by decide), gA_n (by omega) (by decide), gA_n (by omega) (by decide), gA_n (by omega) (by decide), nI_clamp (by omega), nI_clamp (by omega), nI_clamp (by omega), nI_clamp (by omega), a0, a1, a2, show 60 * k1 + i + k = 60 * k1 + (i + k) from by omega, ← q3 (i + k) (by omega)]
        by_cases h7 : lg_cmp (it (i + k)) (((10000 * ((nI (gp (fl S.2) (3 * k)) : Int32).toInt64)) + (1000 * ((nI (gp (fl S.2) (3 * k + 1)) : Int32).toInt64))) + ((nI (gp (fl S.2) (3 * k + 2)) : Int32).toInt64)) = 0
        · have hj : juI (fl S.2) it len (nI i) (r + 1) k = juI (fl S.2) it len (nI i) r (k + 1) := by
            simp only [juI]
            rw [if_neg hx, hcl, if_neg h6, if_pos h7]
          rw [if_pos h7, hj]; exact ih
        · have hj : juI (fl S.2) it len (nI i) (r + 1) k = nI k := by
            simp only [juI]
            rw [if_neg hx, hcl, if_neg h6, if_neg h7]
          rw [if_neg h7, hj]
set_option maxHeartbeats 1000000 in
theorem p_tape {u_isKept u_now_people u_now_debts_size : Int32} {u_now_debts_owed u_now_debts_order u_now_consents_refused : (Nat → Int32)} {u_now_trail_size : Int32} {u_now_trail_numbers : (Nat → Int32)} {u_now_seen_size : Int32} {u_now_seen_numbers : (Nat → Int32)} {u_now_events_size : Int32} {u_now_events_numbers : (Nat → Int32)} {u_now_book_size : Int32} {u_now_book_numbers : (Nat → Int32)} {u_kept_people u_kept_debts_size : Int32} {u_kept_debts_owed u_kept_debts_order u_kept_consents_refused : (Nat → Int32)} {u_kept_trail_size : Int32} {u_kept_trail_numbers : (Nat → Int32)} {u_kept_seen_size : Int32} {u_kept_seen_numbers : (Nat → Int32)} {u_kept_events_size : Int32} {u_kept_events_numbers : (Nat → Int32)} {u_kept_book_size : Int32} {u_kept_book_numbers : (Nat → Int32)} {u_text_size : Int32} {u_text_signs : (Nat → Int32)} {uM_people uM_debts uM_cuts uM_seen uM_events uM_inBook uM_texted uM_imaged : Int32} {uM_owes uM_denies uM_debt uM_cut uM_sight uM_event uM_book uM_text uM_image uM_tapeSort uM_tapeSize : (Nat → Int32)} {uM_items : (Nat → Int64)} {ts tl : (Nat → Int32)} {ti : (Nat → Nat → Int64)} (x1 : Int32) (x2 : Int32) (x3 : Int32) (k1 : Nat) (hk1 : k1 < 6) (hx1 : ¬ (x1 < 0 ∨ 6 ≤ x1) → x1 = nI k1) (hR : Rel u_now_people u_now_debts_size u_now_debts_owed u_now_debts_order u_now_consents_refused u_now_trail_size u_now_trail_numbers u_now_seen_size u_now_seen_numbers u_now_events_size u_now_events_numbers u_now_book_size u_now_book_numbers u_isKept u_kept_people u_kept_debts_size u_kept_debts_owed u_kept_debts_order u_kept_consents_refused u_kept_trail_size u_kept_trail_numbers u_kept_seen_size u_kept_seen_numbers u_kept_events_size u_kept_events_numbers u_kept_book_size u_kept_book_numbers u_text_size u_text_signs ts tl ti uM_people uM_owes uM_denies uM_debts uM_debt uM_cuts uM_cut uM_seen uM_sight uM_events uM_event uM_inBook uM_book uM_texted uM_text uM_imaged uM_image uM_tapeSort uM_tapeSize uM_items) :
    ∃ (zc : (Int32 × Int32 × Int32 × (Nat → Int64))) (zm : (Int32 × (Nat → Int32) × (Nat → Int32) × (Nat → Int64))), fX8_tape (ts k1) (tl k1) (ti k1) x1 x2 x3 = some zc ∧ fX9_tape uM_tapeSort uM_tapeSize uM_items x1 x2 x3 = some zm ∧ zc.1 = zm.1 ∧ Rel u_now_people u_now_debts_size u_now_debts_owed u_now_debts_order u_now_consents_refused u_now_trail_size u_now_trail_numbers u_now_seen_size u_now_seen_numbers u_now_events_size u_now_events_numbers u_now_book_size u_now_book_numbers u_isKept u_kept_people u_kept_debts_size u_kept_debts_owed u_kept_debts_order u_kept_consents_refused u_kept_trail_size u_kept_trail_numbers u_kept_seen_size u_kept_seen_numbers u_kept_events_size u_kept_events_numbers u_kept_book_size u_kept_book_numbers u_text_size u_text_signs (va_up ts k1 zc.2.1) (va_up tl k1 zc.2.2.1) (va_up ti k1 zc.2.2.2) uM_people uM_owes uM_denies uM_debts uM_debt uM_cuts uM_cut uM_seen uM_sight uM_events uM_event uM_inBook uM_book uM_texted uM_text uM_imaged uM_image zm.2.1 zm.2.2.1 zm.2.2.2 := by
  obtain ⟨⟨n, v, L, hn, rfl, rfl, hW, hR1, hR2, hC, hT, hS, hE, hB⟩, hK, hX, hQ⟩ := id hR
  have hQs : TapR (va_up ts k1 (ts k1)) (va_up tl k1 (tl k1)) (va_up ti k1 (ti k1)) uM_tapeSort uM_tapeSize uM_items := by
    rw [upu_self, upu_self, upu_self]; exact hQ
  have hA := hR.1
  unfold fX8_tape fX9_tape
  rcases tap_n x1 hx1 hk1 with ⟨rfl, h1, e⟩ | ⟨h1, e⟩
  · rw [if_neg h1, e]
    simp only [Option.bind_some, on0, if_false, gA_n hk1 (show 6 < 2 ^ 31 by decide), nI_clamp (show k1 < 2 ^ 31 by omega)]
    have em1 : ((-1 : Int32)).toInt = -1 := by decide
    have e0 : ((0 : Int32)).toInt = 0 := by decide
    have fin : ∀ (so le : Int32), ((so = -1 ∧ le = 0) ∨ ∃ r n : Nat, r ≤ 4 ∧ n ≤ 60 ∧ so = nI r ∧ le = nI n) → ∃ (zc : Int32 × Int32 × Int32 × (Nat → Int64)) (zm : Int32 × (Nat → Int32) × (Nat → Int32) × (Nat → Int64)), ((fX6_become (ti k1) so le).bind (fun z7 => some (1, z7.1, z7.2.1, z7.2.2))) = some zc ∧ fX9_tape_L67 (upd uM_tapeSort k1 so) (upd uM_tapeSize k1 le) (nI k1) 400 0 uM_items = some zm ∧ zc.1 = zm.1 ∧ TapR (va_up ts k1 zc.2.1) (va_up tl k1 zc.2.2.1) (va_up ti k1 zc.2.2.2) zm.2.1 zm.2.2.1 zm.2.2.2 := by
      intro so le hs
      obtain ⟨it', a1, a2⟩ := bec_n (ti k1) so le
      obtain ⟨mi', b1, b2⟩ := rbec_l (upd uM_tapeSort k1 so) (upd uM_tapeSize k1 le) hk1 uM_items 60 400 0 uM_items rfl (by decide) (fun j => by rw [if_neg (by omega)])
      rw [a1]
      exact ⟨_, _, rfl, b1, rfl, hQ.tape hk1 hs a2 b2⟩
    by_cases m1 : x2 = -1
    · subst m1
      rw [show fX9_within (-1) (-1) 4 = some 1 from rfl]
      obtain ⟨zc, zm, a1, a2, a3, a4⟩ := fin (-1) 0 (Or.inl ⟨rfl, rfl⟩)
      simp only [show ((-1 : Int32) < 0) = True from by decide, show ((0 : Int32) ≤ -1) = False from by decide, Option.bind_some, on0, if_false, if_true]
      exact ⟨zc, zm, a1, a2, a3, hA, hK, hX, a4⟩
    · rw [if_neg m1]
      by_cases n0 : x2 < 0
      · have w : fX9_within x2 (-1) 4 = some 0 := by
          unfold fX9_within
          rw [xlt, e0] at n0
          rw [if_pos]
          rw [xlt, em1]
          have : x2.toInt ≠ -1 := fun q => m1 (Int32.toInt_inj.mp (q.trans em1.symm))
          omega
        rw [if_pos n0, w]
        exact ⟨_, _, rfl, rfl, rfl, hA, hK, hX, hQs⟩
      · rw [if_neg n0]
        obtain ⟨r, hr31, rfl⟩ := nI_of n0
        by_cases h4 : r ≤ 4
        · have w : fX9_within (nI r) (-1) 4 = some 1 := by
            rcases (show r = 0 ∨ r = 1 ∨ r = 2 ∨ r = 3 ∨ r = 4 by omega) with rfl | rfl | rfl | rfl | rfl <;> rfl
          rw [if_neg (show ¬ (4 : Int32) < nI r from nI_nlt h4 (by decide)), w]
          simp only [Option.bind_some, on0, if_false, if_neg n0, if_pos (show (0 : Int32) ≤ nI r from nI_pos' hr31)]
          by_cases h60 : x3 ≤ 60
          · simp only [if_pos h60]
            by_cases hz : 0 ≤ x3
            · simp only [if_pos hz]
              have hz' : ¬ x3 < 0 := by rw [xle, e0] at hz; rw [xlt, e0]; omega
              obtain ⟨m, hm, rfl⟩ := nI_of2 (n := 60) (M := 60) (by decide) hz' h60
              obtain ⟨zc, zm, a1, a2, a3, a4⟩ := fin (nI r) (nI m) (Or.inr ⟨r, m, h4, hm, rfl, rfl⟩)
              exact ⟨zc, zm, a1, a2, a3, hA, hK, hX, a4⟩
            · simp only [if_neg hz]
              exact ⟨_, _, rfl, rfl, rfl, hA, hK, hX, hQs⟩
          · simp only [if_neg h60]
            exact ⟨_, _, rfl, rfl, rfl, hA, hK, hX, hQs⟩
        · have w : fX9_within (nI r) (-1) 4 = some 0 := by
            unfold fX9_within
            rw [if_neg (show ¬ nI r < -1 by rw [xlt, em1, nI_toInt hr31]; omega), if_pos (show (4 : Int32) < nI r from nI_lt (a := 4) (by omega) hr31)]
          rw [if_pos (show (4 : Int32) < nI r from nI_lt (a := 4) (by omega) hr31), w]
          exact ⟨_, _, rfl, rfl, rfl, hA, hK, hX, hQs⟩
  · rw [if_pos h1, e]
    exact ⟨_, _, rfl, rfl, rfl, hA, hK, hX, hQs⟩
set_option maxHeartbeats 1000000 in
theorem p_item {u_isKept u_now_people u_now_debts_size : Int32} {u_now_debts_owed u_now_debts_order u_now_consents_refused : (Nat → Int32)} {u_now_trail_size : Int32} {u_now_trail_numbers : (Nat → Int32)} {u_now_seen_size : Int32} {u_now_seen_numbers : (Nat → Int32)} {u_now_events_size : Int32} {u_now_events_numbers : (Nat → Int32)} {u_now_book_size : Int32} {u_now_book_numbers : (Nat → Int32)} {u_kept_people u_kept_debts_size : Int32} {u_kept_debts_owed u_kept_debts_order u_kept_consents_refused : (Nat → Int32)} {u_kept_trail_size : Int32} {u_kept_trail_numbers : (Nat → Int32)} {u_kept_seen_size : Int32} {u_kept_seen_numbers : (Nat → Int32)} {u_kept_events_size : Int32} {u_kept_events_numbers : (Nat → Int32)} {u_kept_book_size : Int32} {u_kept_book_numbers : (Nat → Int32)} {u_text_size : Int32} {u_text_signs : (Nat → Int32)} {uM_people uM_debts uM_cuts uM_seen uM_events uM_inBook uM_texted uM_imaged : Int32} {uM_owes uM_denies uM_debt uM_cut uM_sight uM_event uM_book uM_text uM_image uM_tapeSort uM_tapeSize : (Nat → Int32)} {uM_items : (Nat → Int64)} {ts tl : (Nat → Int32)} {ti : (Nat → Nat → Int64)} (x1 : Int32) (x2 : Int32) (x3 : Int64) (k1 : Nat) (hk1 : k1 < 6) (hx1 : ¬ (x1 < 0 ∨ 6 ≤ x1) → x1 = nI k1) (hR : Rel u_now_people u_now_debts_size u_now_debts_owed u_now_debts_order u_now_consents_refused u_now_trail_size u_now_trail_numbers u_now_seen_size u_now_seen_numbers u_now_events_size u_now_events_numbers u_now_book_size u_now_book_numbers u_isKept u_kept_people u_kept_debts_size u_kept_debts_owed u_kept_debts_order u_kept_consents_refused u_kept_trail_size u_kept_trail_numbers u_kept_seen_size u_kept_seen_numbers u_kept_events_size u_kept_events_numbers u_kept_book_size u_kept_book_numbers u_text_size u_text_signs ts tl ti uM_people uM_owes uM_denies uM_debts uM_debt uM_cuts uM_cut uM_seen uM_sight uM_events uM_event uM_inBook uM_book uM_texted uM_text uM_imaged uM_image uM_tapeSort uM_tapeSize uM_items) :
    ∃ (zc : (Int32 × (Nat → Int64))) (zm : (Int32 × (Nat → Int64))), fX8_item (ts k1) (tl k1) (ti k1) x1 x2 x3 = some zc ∧ fX9_item uM_tapeSort uM_tapeSize uM_items x1 x2 x3 = some zm ∧ zc.1 = zm.1 ∧ Rel u_now_people u_now_debts_size u_now_debts_owed u_now_debts_order u_now_consents_refused u_now_trail_size u_now_trail_numbers u_now_seen_size u_now_seen_numbers u_now_events_size u_now_events_numbers u_now_book_size u_now_book_numbers u_isKept u_kept_people u_kept_debts_size u_kept_debts_owed u_kept_debts_order u_kept_consents_refused u_kept_trail_size u_kept_trail_numbers u_kept_seen_size u_kept_seen_numbers u_kept_events_size u_kept_events_numbers u_kept_book_size u_kept_book_numbers u_text_size u_text_signs ts tl (va_up ti k1 zc.2) uM_people uM_owes uM_denies uM_debts uM_debt uM_cuts uM_cut uM_seen uM_sight uM_events uM_event uM_inBook uM_book uM_texted uM_text uM_imaged uM_image uM_tapeSort uM_tapeSize zm.2 := by
  obtain ⟨⟨n, v, L, hn, rfl, rfl, hW, hR1, hR2, hC, hT, hS, hE, hB⟩, hK, hX, hQ⟩ := id hR
  have hQs : TapR ts tl (va_up ti k1 (ti k1)) uM_tapeSort uM_tapeSize uM_items := by
    rw [upu_self]; exact hQ
  have hA := hR.1
  unfold fX8_item fX9_item fX6_sort
  rcases tap_n x1 hx1 hk1 with ⟨rfl, h1, e⟩ | ⟨h1, e⟩
  · rw [if_neg h1, e]
    obtain ⟨q1, q2, q3, q4⟩ := hQ k1 hk1
    simp only [Option.bind_some, on0, if_false, gA_n hk1 (show 6 < 2 ^ 31 by decide), nI_clamp (show k1 < 2 ^ 31 by omega)]
    rw [← q1, ← q2]
    rcases q4 with ⟨q4, q5⟩ | ⟨r, m, hr, hm, q4, q5⟩
    · rw [q4, if_pos rfl, if_neg nat0]
      exact ⟨_, _, rfl, rfl, rfl, hA, hK, hX, hQs⟩
    · rw [q4, q5, if_neg (so_m hr), if_pos (nI_pos' (by omega))]
      rcases hp_n hm x2 with ⟨i, hi, rfl, g1, g2⟩ | ⟨g1, g2⟩
      · obtain ⟨z, b1, b2⟩ := bits_n hr x3
        unfold fX6_put
        rw [g1, g2, b1, b2]
        simp only [Option.bind_some, on0, if_false]
        rw [gA_n (show i < 60 by omega) (by decide), nn60, pk_mul, nI_add, gA_n (by omega) (by decide), nI_clamp (by omega), nI_clamp (by omega)]
        refine ⟨_, _, rfl, rfl, rfl, hA, hK, hX, hQ.items (fun j hj => ?_) (fun j hj => ?_)⟩
        · show vp_updL (ti k1) i z j = vp_updL uM_items (60 * k1 + i) z (60 * k1 + j)
          rw [upL_eq, upL_eq]
          by_cases ej : j = i
          · rw [if_pos ej, if_pos (by omega)]
          · rw [if_neg ej, if_neg (by omega)]; exact q3 j hj
        · show vp_updL uM_items (60 * k1 + i) z j = uM_items j
          rw [upL_eq, if_neg (by omega)]
      · rw [g1, g2]
        exact ⟨_, _, rfl, rfl, rfl, hA, hK, hX, hQs⟩
  · rw [if_pos h1, e]
    exact ⟨_, _, rfl, rfl, rfl, hA, hK, hX, hQs⟩
set_option maxHeartbeats 1000000 in
theorem p_peek {u_isKept u_now_people u_now_debts_size : Int32} {u_now_debts_owed u_now_debts_order u_now_consents_refused : (Nat → Int32)} {u_now_trail_size : Int32} {u_now_trail_numbers : (Nat → Int32)} {u_now_seen_size : Int32} {u_now_seen_numbers : (Nat → Int32)} {u_now_events_size : Int32} {u_now_events_numbers : (Nat → Int32)} {u_now_book_size : Int32} {u_now_book_numbers : (Nat → Int32)} {u_kept_people u_kept_debts_size : Int32} {u_kept_debts_owed u_kept_debts_order u_kept_consents_refused : (Nat → Int32)} {u_kept_trail_size : Int32} {u_kept_trail_numbers : (Nat → Int32)} {u_kept_seen_size : Int32} {u_kept_seen_numbers : (Nat → Int32)} {u_kept_events_size : Int32} {u_kept_events_numbers : (Nat → Int32)} {u_kept_book_size : Int32} {u_kept_book_numbers : (Nat → Int32)} {u_text_size : Int32} {u_text_signs : (Nat → Int32)} {uM_people uM_debts uM_cuts uM_seen uM_events uM_inBook uM_texted uM_imaged : Int32} {uM_owes uM_denies uM_debt uM_cut uM_sight uM_event uM_book uM_text uM_image uM_tapeSort uM_tapeSize : (Nat → Int32)} {uM_items : (Nat → Int64)} {ts tl : (Nat → Int32)} {ti : (Nat → Nat → Int64)} (x1 : Int32) (x2 : Int32) (k1 : Nat) (hk1 : k1 < 6) (hx1 : ¬ (x1 < 0 ∨ 6 ≤ x1) → x1 = nI k1) (hR : Rel u_now_people u_now_debts_size u_now_debts_owed u_now_debts_order u_now_consents_refused u_now_trail_size u_now_trail_numbers u_now_seen_size u_now_seen_numbers u_now_events_size u_now_events_numbers u_now_book_size u_now_book_numbers u_isKept u_kept_people u_kept_debts_size u_kept_debts_owed u_kept_debts_order u_kept_consents_refused u_kept_trail_size u_kept_trail_numbers u_kept_seen_size u_kept_seen_numbers u_kept_events_size u_kept_events_numbers u_kept_book_size u_kept_book_numbers u_text_size u_text_signs ts tl ti uM_people uM_owes uM_denies uM_debts uM_debt uM_cuts uM_cut uM_seen uM_sight uM_events uM_event uM_inBook uM_book uM_texted uM_text uM_imaged uM_image uM_tapeSort uM_tapeSize uM_items) :
    ∃ (zc : Int64) (zm : Int64), fX8_peek (tl k1) (ti k1) x1 x2 = some zc ∧ fX9_peek uM_tapeSort uM_tapeSize uM_items x1 x2 = some zm ∧ zc = zm ∧ Rel u_now_people u_now_debts_size u_now_debts_owed u_now_debts_order u_now_consents_refused u_now_trail_size u_now_trail_numbers u_now_seen_size u_now_seen_numbers u_now_events_size u_now_events_numbers u_now_book_size u_now_book_numbers u_isKept u_kept_people u_kept_debts_size u_kept_debts_owed u_kept_debts_order u_kept_consents_refused u_kept_trail_size u_kept_trail_numbers u_kept_seen_size u_kept_seen_numbers u_kept_events_size u_kept_events_numbers u_kept_book_size u_kept_book_numbers u_text_size u_text_signs ts tl ti uM_people uM_owes uM_denies uM_debts uM_debt uM_cuts uM_cut uM_seen uM_sight uM_events uM_event uM_inBook uM_book uM_texted uM_text uM_imaged uM_image uM_tapeSort uM_tapeSize uM_items := by
  obtain ⟨⟨n, v, L, hn, rfl, rfl, hW, hR1, hR2, hC, hT, hS, hE, hB⟩, hK, hX, hQ⟩ := id hR
  unfold fX8_peek fX9_peek
  rcases tap_n x1 hx1 hk1 with ⟨rfl, h1, e⟩ | ⟨h1, e⟩
  · rw [if_neg h1, e]
    obtain ⟨q1, q2, q3, q4⟩ := hQ k1 hk1
    simp only [Option.bind_some, on0, if_false, gA_n hk1 (show 6 < 2 ^ 31 by decide), nI_clamp (show k1 < 2 ^ 31 by omega)]
    rw [← q1, ← q2]
    rcases q4 with ⟨q4, q5⟩ | ⟨r, m, hr, hm, q4, q5⟩
    · rw [q4, q5, if_pos neg1]
      rcases hp_n (n := 0) (by decide) x2 with ⟨i, hi, _⟩ | ⟨g1, g2⟩
      · exact absurd hi (Nat.not_lt_zero _)
      · rw [show fX6_hasPlace 0 x2 = some 0 from g1]
        exact ⟨_, _, rfl, rfl, rfl, hR⟩
    · rw [q4, q5, if_neg (nI_pos (by omega))]
      unfold fX6_at
      rcases hp_n hm x2 with ⟨i, hi, rfl, g1, g2⟩ | ⟨g1, g2⟩
      · rw [g1, g2]
        simp only [Option.bind_some, on0, if_false]
        rw [gA_n (show i < 60 by omega) (by decide), nn60, pk_mul, nI_add, gA_n (by omega) (by decide), nI_clamp (by omega), nI_clamp (by omega), q3 i (by omega)]
        exact ⟨_, _, rfl, rfl, rfl, hR⟩
      · rw [g1, g2]
        exact ⟨_, _, rfl, rfl, rfl, hR⟩
  · rw [if_pos h1, e]
    exact ⟨_, _, rfl, rfl, rfl, hR⟩
set_option maxHeartbeats 1000000 in
theorem p_shift {u_isKept u_now_people u_now_debts_size : Int32} {u_now_debts_owed u_now_debts_order u_now_consents_refused : (Nat → Int32)} {u_now_trail_size : Int32} {u_now_trail_numbers : (Nat → Int32)} {u_now_seen_size : Int32} {u_now_seen_numbers : (Nat → Int32)} {u_now_events_size : Int32} {u_now_events_numbers : (Nat → Int32)} {u_now_book_size : Int32} {u_now_book_numbers : (Nat → Int32)} {u_kept_people u_kept_debts_size : Int32} {u_kept_debts_owed u_kept_debts_order u_kept_consents_refused : (Nat → Int32)} {u_kept_trail_size : Int32} {u_kept_trail_numbers : (Nat → Int32)} {u_kept_seen_size : Int32} {u_kept_seen_numbers : (Nat → Int32)} {u_kept_events_size : Int32} {u_kept_events_numbers : (Nat → Int32)} {u_kept_book_size : Int32} {u_kept_book_numbers : (Nat → Int32)} {u_text_size : Int32} {u_text_signs : (Nat → Int32)} {uM_people uM_debts uM_cuts uM_seen uM_events uM_inBook uM_texted uM_imaged : Int32} {uM_owes uM_denies uM_debt uM_cut uM_sight uM_event uM_book uM_text uM_image uM_tapeSort uM_tapeSize : (Nat → Int32)} {uM_items : (Nat → Int64)} {ts tl : (Nat → Int32)} {ti : (Nat → Nat → Int64)} (x1 : Int32) (x2 : Int32) (x3 : Int32) (x4 : Int32) (x5 : Int32) (k1 : Nat) (hk1 : k1 < 6) (k2 : Nat) (hk2 : k2 < 6) (hx1 : ¬ (x1 < 0 ∨ 6 ≤ x1) → x1 = nI k1) (hx3 : ¬ (x3 < 0 ∨ 6 ≤ x3) → x3 = nI k2) (hne : k1 ≠ k2) (hR : Rel u_now_people u_now_debts_size u_now_debts_owed u_now_debts_order u_now_consents_refused u_now_trail_size u_now_trail_numbers u_now_seen_size u_now_seen_numbers u_now_events_size u_now_events_numbers u_now_book_size u_now_book_numbers u_isKept u_kept_people u_kept_debts_size u_kept_debts_owed u_kept_debts_order u_kept_consents_refused u_kept_trail_size u_kept_trail_numbers u_kept_seen_size u_kept_seen_numbers u_kept_events_size u_kept_events_numbers u_kept_book_size u_kept_book_numbers u_text_size u_text_signs ts tl ti uM_people uM_owes uM_denies uM_debts uM_debt uM_cuts uM_cut uM_seen uM_sight uM_events uM_event uM_inBook uM_book uM_texted uM_text uM_imaged uM_image uM_tapeSort uM_tapeSize uM_items) :
    ∃ (zc : (Int32 × (Nat → Int64))) (zm : (Int32 × (Nat → Int64))), fX8_shift (ts k1) (tl k1) (ti k1) (ts k2) (tl k2) (ti k2) x1 x2 x3 x4 x5 = some zc ∧ fX9_shift uM_tapeSort uM_tapeSize uM_items x1 x2 x3 x4 x5 = some zm ∧ zc.1 = zm.1 ∧ Rel u_now_people u_now_debts_size u_now_debts_owed u_now_debts_order u_now_consents_refused u_now_trail_size u_now_trail_numbers u_now_seen_size u_now_seen_numbers u_now_events_size u_now_events_numbers u_now_book_size u_now_book_numbers u_isKept u_kept_people u_kept_debts_size u_kept_debts_owed u_kept_debts_order u_kept_consents_refused u_kept_trail_size u_kept_trail_numbers u_kept_seen_size u_kept_seen_numbers u_kept_events_size u_kept_events_numbers u_kept_book_size u_kept_book_numbers u_text_size u_text_signs ts tl (va_up ti k2 zc.2) uM_people uM_owes uM_denies uM_debts uM_debt uM_cuts uM_cut uM_seen uM_sight uM_events uM_event uM_inBook uM_book uM_texted uM_text uM_imaged uM_image uM_tapeSort uM_tapeSize zm.2 := by
  obtain ⟨⟨n, v, L, hn, rfl, rfl, hW, hR1, hR2, hC, hT, hS, hE, hB⟩, hK, hX, hQ⟩ := id hR
  have hQs : TapR ts tl (va_up ti k2 (ti k2)) uM_tapeSort uM_tapeSize uM_items := by
    rw [upu_self]; exact hQ
  have hA := hR.1
  unfold fX8_shift fX9_shift fX6_sort
  rcases tap_n x1 hx1 hk1 with ⟨rfl, h1, e⟩ | ⟨h1, e⟩
  · rw [if_neg h1, e]
    rcases tap_n x3 hx3 hk2 with ⟨rfl, h3, e'⟩ | ⟨h3, e'⟩
    · rw [if_neg h3, e']
      obtain ⟨q1, q2, q3, q4⟩ := hQ k1 hk1
      obtain ⟨p1, p2, p3, p4⟩ := hQ k2 hk2
      simp only [Option.bind_some, on0, if_false, gA_n hk1 (show 6 < 2 ^ 31 by decide), nI_clamp (show k1 < 2 ^ 31 by omega), gA_n hk2 (show 6 < 2 ^ 31 by decide), nI_clamp (show k2 < 2 ^ 31 by omega)]
      rw [← q1, ← q2, ← p1, ← p2]
      rcases q4 with ⟨q4, q5⟩ | ⟨r, m, hr, hm, q4, q5⟩
      · rw [q4, if_pos rfl, if_pos neg1]
        exact ⟨_, _, rfl, rfl, rfl, hA, hK, hX, hQs⟩
      · rw [q4, q5, if_neg (so_m hr), if_neg (nI_pos (by omega))]
        rcases p4 with ⟨p4, p5⟩ | ⟨r', m', hr', hm', p4, p5⟩
        · rw [p4, if_pos rfl, if_neg nat0]
          exact ⟨_, _, rfl, rfl, rfl, hA, hK, hX, hQs⟩
        · rw [p4, p5, if_neg (so_m hr'), if_pos (nI_pos' (by omega))]
          by_cases es : nI r = nI r'
          · simp only [if_pos es]
            have e13 : ¬ nI k1 = nI k2 := by rw [nI_eq (by omega) (by omega)]; exact hne
            have place : fX6_hasStretch (nI m) x2 x5 = some 0 ∨ fX6_hasStretch (nI m') x4 x5 = some 0 → ((fX6_hasStretch (nI m) x2 x5).bind (fun z11 => if z11 = 0 then (some ((-13 : Int32), ti k2)) else ((fX6_hasStretch (nI m') x4 x5).bind (fun z13 => if z13 = 0 then (some ((-13), ti k2)) else ((fX6_takeStretch (nI m') (ti k2) (nI m) (ti k1) x4 x2 x5).bind (fun z15 => some (x5, z15))))))) = some (-13, ti k2) := by
              intro h
              rcases h with h | h
              · rw [h]; rfl
              · rcases st_01 hm x2 x5 with h2 | h2
                · rw [h2]; rfl
                · rw [h2, h]; rfl
            by_cases c5 : x5 < 0
            · rw [if_pos c5, place (Or.inl (st_neg _ _ (Or.inr c5)))]
              exact ⟨_, _, rfl, rfl, rfl, hA, hK, hX, hQs⟩
            · rw [if_neg c5]
              by_cases c2 : x2 < 0
              · rw [if_pos c2, place (Or.inl (st_neg _ _ (Or.inl c2)))]
                exact ⟨_, _, rfl, rfl, rfl, hA, hK, hX, hQs⟩
              · rw [if_neg c2]
                by_cases c4 : x4 < 0
                · rw [if_pos c4, place (Or.inr (st_neg _ _ (Or.inl c4)))]
                  exact ⟨_, _, rfl, rfl, rfl, hA, hK, hX, hQs⟩
                · rw [if_neg c4]
                  rcases st_n hm x2 x5 c2 c5 with ⟨i, l, rfl, rfl, hil, s1, s2, s3⟩ | ⟨s1, s2, s3⟩
                  · rw [if_neg s2]
                    rcases st_n hm' x4 (nI l) c4 c5 with ⟨j, l', rfl, el, hjl, t1, t2, t3⟩ | ⟨t1, t2, t3⟩
                    · have hll : l = l' := (nI_eq (by omega) (by omega)).mp el
                      subst hll
                      rw [if_pos t3, if_neg e13]
                      unfold fX6_takeStretch
                      rw [s1, t1]
                      simp only [Option.bind_some, on0, if_false]
                      rw [gC_n (by omega) (by omega), nI_clamp (by omega), nI_clamp (by omega), nI_clamp (by omega)]
                      obtain ⟨mi', b1, b2⟩ := fwd_l (a := i) (b := j) (n := l) hk1 hk2 (by omega) (by omega) uM_items (Or.inl hne) l 400 0 uM_items (by omega) (by omega) (fun j => by rw [if_neg (by omega)])
                      refine ⟨_, _, rfl, b1, rfl, hA, hK, hX, hQ.items (fun y hy => ?_) (fun y hy => ?_)⟩
                      · show va_cpy (ti k1) (ti k2) i j l y = mi' (60 * k2 + y)
                        rw [b2, cpy_eq]
                        by_cases ey : j ≤ y ∧ y < j + l
                        · rw [if_pos ey, if_pos (by omega), q3 _ (by omega)]
                          congr 1; omega
                        · rw [if_neg ey, if_neg (by omega), p3 _ hy]
                      · show mi' y = uM_items y
                        rw [b2, if_neg (by omega)]
                    · rw [if_neg t3, place (Or.inr t1)]
                      exact ⟨_, _, rfl, rfl, rfl, hA, hK, hX, hQs⟩
                  · rw [if_pos s2, place (Or.inl s1)]
                    exact ⟨_, _, rfl, rfl, rfl, hA, hK, hX, hQs⟩
          · simp only [if_neg es]
            exact ⟨_, _, rfl, rfl, rfl, hA, hK, hX, hQs⟩
    · rw [if_pos h3, e']
      exact ⟨_, _, rfl, rfl, rfl, hA, hK, hX, hQs⟩
  · rw [if_pos h1, e]
    by_cases h3 : x3 < 0 ∨ 6 ≤ x3
    · simp only [if_pos h3]
      exact ⟨_, _, rfl, rfl, rfl, hA, hK, hX, hQs⟩
    · simp only [if_neg h3]
      exact ⟨_, _, rfl, rfl, rfl, hA, hK, hX, hQs⟩
set_option maxHeartbeats 1000000 in
theorem p_shift_s {u_isKept u_now_people u_now_debts_size : Int32} {u_now_debts_owed u_now_debts_order u_now_consents_refused : (Nat → Int32)} {u_now_trail_size : Int32} {u_now_trail_numbers : (Nat → Int32)} {u_now_seen_size : Int32} {u_now_seen_numbers : (Nat → Int32)} {u_now_events_size : Int32} {u_now_events_numbers : (Nat → Int32)} {u_now_book_size : Int32} {u_now_book_numbers : (Nat → Int32)} {u_kept_people u_kept_debts_size : Int32} {u_kept_debts_owed u_kept_debts_order u_kept_consents_refused : (Nat → Int32)} {u_kept_trail_size : Int32} {u_kept_trail_numbers : (Nat → Int32)} {u_kept_seen_size : Int32} {u_kept_seen_numbers : (Nat → Int32)} {u_kept_events_size : Int32} {u_kept_events_numbers : (Nat → Int32)} {u_kept_book_size : Int32} {u_kept_book_numbers : (Nat → Int32)} {u_text_size : Int32} {u_text_signs : (Nat → Int32)} {uM_people uM_debts uM_cuts uM_seen uM_events uM_inBook uM_texted uM_imaged : Int32} {uM_owes uM_denies uM_debt uM_cut uM_sight uM_event uM_book uM_text uM_image uM_tapeSort uM_tapeSize : (Nat → Int32)} {uM_items : (Nat → Int64)} {ts tl : (Nat → Int32)} {ti : (Nat → Nat → Int64)} (x1 : Int32) (x2 : Int32) (x3 : Int32) (x4 : Int32) (x5 : Int32) (k1 : Nat) (hk1 : k1 < 6) (hx1 : x1 = nI k1) (hx3 : x3 = nI k1) (hR : Rel u_now_people u_now_debts_size u_now_debts_owed u_now_debts_order u_now_consents_refused u_now_trail_size u_now_trail_numbers u_now_seen_size u_now_seen_numbers u_now_events_size u_now_events_numbers u_now_book_size u_now_book_numbers u_isKept u_kept_people u_kept_debts_size u_kept_debts_owed u_kept_debts_order u_kept_consents_refused u_kept_trail_size u_kept_trail_numbers u_kept_seen_size u_kept_seen_numbers u_kept_events_size u_kept_events_numbers u_kept_book_size u_kept_book_numbers u_text_size u_text_signs ts tl ti uM_people uM_owes uM_denies uM_debts uM_debt uM_cuts uM_cut uM_seen uM_sight uM_events uM_event uM_inBook uM_book uM_texted uM_text uM_imaged uM_image uM_tapeSort uM_tapeSize uM_items) :
    ∃ (zc : (Int32 × (Nat → Int64))) (zm : (Int32 × (Nat → Int64))), fX8_shift_s (ts k1) (tl k1) (ti k1) x1 x2 x3 x4 x5 = some zc ∧ fX9_shift uM_tapeSort uM_tapeSize uM_items x1 x2 x3 x4 x5 = some zm ∧ zc.1 = zm.1 ∧ Rel u_now_people u_now_debts_size u_now_debts_owed u_now_debts_order u_now_consents_refused u_now_trail_size u_now_trail_numbers u_now_seen_size u_now_seen_numbers u_now_events_size u_now_events_numbers u_now_book_size u_now_book_numbers u_isKept u_kept_people u_kept_debts_size u_kept_debts_owed u_kept_debts_order u_kept_consents_refused u_kept_trail_size u_kept_trail_numbers u_kept_seen_size u_kept_seen_numbers u_kept_events_size u_kept_events_numbers u_kept_book_size u_kept_book_numbers u_text_size u_text_signs ts tl (va_up ti k1 zc.2) uM_people uM_owes uM_denies uM_debts uM_debt uM_cuts uM_cut uM_seen uM_sight uM_events uM_event uM_inBook uM_book uM_texted uM_text uM_imaged uM_image uM_tapeSort uM_tapeSize zm.2 := by
  obtain ⟨⟨n, v, L, hn, rfl, rfl, hW, hR1, hR2, hC, hT, hS, hE, hB⟩, hK, hX, hQ⟩ := id hR
  have hQs : TapR ts tl (va_up ti k1 (ti k1)) uM_tapeSort uM_tapeSize uM_items := by
    rw [upu_self]; exact hQ
  have hA := hR.1
  subst hx1 hx3
  unfold fX8_shift_s fX9_shift fX6_sort
  have h1 : ¬ (nI k1 < 0 ∨ 6 ≤ nI k1) := fun q => q.elim (nI_pos (by omega)) (g6 hk1)
  rcases tap_n (nI k1) (fun _ => rfl) hk1 with ⟨_, _, e⟩ | ⟨h, _⟩
  · rw [if_neg h1, if_neg h1, e]
    obtain ⟨q1, q2, q3, q4⟩ := hQ k1 hk1
    simp only [Option.bind_some, on0, if_false, gA_n hk1 (show 6 < 2 ^ 31 by decide), nI_clamp (show k1 < 2 ^ 31 by omega)]
    rw [← q1, ← q2]
    rcases q4 with ⟨q4, q5⟩ | ⟨r, m, hr, hm, q4, q5⟩
    · rw [q4, if_pos rfl, if_pos neg1]
      exact ⟨_, _, rfl, rfl, rfl, hA, hK, hX, hQs⟩
    · rw [q4, q5]
      simp only [if_neg (so_m hr), if_neg (nI_pos (show r < 2 ^ 31 by omega)), if_pos (nI_pos' (show r < 2 ^ 31 by omega)), if_true]
      have place : fX6_hasStretch (nI m) x2 x5 = some 0 ∨ fX6_hasStretch (nI m) x4 x5 = some 0 → ((fX6_hasStretch (nI m) x2 x5).bind (fun z11 => if z11 = 0 then (some ((-13 : Int32), ti k1)) else ((fX6_hasStretch (nI m) x4 x5).bind (fun z13 => if z13 = 0 then (some ((-13), ti k1)) else ((fX6_takeStretch_s (nI m) (ti k1) x4 x2 x5).bind (fun z15 => some (x5, z15))))))) = some (-13, ti k1) := by
        intro h
        rcases h with h | h
        · rw [h]; rfl
        · rcases st_01 hm x2 x5 with h2 | h2
          · rw [h2]; rfl
          · rw [h2, h]; rfl
      by_cases c5 : x5 < 0
      · rw [if_pos c5, place (Or.inl (st_neg _ _ (Or.inr c5)))]
        exact ⟨_, _, rfl, rfl, rfl, hA, hK, hX, hQs⟩
      · rw [if_neg c5]
        by_cases c2 : x2 < 0
        · rw [if_pos c2, place (Or.inl (st_neg _ _ (Or.inl c2)))]
          exact ⟨_, _, rfl, rfl, rfl, hA, hK, hX, hQs⟩
        · rw [if_neg c2]
          by_cases c4 : x4 < 0
          · rw [if_pos c4, place (Or.inr (st_neg _ _ (Or.inl c4)))]
            exact ⟨_, _, rfl, rfl, rfl, hA, hK, hX, hQs⟩
          · rw [if_neg c4]
            rcases st_n hm x2 x5 c2 c5 with ⟨i, l, rfl, rfl, hil, s1, s2, s3⟩ | ⟨s1, s2, s3⟩
            · rw [if_neg s2]
              rcases st_n hm x4 (nI l) c4 c5 with ⟨j, l', rfl, el, hjl, t1, t2, t3⟩ | ⟨t1, t2, t3⟩
              · have hll : l = l' := (nI_eq (by omega) (by omega)).mp el
                subst hll
                rw [if_pos t3]
                unfold fX6_takeStretch_s
                rw [s1, t1]
                simp only [Option.bind_some, on0, if_false]
                rw [gC_n (by omega) (by omega), nI_clamp (by omega), nI_clamp (by omega), nI_clamp (by omega)]
                have fin : ∀ mi' : Nat → Int64, (∀ y, mi' y = if 60 * k1 + j ≤ y ∧ y < 60 * k1 + j + l then uM_items (60 * k1 + i + (y - (60 * k1 + j))) else uM_items y) → TapR ts tl (va_up ti k1 (va_cpy (ti k1) (ti k1) i j l)) uM_tapeSort uM_tapeSize mi' := by
                  intro mi' b2
                  refine hQ.items (fun y hy => ?_) (fun y hy => ?_)
                  · rw [b2, cpy_eq]
                    by_cases ey : j ≤ y ∧ y < j + l
                    · rw [if_pos ey, if_pos (by omega), q3 _ (by omega)]
                      congr 1; omega
                    · rw [if_neg ey, if_neg (by omega), q3 _ hy]
                  · rw [b2, if_neg (by omega)]
                by_cases eij : j ≤ i
                · rw [if_pos (nI_le eij (by omega))]
                  obtain ⟨mi', b1, b2⟩ := fwd_l (a := i) (b := j) (n := l) hk1 hk1 (by omega) (by omega) uM_items (Or.inr eij) l 400 0 uM_items (by omega) (by omega) (fun j => by rw [if_neg (by omega)])
                  exact ⟨_, _, rfl, b1, rfl, hA, hK, hX, fin mi' b2⟩
                · rw [if_neg (nI_ge (by omega) (by omega))]
                  obtain ⟨mi', b1, b2⟩ := bwd_l (a := i) (b := j) (n := l) hk1 (by omega) (by omega) uM_items (by omega) l 400 uM_items (Nat.le_refl _) (by omega) (fun j => by rw [if_neg (by omega)])
                  rw [show nI l - 1 = zI ((l : Int) - 1) by rw [zI_n, zI_1, zI_sub]]
                  exact ⟨_, _, rfl, b1, rfl, hA, hK, hX, fin mi' b2⟩
              · rw [if_neg t3, place (Or.inr t1)]
                exact ⟨_, _, rfl, rfl, rfl, hA, hK, hX, hQs⟩
            · rw [if_pos s2, place (Or.inl s1)]
              exact ⟨_, _, rfl, rfl, rfl, hA, hK, hX, hQs⟩
  · exact absurd h h1
set_option maxHeartbeats 1000000 in
theorem p_judge {u_isKept u_now_people u_now_debts_size : Int32} {u_now_debts_owed u_now_debts_order u_now_consents_refused : (Nat → Int32)} {u_now_trail_size : Int32} {u_now_trail_numbers : (Nat → Int32)} {u_now_seen_size : Int32} {u_now_seen_numbers : (Nat → Int32)} {u_now_events_size : Int32} {u_now_events_numbers : (Nat → Int32)} {u_now_book_size : Int32} {u_now_book_numbers : (Nat → Int32)} {u_kept_people u_kept_debts_size : Int32} {u_kept_debts_owed u_kept_debts_order u_kept_consents_refused : (Nat → Int32)} {u_kept_trail_size : Int32} {u_kept_trail_numbers : (Nat → Int32)} {u_kept_seen_size : Int32} {u_kept_seen_numbers : (Nat → Int32)} {u_kept_events_size : Int32} {u_kept_events_numbers : (Nat → Int32)} {u_kept_book_size : Int32} {u_kept_book_numbers : (Nat → Int32)} {u_netting_groupCount : Int32} {u_netting_balances u_netting_left u_netting_sums u_netting_most u_netting_groups : (Nat → Int32)} {u_netting_payments_size : Int32} {u_netting_payments_numbers : (Nat → Int32)} {u_text_size : Int32} {u_text_signs : (Nat → Int32)} {uM_people uM_debts uM_cuts uM_seen uM_events uM_inBook uM_texted uM_groups uM_paid uM_imaged : Int32} {uM_owes uM_denies uM_debt uM_cut uM_sight uM_event uM_book uM_text uM_balance uM_left uM_sum uM_parts uM_group uM_payment uM_image uM_tapeSort uM_tapeSize : (Nat → Int32)} {uM_items : (Nat → Int64)} {ts tl : (Nat → Int32)} {ti : (Nat → Nat → Int64)} (x1 : Int32) (x2 : Int32) (k1 : Nat) (hk1 : k1 < 6) (hx1 : ¬ (x1 < 0 ∨ 6 ≤ x1) → x1 = nI k1) (hR : Rel u_now_people u_now_debts_size u_now_debts_owed u_now_debts_order u_now_consents_refused u_now_trail_size u_now_trail_numbers u_now_seen_size u_now_seen_numbers u_now_events_size u_now_events_numbers u_now_book_size u_now_book_numbers u_isKept u_kept_people u_kept_debts_size u_kept_debts_owed u_kept_debts_order u_kept_consents_refused u_kept_trail_size u_kept_trail_numbers u_kept_seen_size u_kept_seen_numbers u_kept_events_size u_kept_events_numbers u_kept_book_size u_kept_book_numbers u_text_size u_text_signs ts tl ti uM_people uM_owes uM_denies uM_debts uM_debt uM_cuts uM_cut uM_seen uM_sight uM_events uM_event uM_inBook uM_book uM_texted uM_text uM_imaged uM_image uM_tapeSort uM_tapeSize uM_items) :
    ∃ (zc : (Int32 × Int32 × (Nat → Int32) × (Nat → Int32) × (Nat → Int32) × (Nat → Int32) × (Nat → Int32) × Int32 × (Nat → Int32))) (zm : (Int32 × Int32 × Int32 × (Nat → Int32) × (Nat → Int32) × (Nat → Int32) × (Nat → Int32) × (Nat → Int32) × (Nat → Int32))), fX8_judge 18 u_now_debts_owed u_netting_groupCount u_netting_balances u_netting_left u_netting_sums u_netting_most u_netting_groups 6 u_netting_payments_size u_netting_payments_numbers (ts k1) (tl k1) (ti k1) x1 x2 = some zc ∧ fX9_judge uM_people uM_groups uM_paid uM_owes uM_balance uM_left uM_sum uM_parts uM_group uM_payment uM_tapeSort uM_tapeSize uM_items x1 x2 = some zm ∧ zc.1 = zm.1 ∧ Rel u_now_people u_now_debts_size u_now_debts_owed u_now_debts_order u_now_consents_refused u_now_trail_size u_now_trail_numbers u_now_seen_size u_now_seen_numbers u_now_events_size u_now_events_numbers u_now_book_size u_now_book_numbers u_isKept u_kept_people u_kept_debts_size u_kept_debts_owed u_kept_debts_order u_kept_consents_refused u_kept_trail_size u_kept_trail_numbers u_kept_seen_size u_kept_seen_numbers u_kept_events_size u_kept_events_numbers u_kept_book_size u_kept_book_numbers u_text_size u_text_signs ts tl ti uM_people uM_owes uM_denies uM_debts uM_debt uM_cuts uM_cut uM_seen uM_sight uM_events uM_event uM_inBook uM_book uM_texted uM_text uM_imaged uM_image uM_tapeSort uM_tapeSize uM_items := by
  obtain ⟨⟨n, v, L, hn, rfl, rfl, hW, hR1, hR2, hC, hT, hS, hE, hB⟩, hK, hX, hQ⟩ := id hR
  unfold fX8_judge fX9_judge fX6_sort
  rcases tap_n x1 hx1 hk1 with ⟨rfl, h1, e⟩ | ⟨h1, e⟩
  · rw [if_neg h1, e]
    obtain ⟨q1, q2, q3, q4⟩ := hQ k1 hk1
    simp only [Option.bind_some, on0, if_false, gA_n hk1 (show 6 < 2 ^ 31 by decide), nI_clamp (show k1 < 2 ^ 31 by omega)]
    obtain ⟨z, a1, a2, a3, a4, a5⟩ := net_n (ba := u_netting_balances) (lf := u_netting_left) (su := u_netting_sums) (mo := u_netting_most) (gr := u_netting_groups) (num := u_netting_payments_numbers) hn hR1.2.1 hW
    obtain ⟨⟨y1, y2, y3, y4, y5, y6, y7, y8⟩, b1, b2, b3⟩ := payments_n (ba := uM_balance) (lf := uM_left) (su := uM_sum) (pa := uM_parts) (gr := uM_group) (num := uM_payment) hn hR2.2.1 hW
    have hI := PG_PI hn hW
    have hl : (PG v).2.length ≤ 6 := by have := hI.2.2.2; omega
    rw [a1, b1]
    simp only [Option.bind_some]
    rcases q4 with ⟨q4, q5⟩ | ⟨r, m, hr, hm, q4, q5⟩
    · have k2 := rju_l (S := PG v) (it := ti k1) (len := 0) y1 y3 y4 y5 y6 y7 hl b3 hk1 (so := uM_tapeSort) (si := uM_tapeSize) (mi := uM_items) ⟨by rw [← q2, q5]; rfl, by decide, q3, fun _ => rfl⟩ x2 (PG v).2.length 400 0 (by omega) (by omega)
      have k3 := cju_l (S := PG v) (it := ti k1) (len := 0) z.1 z.2.1 z.2.2.1 z.2.2.2.1 z.2.2.2.2.1 z.2.2.2.2.2.1 hl a5 (by decide) x2 (PG v).2.length 400 0 (by omega) (by omega)
      rw [← q1, q4, q5, if_pos rfl, if_pos rfl, show fX8_judge_L48 18 z.1 z.2.1 z.2.2.1 z.2.2.2.1 z.2.2.2.2.1 z.2.2.2.2.2.1 z.2.2.2.2.2.2.1 z.2.2.2.2.2.2.2 0 (ti k1) x2 400 0 = _ from k3, show fX9_judge_L38 y1 y2 y3 y4 y5 y6 y7 y8 uM_tapeSort uM_tapeSize uM_items (nI k1) x2 400 0 = _ from k2]
      exact ⟨_, _, rfl, rfl, rfl, hR⟩
    · rw [← q1, q4, q5, if_neg (so_m hr), if_neg (so_m hr)]
      by_cases e3 : nI r = 3
      · have k2 := rju_l (S := PG v) (it := ti k1) (len := m) y1 y3 y4 y5 y6 y7 hl b3 hk1 (so := uM_tapeSort) (si := uM_tapeSize) (mi := uM_items) ⟨by rw [← q2, q5], hm, q3, fun h => by rw [← q1, q4] at h; exact absurd h (so_m hr)⟩ x2 (PG v).2.length 400 0 (by omega) (by omega)
        have k3 := cju_l (S := PG v) (it := ti k1) (len := m) z.1 z.2.1 z.2.2.1 z.2.2.2.1 z.2.2.2.2.1 z.2.2.2.2.2.1 hl a5 hm x2 (PG v).2.length 400 0 (by omega) (by omega)
        rw [if_pos e3, if_pos e3, show fX8_judge_L48 18 z.1 z.2.1 z.2.2.1 z.2.2.2.1 z.2.2.2.2.1 z.2.2.2.2.2.1 z.2.2.2.2.2.2.1 z.2.2.2.2.2.2.2 (nI m) (ti k1) x2 400 0 = _ from k3, show fX9_judge_L38 y1 y2 y3 y4 y5 y6 y7 y8 uM_tapeSort uM_tapeSize uM_items (nI k1) x2 400 0 = _ from k2]
        exact ⟨_, _, rfl, rfl, rfl, hR⟩
      · rw [if_neg e3, if_neg e3]
        exact ⟨_, _, rfl, rfl, rfl, hR⟩
  · rw [if_pos h1, e]
    exact ⟨_, _, rfl, rfl, rfl, hR⟩
end
