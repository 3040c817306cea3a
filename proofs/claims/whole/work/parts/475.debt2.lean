/-! ===== debts: copied, cleared, counted, numbered ===== -/
section
theorem g30 {i : Nat} (h : i < 30) : ¬ (30 : Int32) ≤ nI i := nI_ge h (by decide)
theorem e30 {i : Nat} (h : 30 ≤ i) (hi : i < 2 ^ 31) : (30 : Int32) ≤ nI i := nI_le h hi
theorem take_l (kx : (Nat → Int32) → (Nat → Int32) → Option (Int32 × (Nat → Int32) × (Nat → Int32))) (ow od : Nat → Int32) : ∀ (r fuel k : Nat) (o d : Nat → Int32), k + r = 36 → r < fuel → (∀ j, j < k → o j = ow j ∧ d j = od j) →
    ∃ o' d', fX2_take_L2 kx ow od fuel (nI k) o d = kx o' d' ∧ ∀ j, j < 36 → o' j = ow j ∧ d' j = od j
  | 0, fuel, k, o, d, he, hf, h => by
    obtain ⟨f, rfl⟩ : ∃ f, fuel = f + 1 := ⟨fuel - 1, by omega⟩
    rw [fX2_take_L2, if_pos (e36 (by omega) (by omega))]
    exact ⟨o, d, rfl, fun j hj => h j (by omega)⟩
  | r + 1, fuel, k, o, d, he, hf, h => by
    obtain ⟨f, rfl⟩ : ∃ f, fuel = f + 1 := ⟨fuel - 1, by omega⟩
    rw [fX2_take_L2, if_neg (g36 (by omega)), gA_n (by omega) (by decide), gA_n (by omega) (by decide), gA_n (by omega) (by decide), gA_n (by omega) (by decide), nI_clamp (by omega), nI_1]
    refine take_l kx ow od r f (k + 1) _ _ (by omega) (by omega) (fun j hj => ?_)
    rw [up_eq, up_eq]
    by_cases e : j = k
    · rw [if_pos e, if_pos e, e]; exact ⟨rfl, rfl⟩
    · rw [if_neg e, if_neg e]; exact h j (by omega)
theorem DebR.cong {sz : Int32} {ow od ow' od' : Nat → Int32} {n : Nat} {v : Nat → Nat} {L : List Nat} (hW : DebW n v L) (h : DebR sz ow od v L) (e1 : ∀ j, j < 36 → ow' j = ow j) (e2 : ∀ j, j < 30 → od' j = od j) : DebR sz ow' od' v L :=
  ⟨h.1, fun k hk => by rw [e1 k hk]; exact h.2.1 k hk, fun k hk => by rw [e2 k (by have := hW.len; omega)]; exact h.2.2 k hk⟩
theorem take_n {n : Nat} {sz : Int32} {ow od o d : Nat → Int32} {v : Nat → Nat} {L : List Nat} (hW : DebW n v L) (hR : DebR sz ow od v L) :
    ∃ z, fX2_take o d sz ow od = some z ∧ DebR z.1 z.2.1 z.2.2 v L := by
  unfold fX2_take
  obtain ⟨o', d', a1, a2⟩ := take_l (fun (u_owed_6 : (Nat → Int32)) (u_order_6 : (Nat → Int32)) => some (sz, u_owed_6, u_order_6)) ow od 36 400 0 o d rfl (by decide) (fun j hj => absurd hj (Nat.not_lt_zero _))
  rw [show (0 : Int32) = nI 0 from rfl, a1]
  exact ⟨_, rfl, hR.cong hW (fun j hj => (a2 j hj).1) (fun j hj => (a2 j (by omega)).2)⟩
theorem clear_l (kx : (Nat → Int32) → Option (Int32 × (Nat → Int32))) : ∀ (r fuel k : Nat) (o : Nat → Int32), k + r = 36 → r < fuel → (∀ j, j < k → o j = 0) →
    ∃ o', fX2_clear_L2 kx fuel (nI k) o = kx o' ∧ ∀ j, j < 36 → o' j = 0
  | 0, fuel, k, o, he, hf, h => by
    obtain ⟨f, rfl⟩ : ∃ f, fuel = f + 1 := ⟨fuel - 1, by omega⟩
    rw [fX2_clear_L2, if_pos (e36 (by omega) (by omega))]
    exact ⟨o, rfl, fun j hj => h j (by omega)⟩
  | r + 1, fuel, k, o, he, hf, h => by
    obtain ⟨f, rfl⟩ : ∃ f, fuel = f + 1 := ⟨fuel - 1, by omega⟩
    rw [fX2_clear_L2, if_neg (g36 (by omega)), gA_n (by omega) (by decide), nI_clamp (by omega), nI_1]
    refine clear_l kx r f (k + 1) _ (by omega) (by omega) (fun j hj => ?_)
    rw [up_eq]
    by_cases e : j = k
    · rw [if_pos e]
    · rw [if_neg e]; exact h j (by omega)
theorem clear_n {ow od : Nat → Int32} : ∃ z, fX2_clear ow = some z ∧ DebR z.1 z.2 od (fun _ => 0) [] := by
  unfold fX2_clear
  obtain ⟨o', a1, a2⟩ := clear_l (fun (u_owed_3 : (Nat → Int32)) => some (0, u_owed_3)) 36 400 0 ow rfl (by decide) (fun j hj => absurd hj (Nat.not_lt_zero _))
  rw [show (0 : Int32) = nI 0 from rfl] at *
  rw [a1]
  exact ⟨_, rfl, rfl, a2, fun k hk => absurd hk (Nat.not_lt_zero _)⟩
theorem DebW_0 (n : Nat) : DebW n (fun _ => 0) [] := ⟨fun _ _ => Nat.zero_le _, fun _ _ => by simp, List.nodup_nil, fun k hk => absurd hk List.not_mem_nil⟩
-- nobody owes a person, or that one nobody
def clrI (f : Nat → Nat) : Nat → Nat → (Nat → Nat) × List Nat → (Nat → Nat) × List Nat
  | 0, _, S => S
  | r + 1, q, S => clrI f r (q + 1) (sV S.1 (f q) 0, sL S.1 S.2 (f q) 0)
def fby (p q : Nat) : Nat := 6 * p + q
def fto (p q : Nat) : Nat := 6 * q + p
theorem sV_0 {v : Nat → Nat} {c : Nat} (h : v c = 0) : sV v c 0 = v := by
  funext k
  unfold sV
  by_cases e : k = c
  · rw [if_pos e, e, h]
  · rw [if_neg e]
theorem sL_0 {n : Nat} {v : Nat → Nat} {L : List Nat} {c : Nat} (hW : DebW n v L) (hc : c < 36) (h : v c = 0) : sL v L c 0 = L := by
  unfold sL
  rw [if_pos rfl]
  refine fl_none (fun hm => ?_)
  have := (hW.2.1 c hc).mpr hm
  omega
theorem clby_l {n p : Nat} (hp : p < 6) : ∀ (r fuel q : Nat) (S : (Nat → Nat) × List Nat) (sz : Int32) (ow od : Nat → Int32), q + r = 6 → r < fuel → DebW n S.1 S.2 → DebR sz ow od S.1 S.2 →
    ∃ z, fX2_clearOwedBy_L2 (nI p) fuel (nI q) sz ow od = some z ∧ DebR z.1 z.2.1 z.2.2 (clrI (fby p) r q S).1 (clrI (fby p) r q S).2 ∧ DebW n (clrI (fby p) r q S).1 (clrI (fby p) r q S).2
  | 0, fuel, q, S, sz, ow, od, he, hf, hW, hR => by
    obtain ⟨f, rfl⟩ : ∃ f, fuel = f + 1 := ⟨fuel - 1, by omega⟩
    rw [fX2_clearOwedBy_L2, if_pos (e6 (by omega) (by omega))]
    exact ⟨_, rfl, hR, hW⟩
  | r + 1, fuel, q, S, sz, ow, od, he, hf, hW, hR => by
    obtain ⟨f, rfl⟩ : ∃ f, fuel = f + 1 := ⟨fuel - 1, by omega⟩
    rw [fX2_clearOwedBy_L2, if_neg (g6 (by omega))]
    obtain ⟨z, a1, a2⟩ := put_n (a := 0) hW hR hp (show q < 6 by omega) (by omega)
    rw [show fX2_put sz ow od (nI p) (nI q) 0 = _ from a1]
    simp only [Option.bind_some, nI_1]
    exact clby_l hp r f (q + 1) _ _ _ _ (by omega) (by omega) (hW.set _ 0 (by unfold fby; omega) (by omega) (Or.inl rfl)) a2
theorem clto_l {n p : Nat} (hp : p < 6) : ∀ (r fuel q : Nat) (S : (Nat → Nat) × List Nat) (sz : Int32) (ow od : Nat → Int32), q + r = 6 → r < fuel → DebW n S.1 S.2 → DebR sz ow od S.1 S.2 →
    ∃ z, fX2_clearOwedTo_L2 (nI p) fuel (nI q) sz ow od = some z ∧ DebR z.1 z.2.1 z.2.2 (clrI (fto p) r q S).1 (clrI (fto p) r q S).2 ∧ DebW n (clrI (fto p) r q S).1 (clrI (fto p) r q S).2
  | 0, fuel, q, S, sz, ow, od, he, hf, hW, hR => by
    obtain ⟨f, rfl⟩ : ∃ f, fuel = f + 1 := ⟨fuel - 1, by omega⟩
    rw [fX2_clearOwedTo_L2, if_pos (e6 (by omega) (by omega))]
    exact ⟨_, rfl, hR, hW⟩
  | r + 1, fuel, q, S, sz, ow, od, he, hf, hW, hR => by
    obtain ⟨f, rfl⟩ : ∃ f, fuel = f + 1 := ⟨fuel - 1, by omega⟩
    rw [fX2_clearOwedTo_L2, if_neg (g6 (by omega))]
    obtain ⟨z, a1, a2⟩ := put_n (a := 0) hW hR (show q < 6 by omega) hp (by omega)
    rw [show fX2_put sz ow od (nI q) (nI p) 0 = _ from a1]
    simp only [Option.bind_some, nI_1]
    exact clto_l hp r f (q + 1) _ _ _ _ (by omega) (by omega) (hW.set _ 0 (by unfold fto; omega) (by omega) (Or.inl rfl)) a2
def clrV (f : Nat → Nat) (S : (Nat → Nat) × List Nat) : (Nat → Nat) × List Nat := clrI f 6 0 S
theorem clby_n {n p : Nat} {S : (Nat → Nat) × List Nat} {sz : Int32} {ow od : Nat → Int32} (hp : p < 6) (hW : DebW n S.1 S.2) (hR : DebR sz ow od S.1 S.2) :
    ∃ z, fX2_clearOwedBy sz ow od (nI p) = some z ∧ DebR z.1 z.2.1 z.2.2 (clrV (fby p) S).1 (clrV (fby p) S).2 ∧ DebW n (clrV (fby p) S).1 (clrV (fby p) S).2 :=
  clby_l hp 6 400 0 S sz ow od rfl (by decide) hW hR
theorem clto_n {n p : Nat} {S : (Nat → Nat) × List Nat} {sz : Int32} {ow od : Nat → Int32} (hp : p < 6) (hW : DebW n S.1 S.2) (hR : DebR sz ow od S.1 S.2) :
    ∃ z, fX2_clearOwedTo sz ow od (nI p) = some z ∧ DebR z.1 z.2.1 z.2.2 (clrV (fto p) S).1 (clrV (fto p) S).2 ∧ DebW n (clrV (fto p) S).1 (clrV (fto p) S).2 :=
  clto_l hp 6 400 0 S sz ow od rfl (by decide) hW hR
theorem clr_out {n : Nat} {f : Nat → Nat} (hf36 : ∀ q, q < 6 → f q < 36) (hout : ∀ q, n ≤ q → q < 6 → ¬ (f q / 6 < n ∧ f q % 6 < n)) : ∀ (r q : Nat) (S : (Nat → Nat) × List Nat), q + r = 6 → n ≤ q → DebW n S.1 S.2 → clrI f r q S = S
  | 0, _, _, _, _, _ => rfl
  | r + 1, q, S, he, hn, hW => by
    have h0 := hW.out _ (hf36 q (by omega)) (hout q hn (by omega))
    simp only [clrI]
    rw [sV_0 h0, sL_0 hW (hf36 q (by omega)) h0]
    exact clr_out hf36 hout r (q + 1) S (by omega) (by omega) hW
theorem rcl_l {n p : Nat} (b : Int32) (f : Nat → Nat) (hb : (b = 0 ∧ f = fby p) ∨ (b = 1 ∧ f = fto p)) (hn : n ≤ 6) (hp : p < 6) : ∀ (r fuel q : Nat) (S : (Nat → Nat) × List Nat) (sz : Int32) (ow od : Nat → Int32), q + r = n → r < fuel → DebW n S.1 S.2 → DebR sz ow od S.1 S.2 →
    ∃ z, fX9_clears_L2 (nI n) (nI p) b fuel (nI q) sz ow od = some z ∧ DebR z.1 z.2.1 z.2.2 (clrI f (6 - q) q S).1 (clrI f (6 - q) q S).2
  | 0, fuel, q, S, sz, ow, od, he, hf, hW, hR => by
    obtain ⟨fu, rfl⟩ : ∃ f, fuel = f + 1 := ⟨fuel - 1, by omega⟩
    have h36 : ∀ q, q < 6 → f q < 36 := fun q hq => by
      rcases hb with ⟨_, rfl⟩ | ⟨_, rfl⟩
      · unfold fby; omega
      · unfold fto; omega
    have ho : ∀ q, n ≤ q → q < 6 → ¬ (f q / 6 < n ∧ f q % 6 < n) := fun q h1 h2 => by
      rcases hb with ⟨_, rfl⟩ | ⟨_, rfl⟩
      · unfold fby; omega
      · unfold fto; omega
    rw [fX9_clears_L2, if_pos (nI_le (by omega) (by omega)), clr_out h36 ho (6 - q) q S (by omega) (by omega) hW]
    exact ⟨_, rfl, hR⟩
  | r + 1, fuel, q, S, sz, ow, od, he, hf, hW, hR => by
    obtain ⟨fu, rfl⟩ : ∃ f, fuel = f + 1 := ⟨fuel - 1, by omega⟩
    have hsp : clrI f (6 - q) q S = clrI f (6 - (q + 1)) (q + 1) (sV S.1 (f q) 0, sL S.1 S.2 (f q) 0) := by
      rw [show 6 - q = (6 - (q + 1)) + 1 from by omega]; rfl
    have hc : f q < 36 := by
      rcases hb with ⟨_, rfl⟩ | ⟨_, rfl⟩
      · unfold fby; omega
      · unfold fto; omega
    rw [hsp, fX9_clears_L2, if_neg (nI_ge (by omega) (by omega)), nI_1]
    by_cases e : q = p
    · have h0 : S.1 (f q) = 0 := by
        rcases Nat.eq_zero_or_pos (S.1 (f q)) with h | h
        · exact h
        · have := (hW.2.2.2 _ ((hW.2.1 _ hc).mp h)).2.2.2
          rcases hb with ⟨_, rfl⟩ | ⟨_, rfl⟩
          · unfold fby at this; omega
          · unfold fto at this; omega
      rw [if_pos (by rw [e]), sV_0 h0, sL_0 hW hc h0]
      exact rcl_l b f hb hn hp r fu (q + 1) S sz ow od (by omega) (by omega) hW hR
    · rw [if_neg (by rw [nI_eq (by omega) (by omega)]; exact e)]
      obtain ⟨z, a1, a2⟩ := becomes_n (a := 0) hW hR hc (by omega) (Or.inl rfl)
      have hW2 := hW.set (f q) 0 hc (by omega) (Or.inl rfl)
      have ih := rcl_l b f hb hn hp r fu (q + 1) (sV S.1 (f q) 0, sL S.1 S.2 (f q) 0) z.1 z.2.1 z.2.2 (by omega) (by omega) hW2 a2
      rcases hb with ⟨hb0, hff⟩ | ⟨hb0, hff⟩
      · rw [if_pos hb0, ix6', show 6 * p + q = f q from by rw [hff]; rfl, show fX9_becomes sz ow od (nI (f q)) 0 = _ from a1]
        exact ih
      · rw [if_neg (by rw [hb0]; decide), ix6', show 6 * q + p = f q from by rw [hff]; rfl, show fX9_becomes sz ow od (nI (f q)) 0 = _ from a1]
        exact ih
theorem rcl_n {n p : Nat} {b : Int32} {f : Nat → Nat} (hb : (b = 0 ∧ f = fby p) ∨ (b = 1 ∧ f = fto p)) (hn : n ≤ 6) (hp : p < 6) {S : (Nat → Nat) × List Nat} {sz : Int32} {ow od : Nat → Int32} (hW : DebW n S.1 S.2) (hR : DebR sz ow od S.1 S.2) :
    ∃ z, fX9_clears (nI n) sz ow od (nI p) b = some z ∧ DebR z.1 z.2.1 z.2.2 (clrV f S).1 (clrV f S).2 :=
  rcl_l b f hb hn hp n 400 0 S sz ow od (by omega) (by omega) hW hR
-- kept and brought back
theorem kp1_l (kx : (Nat → Int32) → Option (Nat → Int32)) (ow : Nat → Int32) : ∀ (r fuel k : Nat) (t : Nat → Int32), k + r = 36 → r < fuel → (∀ j, j < k → t j = ow j) →
    ∃ t', fX9_keeps_L2 kx ow fuel (nI k) t = kx t' ∧ ∀ j, j < 36 → t' j = ow j
  | 0, fuel, k, t, he, hf, h => by
    obtain ⟨f, rfl⟩ : ∃ f, fuel = f + 1 := ⟨fuel - 1, by omega⟩
    rw [fX9_keeps_L2, if_pos (e36 (by omega) (by omega))]
    exact ⟨t, rfl, fun j hj => h j (by omega)⟩
  | r + 1, fuel, k, t, he, hf, h => by
    obtain ⟨f, rfl⟩ : ∃ f, fuel = f + 1 := ⟨fuel - 1, by omega⟩
    rw [fX9_keeps_L2, if_neg (g36 (by omega)), gA_n (by omega) (by decide), gA_n (by omega) (by decide), nI_clamp (by omega), nI_1]
    refine kp1_l kx ow r f (k + 1) _ (by omega) (by omega) (fun j hj => ?_)
    rw [up_eq]
    by_cases e : j = k
    · rw [if_pos e, e]
    · rw [if_neg e]; exact h j (by omega)
theorem kp2_l (kx : (Nat → Int32) → Option (Nat → Int32)) (ow od : Nat → Int32) : ∀ (r fuel k : Nat) (t : Nat → Int32), k + r = 30 → r < fuel → (∀ j, j < 36 → t j = ow j) → (∀ j, j < k → t (36 + j) = od j) →
    ∃ t', fX9_keeps_L28 kx od fuel (nI k) t = kx t' ∧ (∀ j, j < 36 → t' j = ow j) ∧ ∀ j, j < 30 → t' (36 + j) = od j
  | 0, fuel, k, t, he, hf, h1, h2 => by
    obtain ⟨f, rfl⟩ : ∃ f, fuel = f + 1 := ⟨fuel - 1, by omega⟩
    rw [fX9_keeps_L28, if_pos (e30 (by omega) (by omega))]
    exact ⟨t, rfl, h1, fun j hj => h2 j (by omega)⟩
  | r + 1, fuel, k, t, he, hf, h1, h2 => by
    obtain ⟨f, rfl⟩ : ∃ f, fuel = f + 1 := ⟨fuel - 1, by omega⟩
    rw [fX9_keeps_L28, if_neg (g30 (by omega)), gA_n (by omega) (by decide), nn36, nI_add, gA_n (by omega) (by decide), nI_clamp (by omega), nI_clamp (by omega), nI_1]
    refine kp2_l kx ow od r f (k + 1) _ (by omega) (by omega) (fun j hj => ?_) (fun j hj => ?_)
    · rw [up_eq, if_neg (by omega)]; exact h1 j hj
    · rw [up_eq]
      by_cases e : j = k
      · rw [if_pos (by omega), e]
      · rw [if_neg (by omega)]; exact h2 j (by omega)
def KT (t : Nat → Int32) (sz : Int32) (ow od : Nat → Int32) : Prop := (∀ j, j < 36 → t j = ow j) ∧ (∀ j, j < 30 → t (36 + j) = od j) ∧ t 66 = sz
theorem keeps_n {sz : Int32} {ow od t : Nat → Int32} : ∃ z, fX9_keeps sz ow od t = some z ∧ KT z sz ow od := by
  unfold fX9_keeps
  obtain ⟨t1, a1, a2⟩ := kp1_l (fun (u_then_4 : (Nat → Int32)) => fX9_keeps_L28 (fun (u_then_8 : (Nat → Int32)) => gA 66 67 (some (upd u_then_8 (66 : Int32).toNatClampNeg sz))) od 400 0 u_then_4) ow 36 400 0 t rfl (by decide) (fun j hj => absurd hj (Nat.not_lt_zero _))
  obtain ⟨t2, b1, b2, b3⟩ := kp2_l (fun (u_then_8 : (Nat → Int32)) => gA 66 67 (some (upd u_then_8 (66 : Int32).toNatClampNeg sz))) ow od 30 400 0 t1 rfl (by decide) a2 (fun j hj => absurd hj (Nat.not_lt_zero _))
  rw [show (0 : Int32) = nI 0 from rfl] at *
  rw [a1, b1, show (66 : Int32) = nI 66 from rfl, gA_n (by decide) (by decide), nI_clamp (by decide)]
  refine ⟨_, rfl, fun j hj => ?_, fun j hj => ?_, ?_⟩
  · rw [up_eq, if_neg (by omega)]; exact b2 j hj
  · rw [up_eq, if_neg (by omega)]; exact b3 j hj
  · rw [up_eq, if_pos rfl]
theorem rt1_l (kx : (Nat → Int32) → Option (Int32 × (Nat → Int32) × (Nat → Int32))) {t ow : Nat → Int32} (ht : ∀ j, j < 36 → t j = ow j) : ∀ (r fuel k : Nat) (o : Nat → Int32), k + r = 36 → r < fuel → (∀ j, j < k → o j = ow j) →
    ∃ o', fX9_returns_L2 kx t fuel (nI k) o = kx o' ∧ ∀ j, j < 36 → o' j = ow j
  | 0, fuel, k, o, he, hf, h => by
    obtain ⟨f, rfl⟩ : ∃ f, fuel = f + 1 := ⟨fuel - 1, by omega⟩
    rw [fX9_returns_L2, if_pos (e36 (by omega) (by omega))]
    exact ⟨o, rfl, fun j hj => h j (by omega)⟩
  | r + 1, fuel, k, o, he, hf, h => by
    obtain ⟨f, rfl⟩ : ∃ f, fuel = f + 1 := ⟨fuel - 1, by omega⟩
    rw [fX9_returns_L2, if_neg (g36 (by omega)), gA_n (by omega) (by decide), gA_n (by omega) (by decide), nI_clamp (by omega), nI_1]
    refine rt1_l kx ht r f (k + 1) _ (by omega) (by omega) (fun j hj => ?_)
    rw [up_eq]
    by_cases e : j = k
    · rw [if_pos e, e]; exact ht k (by omega)
    · rw [if_neg e]; exact h j (by omega)
theorem rt2_l (kx : (Nat → Int32) → Option (Int32 × (Nat → Int32) × (Nat → Int32))) {t od : Nat → Int32} (ht : ∀ j, j < 30 → t (36 + j) = od j) : ∀ (r fuel k : Nat) (o : Nat → Int32), k + r = 30 → r < fuel → (∀ j, j < k → o j = od j) →
    ∃ o', fX9_returns_L28 kx t fuel (nI k) o = kx o' ∧ ∀ j, j < 30 → o' j = od j
  | 0, fuel, k, o, he, hf, h => by
    obtain ⟨f, rfl⟩ : ∃ f, fuel = f + 1 := ⟨fuel - 1, by omega⟩
    rw [fX9_returns_L28, if_pos (e30 (by omega) (by omega))]
    exact ⟨o, rfl, fun j hj => h j (by omega)⟩
  | r + 1, fuel, k, o, he, hf, h => by
    obtain ⟨f, rfl⟩ : ∃ f, fuel = f + 1 := ⟨fuel - 1, by omega⟩
    rw [fX9_returns_L28, if_neg (g30 (by omega)), nn36, nI_add, gA_n (by omega) (by decide), gA_n (by omega) (by decide), nI_clamp (by omega), nI_clamp (by omega), nI_1]
    refine rt2_l kx ht r f (k + 1) _ (by omega) (by omega) (fun j hj => ?_)
    rw [up_eq]
    by_cases e : j = k
    · rw [if_pos e, e]; exact ht k (by omega)
    · rw [if_neg e]; exact h j (by omega)
theorem returns_n {n : Nat} {v : Nat → Nat} {L : List Nat} {sz : Int32} {ow od t o d : Nat → Int32} (hW : DebW n v L) (hR : DebR sz ow od v L) (h : KT t sz ow od) : ∃ z, fX9_returns o d t = some z ∧ DebR z.1 z.2.1 z.2.2 v L := by
  obtain ⟨h1, h2, h3⟩ := h
  unfold fX9_returns
  obtain ⟨o', a1, a2⟩ := rt1_l (fun (u_owes_4 : (Nat → Int32)) => fX9_returns_L28 (fun (u_debt_8 : (Nat → Int32)) => gA 66 67 (some (t (66 : Int32).toNatClampNeg, u_owes_4, u_debt_8))) t 400 0 d) h1 36 400 0 o rfl (by decide) (fun j hj => absurd hj (Nat.not_lt_zero _))
  obtain ⟨d', b1, b2⟩ := rt2_l (fun (u_debt_8 : (Nat → Int32)) => gA 66 67 (some (t (66 : Int32).toNatClampNeg, o', u_debt_8))) h2 30 400 0 d rfl (by decide) (fun j hj => absurd hj (Nat.not_lt_zero _))
  rw [show (0 : Int32) = nI 0 from rfl] at *
  rw [a1, b1, show (66 : Int32) = nI 66 from rfl, gA_n (by decide) (by decide), nI_clamp (by decide), h3]
  exact ⟨_, rfl, hR.cong hW a2 b2⟩
-- total
def tot (v : Nat → Nat) : Nat → Nat
  | 0 => 0
  | k + 1 => tot v k + v k
def lsum (v : Nat → Nat) : List Nat → Nat
  | [] => 0
  | c :: t => v c + lsum v t
theorem tot_set {v : Nat → Nat} {c : Nat} : ∀ k, c < k → tot v k = tot (sV v c 0) k + v c
  | 0, h => absurd h (Nat.not_lt_zero _)
  | k + 1, h => by
    simp only [tot]
    by_cases e : c = k
    · subst e
      have h1 : ∀ j, j ≤ c → tot (sV v c 0) j = tot v j := by
        intro j
        induction j with
        | zero => intro _; rfl
        | succ j ih =>
          intro hj
          simp only [tot]
          rw [ih (by omega)]
          unfold sV
          rw [if_neg (by omega)]
      have h2 : sV v c 0 c = 0 := by unfold sV; rw [if_pos rfl]
      rw [h1 c (Nat.le_refl _), h2]; omega
    · have h2 : sV v c 0 k = v k := by unfold sV; rw [if_neg (by omega)]
      rw [tot_set (c := c) k (by omega), h2]; omega
theorem tot_0 {v : Nat → Nat} : ∀ k, (∀ j, j < k → v j = 0) → tot v k = 0
  | 0, _ => rfl
  | k + 1, h => by
    simp only [tot]
    rw [tot_0 k (fun j hj => h j (by omega)), h k (by omega)]
theorem lsum_cong {v w : Nat → Nat} : ∀ (L : List Nat), (∀ c ∈ L, v c = w c) → lsum v L = lsum w L
  | [], _ => rfl
  | c :: t, h => by
    simp only [lsum]
    rw [h c (List.mem_cons_self ..), lsum_cong t (fun x hx => h x (List.mem_cons_of_mem _ hx))]
theorem tot_list : ∀ (L : List Nat) (v : Nat → Nat), L.Nodup → (∀ c ∈ L, c < 36) → (∀ j, j < 36 → 0 < v j → j ∈ L) → tot v 36 = lsum v L
  | [], v, _, _, h => tot_0 36 (fun j hj => by
      rcases Nat.eq_zero_or_pos (v j) with e | e
      · exact e
      · exact absurd (h j hj e) List.not_mem_nil)
  | c :: t, v, hn, hb, h => by
    have hn' := List.nodup_cons.mp hn
    have hc := hb c (List.mem_cons_self ..)
    rw [tot_set 36 hc, tot_list t (sV v c 0) hn'.2 (fun x hx => hb x (List.mem_cons_of_mem _ hx)) (fun j hj hv => ?_)]
    · simp only [lsum]
      rw [lsum_cong t (v := sV v c 0) (w := v) (fun x hx => by
        unfold sV
        rw [if_neg (fun e => hn'.1 (by rw [← e]; exact hx))])]
      omega
    · unfold sV at hv
      by_cases e : j = c
      · rw [if_pos e] at hv; omega
      · rw [if_neg e] at hv
        rcases List.mem_cons.mp (h j hj hv) with h2 | h2
        · exact absurd h2 e
        · exact h2
theorem tot_bd {v : Nat → Nat} (hv : ∀ k, k < 36 → v k ≤ 999) : ∀ k, k ≤ 36 → tot v k ≤ 999 * k
  | 0, _ => Nat.le_refl _
  | k + 1, h => by
    have h1 := tot_bd hv k (by omega)
    have h2 := hv k (by omega)
    simp only [tot]
    omega
theorem ctot_l {v : Nat → Nat} {ow : Nat → Int32} (ho : ∀ k, k < 36 → ow k = nI (v k)) : ∀ (r fuel k : Nat), k + r = 36 → r < fuel → fX2_total_L4 ow fuel (nI (tot v k)) (nI k) = some (nI (tot v 36))
  | 0, fuel, k, he, hf => by
    obtain ⟨f, rfl⟩ : ∃ f, fuel = f + 1 := ⟨fuel - 1, by omega⟩
    rw [fX2_total_L4, if_pos (e36 (by omega) (by omega)), show k = 36 from by omega]
  | r + 1, fuel, k, he, hf => by
    obtain ⟨f, rfl⟩ : ∃ f, fuel = f + 1 := ⟨fuel - 1, by omega⟩
    rw [fX2_total_L4, if_neg (g36 (by omega)), gA_n (by omega) (by decide), nI_clamp (by omega), ho k (by omega), nI_add, nI_1]
    exact ctot_l ho r f (k + 1) (by omega) (by omega)
theorem ctot_n {v : Nat → Nat} {ow : Nat → Int32} (ho : ∀ k, k < 36 → ow k = nI (v k)) : fX2_total ow = some (nI (tot v 36)) := ctot_l ho 36 400 0 rfl (by decide)
theorem rtot_l {v : Nat → Nat} {ow od : Nat → Int32} {sz : Nat} (hs : sz ≤ 30) (ho : ∀ k, k < 36 → ow k = nI (v k)) : ∀ (H : List Nat) (fuel k acc : Nat), k + H.length = sz → H.length < fuel → (∀ c ∈ H, c < 36) → LR od k H → fX9_total_L4 (nI sz) ow od fuel (nI acc) (nI k) = some (nI (acc + lsum v H))
  | [], fuel, k, acc, he, hf, hb, h => by
    obtain ⟨f, rfl⟩ : ∃ f, fuel = f + 1 := ⟨fuel - 1, by simp only [List.length_nil] at hf; omega⟩
    simp only [List.length_nil, Nat.add_zero] at he
    rw [fX9_total_L4, if_pos (nI_le (by omega) (by omega))]; rfl
  | c :: H, fuel, k, acc, he, hf, hb, h => by
    obtain ⟨f, rfl⟩ : ∃ f, fuel = f + 1 := ⟨fuel - 1, by simp only [List.length_cons] at hf; omega⟩
    simp only [List.length_cons] at he hf
    have hc := hb c (List.mem_cons_self ..)
    rw [fX9_total_L4, if_neg (nI_ge (by omega) (by omega)), gA_n (by omega) (by decide), nI_clamp (by omega), h.1, gA_n hc (by decide), nI_clamp (by omega), ho c hc, nI_add, nI_1, rtot_l hs ho H f (k + 1) (acc + v c) (by omega) (by omega) (fun x hx => hb x (List.mem_cons_of_mem _ hx)) h.2]
    simp only [lsum]
    rw [Nat.add_assoc]
theorem rtot_n {n : Nat} {v : Nat → Nat} {L : List Nat} {sz : Int32} {ow od : Nat → Int32} (hW : DebW n v L) (hR : DebR sz ow od v L) : fX9_total sz ow od = some (nI (tot v 36)) := by
  have h1 := hR.1
  subst h1
  have := rtot_l (v := v) (ow := ow) (od := od) hW.len hR.2.1 L 400 0 0 (by omega) (by have := hW.len; omega) (fun c hc => (hW.2.2.2 c hc).1) hR.lr
  unfold fX9_total
  rw [show fX9_total_L4 (nI L.length) ow od 400 0 0 = _ from this, Nat.zero_add, tot_list L v hW.2.2.1 (fun c hc => (hW.2.2.2 c hc).1) (fun j hj h => (hW.2.1 j hj).mp h)]
-- the number among the debts
theorem cat_n {n : Nat} {v : Nat → Nat} {L : List Nat} {ow od : Nat → Int32} (hW : DebW n v L) (hR : DebR (nI L.length) ow od v L) {k : Nat} (hk : k < L.length) (x : Int32) : fX2_at (nI L.length) ow od (nI k) x = some (if x = 0 then nI (gp L k / 6) else if x = 1 then nI (gp L k % 6) else if x = 2 then nI (v (gp L k)) else -1) := by
  have hlen := hW.len
  have hg := LR_gp0 hR.lr hk
  have hc := hW.2.2.2 _ (gp_mem L k hk)
  unfold fX2_at
  rw [if_neg (nI_pos (by omega)), if_pos (nI_lt hk (by omega)), gA_n (by omega) (by decide), gA_n (by omega) (by decide), nI_clamp (by omega), hg, dv6 (by omega), rm6' (by omega), amount_n (by omega) (by omega), show 6 * (gp L k / 6) + gp L k % 6 = gp L k from by omega, hR.2.1 _ hc.1]
  by_cases e0 : x = 0
  · rw [if_pos e0, if_pos e0]
  · rw [if_neg e0, if_neg e0]
    by_cases e1 : x = 1
    · rw [if_pos e1, if_pos e1]
    · rw [if_neg e1, if_neg e1]
      by_cases e2 : x = 2
      · rw [if_pos e2, if_pos e2]; rfl
      · rw [if_neg e2, if_neg e2]
def ixI (L : List Nat) (c : Nat) : Nat → Nat → Int32
  | 0, _ => -5
  | r + 1, k => if gp L k = c then nI k else ixI L c r (k + 1)
theorem pl_l {n : Nat} {v : Nat → Nat} {L : List Nat} {ow od : Nat → Int32} {i j : Nat} (hW : DebW n v L) (hR : DebR (nI L.length) ow od v L) (hi : i < 6) (hj : j < 6) : ∀ (r fuel k : Nat), k + r = L.length → r < fuel → fX2_placeOf_L2 (nI L.length) ow od (nI i) (nI j) fuel (nI k) = some (ixI L (6 * i + j) r k)
  | 0, fuel, k, he, hf => by
    obtain ⟨f, rfl⟩ : ∃ f, fuel = f + 1 := ⟨fuel - 1, by omega⟩
    have hlen := hW.len
    rw [fX2_placeOf_L2, if_pos (nI_le (by omega) (by omega))]; rfl
  | r + 1, fuel, k, he, hf => by
    obtain ⟨f, rfl⟩ : ∃ f, fuel = f + 1 := ⟨fuel - 1, by omega⟩
    have hlen := hW.len
    have hk : k < L.length := by omega
    have hc := hW.2.2.2 _ (gp_mem L k hk)
    rw [fX2_placeOf_L2, if_neg (nI_ge hk (by omega)), cat_n hW hR hk, cat_n hW hR hk, nI_1, pl_l hW hR hi hj r f (k + 1) (by omega) (by omega)]
    rw [if_pos rfl, if_neg (by decide), if_pos rfl]
    simp only [Option.bind_some, nI_eq (show gp L k / 6 < 2 ^ 31 by omega) (show i < 2 ^ 31 by omega), nI_eq (show gp L k % 6 < 2 ^ 31 by omega) (show j < 2 ^ 31 by omega), ixI]
    by_cases e : gp L k = 6 * i + j
    · rw [if_pos (by omega), if_pos (by omega), if_pos e]
    · rw [if_neg e]
      by_cases e1 : gp L k / 6 = i
      · rw [if_pos e1, if_neg (by omega)]
      · rw [if_neg e1]
theorem nu_l {n : Nat} {v : Nat → Nat} {L : List Nat} {od : Nat → Int32} {c : Nat} (hW : DebW n v L) (h : LR od 0 L) (hc : c < 36) : ∀ (r fuel k : Nat), k + r = L.length → r < fuel → fX9_numberOf_L2 (nI L.length) od (nI c) fuel (nI k) = some (ixI L c r k)
  | 0, fuel, k, he, hf => by
    obtain ⟨f, rfl⟩ : ∃ f, fuel = f + 1 := ⟨fuel - 1, by omega⟩
    have hlen := hW.len
    rw [fX9_numberOf_L2, if_pos (nI_le (by omega) (by omega))]; rfl
  | r + 1, fuel, k, he, hf => by
    obtain ⟨f, rfl⟩ : ∃ f, fuel = f + 1 := ⟨fuel - 1, by omega⟩
    have hlen := hW.len
    have hk : k < L.length := by omega
    have hcc := hW.2.2.2 _ (gp_mem L k hk)
    rw [fX9_numberOf_L2, if_neg (nI_ge hk (by omega)), gA_n (by omega) (by decide), nI_clamp (by omega), LR_gp0 h hk, nI_1, nu_l hW h hc r f (k + 1) (by omega) (by omega)]
    simp only [nI_eq (show gp L k < 2 ^ 31 by omega) (show c < 2 ^ 31 by omega), ixI]
    by_cases e : gp L k = c
    · rw [if_pos e, if_pos e]
    · rw [if_neg e, if_neg e]
end
