/-! ===== what is owed, and its order ===== -/
section
/-- the row f holds the list L from place o on -/
def LR (f : Nat → Int32) : Nat → List Nat → Prop
  | _, [] => True
  | o, a :: t => f o = nI a ∧ LR f (o + 1) t
theorem LR_app {f : Nat → Int32} : ∀ (A B : List Nat) (o : Nat), LR f o (A ++ B) ↔ LR f o A ∧ LR f (o + A.length) B
  | [], B, o => by simp [LR]
  | a :: A, B, o => by
    simp only [List.cons_append, LR, LR_app A B (o + 1), List.length_cons]
    rw [show o + 1 + A.length = o + (A.length + 1) from by omega]
    exact ⟨fun h => ⟨⟨h.1, h.2.1⟩, h.2.2⟩, fun h => ⟨h.1.1, h.1.2, h.2⟩⟩
theorem LR_upd {f : Nat → Int32} {k : Nat} {x : Int32} : ∀ (L : List Nat) (o : Nat), (k < o ∨ o + L.length ≤ k) → LR f o L → LR (upd f k x) o L
  | [], _, _, _ => trivial
  | a :: t, o, hk, h => by
    simp only [List.length_cons] at hk
    refine ⟨?_, LR_upd t (o + 1) (by omega) h.2⟩
    rw [up_eq, if_neg (by omega)]; exact h.1
theorem LR_get {f : Nat → Int32} : ∀ (L : List Nat) (o : Nat), LR f o L → ∀ (k : Nat) (h : k < L.length), f (o + k) = nI L[k]
  | [], _, _, _, h => absurd h (Nat.not_lt_zero _)
  | a :: t, o, h, 0, _ => h.1
  | a :: t, o, h, k + 1, hk => by
    have := LR_get t (o + 1) h.2 k (by simpa using hk)
    rw [show o + (k + 1) = o + 1 + k from by omega, this]; rfl
theorem LR_of {f : Nat → Int32} : ∀ (L : List Nat) (o : Nat), (∀ (k : Nat) (h : k < L.length), f (o + k) = nI L[k]) → LR f o L
  | [], _, _ => trivial
  | a :: t, o, h => ⟨h 0 (by simp), LR_of t (o + 1) (fun k hk => by
      have := h (k + 1) (by simpa using hk)
      rw [show o + 1 + k = o + (k + 1) from by omega, this]; rfl)⟩
theorem LR_cong {f g : Nat → Int32} {L : List Nat} {o : Nat} (h : LR f o L) (he : ∀ k, o ≤ k → k < o + L.length → g k = f k) : LR g o L :=
  LR_of L o (fun k hk => by rw [he (o + k) (by omega) (by omega)]; exact LR_get L o h k hk)
theorem nd_len : ∀ (L M : List Nat), L.Nodup → (∀ k ∈ L, k ∈ M) → L.length ≤ M.length
  | [], _, _, _ => Nat.zero_le _
  | a :: t, M, h, hs => by
    have ha := hs a (List.mem_cons_self ..)
    have hn := List.nodup_cons.mp h
    have := nd_len t (M.erase a) hn.2 (fun k hk => (List.mem_erase_of_ne (fun e => hn.1 (by rw [← e]; exact hk))).mpr (hs k (List.mem_cons_of_mem _ hk)))
    rw [List.length_erase_of_mem ha] at this
    have hp : 0 < M.length := List.length_pos_of_mem ha
    simp only [List.length_cons]; omega
def sV (v : Nat → Nat) (c a : Nat) : Nat → Nat := fun k => if k = c then a else v k
def sL (v : Nat → Nat) (L : List Nat) (c a : Nat) : List Nat := if a = 0 then L.filter (fun k => k != c) else if v c = 0 then L ++ [c] else L
theorem DebW.len {n : Nat} {v : Nat → Nat} {L : List Nat} (h : DebW n v L) : L.length ≤ 30 := by
  have := nd_len L ((List.range 36).filter (fun k => k / 6 != k % 6)) h.2.2.1 (fun k hk => by
    have := h.2.2.2 k hk
    simp only [List.mem_filter, List.mem_range, bne_iff_ne, ne_eq]
    exact ⟨this.1, this.2.2.2⟩)
  have e : ((List.range 36).filter (fun k => k / 6 != k % 6)).length = 30 := by decide
  omega
theorem fl_none {L : List Nat} {c : Nat} (h : c ∉ L) : L.filter (fun k => k != c) = L := by
  rw [List.filter_eq_self]
  intro a ha
  simp only [bne_iff_ne, ne_eq]
  exact fun e => h (e ▸ ha)
theorem DebW.set {n : Nat} {v : Nat → Nat} {L : List Nat} (h : DebW n v L) (c a : Nat) (hc : c < 36) (ha : a ≤ 999) (hp : a = 0 ∨ (c / 6 < n ∧ c % 6 < n ∧ c / 6 ≠ c % 6)) : DebW n (sV v c a) (sL v L c a) := by
  obtain ⟨h1, h2, h3, h4⟩ := h
  have hcL := h2 c hc
  refine ⟨?_, ?_, ?_, ?_⟩
  · intro k hk
    unfold sV
    by_cases e : k = c
    · rw [if_pos e]; exact ha
    · rw [if_neg e]; exact h1 k hk
  · intro k hk
    unfold sV sL
    have hkL := h2 k hk
    by_cases e : k = c
    · rw [if_pos e]
      subst e
      by_cases e0 : a = 0
      · rw [if_pos e0]; simp [e0]
      · rw [if_neg e0]
        by_cases ev : v k = 0
        · rw [if_pos ev]; simp; omega
        · rw [if_neg ev]; exact ⟨fun _ => hkL.mp (by omega), fun _ => by omega⟩
    · rw [if_neg e, hkL]
      by_cases e0 : a = 0
      · rw [if_pos e0]; simp [e]
      · rw [if_neg e0]
        by_cases ev : v c = 0
        · rw [if_pos ev]; simp [e]
        · rw [if_neg ev]
  · unfold sL
    by_cases e0 : a = 0
    · rw [if_pos e0]; exact h3.sublist List.filter_sublist
    · rw [if_neg e0]
      by_cases ev : v c = 0
      · rw [if_pos ev, List.nodup_append]
        refine ⟨h3, by simp, fun x hx y hy => ?_⟩
        rw [List.mem_singleton] at hy
        subst hy
        rintro rfl
        have := hcL.mpr hx
        omega
      · rw [if_neg ev]; exact h3
  · intro k hk
    unfold sL at hk
    by_cases e0 : a = 0
    · rw [if_pos e0, List.mem_filter] at hk; exact h4 k hk.1
    · rw [if_neg e0] at hk
      by_cases ev : v c = 0
      · rw [if_pos ev, List.mem_append, List.mem_singleton] at hk
        rcases hk with hk | rfl
        · exact h4 k hk
        · rcases hp with hp | hp
          · exact absurd hp e0
          · exact ⟨hc, hp⟩
      · rw [if_neg ev] at hk; exact h4 k hk
theorem DebR.lr {sz : Int32} {ow od : Nat → Int32} {v : Nat → Nat} {L : List Nat} (h : DebR sz ow od v L) : LR od 0 L := LR_of L 0 (fun k hk => by rw [Nat.zero_add]; exact h.2.2 k hk)
theorem DebR.of {sz : Int32} {ow od : Nat → Int32} {v : Nat → Nat} {L : List Nat} (h1 : sz = nI L.length) (h2 : ∀ k, k < 36 → ow k = nI (v k)) (h3 : LR od 0 L) : DebR sz ow od v L := ⟨h1, h2, fun k hk => by have := LR_get L 0 h3 k hk; rwa [Nat.zero_add] at this⟩
theorem ow_set {ow : Nat → Int32} {v : Nat → Nat} {c a : Nat} (h : ∀ k, k < 36 → ow k = nI (v k)) : ∀ k, k < 36 → upd ow c (nI a) k = nI (sV v c a k) := by
  intro k hk
  rw [up_eq]; unfold sV
  by_cases e : k = c
  · rw [if_pos e, if_pos e]
  · rw [if_neg e, if_neg e]; exact h k hk
theorem isCell_n {i j : Nat} (hi : i < 6) (hj : j < 6) : fX8_isCell (nI i) (nI j) = some 1 := by
  unfold fX8_isCell
  rw [if_neg (nI_pos (by omega)), if_neg (g6 hi), if_neg (nI_pos (by omega)), if_neg (g6 hj)]
theorem ix6 (i j : Nat) : nI i * 6 + nI j = nI (6 * i + j) := by rw [nn6, pk_mul, nI_add, Nat.mul_comm]
theorem ix6' (i j : Nat) : 6 * nI i + nI j = nI (6 * i + j) := by rw [nn6, pk_mul, nI_add]
theorem amount_n {ow : Nat → Int32} {i j : Nat} (hi : i < 6) (hj : j < 6) : fX2_amount ow (nI i) (nI j) = some (ow (6 * i + j)) := by
  unfold fX2_amount
  rw [isCell_n hi hj]
  simp only [Option.bind_some, on0, if_false, ix6]
  rw [gA_n (by omega) (by decide), nI_clamp (by omega)]
theorem drop_l (kx : Int32 → (Nat → Int32) → Option (Int32 × (Nat → Int32))) (sz c : Nat) (hc : c < 36) (hs : sz ≤ 30) : ∀ (B : List Nat) (fuel k : Nat) (F : List Nat) (od : Nat → Int32), B.length < fuel → F.length ≤ k → k + B.length = sz → (∀ b ∈ B, b < 36) → LR od 0 F → LR od k B →
    ∃ od', fX2_drop_L4 kx (nI sz) (nI c) fuel (nI F.length) (nI k) od = kx (nI (F ++ B.filter (fun k => k != c)).length) od' ∧ LR od' 0 (F ++ B.filter (fun k => k != c))
  | [], fuel, k, F, od, hf, hk, he, hb, hF, hB => by
    obtain ⟨f, rfl⟩ : ∃ f, fuel = f + 1 := ⟨fuel - 1, by simp only [List.length_nil] at hf; omega⟩
    simp only [List.length_nil, Nat.add_zero] at he
    refine ⟨od, ?_, by simpa using hF⟩
    rw [fX2_drop_L4, if_pos (nI_le (by omega) (by omega))]
    simp
  | b :: B, fuel, k, F, od, hf, hk, he, hb, hF, hB => by
    obtain ⟨f, rfl⟩ : ∃ f, fuel = f + 1 := ⟨fuel - 1, by simp only [List.length_cons] at hf; omega⟩
    simp only [List.length_cons] at hf he
    have hb36 : b < 36 := hb b (List.mem_cons_self ..)
    have hbB : ∀ x ∈ B, x < 36 := fun x hx => hb x (List.mem_cons_of_mem _ hx)
    rw [fX2_drop_L4, if_neg (nI_ge (by omega) (by omega)), if_neg (g36 (by omega)), gA_n (by omega) (by decide), nI_clamp (by omega), hB.1]
    by_cases e : b = c
    · rw [if_pos (by rw [e])]
      obtain ⟨od', a1, a2⟩ := drop_l kx sz c hc hs B f (k + 1) F od (by omega) (by omega) (by omega) hbB hF hB.2
      refine ⟨od', ?_, ?_⟩
      · rw [nI_1, a1]; simp [e]
      · simpa [e] using a2
    · rw [if_neg (by rw [nI_eq (by omega) (by omega)]; exact e), gA_n (by omega) (by decide), gA_n (by omega) (by decide), nI_clamp (by omega)]
      have hF2 : LR (upd od F.length (nI b)) 0 (F ++ [b]) := by
        rw [LR_app]
        refine ⟨LR_upd F 0 (Or.inr (by omega)) hF, ?_, trivial⟩
        rw [up_eq, if_pos (by omega)]
      have hB2 : LR (upd od F.length (nI b)) (k + 1) B := LR_upd B (k + 1) (Or.inl (by omega)) hB.2
      obtain ⟨od', a1, a2⟩ := drop_l kx sz c hc hs B f (k + 1) (F ++ [b]) _ (by omega) (by simp; omega) (by omega) hbB hF2 hB2
      refine ⟨od', ?_, ?_⟩
      · rw [nI_1, nI_1]
        rw [show (F ++ [b]).length = F.length + 1 from by simp] at a1
        rw [a1]; simp [e]
      · simpa [e] using a2
theorem append_n {sz c : Nat} {od : Nat → Int32} (hs : sz ≤ 30) : fX2_append (nI sz) od (nI c) = some (nI (sz + 1), upd od sz (nI c)) := by
  unfold fX2_append
  rw [if_neg (g36 (by omega)), gA_n (by omega) (by decide), nI_1, nI_clamp (by omega)]
theorem sL_get {v : Nat → Nat} {L : List Nat} {c a : Nat} : sL v L c a = if a = 0 then L.filter (fun k => k != c) else if v c = 0 then L ++ [c] else L := rfl
theorem put_n {n : Nat} {sz : Int32} {ow od : Nat → Int32} {v : Nat → Nat} {L : List Nat} {i j a : Nat} (hW : DebW n v L) (hR : DebR sz ow od v L) (hi : i < 6) (hj : j < 6) (ha : a ≤ 999) :
    ∃ z, fX2_put sz ow od (nI i) (nI j) (nI a) = some z ∧ DebR z.1 z.2.1 z.2.2 (sV v (6 * i + j) a) (sL v L (6 * i + j) a) := by
  have hc : 6 * i + j < 36 := by omega
  have hlen := hW.len
  have hlr := hR.lr
  obtain ⟨e, hv, _⟩ := hR
  subst e
  have hvb := hW.1 _ hc
  have hmem := hW.2.1 _ hc
  have hL36 : ∀ b ∈ L, b < 36 := fun b hb => (hW.2.2.2 b hb).1
  have hvc := hv _ hc
  unfold fX2_put
  rw [isCell_n hi hj]
  simp only [Option.bind_some, on0, if_false, ix6, jn_eq]
  generalize 6 * i + j = c at *
  have b1 : v c < 2 ^ 31 := by omega
  have b2 : a < 2 ^ 31 := by omega
  have b3 : c < 2 ^ 31 := by omega
  simp only [gA_n hc (show 36 < 2 ^ 31 by decide), nI_clamp b3, hvc, nI_e0 b1, nI_le0 b1, nI_e0 b2, nI_le0 b2]
  rw [sL_get]
  by_cases v0 : v c = 0
  · have hcL : c ∉ L := fun h => by have := hmem.mpr h; omega
    by_cases a0 : a = 0
    · simp only [if_pos v0, if_pos a0]
      refine ⟨_, rfl, DebR.of ?_ (ow_set hv) ?_⟩
      · rw [fl_none hcL]
      · rw [fl_none hcL]; exact hlr
    · simp only [if_pos v0, if_neg a0, append_n hlen, Option.bind_some]
      refine ⟨_, rfl, DebR.of ?_ (ow_set hv) ?_⟩
      · simp
      · rw [LR_app]
        refine ⟨LR_upd L 0 (Or.inr (by omega)) hlr, ?_, trivial⟩
        show upd _ L.length (nI c) (0 + L.length) = nI c
        rw [up_eq, if_pos (by omega)]
  · by_cases a0 : a = 0
    · simp only [if_neg v0, if_pos a0]
      unfold fX2_drop
      obtain ⟨od', a1, a2⟩ := drop_l (fun (x2_7 : Int32) (u_order_7 : (Nat → Int32)) => some (x2_7, u_order_7)) L.length c hc hlen L 400 0 [] od (by omega) (Nat.le_refl _) (by omega) hL36 trivial hlr
      simp only [List.length_nil, List.nil_append] at a1 a2
      rw [show (0 : Int32) = nI 0 from rfl, a1]
      exact ⟨_, rfl, DebR.of rfl (ow_set hv) a2⟩
    · simp only [if_neg v0, if_neg a0]
      exact ⟨_, rfl, DebR.of rfl (ow_set hv) hlr⟩
-- the reference
theorem num_l (sz c : Nat) (hc : c < 36) (hs : sz ≤ 30) (de : Nat → Int32) : ∀ (B : List Nat) (fuel k : Nat), B.length < fuel → k + B.length = sz → (∀ b ∈ B, b < 36) → LR de k B →
    (c ∉ B → fX9_numberOf_L2 (nI sz) de (nI c) fuel (nI k) = some (-5)) ∧ ∀ A' B' : List Nat, B = A' ++ c :: B' → c ∉ A' → fX9_numberOf_L2 (nI sz) de (nI c) fuel (nI k) = some (nI (k + A'.length))
  | [], fuel, k, hf, he, hb, hB => by
    obtain ⟨f, rfl⟩ : ∃ f, fuel = f + 1 := ⟨fuel - 1, by simp only [List.length_nil] at hf; omega⟩
    simp only [List.length_nil, Nat.add_zero] at he
    refine ⟨fun _ => ?_, fun A' B' h => ?_⟩
    · rw [fX9_numberOf_L2, if_pos (nI_le (by omega) (by omega))]
    · have := congrArg List.length h; simp at this
  | b :: B, fuel, k, hf, he, hb, hB => by
    obtain ⟨f, rfl⟩ : ∃ f, fuel = f + 1 := ⟨fuel - 1, by simp only [List.length_cons] at hf; omega⟩
    simp only [List.length_cons] at hf he
    have hb36 : b < 36 := hb b (List.mem_cons_self ..)
    have hbB : ∀ x ∈ B, x < 36 := fun x hx => hb x (List.mem_cons_of_mem _ hx)
    obtain ⟨r1, r2⟩ := num_l sz c hc hs de B f (k + 1) (by omega) (by omega) hbB hB.2
    rw [fX9_numberOf_L2, if_neg (nI_ge (by omega) (by omega)), gA_n (by omega) (by decide), nI_clamp (by omega), hB.1, nI_1]
    by_cases e : b = c
    · rw [if_pos (by rw [e])]
      refine ⟨fun h => absurd (e ▸ List.mem_cons_self ..) h, fun A' B' h hA => ?_⟩
      cases A' with
      | nil => simp
      | cons x A' =>
        simp only [List.cons_append, List.cons.injEq] at h
        exact absurd (by rw [← e, h.1]; exact List.mem_cons_self ..) hA
    · rw [if_neg (by rw [nI_eq (by omega) (by omega)]; exact e)]
      refine ⟨fun h => r1 (fun hm => h (List.mem_cons_of_mem _ hm)), fun A' B' h hA => ?_⟩
      cases A' with
      | nil =>
        simp only [List.nil_append, List.cons.injEq] at h
        exact absurd h.1 e
      | cons x A' =>
        simp only [List.cons_append, List.cons.injEq] at h
        rw [r2 A' B' h.2 (fun hm => hA (List.mem_cons_of_mem _ hm)), List.length_cons]
        rw [show k + 1 + A'.length = k + (A'.length + 1) from by omega]
theorem num_n {n : Nat} {v : Nat → Nat} {L : List Nat} {de : Nat → Int32} {c : Nat} (hW : DebW n v L) (hc : c < 36) (hr : LR de 0 L) :
    (c ∉ L → fX9_numberOf (nI L.length) de (nI c) = some (-5)) ∧ ∀ A B : List Nat, L = A ++ c :: B → c ∉ A → fX9_numberOf (nI L.length) de (nI c) = some (nI A.length) := by
  have hlen := hW.len
  obtain ⟨r1, r2⟩ := num_l L.length c hc hlen de L 400 0 (by omega) (by omega) (fun b hb => (hW.2.2.2 b hb).1) hr
  refine ⟨r1, fun A B h hA => ?_⟩
  have := r2 A B h hA
  rwa [Nat.zero_add] at this
theorem shift_l (sz : Nat) (hs : sz ≤ 29) (ow : Nat → Int32) : ∀ (B : List Nat) (fuel k : Nat) (A : List Nat) (de : Nat → Int32), B.length < fuel → A.length = k → k + B.length = sz → LR de 0 A → LR de (k + 1) B →
    ∃ de', fX9_becomes_L60 (nI sz) ow fuel (nI k) de = some (nI sz, ow, de') ∧ LR de' 0 (A ++ B)
  | [], fuel, k, A, de, hf, hA, he, h1, h2 => by
    obtain ⟨f, rfl⟩ : ∃ f, fuel = f + 1 := ⟨fuel - 1, by simp only [List.length_nil] at hf; omega⟩
    simp only [List.length_nil, Nat.add_zero] at he
    refine ⟨de, ?_, by simpa using h1⟩
    rw [fX9_becomes_L60, if_pos (nI_le (by omega) (by omega))]
  | b :: B, fuel, k, A, de, hf, hA, he, h1, h2 => by
    obtain ⟨f, rfl⟩ : ∃ f, fuel = f + 1 := ⟨fuel - 1, by simp only [List.length_cons] at hf; omega⟩
    simp only [List.length_cons] at hf he
    rw [fX9_becomes_L60, if_neg (nI_ge (by omega) (by omega)), nI_1, gA_n (by omega) (by decide), gA_n (by omega) (by decide), nI_clamp (by omega), nI_clamp (by omega), h2.1]
    have hA2 : LR (upd de k (nI b)) 0 (A ++ [b]) := by
      rw [LR_app]
      refine ⟨LR_upd A 0 (Or.inr (by omega)) h1, ?_, trivial⟩
      rw [up_eq, if_pos (by omega)]
    obtain ⟨de', a1, a2⟩ := shift_l sz hs ow B f (k + 1) (A ++ [b]) _ (by omega) (by simp; omega) (by omega) hA2 (LR_upd B (k + 1 + 1) (Or.inl (by omega)) h2.2)
    exact ⟨de', a1, by simpa using a2⟩
theorem becomes_n {n : Nat} {sz : Int32} {ow de : Nat → Int32} {v : Nat → Nat} {L : List Nat} {c a : Nat} (hW : DebW n v L) (hR : DebR sz ow de v L) (hc : c < 36) (ha : a ≤ 999) (hp : a = 0 ∨ (c / 6 < n ∧ c % 6 < n ∧ c / 6 ≠ c % 6)) :
    ∃ z, fX9_becomes sz ow de (nI c) (nI a) = some z ∧ DebR z.1 z.2.1 z.2.2 (sV v c a) (sL v L c a) := by
  have hlen := hW.len
  have hW' := (hW.set c a hc ha hp).len
  have hlr := hR.lr
  obtain ⟨e, hv, _⟩ := hR
  subst e
  have hvb := hW.1 _ hc
  have hmem := hW.2.1 _ hc
  have b2 : a < 2 ^ 31 := by omega
  have b3 : c < 2 ^ 31 := by omega
  obtain ⟨r1, r2⟩ := num_n hW hc hlr
  have m5 : ((0 : Int32) ≤ -5) ↔ False := by decide
  rw [sL_get] at hW' ⊢
  unfold fX9_becomes
  by_cases hm : c ∈ L
  · obtain ⟨A, B, hL, hA⟩ := List.eq_append_cons_of_mem hm
    have hv0 : ¬ v c = 0 := by have := hmem.mpr hm; omega
    have hLl : L.length = A.length + B.length + 1 := by rw [hL]; simp; omega
    rw [r2 A B hL hA]
    simp only [Option.bind_some, gA_n hc (show 36 < 2 ^ 31 by decide), nI_clamp b3, nI_le0 b2, nI_gt0 b2, nI_ge0 (show A.length < 2 ^ 31 by omega)]
    by_cases a0 : a = 0
    · rw [if_pos a0, if_neg (by omega), if_pos trivial, hLl, nI_pred]
      have hBA : c ∉ B := by
        have := hW.2.2.1
        rw [hL, List.nodup_append] at this
        exact (List.nodup_cons.mp this.2.1).1
      rw [hL, LR_app] at hlr
      obtain ⟨de', q1, q2⟩ := shift_l (A.length + B.length) (by omega) (upd ow c (nI a)) B 400 A.length A de (by omega) rfl rfl hlr.1 (by have := hlr.2.2; rwa [Nat.zero_add] at this)
      rw [q1]
      have hf : L.filter (fun k => k != c) = A ++ B := by
        rw [hL, List.filter_append, List.filter_cons_of_neg (by simp), fl_none hA, fl_none hBA]
      refine ⟨_, rfl, DebR.of ?_ (ow_set hv) ?_⟩
      · rw [if_pos a0, hf, List.length_append]
      · rw [if_pos a0, hf]; exact q2
    · rw [if_neg a0, if_pos trivial, if_pos (by omega)]
      refine ⟨_, rfl, DebR.of ?_ (ow_set hv) ?_⟩
      · rw [if_neg a0, if_neg hv0]
      · rw [if_neg a0, if_neg hv0]; exact hlr
  · have hv0 : v c = 0 := by
      rcases Nat.eq_zero_or_pos (v c) with h | h
      · exact h
      · exact absurd (hmem.mp h) hm
    rw [r1 hm]
    simp only [Option.bind_some, gA_n hc (show 36 < 2 ^ 31 by decide), nI_clamp b3, nI_le0 b2, nI_gt0 b2, m5, if_false]
    by_cases a0 : a = 0
    · rw [if_pos a0, if_neg (by omega)]
      refine ⟨_, rfl, DebR.of ?_ (ow_set hv) ?_⟩
      · rw [if_pos a0, fl_none hm]
      · rw [if_pos a0, fl_none hm]; exact hlr
    · rw [if_neg a0, if_neg a0, if_pos hv0] at *
      have hl29 : L.length < 30 := by rw [List.length_append] at hW'; simp at hW'; omega
      rw [gA_n hl29 (by decide), if_pos (by omega), nI_1, nI_clamp (by omega)]
      refine ⟨_, rfl, DebR.of ?_ (ow_set hv) ?_⟩
      · simp
      · rw [LR_app]
        refine ⟨LR_upd L 0 (Or.inr (by omega)) hlr, ?_, trivial⟩
        show upd _ L.length (nI c) (0 + L.length) = nI c
        rw [up_eq, if_pos (by omega)]
end
