/-! ===== the text: signs, clauses, the fault ===== -/
section
def dgB (t : Nat) (T : Nat → Nat) (k : Nat) : Bool := decide (k < t) && decide (48 ≤ T k) && decide (T k ≤ 57)
theorem dgB_iff {t : Nat} {T : Nat → Nat} {k : Nat} : dgB t T k = true ↔ k < t ∧ 48 ≤ T k ∧ T k ≤ 57 := by
  unfold dgB
  rw [Bool.and_eq_true, Bool.and_eq_true, decide_eq_true_iff, decide_eq_true_iff, decide_eq_true_iff]
  exact ⟨fun h => ⟨h.1.1, h.1.2, h.2⟩, fun h => ⟨⟨h.1, h.2.1⟩, h.2.2⟩⟩
def dgs (c : Nat) : Option Nat := if c = 99 then some 1 else if c = 110 then some 2 else if c = 111 then some 3 else if c = 112 then some 0 else if c = 121 then some 2 else none
/-- the text of both -/
def TX (t : Nat) (sg mx : Nat → Int32) (T : Nat → Nat) : Prop := t ≤ 100 ∧ ∀ k, k < t → sg k = nI (T k) ∧ mx k = nI (T k) ∧ T k ≤ 127
theorem TX_of {xs : Int32} {sg : Nat → Int32} {mt : Int32} {mx : Nat → Int32} (h : TextR xs sg mt mx) : ∃ t, xs = nI t ∧ mt = nI t ∧ TX t sg mx (fun k => (sg k).toNatClampNeg) := by
  obtain ⟨t, h1, h2, h3, h4⟩ := h
  refine ⟨t, h2, h3, h1, fun k hk => ?_⟩
  obtain ⟨a, c, hc, b⟩ := h4 k hk
  have e : (sg k).toNatClampNeg = c := by rw [b]; exact nI_clamp (by omega)
  show sg k = nI ((sg k).toNatClampNeg) ∧ mx k = nI ((sg k).toNatClampNeg) ∧ (sg k).toNatClampNeg ≤ 127
  rw [e, ← a]
  exact ⟨b, b, hc⟩
theorem dgs_c {c : Nat} (h : c ≤ 127) : fX7_digitsOf (nI c) = some (match dgs c with | some n => nI n | none => -1) := co_dec (N := 128) (P := fun c => fX7_digitsOf (nI c) = some (match dgs c with | some n => nI n | none => -1)) (by decide +kernel) (by omega)
theorem dgs_r {c : Nat} (h : c ≤ 127) : fX9_digits (nI c) = some (match dgs c with | some n => nI n | none => -1) := co_dec (N := 128) (P := fun c => fX9_digits (nI c) = some (match dgs c with | some n => nI n | none => -1)) (by decide +kernel) (by omega)
theorem dgs_3 {c n : Nat} (h : dgs c = some n) : n ≤ 3 ∧ (n = 3 ↔ c = 111) := by
  unfold dgs at h
  by_cases e1 : c = 99
  · rw [if_pos e1] at h; cases h; omega
  · rw [if_neg e1] at h
    by_cases e2 : c = 110
    · rw [if_pos e2] at h; cases h; omega
    · rw [if_neg e2] at h
      by_cases e3 : c = 111
      · rw [if_pos e3] at h; cases h; omega
      · rw [if_neg e3] at h
        by_cases e4 : c = 112
        · rw [if_pos e4] at h; cases h; omega
        · rw [if_neg e4] at h
          by_cases e5 : c = 121
          · rw [if_pos e5] at h; cases h; omega
          · rw [if_neg e5] at h; cases h
theorem sgn_n {t : Nat} {sg mx : Nat → Int32} {T : Nat → Nat} (h : TX t sg mx T) {k : Nat} (hk : k < 2 ^ 20) : fX7_signAt (nI t) sg (nI k) = some (if k < t then nI (T k) else -1) := by
  have h1 := h.1
  unfold fX7_signAt
  rw [if_neg (nI_pos (by omega))]
  by_cases e : k < t
  · rw [if_neg (nI_ge e (by omega)), if_neg (show ¬ (100 : Int32) ≤ nI k from nI_ge (b := 100) (by omega) (by decide)), gA_n (by omega) (by decide), nI_clamp (by omega), if_pos e, (h.2 k e).1]
  · rw [if_pos (nI_le (by omega) (by omega)), if_neg e]
theorem isd_n {t : Nat} {sg mx : Nat → Int32} {T : Nat → Nat} (h : TX t sg mx T) {k : Nat} (hk : k < 2 ^ 20) : fX7_isDigit (nI t) sg (nI k) = some (if dgB t T k = true then 1 else 0) := by
  unfold fX7_isDigit
  rw [sgn_n h hk]
  simp only [Option.bind_some]
  by_cases e : k < t
  · have h3 := (h.2 k e).2.2
    rw [if_pos e]
    by_cases e1 : T k < 48
    · rw [if_pos (show nI (T k) < (48 : Int32) from nI_lt (b := 48) e1 (by decide)), if_neg (fun x => by have := dgB_iff.mp x; omega)]
    · rw [if_neg (show ¬ nI (T k) < (48 : Int32) from nI_nlt (b := 48) (by omega) (by omega))]
      by_cases e2 : 57 < T k
      · rw [if_pos (show (57 : Int32) < nI (T k) from nI_lt (a := 57) e2 (by omega)), if_neg (fun x => by have := dgB_iff.mp x; omega)]
      · rw [if_neg (show ¬ (57 : Int32) < nI (T k) from nI_nlt (a := 57) (by omega) (by decide)), if_pos (dgB_iff.mpr ⟨e, by omega, by omega⟩)]
  · rw [if_neg e, if_pos (by decide), if_neg (fun x => e (dgB_iff.mp x).1)]
theorem dat_n {t : Nat} {sg mx : Nat → Int32} {T : Nat → Nat} (h : TX t sg mx T) {k : Nat} (hk : k < 2 ^ 20) : fX7_digitAt (nI t) sg (nI k) = some (if dgB t T k = true then nI (T k - 48) else -1) := by
  unfold fX7_digitAt
  rw [isd_n h hk, sgn_n h hk]
  simp only [Option.bind_some]
  by_cases e : dgB t T k = true
  · obtain ⟨e1, e2, e3⟩ := dgB_iff.mp e
    rw [if_pos e, if_neg (by decide), if_pos e1, if_pos e, show nI (T k) - 48 = nI (T k - 48) from pk_sub (b := 48) e2]
  · rw [if_neg e, if_pos rfl, if_neg e]
theorem rdg_n {t : Nat} {sg mx : Nat → Int32} {T : Nat → Nat} (h : TX t sg mx T) {k : Nat} (hk : k < 2 ^ 20) : fX9_isDigit (nI t) mx (nI k) = some (if dgB t T k = true then 1 else 0) := by
  have h1 := h.1
  unfold fX9_isDigit
  by_cases e : k < t
  · obtain ⟨_, h2, h3⟩ := h.2 k e
    rw [if_neg (nI_ge e (by omega)), gA_n (by omega) (by decide), nI_clamp (by omega), h2]
    rcases wi 48 57 (by decide) (by decide) (nI (T k)) with ⟨j, a1, a2, a3, a4⟩ | ⟨a1, a2⟩
    · have := (nI_eq (a := T k) (b := j) (by omega) (by omega)).mp a3
      rw [show fX9_within (nI (T k)) 48 57 = some 1 from a4, if_pos (dgB_iff.mpr ⟨e, by omega, by omega⟩)]; rfl
    · rw [show fX9_within (nI (T k)) 48 57 = some 0 from a2, if_neg]
      · rfl
      · intro x
        obtain ⟨x1, x2, x3⟩ := dgB_iff.mp x
        rcases a1 with a1 | a1
        · exact absurd a1 (nI_nlt x2 (by omega))
        · exact absurd a1.2 (nI_nlt x3 (by decide))
  · rw [if_pos (nI_le (by omega) (by omega)), if_neg (fun x => e (dgB_iff.mp x).1)]
/-- the first of r places that is no digit -/
def fd (t : Nat) (T : Nat → Nat) : Nat → Nat → Option Nat
  | 0, _ => none
  | r + 1, p => if dgB t T p = true then fd t T r (p + 1) else some p
theorem fd_some {t : Nat} {T : Nat → Nat} : ∀ (r p q : Nat), fd t T r p = some q → p ≤ q ∧ q < p + r
  | 0, _, _, h => by cases h
  | r + 1, p, q, h => by
    simp only [fd] at h
    by_cases e : dgB t T p = true
    · rw [if_pos e] at h
      have := fd_some r (p + 1) q h
      omega
    · rw [if_neg e] at h
      cases h; omega
theorem fd_none {t : Nat} {T : Nat → Nat} : ∀ (r p : Nat), fd t T r p = none → ∀ k, p ≤ k → k < p + r → dgB t T k = true
  | 0, _, _, _, _, _ => by omega
  | r + 1, p, h, k, h1, h2 => by
    simp only [fd] at h
    by_cases e : dgB t T p = true
    · rw [if_pos e] at h
      by_cases ek : k = p
      · rw [ek]; exact e
      · exact fd_none r (p + 1) h k (by omega) (by omega)
    · rw [if_neg e] at h; cases h
def ceP (t : Nat) (T : Nat → Nat) (a : Nat) : Bool × Nat :=
  if t ≤ a then (false, a) else
  match dgs (T a) with
  | none => (false, a)
  | some n => match fd t T n (a + 1) with
    | some q => (false, q)
    | none => (true, if n = 3 ∧ dgB t T (a + 1 + n) = true then a + 1 + n + 1 else a + 1 + n)
theorem ceP_le {t : Nat} {T : Nat → Nat} {a : Nat} (ha : a ≤ t) : (ceP t T a).2 ≤ t := by
  unfold ceP
  by_cases e : t ≤ a
  · rw [if_pos e]; exact ha
  · rw [if_neg e]
    cases hd : dgs (T a) with
    | none => exact ha
    | some n =>
      simp only
      cases hf : fd t T n (a + 1) with
      | some q =>
        simp only
        obtain ⟨q1, q2⟩ := fd_some n (a + 1) q hf
        by_cases eq : q = a + 1
        · omega
        · have hlast : ∀ (r p q : Nat), fd t T r p = some q → p < q → dgB t T (q - 1) = true := by
            intro r
            induction r with
            | zero => intro p q h; cases h
            | succ r ih =>
              intro p q h hpq
              simp only [fd] at h
              by_cases e : dgB t T p = true
              · rw [if_pos e] at h
                by_cases e2 : q = p + 1
                · rw [e2]; exact e
                · have := fd_some r (p + 1) q h
                  exact ih (p + 1) q h (by omega)
              · rw [if_neg e] at h; cases h; omega
          have := (dgB_iff.mp (hlast n (a + 1) q hf (by omega))).1
          omega
      | none =>
        simp only
        by_cases h3 : n = 3 ∧ dgB t T (a + 1 + n) = true
        · rw [if_pos h3]
          have := (dgB_iff.mp h3.2).1
          omega
        · rw [if_neg h3]
          by_cases hn : n = 0
          · omega
          · have := (dgB_iff.mp (fd_none n (a + 1) hf (a + n) (by omega) (by omega))).1
            omega
/-- what a clause is made of -/
theorem ceP_ok {t : Nat} {T : Nat → Nat} {a b : Nat} (h : ceP t T a = (true, b)) : a < t ∧ ∃ n, dgs (T a) = some n ∧ (∀ k, a + 1 ≤ k → k < b → dgB t T k = true) ∧ ((b = a + 1 + n ∧ (n = 3 → dgB t T (a + 1 + n) = false)) ∨ (n = 3 ∧ b = a + 1 + n + 1)) := by
  unfold ceP at h
  by_cases e : t ≤ a
  · rw [if_pos e] at h; cases h
  · rw [if_neg e] at h
    refine ⟨by omega, ?_⟩
    cases hd : dgs (T a) with
    | none => rw [hd] at h; cases h
    | some n =>
      rw [hd] at h
      simp only at h
      cases hf : fd t T n (a + 1) with
      | some q => rw [hf] at h; cases h
      | none =>
        rw [hf] at h
        simp only [Prod.mk.injEq, true_and] at h
        refine ⟨n, rfl, ?_⟩
        have hall := fd_none n (a + 1) hf
        by_cases h3 : n = 3 ∧ dgB t T (a + 1 + n) = true
        · rw [if_pos h3] at h
          refine ⟨fun k k1 k2 => ?_, Or.inr ⟨h3.1, h.symm⟩⟩
          by_cases ek : k = a + 1 + n
          · rw [ek]; exact h3.2
          · exact hall k k1 (by omega)
        · rw [if_neg h3] at h
          refine ⟨fun k k1 k2 => hall k k1 (by omega), Or.inl ⟨h.symm, fun hn => ?_⟩⟩
          cases hdg : dgB t T (a + 1 + n) with
          | false => rfl
          | true => exact absurd ⟨hn, hdg⟩ h3
theorem bh_l {t : Nat} {sg mx : Nat → Int32} {T : Nat → Nat} (h : TX t sg mx T) (kx : Int32 → Option Int32) (n : Nat) (hn : n ≤ 3) : ∀ (r fuel p j : Nat), j + r = n → r < fuel → p ≤ 200 → fX9_behind_L37 kx (nI t) mx (nI n) fuel (nI p) (nI j) = (match fd t T r p with | none => kx (nI (p + r)) | some q => some (zI (-1 - (q : Int))))
  | 0, fuel, p, j, he, hf, hp => by
    obtain ⟨f, rfl⟩ : ∃ f, fuel = f + 1 := ⟨fuel - 1, by omega⟩
    rw [fX9_behind_L37, if_pos (nI_le (by omega) (by omega))]; rfl
  | r + 1, fuel, p, j, he, hf, hp => by
    obtain ⟨f, rfl⟩ : ∃ f, fuel = f + 1 := ⟨fuel - 1, by omega⟩
    rw [fX9_behind_L37, if_neg (nI_ge (by omega) (by omega)), rdg_n h (by omega)]
    simp only [Option.bind_some, fd]
    by_cases e : dgB t T p = true
    · rw [if_pos e, if_neg (by decide), if_pos e, nI_1, nI_1]
      by_cases hp2 : p + 1 ≤ 200
      · rw [bh_l h kx n hn r f (p + 1) (j + 1) (by omega) (by omega) hp2]
        rw [show p + 1 + r = p + (r + 1) from by omega]
      · have := (dgB_iff.mp e).1
        have := h.1
        omega
    · rw [if_neg e, if_pos rfl, if_neg e, zI_m1, zI_n, zI_sub]
theorem behind_n {t : Nat} {sg mx : Nat → Int32} {T : Nat → Nat} (h : TX t sg mx T) {a : Nat} (ha : a ≤ t) : fX9_behind (nI t) mx (nI a) = some (if (ceP t T a).1 = true then nI (ceP t T a).2 else zI (-1 - ((ceP t T a).2 : Int))) := by
  have h1 := h.1
  unfold fX9_behind
  by_cases e : t ≤ a
  · have hce : ceP t T a = (false, a) := by unfold ceP; rw [if_pos e]
    rw [if_pos (nI_le e (by omega)), if_neg (by decide), hce, zI_m1, zI_n, zI_sub]; rfl
  · obtain ⟨_, h2, h3⟩ := h.2 a (by omega)
    rw [if_neg (nI_ge (by omega) (by omega)), gA_n (by omega) (by decide), nI_clamp (by omega), h2, dgs_r h3]
    simp only [Option.bind_some]
    cases hd : dgs (T a) with
    | none =>
      have hce : ceP t T a = (false, a) := by unfold ceP; rw [if_neg e, hd]
      simp only
      rw [if_neg (by decide), hce, zI_m1, zI_n, zI_sub]; rfl
    | some n =>
      obtain ⟨n3, _⟩ := dgs_3 hd
      simp only
      rw [if_pos (nI_pos' (by omega)), nI_1, show fX9_behind_L37 _ (nI t) mx (nI n) 400 (nI (a + 1)) 0 = _ from bh_l h _ n n3 n 400 (a + 1) 0 (by omega) (by omega) (by omega)]
      cases hf : fd t T n (a + 1) with
      | some q =>
        have hce : ceP t T a = (false, q) := by unfold ceP; rw [if_neg e, hd]; simp only; rw [hf]
        rw [hce]; rfl
      | none =>
        have hce : ceP t T a = (true, if n = 3 ∧ dgB t T (a + 1 + n) = true then a + 1 + n + 1 else a + 1 + n) := by unfold ceP; rw [if_neg e, hd]; simp only; rw [hf]
        simp only
        by_cases e3 : n = 3
        · rw [if_pos (show nI n = (3 : Int32) by rw [e3]; rfl), rdg_n h (by omega)]
          simp only [Option.bind_some]
          by_cases ed : dgB t T (a + 1 + n) = true
          · rw [if_pos ed, if_neg (by decide), nI_1, show ceP t T a = (true, a + 1 + n + 1) by rw [hce, if_pos ⟨e3, ed⟩]]; rfl
          · rw [if_neg ed, if_pos rfl, show ceP t T a = (true, a + 1 + n) by rw [hce, if_neg (fun x => ed x.2)]]; rfl
        · rw [if_neg (show ¬ nI n = (3 : Int32) from fun x => e3 ((nI_eq (b := 3) (by omega) (by decide)).mp x)), show ceP t T a = (true, a + 1 + n) by rw [hce, if_neg (fun x => e3 x.1)]]; rfl
/-- the fault -/
def ft (t : Nat) (T : Nat → Nat) : Nat → Nat → Option Nat
  | 0, a => some (a - 1)
  | r + 1, a => if (ceP t T a).1 = false then some (ceP t T a).2 else if (ceP t T a).2 = t then none else if T (ceP t T a).2 = 59 then ft t T r ((ceP t T a).2 + 1) else some (ceP t T a).2
theorem cf_l {t : Nat} {sg mx : Nat → Int32} {T : Nat → Nat} (h : TX t sg mx T) (kx : Int32 → Option Int32) (n : Nat) (hn : n ≤ 3) : ∀ (r fuel p j : Nat), j + r = n → r < fuel → p ≤ 200 → fX7_fault_L35 kx (nI t) sg (nI n) fuel (nI p) (nI j) = (match fd t T r p with | none => kx (nI (p + r)) | some q => some (nI q))
  | 0, fuel, p, j, he, hf, hp => by
    obtain ⟨f, rfl⟩ : ∃ f, fuel = f + 1 := ⟨fuel - 1, by omega⟩
    rw [fX7_fault_L35, if_pos (nI_le (by omega) (by omega))]; rfl
  | r + 1, fuel, p, j, he, hf, hp => by
    obtain ⟨f, rfl⟩ : ∃ f, fuel = f + 1 := ⟨fuel - 1, by omega⟩
    rw [fX7_fault_L35, if_neg (nI_ge (by omega) (by omega)), isd_n h (by omega)]
    simp only [Option.bind_some, fd]
    by_cases e : dgB t T p = true
    · rw [if_pos e, if_neg (by decide), if_pos e, nI_1, nI_1]
      by_cases hp2 : p + 1 ≤ 200
      · rw [cf_l h kx n hn r f (p + 1) (j + 1) (by omega) (by omega) hp2]
        rw [show p + 1 + r = p + (r + 1) from by omega]
      · have := (dgB_iff.mp e).1
        have := h.1
        omega
    · rw [if_neg e, if_pos rfl, if_neg e]
theorem cfault_l {t : Nat} {sg mx : Nat → Int32} {T : Nat → Nat} (h : TX t sg mx T) : ∀ (r fuel a c : Nat), c + r = 12 → r < fuel → a ≤ t → (0 < r ∨ 0 < a) → fX7_fault_L4 (nI t) sg fuel (nI a) (nI c) = some (match ft t T r a with | none => -5 | some q => nI q)
  | 0, fuel, a, c, he, hf, ha, h0 => by
    have h1 := h.1
    obtain ⟨f, rfl⟩ : ∃ f, fuel = f + 1 := ⟨fuel - 1, by omega⟩
    rw [fX7_fault_L4, if_pos (show (12 : Int32) ≤ nI c from nI_le (a := 12) (by omega) (by omega)), show nI a - 1 = nI (a - 1) from pk_sub (b := 1) (by omega)]; rfl
  | r + 1, fuel, a, c, he, hf, ha, h0 => by
    have h1 := h.1
    obtain ⟨f, rfl⟩ : ∃ f, fuel = f + 1 := ⟨fuel - 1, by omega⟩
    have hle := ceP_le (T := T) ha
    rw [fX7_fault_L4, if_neg (show ¬ (12 : Int32) ≤ nI c from nI_ge (b := 12) (by omega) (by decide)), sgn_n h (by omega)]
    simp only [Option.bind_some, jn_eq, ft]
    by_cases e : t ≤ a
    · have hce : ceP t T a = (false, a) := by unfold ceP; rw [if_pos e]
      rw [if_neg (show ¬ a < t by omega), hce]
      rfl
    · obtain ⟨h2, _, h3⟩ := h.2 a (by omega)
      rw [if_pos (show a < t by omega), dgs_c h3]
      simp only [Option.bind_some]
      cases hd : dgs (T a) with
      | none =>
        have hce : ceP t T a = (false, a) := by unfold ceP; rw [if_neg e, hd]
        rw [hce]
        rfl
      | some n =>
        obtain ⟨n3, n111⟩ := dgs_3 hd
        simp only
        rw [if_pos (nI_pos' (by omega)), nI_1 a, show fX7_fault_L35 _ (nI t) sg (nI n) 400 (nI (a + 1)) 0 = _ from cf_l h _ n n3 n 400 (a + 1) 0 (by omega) (by omega) (by omega)]
        cases hfd : fd t T n (a + 1) with
        | some q =>
          have hce : ceP t T a = (false, q) := by unfold ceP; rw [if_neg e, hd]; simp only; rw [hfd]
          rw [hce]; rfl
        | none =>
          have hce : ceP t T a = (true, if n = 3 ∧ dgB t T (a + 1 + n) = true then a + 1 + n + 1 else a + 1 + n) := by unfold ceP; rw [if_neg e, hd]; simp only; rw [hfd]
          simp only
          rw [isd_n h (by omega)]
          have tail : ∀ b, ceP t T a = (true, b) → (if nI b = nI t then (some (-5)) else ((fX7_signAt (nI t) sg (nI b)).bind (fun z10 => if z10 = 59 then (fX7_fault_L4 (nI t) sg f (nI b + 1) (nI c + 1)) else (some (nI b))))) = some (match (if (ceP t T a).1 = false then some (ceP t T a).2 else if (ceP t T a).2 = t then none else if T (ceP t T a).2 = 59 then ft t T r ((ceP t T a).2 + 1) else some (ceP t T a).2) with | none => -5 | some q => nI q) := by
            intro b hb
            rw [hb] at hle ⊢
            simp only at hle
            simp only [Bool.true_eq_false, if_false]
            by_cases eb : b = t
            · rw [if_pos (by rw [eb]), if_pos eb]
            · obtain ⟨b2, _, b3⟩ := h.2 b (by omega)
              rw [if_neg (show ¬ nI b = nI t by rw [nI_eq (by omega) (by omega)]; exact eb), if_neg eb, sgn_n h (by omega)]
              simp only [Option.bind_some]
              rw [if_pos (show b < t by omega)]
              by_cases e59 : T b = 59
              · rw [if_pos (show nI (T b) = (59 : Int32) by rw [e59]; rfl), if_pos e59, nI_1, nI_1]
                exact cfault_l h r f (b + 1) (c + 1) (by omega) (by omega) (by omega) (Or.inr (by omega))
              · rw [if_neg (show ¬ nI (T b) = (59 : Int32) from fun x => e59 ((nI_eq (b := 59) (by omega) (by decide)).mp x)), if_neg e59]
          by_cases e3 : n = 3
          · rw [if_pos (show nI (T a) = (111 : Int32) by rw [n111.mp e3]; rfl)]
            simp only [Option.bind_some]
            by_cases ed : dgB t T (a + 1 + n) = true
            · rw [if_pos ed, if_neg (by decide), nI_1 (a + 1 + n)]
              exact tail _ (by rw [hce, if_pos ⟨e3, ed⟩])
            · rw [if_neg ed, if_pos rfl]
              exact tail _ (by rw [hce, if_neg (fun x => ed x.2)])
          · rw [if_neg (show ¬ nI (T a) = (111 : Int32) from fun x => e3 (n111.mpr ((nI_eq (b := 111) (by omega) (by decide)).mp x)))]
            exact tail _ (by rw [hce, if_neg (fun x => e3 x.1)])
theorem cfault_n {t : Nat} {sg mx : Nat → Int32} {T : Nat → Nat} (h : TX t sg mx T) : fX7_fault (nI t) sg = some (match ft t T 12 0 with | none => -5 | some q => nI q) :=
  cfault_l h 12 400 0 0 rfl (by decide) (Nat.zero_le _) (Or.inl (by decide))
theorem rfault_l {t : Nat} {sg mx : Nat → Int32} {T : Nat → Nat} (h : TX t sg mx T) : ∀ (r fuel a c : Nat), c + r = 12 → r + 1 < fuel → a ≤ t → fX9_fault_L8 (fun (x1_8 : Int32) => if 0 ≤ x1_8 then (some (-1)) else (some ((-1) - x1_8))) (nI t) mx fuel (if (ceP t T a).1 = true then nI (ceP t T a).2 else zI (-1 - ((ceP t T a).2 : Int))) (nI c) = some (match ft t T (r + 1) a with | none => -1 | some q => nI q)
  | r, fuel, a, c, he, hf, ha => by
    have h1 := h.1
    obtain ⟨f, rfl⟩ : ∃ f, fuel = f + 1 := ⟨fuel - 1, by omega⟩
    have hle := ceP_le (T := T) ha
    simp only [ft]
    rw [fX9_fault_L8]
    cases hce : (ceP t T a).1 with
    | false =>
      simp only [Bool.false_eq_true, if_false, if_true]
      rw [if_pos (show zI (-1 - ((ceP t T a).2 : Int)) < 0 by rw [zI_0, zI_lt (by omega) (by omega)]; omega), if_neg (show ¬ (0 : Int32) ≤ zI (-1 - ((ceP t T a).2 : Int)) by rw [zI_0, zI_le (by omega) (by omega)]; omega)]
      rw [zI_m1, zI_sub, zI_n]; congr 2; omega
    | true =>
      simp only [Bool.true_eq_false, if_false, if_true]
      rw [if_neg (nI_pos (by omega))]
      by_cases eb : (ceP t T a).2 = t
      · rw [if_pos (nI_le (by omega) (by omega)), if_pos (nI_pos' (by omega)), if_pos eb]
      · obtain ⟨b2, b4, b3⟩ := h.2 (ceP t T a).2 (by omega)
        rw [if_neg (nI_ge (by omega) (by omega)), gA_n (by omega) (by decide), nI_clamp (by omega), b4, if_neg eb]
        by_cases e59 : T (ceP t T a).2 = 59
        · rw [if_pos (show nI (T (ceP t T a).2) = (59 : Int32) by rw [e59]; rfl), if_pos e59]
          cases r with
          | zero =>
            rw [if_pos (show nI c = (12 : Int32) by rw [show c = 12 from by omega]; rfl)]; rfl
          | succ r =>
            rw [if_neg (show ¬ nI c = (12 : Int32) from fun x => by have := (nI_eq (a := c) (b := 12) (by omega) (by decide)).mp x; omega), nI_1, behind_n h (by omega)]
            simp only [Option.bind_some]
            rw [nI_1]
            exact rfault_l h r f ((ceP t T a).2 + 1) (c + 1) (by omega) (by omega) (by omega)
        · rw [if_neg (show ¬ nI (T (ceP t T a).2) = (59 : Int32) from fun x => e59 ((nI_eq (b := 59) (by omega) (by decide)).mp x)), if_neg e59]
theorem rfault_n {t : Nat} {sg mx : Nat → Int32} {T : Nat → Nat} (h : TX t sg mx T) : fX9_fault (nI t) mx = some (match ft t T 12 0 with | none => -1 | some q => nI q) := by
  unfold fX9_fault
  rw [show fX9_behind (nI t) mx 0 = _ from behind_n (a := 0) h (Nat.zero_le _)]
  simp only [Option.bind_some]
  exact rfault_l h 11 400 0 1 rfl (by decide) (Nat.zero_le _)
theorem ft_le {t : Nat} {T : Nat → Nat} : ∀ (r a q : Nat), a ≤ t → ft t T r a = some q → q ≤ t
  | 0, a, q, ha, h => by cases h; omega
  | r + 1, a, q, ha, h => by
    have hle := ceP_le (T := T) ha
    simp only [ft] at h
    by_cases e1 : (ceP t T a).1 = false
    · rw [if_pos e1] at h; cases h; exact hle
    · rw [if_neg e1] at h
      by_cases e2 : (ceP t T a).2 = t
      · rw [if_pos e2] at h; cases h
      · rw [if_neg e2] at h
        by_cases e3 : T (ceP t T a).2 = 59
        · rw [if_pos e3] at h; exact ft_le r _ q (by omega) h
        · rw [if_neg e3] at h; cases h; exact hle
/-- the next clause -/
theorem nx_l {t : Nat} {sg mx : Nat → Int32} {T : Nat → Nat} (h : TX t sg mx T) {b : Nat} (hb : b ≤ t) (h59 : b < t → T b = 59) (kx : Option Int32) : ∀ (r fuel p : Nat), p + r = b → r < fuel → (∀ k, p ≤ k → k < b → T k ≠ 59) → fX7_nextClause_L2 kx (nI t) sg fuel (nI p) = if b = t then kx else some (nI (b + 1))
  | 0, fuel, p, he, hf, hn => by
    have h1 := h.1
    obtain ⟨f, rfl⟩ : ∃ f, fuel = f + 1 := ⟨fuel - 1, by omega⟩
    rw [fX7_nextClause_L2]
    by_cases e : b = t
    · rw [if_pos (nI_le (by omega) (by omega)), if_pos e]
    · rw [if_neg (nI_ge (by omega) (by omega)), sgn_n h (by omega)]
      simp only [Option.bind_some]
      rw [if_pos (show p < t by omega), if_pos (show nI (T p) = (59 : Int32) by rw [show p = b from by omega, h59 (by omega)]; rfl), if_neg e, nI_1, show p = b from by omega]
  | r + 1, fuel, p, he, hf, hn => by
    have h1 := h.1
    obtain ⟨f, rfl⟩ : ∃ f, fuel = f + 1 := ⟨fuel - 1, by omega⟩
    have hT := h.2 p (by omega)
    have hne := hn p (Nat.le_refl _) (by omega)
    rw [fX7_nextClause_L2, if_neg (nI_ge (by omega) (by omega)), sgn_n h (by omega)]
    simp only [Option.bind_some]
    rw [if_pos (show p < t by omega), if_neg (show ¬ nI (T p) = (59 : Int32) from fun x => hne ((nI_eq (b := 59) (by omega) (by decide)).mp x)), nI_1]
    exact nx_l h hb h59 kx r f (p + 1) (by omega) (by omega) (fun k k1 k2 => hn k (by omega) k2)
end
