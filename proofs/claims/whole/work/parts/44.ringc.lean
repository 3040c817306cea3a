/-! ===== the class's search ===== -/
section
theorem c0 : (0 : Int32).toNatClampNeg = 0 := by decide
theorem er1 {r : Nat} (h : r < 2 ^ 31) : nI r = 1 ↔ r = 1 := nI_eq h (by decide)
theorem er2 {r : Nat} (h : r < 2 ^ 31) : nI r = 2 ↔ r = 2 := nI_eq h (by decide)
theorem er3 {r : Nat} (h : r < 2 ^ 31) : nI r = 3 ↔ r = 3 := nI_eq h (by decide)
theorem er4 {r : Nat} (h : r < 2 ^ 31) : nI r = 4 ↔ r = 4 := nI_eq h (by decide)
theorem dv6 {k : Nat} (h : k < 2 ^ 31) : nI k / 6 = nI (k / 6) := pk_div h (by decide) (by decide)
theorem rm6 {k : Nat} (h : k < 2 ^ 31) : nI k - nI k / 6 * 6 = nI (k % 6) := pk_rem h (by decide) (by decide)
theorem rm6' {k : Nat} (h : k < 2 ^ 31) : nI k - nI (k / 6) * 6 = nI (k % 6) := by rw [← dv6 h]; exact rm6 h
theorem mn {a b : Nat} (ha : a < 2 ^ 31) (hb : b < 2 ^ 31) : (if nI a < nI b then nI a else nI b) = nI (min b a) := by
  by_cases h : a < b
  · rw [if_pos (nI_lt h hb)]; congr 1; omega
  · rw [if_neg (nI_nlt (by omega) ha)]; congr 1; omega
theorem given_n {re : Nat → Int32} {i j : Nat} (hi : i < 6) (hj : j < 6) : fX1_isGiven re (nI i) (nI j) = some (if re (6 * i + j) = 0 then 1 else 0) := by
  unfold fX1_isGiven
  rw [isCell_n hi hj]
  simp only [Option.bind_some, on0, if_false, ix6]
  rw [gA_n (by omega) (by decide), nI_clamp (by omega)]
  by_cases h : re (6 * i + j) = 0
  · rw [if_pos h, if_pos h]
  · rw [if_neg h, if_neg h]
/-- the steps of the search by a rule -/
def wt (rule : Nat) (re : Nat → Int32) (v : Nat → Nat) (k : Nat) : Nat := if rule = 3 ∧ ¬ re k = 0 then 0 else v k
theorem lay_l (rule : Nat) (hr : rule ≤ 4) (re ow : Nat → Int32) (v : Nat → Nat) (ho : ∀ k, k < 36 → ow k = nI (v k)) : ∀ (r fuel k : Nat) (st : Nat → Int32), k + r = 36 → r < fuel → (∀ j, j < k → st j = nI (wt rule re v j)) →
    ∃ st', fX4_laySteps_L2 (nI rule) ow re fuel (nI k) st = some st' ∧ ∀ j, j < 36 → st' j = nI (wt rule re v j)
  | 0, fuel, k, st, he, hf, h => by
    obtain ⟨f, rfl⟩ : ∃ f, fuel = f + 1 := ⟨fuel - 1, by omega⟩
    refine ⟨st, ?_, fun j hj => h j (by omega)⟩
    rw [fX4_laySteps_L2, if_pos (e36 (by omega) (by omega))]
  | r + 1, fuel, k, st, he, hf, h => by
    obtain ⟨f, rfl⟩ : ∃ f, fuel = f + 1 := ⟨fuel - 1, by omega⟩
    rw [fX4_laySteps_L2, if_neg (g36 (by omega))]
    have hk6 : 6 * (k / 6) + k % 6 = k := by omega
    have hst : ∀ x : Nat, x = wt rule re v k → ∀ j, j < k + 1 → upd st k (nI x) j = nI (wt rule re v j) := by
      intro x hx j hj
      rw [up_eq]
      by_cases e : j = k
      · rw [if_pos e, hx, e]
      · rw [if_neg e]; exact h j (by omega)
    simp only [jn_eq, on0, on1, if_true, if_false, dv6 (show k < 2 ^ 31 by omega), rm6' (show k < 2 ^ 31 by omega), amount_n (ow := ow) (show k / 6 < 6 by omega) (show k % 6 < 6 by omega), given_n (re := re) (show k / 6 < 6 by omega) (show k % 6 < 6 by omega), hk6, Option.bind_some, gA_n (show k < 36 by omega) (show 36 < 2 ^ 31 by decide), nI_1, nI_clamp (show k < 2 ^ 31 by omega), er3 (show rule < 2 ^ 31 by omega), ho k (by omega)]
    by_cases e3 : rule = 3
    · rw [if_pos e3]
      by_cases e0 : re k = 0
      · rw [if_pos e0, if_neg (by decide)]
        exact lay_l rule hr re ow v ho r f (k + 1) _ (by omega) (by omega) (hst _ (by unfold wt; rw [if_neg (fun x => x.2 e0)]))
      · rw [if_neg e0, if_pos rfl]
        exact lay_l rule hr re ow v ho r f (k + 1) _ (by omega) (by omega) (hst 0 (by unfold wt; rw [if_pos ⟨e3, e0⟩]))
    · rw [if_neg e3]
      exact lay_l rule hr re ow v ho r f (k + 1) _ (by omega) (by omega) (hst _ (by unfold wt; rw [if_neg (fun x => e3 x.1)]))
theorem step_n {st : Nat → Int32} {i j : Nat} (hi : i < 6) (hj : j < 6) : fX4_step st (nI i) (nI j) = some (st (6 * i + j)) := by
  unfold fX4_step
  rw [isCell_n hi hj]
  simp only [Option.bind_some, on0, if_false, ix6]
  rw [gA_n (by omega) (by decide), nI_clamp (by omega)]
/-- the least that is held with a ring -/
def ls (v : Nat → Nat) (r : List Nat) : Nat := if r = [] then 0 else lowC v r
theorem ls_le (v : Nat → Nat) (r : List Nat) : ls v r ≤ 999 := by
  unfold ls
  by_cases e : r = []
  · rw [if_pos e]; omega
  · rw [if_neg e]; exact lowC_le v r
theorem better_n {rule : Nat} {v : Nat → Nat} {r : List Nat} {m low : Nat} (hr : rule ≤ 4) (hl : r.length ≤ 6) (hm : m ≤ 6) (hw : low ≤ 999) :
    fX4_isBetter (nI rule) (nI r.length) (nI (ls v r)) (nI m) (nI low) = some (if rule = 4 ∨ wo rule v r < wl rule low m then 1 else 0) := by
  have hls := ls_le v r
  have p1 : low * m ≤ 999 * 6 := Nat.mul_le_mul hw hm
  have p2 : ls v r * r.length ≤ 999 * 6 := Nat.mul_le_mul hls hl
  unfold fX4_isBetter
  simp only [er1 (show rule < 2 ^ 31 by omega), er2 (show rule < 2 ^ 31 by omega), er4 (show rule < 2 ^ 31 by omega), pk_mul, nI_leI (show low * m < 2 ^ 31 by omega) (show ls v r * r.length < 2 ^ 31 by omega), nI_leI (show low < 2 ^ 31 by omega) (show ls v r < 2 ^ 31 by omega), nI_e0 (show r.length < 2 ^ 31 by omega)]
  have hnil : r.length = 0 ↔ r = [] := List.length_eq_zero_iff
  have hle : ∀ a b : Nat, (if a ≤ b then some (0 : Int32) else some 1) = some (if b < a then 1 else 0) := by
    intro a b
    by_cases h : a ≤ b
    · rw [if_pos h, if_neg (by omega)]
    · rw [if_neg h, if_pos (by omega)]
  by_cases e1 : rule = 1
  · subst e1
    rw [if_pos rfl, hle]
    have : wo 1 v r = ls v r := by
      unfold wo ls wl
      by_cases e : r = []
      · rw [if_pos e, if_pos e]
      · rw [if_neg e, if_neg e, if_pos rfl]
    rw [this]
    simp [wl]
  · rw [if_neg e1]
    by_cases e2 : rule = 2
    · subst e2
      rw [if_pos rfl, hle]
      have : wo 2 v r = ls v r * r.length := by
        unfold wo ls wl
        by_cases e : r = []
        · rw [if_pos e, if_pos e, Nat.zero_mul]
        · rw [if_neg e, if_neg e, if_neg (by decide), if_pos rfl]
      rw [this]
      simp [wl]
    · rw [if_neg e2]
      by_cases e4 : rule = 4
      · rw [if_pos e4, if_pos (Or.inl e4)]
      · rw [if_neg e4]
        have w1 : wl rule low m = 1 := by unfold wl; rw [if_neg e1, if_neg e2]
        rw [w1]
        by_cases e : r = []
        · have : wo rule v r = 0 := by unfold wo; rw [if_pos e]
          rw [this, if_pos (hnil.mpr e), if_pos (Or.inr (by omega))]
        · have : wo rule v r = 1 := by unfold wo wl; rw [if_neg e, if_neg e1, if_neg e2]
          rw [this, if_neg (fun x => e (hnil.mp x)), if_neg (fun x => x.elim e4 (by omega))]
theorem mcopy_l (fd sz le : Int32) (pa : Nat → Int32) : ∀ (r fuel k : Nat) (tk : Nat → Int32), k + r = 6 → r < fuel → (∀ j, j < k → tk j = pa j) →
    ∃ tk', fX4_meet_L36 fd sz le pa fuel (nI k) tk = some (fd, sz, le, tk') ∧ ∀ j, j < 6 → tk' j = pa j
  | 0, fuel, k, tk, he, hf, h => by
    obtain ⟨f, rfl⟩ : ∃ f, fuel = f + 1 := ⟨fuel - 1, by omega⟩
    refine ⟨tk, ?_, fun j hj => h j (by omega)⟩
    rw [fX4_meet_L36, if_pos (e6 (by omega) (by omega))]
  | r + 1, fuel, k, tk, he, hf, h => by
    obtain ⟨f, rfl⟩ : ∃ f, fuel = f + 1 := ⟨fuel - 1, by omega⟩
    rw [fX4_meet_L36, if_neg (g6 (by omega)), gA_n (by omega) (by decide), gA_n (by omega) (by decide), nI_1, nI_clamp (by omega)]
    refine mcopy_l fd sz le pa r f (k + 1) _ (by omega) (by omega) (fun j hj => ?_)
    rw [up_eq]
    by_cases e : j = k
    · rw [if_pos e, e]
    · rw [if_neg e]; exact h j (by omega)
def CR (v : Nat → Nat) (S : Nat × List Nat) (fd sz le : Int32) (tk : Nat → Int32) : Prop := fd = nI S.1 ∧ sz = nI S.2.length ∧ le = nI (ls v S.2) ∧ LR tk 0 S.2 ∧ S.2.length ≤ 6
theorem meet_n {rule : Nat} {v : Nat → Nat} {S : Nat × List Nat} {fd sz le : Int32} {pa tk : Nat → Int32} {p : List Nat} (hr : rule ≤ 4) (h : CR v S fd sz le tk) (hp : LR pa 0 p) (h0 : 0 < p.length) (h6 : p.length ≤ 6) (hl : 0 < lowC v p) :
    ∃ z, fX4_meet (nI rule) fd sz le pa tk (nI p.length) (nI (lowC v p)) = some z ∧ CR v (stC rule v S p) z.1 z.2.1 z.2.2.1 z.2.2.2 := by
  obtain ⟨rfl, rfl, rfl, h4, h5⟩ := h
  have hle := lowC_le v p
  have hne : p ≠ [] := fun e => by rw [e] at h0; exact absurd h0 (by decide)
  unfold fX4_meet
  rw [if_neg (nI_nle hl (by omega)), better_n hr h5 h6 hle]
  unfold stC
  by_cases e : rule = 4 ∨ wo rule v S.2 < wl rule (lowC v p) p.length
  · rw [if_pos e, if_pos e]
    simp only [Option.bind_some, on0, if_false]
    obtain ⟨tk', a1, a2⟩ := mcopy_l (nI S.1 + 1) (nI p.length) (nI (lowC v p)) pa 6 400 0 tk rfl (by decide) (fun j hj => absurd hj (Nat.not_lt_zero _))
    rw [show (0 : Int32) = nI 0 from rfl, a1]
    refine ⟨_, rfl, nI_1 _, rfl, ?_, LR_cong hp (fun k _ hk => a2 k (by have : k < 0 + p.length := hk; omega)), h6⟩
    show nI (lowC v p) = nI (ls v p)
    unfold ls
    rw [if_neg hne]
  · rw [if_neg e, if_neg e]
    exact ⟨_, rfl, rfl, rfl, rfl, h4, h5⟩
theorem onp_l (pa : Nat → Int32) (q d : Nat) (hd : d ≤ 6) (hq : q < 6) : ∀ (B : List Nat) (fuel k : Nat), B.length < fuel → k + B.length = d → (∀ b ∈ B, b < 6) → LR pa k B → fX4_isOnPath_L2 pa (nI q) (nI d) fuel (nI k) = some (if q ∈ B then 1 else 0)
  | [], fuel, k, hf, he, _, _ => by
    obtain ⟨f, rfl⟩ : ∃ f, fuel = f + 1 := ⟨fuel - 1, by simp only [List.length_nil] at hf; omega⟩
    simp only [List.length_nil, Nat.add_zero] at he
    rw [fX4_isOnPath_L2, if_pos (nI_le (by omega) (by omega))]
    simp
  | b :: B, fuel, k, hf, he, hb, h => by
    obtain ⟨f, rfl⟩ : ∃ f, fuel = f + 1 := ⟨fuel - 1, by simp only [List.length_cons] at hf; omega⟩
    simp only [List.length_cons] at hf he
    have b6 := hb b (List.mem_cons_self ..)
    rw [fX4_isOnPath_L2, if_neg (nI_ge (by omega) (by omega)), if_neg (g6 (by omega)), gA_n (by omega) (by decide), nI_clamp (by omega), h.1, nI_1, onp_l pa q d hd hq B f (k + 1) (by omega) (by omega) (fun x hx => hb x (List.mem_cons_of_mem _ hx)) h.2]
    by_cases e : b = q
    · rw [if_pos (by rw [e]), if_pos (by rw [e]; exact List.mem_cons_self ..)]
    · rw [if_neg (by rw [nI_eq (by omega) (by omega)]; exact e)]
      congr 1
      have : (q ∈ b :: B) ↔ q ∈ B := by
        rw [List.mem_cons]
        exact ⟨fun x => x.elim (fun y => absurd y.symm e) id, Or.inr⟩
      simp only [this]
theorem onp_n {pa : Nat → Int32} {q : Nat} {p : List Nat} (hp : LR pa 0 p) (h6 : p.length ≤ 6) (hq : q < 6) (hb : ∀ b ∈ p, b < 6) : fX4_isOnPath pa (nI q) (nI p.length) = some (if q ∈ p then 1 else 0) :=
  onp_l pa q p.length h6 hq p 400 0 (by omega) (by omega) hb hp
theorem ext_n {rule : Nat} {v : Nat → Nat} {st : Nat → Int32} (hr : rule ≤ 4) (hst : ∀ k, k < 36 → st k = nI (v k)) (hv : ∀ k, k < 36 → v k ≤ 999) : ∀ (r fuel : Nat) (p : List Nat) (S : Nat × List Nat) (fd sz le : Int32) (pa tk : Nat → Int32), PW v p → p.length + r ≤ 6 → r < fuel → LR pa 0 p → CR v S fd sz le tk →
    ∃ z, fX4_extend fuel (nI rule) fd sz le st pa tk (nI (p.length + r)) (nI p.length) (nI (lowP v p (p.length - 1))) = some z ∧ LR z.2.2.2.1 0 p ∧ CR v ((rl v r p).foldl (stC rule v) S) z.1 z.2.1 z.2.2.1 z.2.2.2.2
  | r, 0, p, S, fd, sz, le, pa, tk, hp, h6, hf, hpa, h => absurd hf (Nat.not_lt_zero _)
  | r, fuel + 1, p, S, fd, sz, le, pa, tk, hp, h6, hf, hpa, h => by
    have h0 : 0 < p.length := hp.1
    have hll := lowP_le v p (p.length - 1)
    have hpos := hp.pos (p.length - 1) (by omega)
    obtain ⟨q1, q2, q3, q4, q5⟩ := id h
    have hlast : gp p (p.length - 1) < 6 := hp.2.2.1 _ (gp_mem p _ (by omega))
    have hfirst : gp p 0 < 6 := hp.2.2.1 _ (gp_mem p 0 h0)
    have e1 : nI p.length - 1 = nI (p.length - 1) := by rw [nn1, pk_sub h0]
    have g1 : pa (p.length - 1) = nI (gp p (p.length - 1)) := LR_gp0 hpa (by omega)
    have g0 : pa 0 = nI (gp p 0) := LR_gp0 hpa h0
    rw [fX4_extend, if_neg (i1 (by omega) (by omega)), if_neg (n6 (by omega)), q2, q3, better_n hr q5 (by omega) hll]
    by_cases eb : rule = 4 ∨ wo rule v S.2 < wl rule (lowP v p (p.length - 1)) (p.length + r)
    · rw [if_pos eb]
      simp only [Option.bind_some, on0, if_false, e1, gA_n (show p.length - 1 < 6 by omega) (show 6 < 2 ^ 31 by decide), gA_0 (show 0 < 6 by decide) (show 6 < 2 ^ 31 by decide), nI_clamp (show p.length - 1 < 2 ^ 31 by omega), c0, g1, g0, nI_ltI (show p.length < 2 ^ 31 by omega) (show p.length + r < 2 ^ 31 by omega)]
      rw [← q2, ← q3]
      cases r with
      | zero =>
        rw [if_neg (by omega), step_n hlast hfirst]
        simp only [Option.bind_some]
        have hc36 : lastE p (gp p 0) < 36 := by unfold lastE; omega
        have hvc := hv _ hc36
        rw [show 6 * gp p (p.length - 1) + gp p 0 = lastE p (gp p 0) from rfl, hst _ hc36, mn (by omega) (by omega)]
        rw [show min (lowP v p (p.length - 1)) (v (lastE p (gp p 0))) = lowC v p from rfl, Nat.add_zero]
        unfold rl
        by_cases e : v (lastE p (gp p 0)) = 0
        · have hl0 : lowC v p = 0 := by unfold lowC; omega
          unfold fX4_meet
          rw [hl0, if_pos (by decide), if_pos e]
          exact ⟨_, rfl, hpa, h⟩
        · have hl0 : 0 < lowC v p := by unfold lowC; omega
          obtain ⟨z, a1, a2⟩ := meet_n (pa := pa) hr h hpa h0 (by omega) hl0
          rw [a1, if_neg e]
          exact ⟨_, rfl, hpa, a2⟩
      | succ r =>
        rw [if_pos (by omega), nI_1]
        have loop : ∀ (k f2 q : Nat) (S : Nat × List Nat) (fd sz le : Int32) (pa tk : Nat → Int32), q + k = 6 → k < f2 → LR pa 0 p → CR v S fd sz le tk →
            ∃ z, fX4_extend_L68 (fun u_rule u_found u_size u_least u_steps u_path u_taken x1 x2 x3 => fX4_extend fuel u_rule u_found u_size u_least u_steps u_path u_taken x1 x2 x3) (nI rule) st (nI (p.length + (r + 1))) (nI p.length) (nI (lowP v p (p.length - 1))) (nI (gp p (p.length - 1))) f2 (nI q) fd sz le pa tk = some z ∧ LR z.2.2.2.1 0 p ∧
              CR v ((rlx (fun q => if q ∈ p ∨ v (lastE p q) = 0 then [] else rl v r (p ++ [q])) k q).foldl (stC rule v) S) z.1 z.2.1 z.2.2.1 z.2.2.2.2 := by
          intro k
          induction k with
          | zero =>
            intro f2 q S fd sz le pa tk hk hf2 hpa h
            obtain ⟨f, rfl⟩ : ∃ f, f2 = f + 1 := ⟨f2 - 1, by omega⟩
            rw [fX4_extend_L68, if_pos (e6 (by omega) (by omega))]
            exact ⟨_, rfl, hpa, h⟩
          | succ k ih =>
            intro f2 q S fd sz le pa tk hk hf2 hpa h
            obtain ⟨f, rfl⟩ : ∃ f, f2 = f + 1 := ⟨f2 - 1, by omega⟩
            have hc36 : lastE p q < 36 := by unfold lastE; omega
            have hvc := hv _ hc36
            rw [fX4_extend_L68, if_neg (g6 (by omega)), if_neg (g6 (by omega)), step_n hlast (by omega), onp_n hpa (by omega) (by omega) hp.2.2.1]
            rw [show 6 * gp p (p.length - 1) + q = lastE p q from rfl, hst _ hc36]
            simp only [Option.bind_some, nI_le0 (show v (lastE p q) < 2 ^ 31 by omega), nI_1, rlx]
            rw [List.foldl_append]
            by_cases e0 : v (lastE p q) = 0
            · rw [if_pos e0, if_pos (Or.inr e0)]
              exact ih f (q + 1) S fd sz le pa tk (by omega) (by omega) hpa h
            · rw [if_neg e0]
              by_cases em : q ∈ p
              · rw [if_pos em, if_neg (by decide), if_pos (Or.inl em)]
                exact ih f (q + 1) S fd sz le pa tk (by omega) (by omega) hpa h
              · rw [if_neg em, if_pos rfl, if_neg (not_or.mpr ⟨em, e0⟩), gA_n (by omega) (by decide), nI_clamp (by omega), mn (by omega) (by omega), ← lowP_ext v p q h0]
                have hpw := PW.snoc hp (q := q) (by omega) em (by omega)
                have hl2 : LR (upd pa p.length (nI q)) 0 (p ++ [q]) := by
                  rw [LR_app]
                  refine ⟨LR_upd p 0 (Or.inr (by omega)) hpa, ?_, trivial⟩
                  rw [up_eq, if_pos (by omega)]
                obtain ⟨z, a1, a2, a3⟩ := ext_n hr hst hv r fuel (p ++ [q]) S fd sz le _ tk hpw (by rw [List.length_append]; simp; omega) (by omega) hl2 h
                have el : (p ++ [q]).length = p.length + 1 := by simp
                rw [el] at a1
                rw [show p.length + 1 + r = p.length + (r + 1) from by omega, show p.length + 1 - 1 = p.length from by omega] at a1
                rw [a1]
                simp only [Option.bind_some]
                rw [LR_app] at a2
                exact ih f (q + 1) _ _ _ _ _ _ (by omega) (by omega) a2.1 a3
        have := loop (6 - (gp p 0 + 1)) 400 (gp p 0 + 1) S fd sz le pa tk (by omega) (by omega) hpa h
        unfold rl
        exact this
    · rw [if_neg eb]
      simp only [Option.bind_some, on1, if_true]
      rw [← q2, ← q3, prune hp eb]
      exact ⟨_, rfl, hpa, h⟩
theorem sea_in {rule : Nat} {v : Nat → Nat} {st : Nat → Int32} (hr : rule ≤ 4) (hst : ∀ k, k < 36 → st k = nI (v k)) (hv : ∀ k, k < 36 → v k ≤ 999) (m : Nat) (hm : 2 ≤ m ∧ m ≤ 6) (kx : Int32 → Int32 → Int32 → (Nat → Int32) → (Nat → Int32) → Option (Int32 × Int32 × Int32 × Int32 × (Nat → Int32) × (Nat → Int32) × (Nat → Int32))) : ∀ (k fuel q : Nat) (S : Nat × List Nat) (fd sz le : Int32) (pa tk : Nat → Int32), q + k = 6 → k < fuel → CR v S fd sz le tk →
    ∃ fd' sz' le' pa' tk', fX4_search_L39 kx (nI rule) st (nI m) fuel (nI q) fd sz le pa tk = kx fd' sz' le' pa' tk' ∧ CR v ((rlx (fun f => rl v (m - 1) [f]) k q).foldl (stC rule v) S) fd' sz' le' tk'
  | 0, fuel, q, S, fd, sz, le, pa, tk, he, hf, h => by
    obtain ⟨f, rfl⟩ : ∃ f, fuel = f + 1 := ⟨fuel - 1, by omega⟩
    rw [fX4_search_L39, if_pos (e6 (by omega) (by omega))]
    exact ⟨_, _, _, _, _, rfl, h⟩
  | k + 1, fuel, q, S, fd, sz, le, pa, tk, he, hf, h => by
    obtain ⟨f, rfl⟩ : ∃ f, fuel = f + 1 := ⟨fuel - 1, by omega⟩
    rw [fX4_search_L39, if_neg (g6 (by omega)), gA_0 (by decide) (by decide), c0]
    have hl : LR (upd pa 0 (nI q)) 0 [q] := ⟨by rw [up_eq, if_pos rfl], trivial⟩
    obtain ⟨z, a1, a2, a3⟩ := ext_n hr hst hv (m - 1) 8 [q] S fd sz le _ tk (PW.one (by omega)) (by simp; omega) (by omega) hl h
    simp only [List.length_singleton] at a1
    rw [show 1 + (m - 1) = m from by omega] at a1
    have e1 : fX4_extend 8 (nI rule) fd sz le st (upd pa 0 (nI q)) tk (nI m) 1 999 = some z := a1
    rw [e1]
    simp only [Option.bind_some, nI_1, rlx]
    rw [List.foldl_append]
    exact sea_in hr hst hv m hm kx k f (q + 1) _ _ _ _ _ _ (by omega) (by omega) a3
theorem sea_out {rule : Nat} {v : Nat → Nat} {st : Nat → Int32} (hr : rule ≤ 4) (hst : ∀ k, k < 36 → st k = nI (v k)) (hv : ∀ k, k < 36 → v k ≤ 999) : ∀ (k fuel m : Nat) (S : Nat × List Nat) (fd sz le : Int32) (pa tk : Nat → Int32), m + k = 7 → 2 ≤ m → k < fuel → CR v S fd sz le tk →
    ∃ z, fX4_search_L29 (nI rule) st fuel (nI m) fd sz le pa tk = some z ∧ z.1 = nI rule ∧ CR v ((rlx (fun m => rlx (fun f => rl v (m - 1) [f]) 6 0) k m).foldl (stC rule v) S) z.2.1 z.2.2.1 z.2.2.2.1 z.2.2.2.2.2.2
  | 0, fuel, m, S, fd, sz, le, pa, tk, he, h2, hf, h => by
    obtain ⟨f, rfl⟩ : ∃ f, fuel = f + 1 := ⟨fuel - 1, by omega⟩
    rw [fX4_search_L29, if_pos (f6 (by omega) (by omega))]
    exact ⟨_, rfl, rfl, h⟩
  | k + 1, fuel, m, S, fd, sz, le, pa, tk, he, h2, hf, h => by
    obtain ⟨f, rfl⟩ : ∃ f, fuel = f + 1 := ⟨fuel - 1, by omega⟩
    rw [fX4_search_L29, if_neg (n6 (by omega))]
    obtain ⟨fd', sz', le', pa', tk', a1, a2⟩ := sea_in hr hst hv m ⟨h2, by omega⟩ (fun (u_found_6 : Int32) (u_size_6 : Int32) (u_least_6 : Int32) (u_path_6 : (Nat → Int32)) (u_taken_6 : (Nat → Int32)) => fX4_search_L29 (nI rule) st f (nI m + 1) u_found_6 u_size_6 u_least_6 u_path_6 u_taken_6) 6 400 0 S fd sz le pa tk rfl (by decide) h
    rw [show (0 : Int32) = nI 0 from rfl, a1, nI_1]
    simp only [rlx] at a2 ⊢
    rw [List.foldl_append]
    exact sea_out hr hst hv k f (m + 1) _ _ _ _ _ _ (by omega) (by omega) (by omega) a2
theorem search_n {n rule : Nat} {v : Nat → Nat} {L : List Nat} {ow re st pa tk : Nat → Int32} (hr : rule ≤ 4) (hW : DebW n v L) (ho : ∀ k, k < 36 → ow k = nI (v k)) :
    ∃ z, fX4_search st pa tk ow re (nI rule) = some z ∧ z.1 = nI rule ∧ CR (wt rule re v) ((rlA (wt rule re v)).foldl (stC rule (wt rule re v)) (0, [])) z.2.1 z.2.2.1 z.2.2.2.1 z.2.2.2.2.2.2 := by
  unfold fX4_search fX4_laySteps
  obtain ⟨st', a1, a2⟩ := lay_l rule hr re ow v ho 36 400 0 st rfl (by decide) (fun j hj => absurd hj (Nat.not_lt_zero _))
  rw [show (0 : Int32) = nI 0 from rfl, a1]
  simp only [Option.bind_some]
  have hv : ∀ k, k < 36 → wt rule re v k ≤ 999 := fun k hk => by
    have := hW.1 k hk
    unfold wt
    by_cases e : rule = 3 ∧ ¬ re k = 0
    · rw [if_pos e]; omega
    · rw [if_neg e]; exact this
  exact sea_out hr a2 hv 5 400 2 (0, []) _ _ _ pa tk rfl (by decide) (by decide) ⟨rfl, rfl, rfl, trivial, by decide⟩
end
