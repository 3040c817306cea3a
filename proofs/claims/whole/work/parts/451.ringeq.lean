/-! ===== both searches take the same ring; what is cut ===== -/
section
def dnf (re : Nat → Int32) (k : Nat) : Bool := decide (¬ re k = 0)
theorem dnf_iff {re : Nat → Int32} {k : Nat} : dnf re k = true ↔ ¬ re k = 0 := by unfold dnf; exact decide_eq_true_iff
theorem ec_open {p : List Nat} {j : Nat} (h : j + 1 < p.length) : ec p j = 6 * gp p j + gp p (j + 1) := by unfold ec; rw [if_pos h]
theorem ec_last {p : List Nat} (h : 0 < p.length) : ec p (p.length - 1) = lastE p (gp p 0) := by unfold ec lastE; rw [if_neg (by omega)]
theorem agP_open {dn : Nat → Bool} {p : List Nat} (h0 : 0 < p.length) (ho : ∀ j, j + 1 < p.length → dn (ec p j) = false) : agP dn p = !dn (lastE p (gp p 0)) := by
  rw [← ec_last h0]
  cases e : dn (ec p (p.length - 1)) with
  | false =>
    rw [Bool.not_false, agP_iff]
    intro j hj
    by_cases e2 : j + 1 < p.length
    · exact ho j e2
    · rw [show j = p.length - 1 from by omega]; exact e
  | true =>
    rw [Bool.not_true, ← Bool.not_eq_true, agP_iff]
    intro h
    rw [h _ (by omega)] at e
    exact absurd e (by decide)
theorem wt3 {re : Nat → Int32} {v : Nat → Nat} {k : Nat} : wt 3 re v k = if dnf re k = true then 0 else v k := by
  unfold wt
  by_cases e : re k = 0
  · rw [if_neg (fun x => x.2 e), if_neg (fun x => dnf_iff.mp x e)]
  · rw [if_pos ⟨rfl, e⟩, if_pos (dnf_iff.mpr e)]
theorem rl_fil {re : Nat → Int32} {v : Nat → Nat} : ∀ (r : Nat) (p : List Nat), 0 < p.length → (∀ j, j + 1 < p.length → dnf re (ec p j) = false) → rl (wt 3 re v) r p = (rl v r p).filter (agP (dnf re))
  | 0, p, h0, ho => by
    have ha := agP_open h0 ho
    unfold rl
    rw [wt3]
    by_cases e : v (lastE p (gp p 0)) = 0
    · rw [if_pos e, e]
      simp
    · rw [if_neg e]
      cases ed : dnf re (lastE p (gp p 0)) with
      | true =>
        rw [ed] at ha
        rw [if_pos (by simp), List.filter_cons_of_neg (by rw [ha]; decide)]; rfl
      | false =>
        rw [ed] at ha
        rw [if_neg (by simpa using e), List.filter_cons_of_pos (by rw [ha]; decide)]; rfl
  | r + 1, p, h0, ho => by
    unfold rl
    refine rlx_filter _ _ (fun q h1 h2 => ?_)
    by_cases em : q ∈ p
    · rw [if_pos (Or.inl em), if_pos (Or.inl em)]; rfl
    · by_cases e : v (lastE p q) = 0
      · rw [if_pos (Or.inr e), if_pos (Or.inr (by rw [wt3, e]; simp))]; rfl
      · rw [if_neg (not_or.mpr ⟨em, e⟩)]
        cases ed : dnf re (lastE p q) with
        | true =>
          rw [if_pos (Or.inr (by rw [wt3, ed]; simp))]
          symm
          rw [List.filter_eq_nil_iff]
          intro x hx hag
          obtain ⟨B, hB⟩ := rl_pre r (p ++ [q]) x hx
          rw [agP_iff] at hag
          have hl : x.length = p.length + 1 + B.length := by rw [hB]; simp; omega
          have h3 := hag (p.length - 1) (by omega)
          rw [ec_open (by omega)] at h3
          have g1 : gp x (p.length - 1) = gp p (p.length - 1) := by
            rw [hB, List.append_assoc, gp_a1 _ _ _ (by omega)]
          have g2 : gp x (p.length - 1 + 1) = q := by
            rw [show p.length - 1 + 1 = p.length from by omega, hB, List.append_assoc]
            exact gp_a2 p B q
          rw [g1, g2] at h3
          rw [show 6 * gp p (p.length - 1) + q = lastE p q from rfl, ed] at h3
          exact absurd h3 (by decide)
        | false =>
          rw [if_neg (not_or.mpr ⟨em, by rw [wt3, ed]; simpa using e⟩)]
          refine rl_fil r (p ++ [q]) (by simp) (fun j hj => ?_)
          rw [List.length_append, List.length_singleton] at hj
          rw [ec_open (by simp; omega)]
          by_cases e2 : j + 1 < p.length
          · rw [gp_a1 _ _ _ (by omega), gp_a1 _ _ _ e2]
            have := ho j e2
            rwa [ec_open e2] at this
          · rw [gp_a1 _ _ _ (by omega), show j + 1 = p.length from by omega, gp_a2, show j = p.length - 1 from by omega]
            exact ed
theorem rlA_fil {re : Nat → Int32} {v : Nat → Nat} : rlA (wt 3 re v) = (rlA v).filter (agP (dnf re)) := by
  unfold rlA
  refine rlx_filter 5 2 (fun m h1 h2 => ?_)
  exact rlx_filter 6 0 (fun f h3 h4 => rl_fil (m - 1) [f] (by simp) (fun j hj => by simp at hj))
/-- the ring that a rule takes -/
def rT (rule : Nat) (re : Nat → Int32) (v : Nat → Nat) : List Nat := ((rlA v).foldl (stR rule v (agP (dnf re))) (0, [])).2
theorem wt_ne {rule : Nat} {re : Nat → Int32} {v : Nat → Nat} (h : rule ≠ 3) : wt rule re v = v := by
  funext k
  unfold wt
  rw [if_neg (fun x => h x.1)]
theorem rT_c {rule : Nat} {re : Nat → Int32} {v : Nat → Nat} (hr : rule ≤ 3) : ((rlA (wt rule re v)).foldl (stC rule (wt rule re v)) (0, [])).2 = rT rule re v := by
  unfold rT
  by_cases e : rule = 3
  · subst e
    rw [rlA_fil]
    exact foldCR3 _ _ _ rfl
  · rw [wt_ne e]
    exact foldCR e (by omega) _ _ _ rfl
theorem foldR_mem {rule : Nat} {v : Nat → Nat} {ag : List Nat → Bool} : ∀ (l : List (List Nat)) (S : Nat × List Nat), (l.foldl (stR rule v ag) S).2 = S.2 ∨ ((l.foldl (stR rule v ag) S).2 ∈ l ∧ (rule = 3 → ag (l.foldl (stR rule v ag) S).2 = true))
  | [], S => Or.inl rfl
  | p :: l, S => by
    rw [List.foldl_cons]
    rcases foldR_mem l (stR rule v ag S p) with h | h
    · rw [h]
      unfold stR
      by_cases e : wo rule v S.2 < wl rule (lowC v p) p.length ∧ (rule = 3 → ag p = true)
      · right
        rw [if_pos e]
        exact ⟨List.mem_cons_self .., e.2⟩
      · left
        rw [if_neg e]
    · right
      exact ⟨List.mem_cons_of_mem _ h.1, h.2⟩
theorem rT_ok {rule : Nat} {re : Nat → Int32} {v : Nat → Nat} : rT rule re v = [] ∨ (RG v (rT rule re v) ∧ (rT rule re v).length ≤ 6 ∧ (rule = 3 → ∀ j, j < (rT rule re v).length → re (ec (rT rule re v) j) = 0)) := by
  unfold rT
  rcases foldR_mem (rule := rule) (v := v) (ag := agP (dnf re)) (rlA v) (0, []) with h | h
  · exact Or.inl h
  · right
    have := rlA_mem h.1
    refine ⟨this.1, this.2, fun e j hj => ?_⟩
    have h2 := agP_iff.mp (h.2 e) j hj
    exact Classical.byContradiction (fun h3 => by rw [dnf_iff.mpr h3] at h2; exact absurd h2 (by decide))
theorem RG.pos {v : Nat → Nat} {p : List Nat} (h : RG v p) : ∀ j, j < p.length → 0 < v (ec p j) := by
  intro j hj
  by_cases e : j + 1 < p.length
  · rw [ec_open e]; exact h.1.2.2.2 j e
  · rw [show j = p.length - 1 from by omega, ec_last (by omega)]; exact h.2.2
theorem lowP_ge {v : Nat → Nat} {p : List Nat} : ∀ (k j : Nat), j < k → k < p.length → lowP v p k ≤ v (ec p j)
  | 0, j, h, _ => absurd h (Nat.not_lt_zero _)
  | k + 1, j, h, hk => by
    simp only [lowP]
    by_cases e : j = k
    · rw [e, ec_open hk]; exact Nat.min_le_right _ _
    · exact Nat.le_trans (Nat.min_le_left _ _) (lowP_ge k j (by omega) (by omega))
theorem lowC_ge {v : Nat → Nat} {p : List Nat} {j : Nat} (hj : j < p.length) : lowC v p ≤ v (ec p j) := by
  unfold lowC
  by_cases e : j + 1 < p.length
  · exact Nat.le_trans (Nat.min_le_left _ _) (lowP_ge _ j (by omega) (by omega))
  · rw [show j = p.length - 1 from by omega, ec_last (by omega)]; exact Nat.min_le_right _ _
theorem lowP_cong {v w : Nat → Nat} {p : List Nat} (h : ∀ j, j < p.length → w (ec p j) = v (ec p j)) : ∀ k, k < p.length → lowP w p k = lowP v p k
  | 0, _ => rfl
  | k + 1, hk => by
    simp only [lowP]
    rw [lowP_cong h k (by omega), ← ec_open hk, h k (by omega)]
theorem lowC_cong {v w : Nat → Nat} {p : List Nat} (h0 : 0 < p.length) (h : ∀ j, j < p.length → w (ec p j) = v (ec p j)) : lowC w p = lowC v p := by
  unfold lowC
  rw [lowP_cong h _ (by omega), ← ec_last h0, h _ (by omega)]
theorem low_w {rule : Nat} {re : Nat → Int32} {v : Nat → Nat} : ls (wt rule re v) (rT rule re v) = ls v (rT rule re v) := by
  unfold ls
  rcases rT_ok (rule := rule) (re := re) (v := v) with h | ⟨h1, h2, h3⟩
  · rw [if_pos h, if_pos h]
  · have hl : 2 ≤ (rT rule re v).length := h1.2.1
    have hne : rT rule re v ≠ [] := fun e => by rw [e] at hl; exact absurd hl (by decide)
    rw [if_neg hne, if_neg hne]
    refine lowC_cong (by omega) (fun j hj => ?_)
    unfold wt
    by_cases e : rule = 3
    · rw [if_neg (fun x => x.2 (h3 e j hj))]
    · rw [if_neg (fun x => e x.1)]
/-- what the class has found by a rule -/
theorem search_r {n rule : Nat} {v : Nat → Nat} {L : List Nat} {ow re st pa tk : Nat → Int32} (hr : rule ≤ 3) (hW : DebW n v L) (ho : ∀ k, k < 36 → ow k = nI (v k)) :
    ∃ z, fX4_search st pa tk ow re (nI rule) = some z ∧ z.2.2.1 = nI (rT rule re v).length ∧ z.2.2.2.1 = nI (ls v (rT rule re v)) ∧ LR z.2.2.2.2.2.2 0 (rT rule re v) := by
  obtain ⟨z, a1, a2, b1, b2, b3, b4, b5⟩ := search_n (st := st) (pa := pa) (tk := tk) (re := re) (show rule ≤ 4 by omega) hW ho
  rw [rT_c hr] at b2 b3 b4
  rw [low_w] at b3
  exact ⟨z, a1, b2, b3, b4⟩
theorem search_f {n : Nat} {v : Nat → Nat} {L : List Nat} {ow re st pa tk : Nat → Int32} (hW : DebW n v L) (ho : ∀ k, k < 36 → ow k = nI (v k)) :
    ∃ z, fX4_search st pa tk ow re 4 = some z ∧ z.2.1 = nI (rlA v).length := by
  obtain ⟨z, a1, a2, b1, b2⟩ := search_n (rule := 4) (st := st) (pa := pa) (tk := tk) (re := re) (by decide) hW ho
  rw [wt_ne (by decide), foldC_1, Nat.zero_add] at b1
  exact ⟨z, a1, b1⟩
theorem dn_one {n : Nat} {re md : Nat → Int32} (h : ConR n re md) : ∀ k, k < 36 → (md k = 1 ↔ dnf re k = true) := by
  intro k hk
  obtain ⟨h1, h2⟩ := h.1 k hk
  rw [← h1]
  rw [dnf_iff]
  rcases h2 with e | e <;> rw [e] <;> decide
theorem takes_r {n rule : Nat} {v : Nat → Nat} {L : List Nat} {re de ow pa ra : Nat → Int32} {le : Int32} (x1 x2 x3 x4 x5 x6 x7 x8 x9 : Int32) (hn : n ≤ 6) (hr : rule ≤ 3) (hC : ConR n re de) (ho : ∀ k, k < 36 → ow k = nI (v k)) (hW : DebW n v L) :
    ∃ z, fX9_takes (nI n) x1 x2 x3 x4 x5 x6 le x7 x8 x9 ow de pa ra (nI rule) = some z ∧ z.1 = (if rT rule re v = [] then 0 else 1) ∧ z.2.2.1 = nI (rlA v).length ∧ z.2.2.2.1 = nI (rT rule re v).length ∧ (rT rule re v ≠ [] → z.2.2.2.2.1 = nI (lowC v (rT rule re v))) ∧ LR z.2.2.2.2.2.2.2 0 (rT rule re v) := by
  obtain ⟨z, a1, a2, a3, b1, b2, b3, b4, b5, b6⟩ := takes_n (pa := pa) (ra := ra) (le := le) x1 x2 x3 x4 x5 x6 x7 x8 x9 hn hr (dn_one hC) ho hW
  rw [foldR_1, Nat.zero_add] at b1
  exact ⟨z, a1, a3, b1, b2, b3, b5⟩
-- cutting
theorem ec_ne {p : List Nat} (hn : p.Nodup) (hb : ∀ q ∈ p, q < 6) {j k : Nat} (hj : j < p.length) (hk : k < p.length) (h : j ≠ k) : ec p j ≠ ec p k := by
  have h1 := ec_lt hb j hj
  have h2 := ec_lt hb k hk
  have h3 : gp p j ≠ gp p k := by
    rcases Nat.lt_or_gt_of_ne h with e | e
    · exact gp_ne p hn j k e hk
    · exact fun x => gp_ne p hn k j e hj x.symm
  unfold ec at *
  omega
def cutI (p : List Nat) (low : Nat) : Nat → Nat → (Nat → Nat) × List Nat → (Nat → Nat) × List Nat
  | 0, _, S => S
  | r + 1, i, S => cutI p low r (i + 1) (sV S.1 (ec p i) (S.1 (ec p i) - low), sL S.1 S.2 (ec p i) (S.1 (ec p i) - low))
theorem pat_n {ta : Nat → Int32} {p : List Nat} (hp : LR ta 0 p) (h6 : p.length ≤ 6) {k : Nat} (hk : k < p.length) : fX4_personAt (nI p.length) ta (nI k) = some (nI (gp p k)) := by
  unfold fX4_personAt
  rw [if_neg (nI_pos (by omega)), if_neg (nI_ge (by omega) (by omega)), if_neg (g6 (by omega)), gA_n (by omega) (by decide), nI_clamp (by omega), LR_gp0 hp hk]
theorem pbh_n {ta : Nat → Int32} {p : List Nat} (hp : LR ta 0 p) (h6 : p.length ≤ 6) {k : Nat} (hk : k < p.length) : fX4_personBehind (nI p.length) ta (nI k) = some (nI (gp p (if k + 1 < p.length then k + 1 else 0))) := by
  unfold fX4_personBehind
  rw [nI_1]
  by_cases e : k + 1 < p.length
  · rw [if_neg (nI_ge e (by omega)), if_pos e, pat_n hp h6 e]; rfl
  · rw [if_pos (nI_le (by omega) (by omega)), if_neg e, show (0 : Int32) = nI 0 from rfl, pat_n hp h6 (by omega)]; rfl
/-- a ring of the debts: who, and how much at least -/
def CP (n : Nat) (p : List Nat) : Prop := p.Nodup ∧ p.length ≤ 6 ∧ (∀ q ∈ p, q < 6) ∧ ∀ j, j < p.length → ec p j < 36 ∧ ec p j / 6 < n ∧ ec p j % 6 < n ∧ ec p j / 6 ≠ ec p j % 6
theorem CP_of {n : Nat} {v : Nat → Nat} {L : List Nat} {p : List Nat} (hW : DebW n v L) (h : RG v p) (h6 : p.length ≤ 6) : CP n p := by
  refine ⟨h.1.2.1, h6, h.1.2.2.1, fun j hj => ?_⟩
  have h1 := (ec_lt h.1.2.2.1 j hj).2.2.1
  exact hW.2.2.2 _ ((hW.2.1 _ h1).mp (h.pos j hj))
theorem cut_st {n : Nat} {p : List Nat} {low : Nat} (hp : CP n p) {S : (Nat → Nat) × List Nat} {i : Nat} (hi : i < p.length) (hW : DebW n S.1 S.2) (hl : ∀ j, i ≤ j → j < p.length → low ≤ S.1 (ec p j)) :
    DebW n (sV S.1 (ec p i) (S.1 (ec p i) - low)) (sL S.1 S.2 (ec p i) (S.1 (ec p i) - low)) ∧ ∀ j, i + 1 ≤ j → j < p.length → low ≤ sV S.1 (ec p i) (S.1 (ec p i) - low) (ec p j) := by
  obtain ⟨h1, h2, h3, h4⟩ := hp
  obtain ⟨c1, c2, c3, c4⟩ := h4 i hi
  have hb := hW.1 _ c1
  refine ⟨hW.set _ _ c1 (by omega) (Or.inr ⟨c2, c3, c4⟩), fun j hj hjl => ?_⟩
  unfold sV
  rw [if_neg (ec_ne h1 h3 hjl hi (by omega))]
  exact hl j (by omega) hjl
theorem cutc_l {n : Nat} {p : List Nat} {low : Nat} {ta : Nat → Int32} (hp : CP n p) (hta : LR ta 0 p) (hlow : low ≤ 999) : ∀ (r fuel i : Nat) (S : (Nat → Nat) × List Nat) (sz : Int32) (ow od : Nat → Int32), i + r = p.length → r < fuel → DebW n S.1 S.2 → DebR sz ow od S.1 S.2 → (∀ j, i ≤ j → j < p.length → low ≤ S.1 (ec p j)) →
    ∃ z, fX4_takeLeastFrom_L2 (nI p.length) (nI low) ta fuel (nI i) sz ow od = some z ∧ DebR z.1 z.2.1 z.2.2 (cutI p low r i S).1 (cutI p low r i S).2 ∧ DebW n (cutI p low r i S).1 (cutI p low r i S).2
  | 0, fuel, i, S, sz, ow, od, he, hf, hW, hR, hl => by
    obtain ⟨f, rfl⟩ : ∃ f, fuel = f + 1 := ⟨fuel - 1, by omega⟩
    have h6 := hp.2.1
    rw [fX4_takeLeastFrom_L2, if_pos (nI_le (by omega) (by omega))]
    exact ⟨_, rfl, hR, hW⟩
  | r + 1, fuel, i, S, sz, ow, od, he, hf, hW, hR, hl => by
    obtain ⟨f, rfl⟩ : ∃ f, fuel = f + 1 := ⟨fuel - 1, by omega⟩
    have h6 := hp.2.1
    obtain ⟨b1, b2, b3, b4⟩ := ec_lt hp.2.2.1 i (by omega)
    have hv := hW.1 _ b3
    have hge := hl i (Nat.le_refl _) (by omega)
    rw [fX4_takeLeastFrom_L2, if_neg (nI_ge (by omega) (by omega)), pat_n hta h6 (by omega), pbh_n hta h6 (by omega)]
    simp only [Option.bind_some]
    rw [amount_n b1 b2]
    simp only [Option.bind_some]
    rw [show 6 * gp p i + gp p (if i + 1 < p.length then i + 1 else 0) = ec p i from rfl, hR.2.1 _ b3, pk_sub hge]
    obtain ⟨z, a1, a2⟩ := put_n (a := S.1 (ec p i) - low) hW hR b1 b2 (by omega)
    rw [show 6 * gp p i + gp p (if i + 1 < p.length then i + 1 else 0) = ec p i from rfl] at a2
    rw [a1]
    simp only [Option.bind_some, nI_1]
    obtain ⟨s1, s2⟩ := cut_st hp (by omega) hW hl
    exact cutc_l hp hta hlow r f (i + 1) _ _ _ _ (by omega) (by omega) s1 a2 s2
theorem cutr_l {n : Nat} {p : List Nat} {low : Nat} {ra : Nat → Int32} (rl rg : Int32) (wr : Int64) (pa : Nat → Int32) (hp : CP n p) (hra : LR ra 0 p) (hlow : low ≤ 999) : ∀ (r fuel i : Nat) (S : (Nat → Nat) × List Nat) (sz : Int32) (ow od : Nat → Int32), i + r = p.length → r < fuel → DebW n S.1 S.2 → DebR sz ow od S.1 S.2 → (∀ j, i ≤ j → j < p.length → low ≤ S.1 (ec p j)) →
    ∃ sz' ow' od', fX9_cuts_L12 rl rg (nI p.length) (nI low) wr pa ra fuel (nI i) sz ow od = some (1, sz', rl, rg, nI p.length, nI low, wr, ow', od', pa, ra) ∧ DebR sz' ow' od' (cutI p low r i S).1 (cutI p low r i S).2
  | 0, fuel, i, S, sz, ow, od, he, hf, hW, hR, hl => by
    obtain ⟨f, rfl⟩ : ∃ f, fuel = f + 1 := ⟨fuel - 1, by omega⟩
    have h6 := hp.2.1
    rw [fX9_cuts_L12, if_pos (nI_le (by omega) (by omega))]
    exact ⟨_, _, _, rfl, hR⟩
  | r + 1, fuel, i, S, sz, ow, od, he, hf, hW, hR, hl => by
    obtain ⟨f, rfl⟩ : ∃ f, fuel = f + 1 := ⟨fuel - 1, by omega⟩
    have h6 := hp.2.1
    obtain ⟨b1, b2, b3, b4⟩ := ec_lt hp.2.2.1 i (by omega)
    have hv := hW.1 _ b3
    have hge := hl i (Nat.le_refl _) (by omega)
    rw [fX9_cuts_L12, if_neg (nI_ge (by omega) (by omega)), gA_n (by omega) (by decide), gZ_n (by omega) (by omega), md_n (by omega) h6, gA_n (by omega) (by decide), nI_clamp (by omega), nI_clamp (by omega), LR_gp0 hra (by omega), LR_gp0 hra b4, ix6']
    rw [show 6 * gp p i + gp p (if i + 1 < p.length then i + 1 else 0) = ec p i from rfl, gA_n b3 (by decide), nI_clamp (by omega), hR.2.1 _ b3, pk_sub hge]
    obtain ⟨c1, c2, c3, c4⟩ := hp.2.2.2 i (by omega)
    obtain ⟨z, a1, a2⟩ := becomes_n (a := S.1 (ec p i) - low) hW hR b3 (by omega) (Or.inr ⟨c2, c3, c4⟩)
    rw [a1]
    simp only [Option.bind_some, nI_1]
    obtain ⟨s1, s2⟩ := cut_st hp (by omega) hW hl
    exact cutr_l rl rg wr pa hp hra hlow r f (i + 1) _ _ _ _ (by omega) (by omega) s1 a2 s2
/-- the debts behind a cut -/
def cutV (v : Nat → Nat) (L : List Nat) (p : List Nat) : (Nat → Nat) × List Nat := cutI p (lowC v p) p.length 0 (v, L)
theorem cutc_n {n rule : Nat} {re : Nat → Int32} {v : Nat → Nat} {L : List Nat} {sz : Int32} {ow od ta : Nat → Int32} (hW : DebW n v L) (hR : DebR sz ow od v L) (hta : LR ta 0 (rT rule re v)) :
    ∃ z, fX4_takeLeastFrom (nI (rT rule re v).length) (nI (ls v (rT rule re v))) ta sz ow od = some z ∧ DebR z.1 z.2.1 z.2.2 (cutV v L (rT rule re v)).1 (cutV v L (rT rule re v)).2 ∧ DebW n (cutV v L (rT rule re v)).1 (cutV v L (rT rule re v)).2 := by
  unfold fX4_takeLeastFrom cutV
  rcases rT_ok (rule := rule) (re := re) (v := v) with h | ⟨h1, h2, h3⟩
  · rw [h]
    refine ⟨(sz, ow, od), ?_, hR, hW⟩
    rw [fX4_takeLeastFrom_L2, if_pos (by decide)]
  · have hl : 2 ≤ (rT rule re v).length := h1.2.1
    have hne : rT rule re v ≠ [] := fun e => by rw [e] at hl; exact absurd hl (by decide)
    have e : ls v (rT rule re v) = lowC v (rT rule re v) := by unfold ls; rw [if_neg hne]
    rw [e]
    exact cutc_l (CP_of hW h1 h2) hta (lowC_le _ _) (rT rule re v).length 400 0 (v, L) sz ow od (by omega) (by omega) hW hR (fun j _ hj => lowC_ge hj)
theorem cuts_n {n rule : Nat} {re : Nat → Int32} {v : Nat → Nat} {L : List Nat} {sz : Int32} {ow od de pa ra : Nat → Int32} {le : Int32} (x1 x2 x3 x4 x5 x7 x8 x9 : Int32) (hn : n ≤ 6) (hr : rule ≤ 3) (hC : ConR n re de) (hW : DebW n v L) (hR : DebR sz ow od v L) :
    ∃ z, fX9_cuts (nI n) sz x1 x2 x3 x4 x5 le x7 x8 x9 ow de od pa ra (nI rule) = some z ∧ z.1 = (if rT rule re v = [] then 0 else 1) ∧ DebR z.2.1 z.2.2.2.2.2.2.2.1 z.2.2.2.2.2.2.2.2.1 (cutV v L (rT rule re v)).1 (cutV v L (rT rule re v)).2 ∧ (rT rule re v ≠ [] → z.2.2.2.2.1 = nI (rT rule re v).length ∧ z.2.2.2.2.2.1 = nI (ls v (rT rule re v))) := by
  obtain ⟨z, a1, a2, a3, a4, a5, a6⟩ := takes_r (pa := pa) (ra := ra) (le := le) sz x1 x2 x3 x4 x5 x7 x8 x9 hn hr hC hR.2.1 hW
  unfold fX9_cuts
  rw [a1]
  simp only [Option.bind_some, a2]
  rcases rT_ok (rule := rule) (re := re) (v := v) with h | ⟨h1, h2, h3⟩
  · rw [if_pos h, if_pos rfl]
    refine ⟨_, rfl, rfl, ?_, fun x => absurd h x⟩
    rw [h]; exact hR
  · have hl : 2 ≤ (rT rule re v).length := h1.2.1
    have hne : rT rule re v ≠ [] := fun e => by rw [e] at hl; exact absurd hl (by decide)
    rw [if_neg hne, if_neg (by decide), a4, a5 hne]
    obtain ⟨sz', ow', od', b1, b2⟩ := cutr_l z.2.1 z.2.2.1 z.2.2.2.2.2.1 z.2.2.2.2.2.2.1 (CP_of hW h1 h2) a6 (lowC_le v _) (rT rule re v).length 400 0 (v, L) sz ow od (by omega) (by omega) hW hR (fun j _ hj => lowC_ge hj)
    rw [show (0 : Int32) = nI 0 from rfl, b1]
    refine ⟨_, rfl, rfl, b2, fun _ => ⟨rfl, ?_⟩⟩
    unfold ls
    rw [if_neg hne]
end
