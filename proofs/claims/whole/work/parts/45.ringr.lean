/-! ===== the reference's search ===== -/
section
/-- the k-th debt of a ring -/
def ec (p : List Nat) (k : Nat) : Nat := 6 * gp p k + gp p (if k + 1 < p.length then k + 1 else 0)
def agI (dn : Nat → Bool) (p : List Nat) : Nat → Nat → Bool
  | 0, _ => true
  | r + 1, i => !dn (ec p i) && agI dn p r (i + 1)
def agP (dn : Nat → Bool) (p : List Nat) : Bool := agI dn p p.length 0
theorem agI_iff {dn : Nat → Bool} {p : List Nat} : ∀ r i, agI dn p r i = true ↔ ∀ j, i ≤ j → j < i + r → dn (ec p j) = false
  | 0, i => by simp [agI]; intro j h1 h2; omega
  | r + 1, i => by
    simp only [agI, Bool.and_eq_true, Bool.not_eq_true']
    rw [agI_iff r (i + 1)]
    constructor
    · rintro ⟨h1, h2⟩ j h3 h4
      by_cases e : j = i
      · rw [e]; exact h1
      · exact h2 j (by omega) (by omega)
    · intro h
      exact ⟨h i (by omega) (by omega), fun j h1 h2 => h j (by omega) (by omega)⟩
theorem agP_iff {dn : Nat → Bool} {p : List Nat} : agP dn p = true ↔ ∀ j, j < p.length → dn (ec p j) = false := by
  unfold agP
  rw [agI_iff]
  exact ⟨fun h j hj => h j (Nat.zero_le _) (by omega), fun h j _ hj => h j (by omega)⟩
theorem md_n {k m : Nat} (hk : k < m) (hm : m ≤ 6) : (nI k + 1) - (nI k + 1) / nI m * nI m = nI (if k + 1 < m then k + 1 else 0) := by
  rw [nI_1, pk_rem (by omega) (by omega) (by omega)]
  by_cases e : k + 1 < m
  · rw [if_pos e, Nat.mod_eq_of_lt e]
  · rw [if_neg e, show k + 1 = m from by omega, Nat.mod_self]
theorem ec_lt {p : List Nat} (hb : ∀ q ∈ p, q < 6) (k : Nat) (hk : k < p.length) : gp p k < 6 ∧ gp p (if k + 1 < p.length then k + 1 else 0) < 6 ∧ ec p k < 36 ∧ (if k + 1 < p.length then k + 1 else 0) < p.length := by
  have h1 := hb _ (gp_mem p k hk)
  have h3 : (if k + 1 < p.length then k + 1 else 0) < p.length := by
    by_cases e : k + 1 < p.length
    · rw [if_pos e]; exact e
    · rw [if_neg e]; omega
  have h2 := hb _ (gp_mem p _ h3)
  refine ⟨h1, h2, ?_, h3⟩
  unfold ec; omega
theorem agr_l {dn : Nat → Bool} {de pa : Nat → Int32} {p : List Nat} (hd : ∀ k, k < 36 → (de k = 1 ↔ dn k = true)) (hp : LR pa 0 p) (h6 : p.length ≤ 6) (hb : ∀ q ∈ p, q < 6) : ∀ (r fuel i : Nat), i + r = p.length → r < fuel →
    fX9_agreed_L2 de pa (nI p.length) fuel (nI i) = some (if agI dn p r i then 1 else 0)
  | 0, fuel, i, he, hf => by
    obtain ⟨f, rfl⟩ : ∃ f, fuel = f + 1 := ⟨fuel - 1, by omega⟩
    rw [fX9_agreed_L2, if_pos (nI_le (by omega) (by omega))]; rfl
  | r + 1, fuel, i, he, hf => by
    obtain ⟨f, rfl⟩ : ∃ f, fuel = f + 1 := ⟨fuel - 1, by omega⟩
    obtain ⟨b1, b2, b3, b4⟩ := ec_lt hb i (by omega)
    rw [fX9_agreed_L2, if_neg (nI_ge (by omega) (by omega)), gA_n (by omega) (by decide), gZ_n (by omega) (by omega), md_n (by omega) h6, gA_n (by omega) (by decide), nI_clamp (by omega), nI_clamp (by omega), LR_gp0 hp (by omega), LR_gp0 hp b4, ix6', nI_1]
    rw [show 6 * gp p i + gp p (if i + 1 < p.length then i + 1 else 0) = ec p i from rfl, gA_n b3 (by decide), nI_clamp (by omega), agr_l hd hp h6 hb r f (i + 1) (by omega) (by omega)]
    have := hd _ b3
    by_cases e : dn (ec p i) = true
    · have ea : agI dn p (r + 1) i = false := by simp [agI, e]
      rw [if_pos (this.mpr e), ea]; rfl
    · rw [if_neg (fun x => e (this.mp x))]
      rw [Bool.not_eq_true] at e
      have ea : agI dn p (r + 1) i = agI dn p r (i + 1) := by simp [agI, e]
      rw [ea]
theorem agr_n {dn : Nat → Bool} {de pa : Nat → Int32} {p : List Nat} (hd : ∀ k, k < 36 → (de k = 1 ↔ dn k = true)) (hp : LR pa 0 p) (h6 : p.length ≤ 6) (hb : ∀ q ∈ p, q < 6) : fX9_agreed de pa (nI p.length) = some (if agP dn p then 1 else 0) :=
  agr_l hd hp h6 hb p.length 400 0 (by omega) (by omega)
theorem low_l {v : Nat → Nat} {ow pa : Nat → Int32} {p : List Nat} (ho : ∀ k, k < 36 → ow k = nI (v k)) (hv : ∀ k, k < 36 → v k ≤ 999) (hp : LR pa 0 p) (h6 : p.length ≤ 6) (h0 : 0 < p.length) (hb : ∀ q ∈ p, q < 6) (kx : Int32 → Option (Int32 × Int32 × Int32 × Int64 × (Nat → Int32))) : ∀ (r fuel i : Nat), i + r = p.length - 1 → r + 1 < fuel →
    fX9_meets_L16 kx ow pa (nI p.length) fuel (nI (lowP v p i)) (nI i) = kx (nI (lowC v p))
  | r, fuel, i, he, hf => by
    obtain ⟨f, rfl⟩ : ∃ f, fuel = f + 1 := ⟨fuel - 1, by omega⟩
    obtain ⟨b1, b2, b3, b4⟩ := ec_lt hb i (by omega)
    have hl := lowP_le v p i
    have hvc := hv _ b3
    rw [fX9_meets_L16, if_neg (nI_ge (by omega) (by omega)), gA_n (by omega) (by decide), gZ_n (by omega) (by omega), md_n (by omega) h6, gA_n (by omega) (by decide), nI_clamp (by omega), nI_clamp (by omega), LR_gp0 hp (by omega), LR_gp0 hp b4, ix6', nI_1]
    rw [show 6 * gp p i + gp p (if i + 1 < p.length then i + 1 else 0) = ec p i from rfl, gA_n b3 (by decide), nI_clamp (by omega), ho _ b3]
    have e : ∀ g : Int32 → Option (Int32 × Int32 × Int32 × Int64 × (Nat → Int32)), (if nI (lowP v p i) ≤ nI (v (ec p i)) then g (nI (lowP v p i)) else g (nI (v (ec p i)))) = g (nI (min (lowP v p i) (v (ec p i)))) := by
      intro g
      by_cases h : lowP v p i ≤ v (ec p i)
      · rw [if_pos (nI_le h (by omega)), Nat.min_eq_left h]
      · rw [if_neg (nI_ge (by omega) (by omega)), Nat.min_eq_right (by omega)]
    rw [e (fun x => fX9_meets_L16 kx ow pa (nI p.length) f x (nI (i + 1)))]
    match r, he, hf with
    | 0, he, hf =>
      obtain ⟨f', rfl⟩ : ∃ f', f = f' + 1 := ⟨f - 1, by omega⟩
      show fX9_meets_L16 kx ow pa (nI p.length) (f' + 1) _ (nI (i + 1)) = _
      rw [fX9_meets_L16, if_pos (nI_le (by omega) (by omega))]
      have : ec p i = lastE p (gp p 0) := by
        unfold ec lastE
        rw [if_neg (by omega), show p.length - 1 = i from by omega]
      rw [this, show i = p.length - 1 from by omega]; rfl
    | r + 1, he, hf =>
      have : min (lowP v p i) (v (ec p i)) = lowP v p (i + 1) := by
        unfold ec
        rw [if_pos (by omega)]; rfl
      rw [this]
      exact low_l ho hv hp h6 h0 hb kx r f (i + 1) (by omega) (by omega)
theorem rcopy_l (rg sz le : Int32) (wo : Int64) (pa : Nat → Int32) (m : Nat) (hm : m ≤ 6) : ∀ (r fuel k : Nat) (ra : Nat → Int32), k + r = m → r < fuel → (∀ j, j < k → ra j = pa j) →
    ∃ ra', fX9_meets_L138 rg sz le wo pa (nI m) fuel (nI k) ra = some (rg, sz, le, wo, ra') ∧ ∀ j, j < m → ra' j = pa j
  | 0, fuel, k, ra, he, hf, h => by
    obtain ⟨f, rfl⟩ : ∃ f, fuel = f + 1 := ⟨fuel - 1, by omega⟩
    refine ⟨ra, ?_, fun j hj => h j (by omega)⟩
    rw [fX9_meets_L138, if_pos (nI_le (by omega) (by omega))]
  | r + 1, fuel, k, ra, he, hf, h => by
    obtain ⟨f, rfl⟩ : ∃ f, fuel = f + 1 := ⟨fuel - 1, by omega⟩
    rw [fX9_meets_L138, if_neg (nI_ge (by omega) (by omega)), gA_n (by omega) (by decide), gA_n (by omega) (by decide), nI_1, nI_clamp (by omega)]
    refine rcopy_l rg sz le wo pa m hm r f (k + 1) _ (by omega) (by omega) (fun j hj => ?_)
    rw [up_eq]
    by_cases e : j = k
    · rw [if_pos e, e]
    · rw [if_neg e]; exact h j (by omega)
def RR (rule : Nat) (v : Nat → Nat) (S : Nat × List Nat) (rg sz le : Int32) (wr : Int64) (ra : Nat → Int32) : Prop := rg = nI S.1 ∧ sz = nI S.2.length ∧ (S.2 ≠ [] → le = nI (lowC v S.2)) ∧ wr = lN (wo rule v S.2) ∧ LR ra 0 S.2 ∧ S.2.length ≤ 6
theorem wl_le {rule low m : Nat} (h1 : low ≤ 999) (h2 : m ≤ 6) : wl rule low m ≤ 5994 := by
  have p1 : low * m ≤ 999 * 6 := Nat.mul_le_mul h1 h2
  unfold wl
  by_cases e1 : rule = 1
  · rw [if_pos e1]; omega
  · rw [if_neg e1]
    by_cases e2 : rule = 2
    · rw [if_pos e2]; omega
    · rw [if_neg e2]; omega
theorem wo_le {rule : Nat} {v : Nat → Nat} {r : List Nat} (h : r.length ≤ 6) : wo rule v r ≤ 5994 := by
  unfold wo
  by_cases e : r = []
  · rw [if_pos e]; omega
  · rw [if_neg e]; exact wl_le (lowC_le v r) h
theorem lcm_n {a b : Nat} (ha : a < 2 ^ 31) (hb : b < 2 ^ 31) : lg_cmp (lN a) (lN b) ≤ 0 ↔ a ≤ b := by
  unfold lg_cmp
  by_cases h1 : lN a > lN b
  · rw [if_pos h1]
    have := (lN_lt hb ha).mp h1
    exact ⟨fun h => absurd h (by decide), fun h => by omega⟩
  · rw [if_neg h1]
    have h2 : ¬ b < a := fun x => h1 ((lN_lt hb ha).mpr x)
    by_cases h3 : lN a = lN b
    · rw [if_pos h3]; exact ⟨fun _ => by omega, fun _ => by decide⟩
    · rw [if_neg h3]; exact ⟨fun _ => by omega, fun _ => by decide⟩
theorem meets_n {rule : Nat} {v : Nat → Nat} {dn : Nat → Bool} {de ow pa ra : Nat → Int32} {S : Nat × List Nat} {rg sz le : Int32} {wr : Int64} {p : List Nat} (hr : rule ≤ 3) (hd : ∀ k, k < 36 → (de k = 1 ↔ dn k = true)) (ho : ∀ k, k < 36 → ow k = nI (v k)) (hv : ∀ k, k < 36 → v k ≤ 999) (h : RR rule v S rg sz le wr ra) (hp : LR pa 0 p) (h0 : 0 < p.length) (h6 : p.length ≤ 6) (hb : ∀ q ∈ p, q < 6) :
    ∃ z, fX9_meets (nI rule) rg sz le wr ow de pa ra (nI p.length) = some z ∧ RR rule v (stR rule v (agP dn) S p) z.1 z.2.1 z.2.2.1 z.2.2.2.1 z.2.2.2.2 := by
  obtain ⟨rfl, rfl, h3, rfl, h4, h5⟩ := h
  have hle := lowC_le v p
  have hne : p ≠ [] := fun e => by rw [e] at h0; exact absurd h0 (by decide)
  have hw1 := wl_le (rule := rule) hle h6
  have hw2 := wo_le (rule := rule) (v := v) h5
  obtain ⟨ra', c1, c2⟩ := rcopy_l (nI S.1 + 1) (nI p.length) (nI (lowC v p)) (lN (wl rule (lowC v p) p.length)) pa p.length h6 p.length 400 0 ra (by omega) (by omega) (fun j hj => absurd hj (Nat.not_lt_zero _))
  have hnew : RR rule v (S.1 + 1, p) (nI S.1 + 1) (nI p.length) (nI (lowC v p)) (lN (wl rule (lowC v p) p.length)) ra' := by
    refine ⟨nI_1 _, rfl, fun _ => rfl, ?_, LR_cong hp (fun k _ hk => c2 k (by have : k < 0 + p.length := hk; omega)), h6⟩
    show _ = lN (wo rule v p)
    unfold wo
    rw [if_neg hne]
  have hold : RR rule v (S.1 + 1, S.2) (nI S.1 + 1) (nI S.2.length) le (lN (wo rule v S.2)) ra := ⟨nI_1 _, rfl, h3, rfl, h4, h5⟩
  have tail : ∃ z, (if lg_cmp (lN (wl rule (lowC v p) p.length)) (lN (wo rule v S.2)) ≤ 0 then (some (nI S.1 + 1, nI S.2.length, le, lN (wo rule v S.2), ra)) else (if rule = 3 then ((fX9_agreed de pa (nI p.length)).bind (fun z13 => if z13 = 0 then (some (nI S.1 + 1, nI S.2.length, le, lN (wo rule v S.2), ra)) else (fX9_meets_L138 (nI S.1 + 1) (nI p.length) (nI (lowC v p)) (lN (wl rule (lowC v p) p.length)) pa (nI p.length) 400 0 ra))) else (fX9_meets_L138 (nI S.1 + 1) (nI p.length) (nI (lowC v p)) (lN (wl rule (lowC v p) p.length)) pa (nI p.length) 400 0 ra))) = some z ∧ RR rule v (stR rule v (agP dn) S p) z.1 z.2.1 z.2.2.1 z.2.2.2.1 z.2.2.2.2 := by
    unfold stR
    have c1' : fX9_meets_L138 (nI S.1 + 1) (nI p.length) (nI (lowC v p)) (lN (wl rule (lowC v p) p.length)) pa (nI p.length) 400 0 ra = _ := c1
    by_cases e : wl rule (lowC v p) p.length ≤ wo rule v S.2
    · rw [if_pos ((lcm_n (by omega) (by omega)).mpr e), if_neg (fun x => by omega)]
      exact ⟨_, rfl, hold⟩
    · rw [if_neg (fun x => e ((lcm_n (by omega) (by omega)).mp x)), c1', agr_n hd hp h6 hb]
      by_cases e3 : rule = 3
      · rw [if_pos e3]
        by_cases ea : agP dn p = true
        · rw [if_pos ea, if_pos ⟨by omega, fun _ => ea⟩]
          exact ⟨_, rfl, hnew⟩
        · rw [if_neg ea, if_neg (fun x => ea (x.2 e3))]
          exact ⟨_, rfl, hold⟩
      · rw [if_neg e3, if_pos ⟨by omega, fun x => absurd x e3⟩]
        exact ⟨_, rfl, hnew⟩
  unfold fX9_meets
  rw [show fX9_meets_L16 _ ow pa (nI p.length) 400 999 0 = _ from low_l ho hv hp h6 h0 hb _ (p.length - 1) 400 0 (by omega) (by omega)]
  simp only [jn_eq, er1 (show rule < 2 ^ 31 by omega), er2 (show rule < 2 ^ 31 by omega), er3 (show rule < 2 ^ 31 by omega), nI_l (show lowC v p < 2 ^ 31 by omega), nI_l (show p.length < 2 ^ 31 by omega), lN_mul]
  by_cases e1 : rule = 1
  · rw [if_pos e1]
    have : wl rule (lowC v p) p.length = lowC v p := by unfold wl; rw [if_pos e1]
    rw [this] at tail
    exact tail
  · rw [if_neg e1]
    by_cases e2 : rule = 2
    · rw [if_pos e2]
      have : wl rule (lowC v p) p.length = lowC v p * p.length := by unfold wl; rw [if_neg e1, if_pos e2]
      rw [this] at tail
      exact tail
    · rw [if_neg e2]
      have : wl rule (lowC v p) p.length = 1 := by unfold wl; rw [if_neg e1, if_neg e2]
      rw [this] at tail
      exact tail
theorem isin_l (pa : Nat → Int32) (q d : Nat) (hd : d ≤ 6) (hq : q < 6) : ∀ (B : List Nat) (fuel k : Nat), B.length < fuel → k + B.length = d → (∀ b ∈ B, b < 6) → LR pa k B → fX9_isIn_L2 pa (nI q) (nI d) fuel (nI k) = some (if q ∈ B then 1 else 0)
  | [], fuel, k, hf, he, _, _ => by
    obtain ⟨f, rfl⟩ : ∃ f, fuel = f + 1 := ⟨fuel - 1, by simp only [List.length_nil] at hf; omega⟩
    simp only [List.length_nil, Nat.add_zero] at he
    rw [fX9_isIn_L2, if_pos (nI_le (by omega) (by omega))]
    simp
  | b :: B, fuel, k, hf, he, hb, h => by
    obtain ⟨f, rfl⟩ : ∃ f, fuel = f + 1 := ⟨fuel - 1, by simp only [List.length_cons] at hf; omega⟩
    simp only [List.length_cons] at hf he
    have b6 := hb b (List.mem_cons_self ..)
    rw [fX9_isIn_L2, if_neg (nI_ge (by omega) (by omega)), gA_n (by omega) (by decide), nI_clamp (by omega), h.1, nI_1, isin_l pa q d hd hq B f (k + 1) (by omega) (by omega) (fun x hx => hb x (List.mem_cons_of_mem _ hx)) h.2]
    by_cases e : b = q
    · rw [if_pos (by rw [e]), if_pos (by rw [e]; exact List.mem_cons_self ..)]
    · rw [if_neg (by rw [nI_eq (by omega) (by omega)]; exact e)]
      congr 1
      have : (q ∈ b :: B) ↔ q ∈ B := by
        rw [List.mem_cons]
        exact ⟨fun x => x.elim (fun y => absurd y.symm e) id, Or.inr⟩
      simp only [this]
theorem isin_n {pa : Nat → Int32} {q : Nat} {p : List Nat} (hp : LR pa 0 p) (h6 : p.length ≤ 6) (hq : q < 6) (hb : ∀ b ∈ p, b < 6) : fX9_isIn pa (nI q) (nI p.length) = some (if q ∈ p then 1 else 0) :=
  isin_l pa q p.length h6 hq p 400 0 (by omega) (by omega) hb hp
/-- nobody behind the people owes or is owed -/
def OutN (n : Nat) (v : Nat → Nat) : Prop := ∀ k, k < 36 → ¬ (k / 6 < n ∧ k % 6 < n) → v k = 0
theorem DebW.out {n : Nat} {v : Nat → Nat} {L : List Nat} (h : DebW n v L) : OutN n v := by
  intro k hk hn
  rcases Nat.eq_zero_or_pos (v k) with e | e
  · exact e
  · have := h.2.2.2 k ((h.2.1 k hk).mp e)
    exact absurd ⟨this.2.1, this.2.2.1⟩ hn
theorem goes_n {n rule : Nat} {v : Nat → Nat} {dn : Nat → Bool} {de ow : Nat → Int32} (x1 x2 x3 x4 x5 x6 x7 x8 x9 : Int32) (hn : n ≤ 6) (hr : rule ≤ 3) (hd : ∀ k, k < 36 → (de k = 1 ↔ dn k = true)) (ho : ∀ k, k < 36 → ow k = nI (v k)) (hv : ∀ k, k < 36 → v k ≤ 999) (hout : OutN n v) : ∀ (r fuel : Nat) (p : List Nat) (S : Nat × List Nat) (rg sz le : Int32) (wr : Int64) (pa ra : Nat → Int32), PW v p → p.length + r ≤ 6 → r < fuel → LR pa 0 p → RR rule v S rg sz le wr ra → (∀ q ∈ p, q < n) →
    ∃ z, fX9_goes fuel (nI n) x1 x2 x3 x4 x5 x6 (nI rule) rg sz le wr x7 x8 x9 ow de pa ra (nI p.length) (nI (p.length + r)) = some z ∧ LR z.2.2.2.2.1 0 p ∧ RR rule v ((rl v r p).foldl (stR rule v (agP dn)) S) z.1 z.2.1 z.2.2.1 z.2.2.2.1 z.2.2.2.2.2
  | r, 0, p, S, rg, sz, le, wr, pa, ra, hp, h6, hf, hpa, h, hpn => absurd hf (Nat.not_lt_zero _)
  | r, fuel + 1, p, S, rg, sz, le, wr, pa, ra, hp, h6, hf, hpa, h, hpn => by
    have h0 : 0 < p.length := hp.1
    have hlast : gp p (p.length - 1) < 6 := hp.2.2.1 _ (gp_mem p _ (by omega))
    have hfirst : gp p 0 < 6 := hp.2.2.1 _ (gp_mem p 0 h0)
    have hfn : gp p 0 < n := hpn _ (gp_mem p 0 h0)
    have g1 : pa (p.length - 1) = nI (gp p (p.length - 1)) := LR_gp0 hpa (by omega)
    have g0 : pa 0 = nI (gp p 0) := LR_gp0 hpa h0
    rw [fX9_goes]
    cases r with
    | zero =>
      have hc36 : lastE p (gp p 0) < 36 := by unfold lastE; omega
      have e1 : nI (p.length + 0) - 1 = nI (p.length - 1) := by rw [nn1, pk_sub (by omega)]; rfl
      have hvc := hv _ hc36
      rw [if_pos (by rw [Nat.add_zero]), e1, gA_n (by omega) (by decide), gA_0 (by decide) (by decide), nI_clamp (by omega), c0, g1, g0, ix6']
      rw [show 6 * gp p (p.length - 1) + gp p 0 = lastE p (gp p 0) from rfl, gA_n hc36 (by decide), nI_clamp (by omega), ho _ hc36]
      unfold rl
      by_cases e : v (lastE p (gp p 0)) = 0
      · rw [if_pos e, e, if_pos (by decide)]
        exact ⟨_, rfl, hpa, h⟩
      · rw [if_neg e, if_neg (by rw [nI_le0 (by omega)]; exact e), Nat.add_zero]
        obtain ⟨z, a1, a2⟩ := meets_n hr hd ho hv h hpa h0 (by omega) hp.2.2.1
        rw [a1]
        exact ⟨_, rfl, hpa, a2⟩
    | succ r =>
      rw [if_neg (by rw [nI_eq (by omega) (by omega)]; omega), gA_0 (by decide) (by decide), c0, g0, nI_1]
      have e1 : nI p.length - 1 = nI (p.length - 1) := by rw [nn1, pk_sub h0]
      have loop : ∀ (k f2 q : Nat) (S : Nat × List Nat) (rg sz le : Int32) (wr : Int64) (pa ra : Nat → Int32), q + k = n → k < f2 → LR pa 0 p → RR rule v S rg sz le wr ra →
          ∃ z, fX9_goes_L46 (fun u_people u_debts u_cuts u_seen u_events u_inBook u_texted u_rule u_rings u_size u_least u_worth u_groups u_paid u_imaged u_owes u_denies u_path u_ring x1 x2 => fX9_goes fuel u_people u_debts u_cuts u_seen u_events u_inBook u_texted u_rule u_rings u_size u_least u_worth u_groups u_paid u_imaged u_owes u_denies u_path u_ring x1 x2) (nI n) x1 x2 x3 x4 x5 x6 (nI rule) x7 x8 x9 ow de (nI p.length) (nI (p.length + (r + 1))) f2 (nI q) rg sz le wr pa ra = some z ∧ LR z.2.2.2.2.1 0 p ∧
            RR rule v ((rlx (fun q => if q ∈ p ∨ v (lastE p q) = 0 then [] else rl v r (p ++ [q])) k q).foldl (stR rule v (agP dn)) S) z.1 z.2.1 z.2.2.1 z.2.2.2.1 z.2.2.2.2.2 := by
        intro k
        induction k with
        | zero =>
          intro f2 q S rg sz le wr pa ra hk hf2 hpa h
          obtain ⟨f, rfl⟩ : ∃ f, f2 = f + 1 := ⟨f2 - 1, by omega⟩
          rw [fX9_goes_L46, if_pos (nI_le (by omega) (by omega))]
          exact ⟨_, rfl, hpa, h⟩
        | succ k ih =>
          intro f2 q S rg sz le wr pa ra hk hf2 hpa h
          obtain ⟨f, rfl⟩ : ∃ f, f2 = f + 1 := ⟨f2 - 1, by omega⟩
          have hc36 : lastE p q < 36 := by unfold lastE; omega
          have hvc := hv _ hc36
          have g1 : pa (p.length - 1) = nI (gp p (p.length - 1)) := LR_gp0 hpa (by omega)
          rw [fX9_goes_L46, if_neg (nI_ge (by omega) (by omega)), isin_n hpa (by omega) (by omega) hp.2.2.1]
          simp only [Option.bind_some, nI_1, rlx]
          rw [List.foldl_append]
          by_cases em : q ∈ p
          · rw [if_pos em, if_neg (by decide), if_pos (Or.inl em)]
            exact ih f (q + 1) S rg sz le wr pa ra (by omega) (by omega) hpa h
          · rw [if_neg em, if_pos rfl, e1, gA_n (by omega) (by decide), nI_clamp (by omega), g1, ix6']
            rw [show 6 * gp p (p.length - 1) + q = lastE p q from rfl, gA_n hc36 (by decide), nI_clamp (by omega), ho _ hc36]
            by_cases e0 : v (lastE p q) = 0
            · rw [if_pos (by rw [e0]; rfl), if_pos (Or.inr e0)]
              exact ih f (q + 1) S rg sz le wr pa ra (by omega) (by omega) hpa h
            · rw [if_neg (by rw [nI_e0 (by omega)]; exact e0), if_neg (not_or.mpr ⟨em, e0⟩), gA_n (by omega) (by decide), nI_clamp (by omega)]
              have hpw := PW.snoc hp (q := q) (by omega) em (by omega)
              have hl2 : LR (upd pa p.length (nI q)) 0 (p ++ [q]) := by
                rw [LR_app]
                refine ⟨LR_upd p 0 (Or.inr (by omega)) hpa, ?_, trivial⟩
                rw [up_eq, if_pos (by omega)]
              obtain ⟨z, a1, a2, a3⟩ := goes_n x1 x2 x3 x4 x5 x6 x7 x8 x9 hn hr hd ho hv hout r fuel (p ++ [q]) S rg sz le wr _ ra hpw (by rw [List.length_append]; simp; omega) (by omega) hl2 h (fun x hx => by
                rw [List.mem_append, List.mem_singleton] at hx
                rcases hx with hx | rfl
                · exact hpn x hx
                · omega)
              have el : (p ++ [q]).length = p.length + 1 := by simp
              rw [el] at a1
              rw [show p.length + 1 + r = p.length + (r + 1) from by omega] at a1
              rw [a1]
              simp only [Option.bind_some]
              rw [LR_app] at a2
              exact ih f (q + 1) _ _ _ _ _ _ _ (by omega) (by omega) a2.1 a3
      have := loop (n - (gp p 0 + 1)) 400 (gp p 0 + 1) S rg sz le wr pa ra (by omega) (by omega) hpa h
      unfold rl
      have hcut := rlx_cut (g := fun q => if q ∈ p ∨ v (lastE p q) = 0 then [] else rl v r (p ++ [q])) (n - (gp p 0 + 1)) (6 - n) (gp p 0 + 1) (fun i h1 h2 => if_pos (Or.inr (hout _ (by unfold lastE; omega) (by unfold lastE; omega))))
      rw [show 6 - (gp p 0 + 1) = n - (gp p 0 + 1) + (6 - n) from by omega, hcut]
      exact this
theorem tk_in {n rule : Nat} {v : Nat → Nat} {dn : Nat → Bool} {de ow : Nat → Int32} (x1 x2 x3 x4 x5 x6 x7 x8 x9 : Int32) (hn : n ≤ 6) (hr : rule ≤ 3) (hd : ∀ k, k < 36 → (de k = 1 ↔ dn k = true)) (ho : ∀ k, k < 36 → ow k = nI (v k)) (hv : ∀ k, k < 36 → v k ≤ 999) (hout : OutN n v) (m : Nat) (hm : 2 ≤ m ∧ m ≤ 6) (kx : Int32 → Int32 → Int32 → Int64 → (Nat → Int32) → (Nat → Int32) → Option (Int32 × Int32 × Int32 × Int32 × Int32 × Int64 × (Nat → Int32) × (Nat → Int32))) : ∀ (k fuel q : Nat) (S : Nat × List Nat) (rg sz le : Int32) (wr : Int64) (pa ra : Nat → Int32), q + k = n → k < fuel → RR rule v S rg sz le wr ra →
    ∃ rg' sz' le' wr' pa' ra', fX9_takes_L32 kx (nI n) x1 x2 x3 x4 x5 x6 (nI rule) x7 x8 x9 ow de (nI m) fuel (nI q) rg sz le wr pa ra = kx rg' sz' le' wr' pa' ra' ∧ RR rule v ((rlx (fun f => rl v (m - 1) [f]) k q).foldl (stR rule v (agP dn)) S) rg' sz' le' wr' ra'
  | 0, fuel, q, S, rg, sz, le, wr, pa, ra, he, hf, h => by
    obtain ⟨f, rfl⟩ : ∃ f, fuel = f + 1 := ⟨fuel - 1, by omega⟩
    rw [fX9_takes_L32, if_pos (nI_le (by omega) (by omega))]
    exact ⟨_, _, _, _, _, _, rfl, h⟩
  | k + 1, fuel, q, S, rg, sz, le, wr, pa, ra, he, hf, h => by
    obtain ⟨f, rfl⟩ : ∃ f, fuel = f + 1 := ⟨fuel - 1, by omega⟩
    rw [fX9_takes_L32, if_neg (nI_ge (by omega) (by omega)), gA_0 (by decide) (by decide), c0]
    have hl : LR (upd pa 0 (nI q)) 0 [q] := ⟨by rw [up_eq, if_pos rfl], trivial⟩
    obtain ⟨z, a1, a2, a3⟩ := goes_n x1 x2 x3 x4 x5 x6 x7 x8 x9 hn hr hd ho hv hout (m - 1) 8 [q] S rg sz le wr _ ra (PW.one (by omega)) (by simp; omega) (by omega) hl h (by simp; omega)
    simp only [List.length_singleton] at a1
    rw [show 1 + (m - 1) = m from by omega] at a1
    have e1 : fX9_goes 8 (nI n) x1 x2 x3 x4 x5 x6 (nI rule) rg sz le wr x7 x8 x9 ow de (upd pa 0 (nI q)) ra 1 (nI m) = some z := a1
    rw [e1]
    simp only [Option.bind_some, nI_1, rlx]
    rw [List.foldl_append]
    exact tk_in x1 x2 x3 x4 x5 x6 x7 x8 x9 hn hr hd ho hv hout m hm kx k f (q + 1) _ _ _ _ _ _ _ (by omega) (by omega) a3
theorem tk_out {n rule : Nat} {v : Nat → Nat} {dn : Nat → Bool} {de ow : Nat → Int32} (x1 x2 x3 x4 x5 x6 x7 x8 x9 : Int32) (hn : n ≤ 6) (hr : rule ≤ 3) (hd : ∀ k, k < 36 → (de k = 1 ↔ dn k = true)) (ho : ∀ k, k < 36 → ow k = nI (v k)) (hv : ∀ k, k < 36 → v k ≤ 999) (hout : OutN n v) (kx : Int32 → Int32 → Int32 → Int64 → (Nat → Int32) → (Nat → Int32) → Option (Int32 × Int32 × Int32 × Int32 × Int32 × Int64 × (Nat → Int32) × (Nat → Int32))) : ∀ (k fuel m : Nat) (S : Nat × List Nat) (rg sz le : Int32) (wr : Int64) (pa ra : Nat → Int32), (m + k = n + 1 ∨ (k = 0 ∧ n < m)) → 2 ≤ m → m ≤ 7 → k < fuel → RR rule v S rg sz le wr ra →
    ∃ rg' sz' le' wr' pa' ra', fX9_takes_L22 kx (nI n) x1 x2 x3 x4 x5 x6 (nI rule) x7 x8 x9 ow de fuel (nI m) rg sz le wr pa ra = kx rg' sz' le' wr' pa' ra' ∧ RR rule v ((rlx (fun m => rlx (fun f => rl v (m - 1) [f]) n 0) k m).foldl (stR rule v (agP dn)) S) rg' sz' le' wr' ra'
  | 0, fuel, m, S, rg, sz, le, wr, pa, ra, he, h2, h7, hf, h => by
    obtain ⟨f, rfl⟩ : ∃ f, fuel = f + 1 := ⟨fuel - 1, by omega⟩
    rw [fX9_takes_L22, if_pos (nI_lt (by omega) (by omega))]
    exact ⟨_, _, _, _, _, _, rfl, h⟩
  | k + 1, fuel, m, S, rg, sz, le, wr, pa, ra, he, h2, h7, hf, h => by
    obtain ⟨f, rfl⟩ : ∃ f, fuel = f + 1 := ⟨fuel - 1, by omega⟩
    rw [fX9_takes_L22, if_neg (nI_nlt (by omega) (by omega))]
    obtain ⟨rg', sz', le', wr', pa', ra', a1, a2⟩ := tk_in x1 x2 x3 x4 x5 x6 x7 x8 x9 hn hr hd ho hv hout m ⟨h2, by omega⟩ (fun (u_rings_5 : Int32) (u_size_5 : Int32) (u_least_5 : Int32) (u_worth_5 : Int64) (u_path_5 : (Nat → Int32)) (u_ring_5 : (Nat → Int32)) => fX9_takes_L22 kx (nI n) x1 x2 x3 x4 x5 x6 (nI rule) x7 x8 x9 ow de f (nI m + 1) u_rings_5 u_size_5 u_least_5 u_worth_5 u_path_5 u_ring_5) n 400 0 S rg sz le wr pa ra (by omega) (by omega) h
    rw [show (0 : Int32) = nI 0 from rfl, a1, nI_1]
    simp only [rlx] at a2 ⊢
    rw [List.foldl_append]
    exact tk_out x1 x2 x3 x4 x5 x6 x7 x8 x9 hn hr hd ho hv hout kx k f (m + 1) _ _ _ _ _ _ _ (by omega) (by omega) (by omega) (by omega) a2
theorem rl_long {n : Nat} {v : Nat → Nat} (hn : n ≤ 6) (hout : OutN n v) {f m : Nat} (hf : f < 6) (hm : 2 ≤ m) (h : n ≤ f ∨ n < m) : rl v (m - 1) [f] = [] := by
  rw [List.eq_nil_iff_forall_not_mem]
  intro x hx
  obtain ⟨a1, a2, a3, a4⟩ := rl_mem (m - 1) [f] x (PW.one hf) hx
  simp only [List.length_singleton] at a2
  have hall : ∀ k, k < x.length → gp x k < n := by
    intro k hk
    have hlt := a1.2.2.1 _ (gp_mem x k hk)
    by_cases e : k + 1 < x.length
    · have h1 := a1.2.2.2 k e
      have hlt2 := a1.2.2.1 _ (gp_mem x (k + 1) e)
      by_cases h2 : gp x k < n
      · exact h2
      · have := hout (6 * gp x k + gp x (k + 1)) (by omega) (by omega)
        omega
    · have hlt2 := a1.2.2.1 _ (gp_mem x 0 (by omega))
      by_cases h2 : gp x k < n
      · exact h2
      · have := hout (lastE x (gp x 0)) (by unfold lastE; rw [show x.length - 1 = k from by omega]; omega) (by unfold lastE; rw [show x.length - 1 = k from by omega]; omega)
        omega
  have hlen : x.length ≤ n := by
    have := nd_len x (List.range n) a1.2.1 (fun q hq => by
      obtain ⟨k, h1, h2⟩ := gp_of x q hq
      rw [List.mem_range, ← h2]; exact hall k h1)
    simpa using this
  obtain ⟨B, hB⟩ := rl_pre (m - 1) [f] x hx
  have hg : gp x 0 = f := by rw [hB]; rfl
  have h0 := hall 0 (by omega)
  omega
theorem rlA_n {n : Nat} {v : Nat → Nat} (hn : n ≤ 6) (hout : OutN n v) : rlA v = rlx (fun m => rlx (fun f => rl v (m - 1) [f]) n 0) (n - 1) 2 := by
  unfold rlA
  have h1 : rlx (fun m => rlx (fun f => rl v (m - 1) [f]) 6 0) 5 2 = rlx (fun m => rlx (fun f => rl v (m - 1) [f]) n 0) 5 2 := by
    refine rlx_cong 5 2 (fun m h1 h2 => ?_)
    rw [show 6 = n + (6 - n) from by omega]
    exact rlx_cut n (6 - n) 0 (fun i h3 h4 => rl_long hn hout (by omega) h1 (Or.inl (by omega)))
  rw [h1, show 5 = (n - 1) + (5 - (n - 1)) from by omega]
  exact rlx_cut (n - 1) (5 - (n - 1)) 2 (fun m h2 h3 => rlx_nil n 0 (fun i h4 h5 => rl_long hn hout (by omega) (by omega) (Or.inr (by omega))))
theorem takes_n {n rule : Nat} {v : Nat → Nat} {L : List Nat} {dn : Nat → Bool} {de ow pa ra : Nat → Int32} {le : Int32} (x1 x2 x3 x4 x5 x6 x7 x8 x9 : Int32) (hn : n ≤ 6) (hr : rule ≤ 3) (hd : ∀ k, k < 36 → (de k = 1 ↔ dn k = true)) (ho : ∀ k, k < 36 → ow k = nI (v k)) (hW : DebW n v L) :
    ∃ z, fX9_takes (nI n) x1 x2 x3 x4 x5 x6 le x7 x8 x9 ow de pa ra (nI rule) = some z ∧ z.2.1 = nI rule ∧ z.1 = (if ((rlA v).foldl (stR rule v (agP dn)) (0, [])).2 = [] then 0 else 1) ∧ RR rule v ((rlA v).foldl (stR rule v (agP dn)) (0, [])) z.2.2.1 z.2.2.2.1 z.2.2.2.2.1 z.2.2.2.2.2.1 z.2.2.2.2.2.2.2 := by
  unfold fX9_takes
  have hRR : RR rule v (0, []) 0 0 le 0 ra := ⟨rfl, rfl, fun h => absurd rfl h, rfl, trivial, by decide⟩
  obtain ⟨rg', sz', le', wr', pa', ra', a1, a2⟩ := tk_out x1 x2 x3 x4 x5 x6 x7 x8 x9 hn hr hd ho hW.1 hW.out (fun (u_rings_6 : Int32) (u_size_6 : Int32) (u_least_6 : Int32) (u_worth_6 : Int64) (u_path_6 : (Nat → Int32)) (u_ring_6 : (Nat → Int32)) => if u_size_6 ≤ 0 then (some ((0 : Int32), nI rule, u_rings_6, u_size_6, u_least_6, u_worth_6, u_path_6, u_ring_6)) else (some (1, nI rule, u_rings_6, u_size_6, u_least_6, u_worth_6, u_path_6, u_ring_6))) (n - 1) 400 2 (0, []) 0 0 le 0 pa ra (by omega) (by decide) (by decide) (by omega) hRR
  rw [show (2 : Int32) = nI 2 from rfl, a1, ← rlA_n hn hW.out] at *
  generalize (rlA v).foldl (stR rule v (agP dn)) (0, []) = T at *
  obtain ⟨t1, t2, t3, t4, t5, t6⟩ := id a2
  rw [t2]
  by_cases e : T.2 = []
  · rw [if_pos (by rw [e]; decide), if_pos e]
    exact ⟨_, rfl, rfl, rfl, t1, rfl, t3, t4, t5, t6⟩
  · have : 0 < T.2.length := List.length_pos_iff.mpr e
    rw [if_neg (nI_nle this (by omega)), if_neg e]
    exact ⟨_, rfl, rfl, rfl, t1, rfl, t3, t4, t5, t6⟩
end
