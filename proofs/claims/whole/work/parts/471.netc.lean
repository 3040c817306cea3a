/-! ===== the class's groups ===== -/
section
theorem bit1 {b : Bool} : nI (if b = true then 1 else 0) = 1 ↔ b = true := by cases b <;> decide
theorem bit0 {b : Bool} : nI (if b = true then 1 else 0) = 0 ↔ b = false := by cases b <;> decide
def SM (B : Nat → Int) (su : Nat → Int32) : Prop := ∀ s, s < 64 → su s = zI (ssum B s 6)
theorem ssum_6 {B : Nat → Int} (h : BB B) (s : Nat) : -35964 ≤ ssum B s 6 ∧ ssum B s 6 ≤ 35964 := by
  have := ssum_bd (c := 5994) (by decide) h.1 s 6 (Nat.le_refl _)
  omega
theorem SM_0 {B : Nat → Int} {su : Nat → Int32} (h : BB B) (hs : SM B su) {s : Nat} (h64 : s < 64) : su s = 0 ↔ zB B s = true := by
  have hb := ssum_6 h s
  rw [hs s h64, zI_0, zI_eq (by omega) (by omega)]
  unfold zB
  rw [decide_eq_true_iff]
theorem add_in {B : Nat → Int} {b : Nat → Int32} (hb : ∀ p, p < 6 → b p = zI (B p)) {s : Nat} (hs : s < 64) (kx : Int32 → Option (Nat → Int32)) : ∀ (r fuel k : Nat), k + r = 6 → r < fuel → fX3_addUpSets_L12 kx b (nI s) fuel (zI (ssum B s k)) (nI k) = kx (zI (ssum B s 6))
  | 0, fuel, k, he, hf => by
    obtain ⟨f, rfl⟩ : ∃ f, fuel = f + 1 := ⟨fuel - 1, by omega⟩
    rw [fX3_addUpSets_L12, if_pos (e6 (by omega) (by omega)), show k = 6 from by omega]
  | r + 1, fuel, k, he, hf => by
    obtain ⟨f, rfl⟩ : ∃ f, fuel = f + 1 := ⟨fuel - 1, by omega⟩
    rw [fX3_addUpSets_L12, if_neg (g6 (by omega)), sb_bit hs (by omega)]
    have ih := add_in hb hs kx r f (k + 1) (by omega) (by omega)
    simp only [ssum] at ih
    by_cases e : s.testBit k = true
    · rw [if_pos e] at ih
      rw [if_pos (bit1.mpr e), gA_n (by omega) (by decide), nI_clamp (by omega), hb k (by omega), zI_add, nI_1]
      exact ih
    · rw [if_neg e, Int.add_zero] at ih
      rw [if_neg (fun x => e (bit1.mp x)), nI_1]
      exact ih
theorem add_l {B : Nat → Int} {b : Nat → Int32} (hb : ∀ p, p < 6 → b p = zI (B p)) : ∀ (r fuel s : Nat) (su : Nat → Int32), s + r = 64 → r < fuel → (∀ j, j < s → su j = zI (ssum B j 6)) →
    ∃ su', fX3_addUpSets_L2 b fuel (nI s) su = some su' ∧ SM B su'
  | 0, fuel, s, su, he, hf, h => by
    obtain ⟨f, rfl⟩ : ∃ f, fuel = f + 1 := ⟨fuel - 1, by omega⟩
    rw [fX3_addUpSets_L2, if_pos (e64 (by omega) (by omega))]
    exact ⟨su, rfl, fun j hj => h j (by omega)⟩
  | r + 1, fuel, s, su, he, hf, h => by
    obtain ⟨f, rfl⟩ : ∃ f, fuel = f + 1 := ⟨fuel - 1, by omega⟩
    rw [fX3_addUpSets_L2, if_neg (g64 (by omega))]
    rw [show fX3_addUpSets_L12 _ b (nI s) 400 0 0 = _ from add_in hb (show s < 64 by omega) _ 6 400 0 rfl (by decide)]
    rw [gA_n (by omega) (by decide), nI_clamp (by omega), nI_1]
    refine add_l hb r f (s + 1) _ (by omega) (by omega) (fun j hj => ?_)
    rw [up_eq]
    by_cases e : j = s
    · rw [if_pos e, e]
    · rw [if_neg e]; exact h j (by omega)
theorem open_l {B : Nat → Int} {b : Nat → Int32} (hB : BB B) (hb : ∀ p, p < 6 → b p = zI (B p)) : ∀ (r fuel k : Nat), k + r = 6 → r < fuel → fX3_open_L4 b fuel (nI (opI B k)) (nI k) = some (nI (opI B 6))
  | 0, fuel, k, he, hf => by
    obtain ⟨f, rfl⟩ : ∃ f, fuel = f + 1 := ⟨fuel - 1, by omega⟩
    rw [fX3_open_L4, if_pos (e6 (by omega) (by omega)), show k = 6 from by omega]
  | r + 1, fuel, k, he, hf => by
    obtain ⟨f, rfl⟩ : ∃ f, fuel = f + 1 := ⟨fuel - 1, by omega⟩
    have ih := open_l hB hb r f (k + 1) (by omega) (by omega)
    have hk := hB.1 k (by omega)
    have ho : opI B k < 64 := Nat.lt_of_lt_of_le (opI_lt B k) (Nat.pow_le_pow_right (by decide) (show k ≤ 6 by omega))
    simp only [opI] at ih
    rw [fX3_open_L4, if_neg (g6 (by omega)), gA_n (by omega) (by decide), nI_clamp (by omega), hb k (by omega), nI_1, sb_or ho (by omega)]
    by_cases e : B k = 0
    · rw [if_pos e] at ih
      rw [if_pos (by rw [e]; rfl)]; exact ih
    · rw [if_neg e] at ih
      rw [if_neg (by rw [zI_0, zI_eq (by omega) (by omega)]; exact e)]; exact ih
theorem open_n {B : Nat → Int} {b : Nat → Int32} (hB : BB B) (hb : ∀ p, p < 6 → b p = zI (B p)) : fX3_open b = some (nI (opI B 6)) := open_l hB hb 6 400 0 rfl (by decide)
theorem isg_n {B : Nat → Int} {su : Nat → Int32} (hB : BB B) (hs : SM B su) {g s : Nat} (hg : g < 64) (h64 : s < 64) (h0 : 0 < s) : fX3_isGroupOfLeast su (nI g) (nI s) = some (if (gq g s && zB B g) = true then 1 else 0) := by
  have hle : g &&& (s &&& (64 - s)) ≤ g := Nat.and_le_left
  have hle2 : g &&& s ≤ g := Nat.and_le_left
  have hq := gq_c h64 hg h0
  unfold fX3_isGroupOfLeast
  rw [sb_and hg h64, sb_low h64 hg]
  by_cases e1 : g &&& s = g
  · rw [if_pos (by rw [e1])]
    by_cases e2 : g &&& (s &&& (64 - s)) = 0
    · rw [if_pos (by rw [e2]; rfl)]
      have : gq g s = false := by
        cases e : gq g s with
        | false => rfl
        | true => exact absurd e2 (hq.mpr e).2
      rw [this]; rfl
    · rw [if_neg (by rw [nI_e0 (by omega)]; exact e2), gA_n hg (by decide), nI_clamp (by omega), hq.mp ⟨e1, e2⟩, Bool.true_and]
      by_cases e3 : zB B g = true
      · rw [if_pos ((SM_0 hB hs hg).mpr e3), if_pos e3]
      · rw [if_neg (fun x => e3 ((SM_0 hB hs hg).mp x)), if_neg e3]
  · rw [if_neg (by rw [nI_eq (by omega) (by omega)]; exact e1)]
    have : gq g s = false := by
      cases e : gq g s with
      | false => rfl
      | true => exact absurd (hq.mpr e).1 e1
    rw [this]; rfl
theorem parts_l {B : Nat → Int} {su mo : Nat → Int32} {M : Nat → Nat} (hB : BB B) (hs : SM B su) {s : Nat} (h64 : s < 64) (h0 : 0 < s) (hM : ∀ j, M j ≤ 63) (hm : ∀ j, j < s → mo j = nI (M j)) : ∀ (r fuel k : Nat), k + r = s → r < fuel → fX3_partsOf_L4 su mo (nI s) fuel (nI (mx (zB B) M s k)) (nI (k + 1)) = some (nI (mx (zB B) M s s))
  | 0, fuel, k, he, hf => by
    obtain ⟨f, rfl⟩ : ∃ f, fuel = f + 1 := ⟨fuel - 1, by omega⟩
    rw [fX3_partsOf_L4, if_pos (nI_lt (by omega) (by omega)), show k = s from by omega]
  | r + 1, fuel, k, he, hf => by
    obtain ⟨f, rfl⟩ : ∃ f, fuel = f + 1 := ⟨fuel - 1, by omega⟩
    have ih := parts_l hB hs h64 h0 hM hm r f (k + 1) (by omega) (by omega)
    rw [fX3_partsOf_L4, if_neg (nI_nlt (by omega) (by omega)), if_neg (g64 (by omega)), isg_n hB hs (by omega) h64 h0]
    simp only [mx] at ih
    by_cases e : (gq (k + 1) s && zB B (k + 1)) = true
    · rw [if_pos e] at ih
      have hq : gq (k + 1) s = true := by rw [Bool.and_eq_true] at e; exact e.1
      have hf := gq_fact h64 (by omega) h0 hq
      have hb1 := mx_bd (z := zB B) (s := s) hM k
      have hb2 := hM (dif s (k + 1))
      rw [if_pos e]
      simp only [Option.bind_some, on0, if_false]
      rw [sb_dif h64 (by omega), gA_n (by omega) (by decide), nI_clamp (by omega), hm _ hf.2.2.2, nn1, nI_add, nI_add]
      have : (if nI (mx (zB B) M s k) < nI (1 + M (dif s (k + 1))) then nI (1 + M (dif s (k + 1))) else nI (mx (zB B) M s k)) = nI (max (mx (zB B) M s k) (1 + M (dif s (k + 1)))) := by
        by_cases h : mx (zB B) M s k < 1 + M (dif s (k + 1))
        · rw [if_pos (nI_lt h (by omega)), Nat.max_eq_right (by omega)]
        · rw [if_neg (nI_nlt (by omega) (by omega)), Nat.max_eq_left (by omega)]
      rw [this]
      exact ih
    · rw [if_neg e] at ih
      rw [if_neg e]
      simp only [Option.bind_some, on1, if_true, nI_1]
      exact ih
theorem count_l {B : Nat → Int} {su : Nat → Int32} (hB : BB B) (hs : SM B su) : ∀ (r fuel s : Nat) (mo : Nat → Int32), s + r = 64 → 0 < s → r < fuel → (∀ j, j < s → mo j = nI (MM (zB B) (opI B 6) j)) →
    ∃ mo', fX3_countParts_L14 su (nI (opI B 6)) fuel (nI s) mo = some mo' ∧ ∀ j, j < 64 → mo' j = nI (MM (zB B) (opI B 6) j)
  | 0, fuel, s, mo, he, h0, hf, h => by
    obtain ⟨f, rfl⟩ : ∃ f, fuel = f + 1 := ⟨fuel - 1, by omega⟩
    rw [fX3_countParts_L14, if_pos (e64 (by omega) (by omega))]
    exact ⟨mo, rfl, fun j hj => h j (by omega)⟩
  | r + 1, fuel, s, mo, he, h0, hf, h => by
    obtain ⟨f, rfl⟩ : ∃ f, fuel = f + 1 := ⟨fuel - 1, by omega⟩
    have ho := opI_6 B
    have hand : s &&& opI B 6 ≤ s := Nat.and_le_left
    have hMs := MM_s (z := zB B) (op := opI B 6) (show s < 64 by omega) h0
    have hst : ∀ (x : Nat) (m : Nat → Int32), x = MM (zB B) (opI B 6) s → (∀ j, j ≠ s → m j = mo j) → m s = nI x → ∀ j, j < s + 1 → m j = nI (MM (zB B) (opI B 6) j) := by
      intro x m hx hm1 hm2 j hj
      by_cases e : j = s
      · rw [e, hm2, hx]
      · rw [hm1 j e]; exact h j (by omega)
    rw [fX3_countParts_L14, if_neg (g64 (by omega)), gA_n (by omega) (by decide), sb_and (by omega) ho, nI_clamp (by omega), nI_1]
    have h1 : ∀ j, j ≠ s → upd mo s 0 j = mo j := fun j e => by rw [up_eq, if_neg e]
    by_cases e1 : s &&& opI B 6 = s
    · have hsub : sub s (opI B 6) = true := by unfold sub; rw [e1]; exact beq_self_eq_true s
      rw [if_pos (by rw [e1]), gA_n (by omega) (by decide)]
      by_cases e2 : zB B s = true
      · rw [if_pos ((SM_0 hB hs (by omega)).mpr e2)]
        unfold fX3_partsOf
        have hp := parts_l (mo := upd mo s 0) (M := MM (zB B) (opI B 6)) hB hs (show s < 64 by omega) h0 (MM_bd _ _) (fun j hj => by rw [h1 j (by omega)]; exact h j hj) s 400 0 (by omega) (by omega)
        rw [show fX3_partsOf_L4 su (upd mo s 0) (nI s) 400 0 1 = _ from hp]
        simp only [Option.bind_some]
        rw [gA_n (by omega) (by decide)]
        refine count_l hB hs r f (s + 1) _ (by omega) (by omega) (by omega) (hst (mx (zB B) (MM (zB B) (opI B 6)) s s) _ ?_ (fun j e => ?_) ?_)
        · rw [hMs, hsub, e2]; rfl
        · rw [up_eq, if_neg e, up_eq, if_neg e]
        · rw [up_eq, if_pos rfl]
      · rw [if_neg (fun x => e2 ((SM_0 hB hs (by omega)).mp x))]
        refine count_l hB hs r f (s + 1) _ (by omega) (by omega) (by omega) (hst 0 _ ?_ h1 ?_)
        · rw [hMs, if_neg (fun x => by rw [Bool.and_eq_true] at x; exact e2 x.2)]
        · rw [up_eq, if_pos rfl]; rfl
    · rw [if_neg (by rw [nI_eq (by omega) (by omega)]; exact e1)]
      refine count_l hB hs r f (s + 1) _ (by omega) (by omega) (by omega) (hst 0 _ ?_ h1 ?_)
      · rw [hMs, if_neg (fun x => by rw [Bool.and_eq_true] at x; exact e1 (by have := x.1; unfold sub at this; exact eq_of_beq this))]
      · rw [up_eq, if_pos rfl]; rfl
theorem fg_l {B : Nat → Int} {su mo : Nat → Int32} (hB : BB B) (hs : SM B su) (hm : ∀ j, j < 64 → mo j = nI (MM (zB B) (opI B 6) j)) {s : Nat} (h64 : s < 64) (h0 : 0 < s) : ∀ (r fuel g : Nat), g + r = s → r < fuel → fX3_firstGroup_L2 su mo (nI s) fuel (nI g) = some (nI (fgS (zB B) (MM (zB B) (opI B 6)) s r g))
  | 0, fuel, g, he, hf => by
    obtain ⟨f, rfl⟩ : ∃ f, fuel = f + 1 := ⟨fuel - 1, by omega⟩
    rw [fX3_firstGroup_L2, if_pos (nI_le (by omega) (by omega)), show s = g from by omega]; rfl
  | r + 1, fuel, g, he, hf => by
    obtain ⟨f, rfl⟩ : ∃ f, fuel = f + 1 := ⟨fuel - 1, by omega⟩
    have ih := fg_l hB hs hm h64 h0 r f (g + 1) (by omega) (by omega)
    rw [fX3_firstGroup_L2, if_neg (nI_ge (by omega) (by omega)), if_neg (g64 (by omega)), isg_n hB hs (by omega) h64 h0]
    simp only [fgS]
    by_cases e : (gq g s && zB B g) = true
    · have hb1 := MM_bd (zB B) (opI B 6) (dif s g)
      have hb2 := MM_bd (zB B) (opI B 6) s
      have hd := dif_lt h64 (show g < 64 by omega)
      rw [if_pos e]
      simp only [Option.bind_some, on0, if_false]
      rw [sb_dif h64 (by omega), gA_n (by omega) (by decide), gA_n (by omega) (by decide), nI_clamp (by omega), nI_clamp (by omega), hm _ hd.1, hm _ h64, nn1, nI_add, nI_add]
      by_cases e2 : 1 + MM (zB B) (opI B 6) (dif s g) = MM (zB B) (opI B 6) s
      · rw [if_pos (by rw [e2]), if_pos ⟨e, e2⟩]
      · rw [if_neg (by rw [nI_eq (by omega) (by omega)]; exact e2), if_neg (fun x => e2 x.2)]
        exact ih
    · rw [if_neg e]
      simp only [Option.bind_some, on1, if_true, nI_1]
      rw [if_neg (fun x => e x.1)]
      exact ih
theorem fg_n {B : Nat → Int} {su mo : Nat → Int32} (hB : BB B) (hs : SM B su) (hm : ∀ j, j < 64 → mo j = nI (MM (zB B) (opI B 6) j)) {s : Nat} (h64 : s < 64) (h0 : 0 < s) : fX3_firstGroup su mo (nI s) = some (nI (fgr (zB B) (MM (zB B) (opI B 6)) s)) :=
  fg_l hB hs hm h64 h0 (s - 1) 400 1 (by omega) (by omega)
/-- a rest that can be parted -/
def RS (B : Nat → Int) (s : Nat) : Prop := s < 64 ∧ sub s (opI B 6) = true ∧ zB B s = true
theorem RS_0 {B : Nat → Int} (h : BB B) : RS B (opI B 6) := ⟨opI_6 B, sub_of (opI_6 B) (opI_6 B) (fun _ _ h => h), zB_op h⟩
theorem RS_next {B : Nat → Int} {s : Nat} {M : Nat → Nat} (h : RS B s) (h0 : 0 < s) : fgr (zB B) M s < 64 ∧ RS B (dif s (fgr (zB B) M s)) ∧ pcS (dif s (fgr (zB B) M s)) + 2 ≤ pcS s ∧ zB B (fgr (zB B) M s) = true := by
  obtain ⟨h1, h2, h3⟩ := h
  obtain ⟨f1, f2⟩ := fgS_ok (M := M) h1 h0 h3 (s - 1) 1 (by omega)
  rw [show fgS (zB B) M s (s - 1) 1 = fgr (zB B) M s from rfl] at f1 f2
  rw [Bool.and_eq_true] at f1
  have hg : fgr (zB B) M s < 64 := by omega
  refine ⟨hg, ⟨(dif_lt h1 hg).1, sub_difs h1 hg (opI_6 B) h2, ?_⟩, grp_two h1 hg h0 f1.1 f1.2 h2, f1.2⟩
  rw [zB_dif h1 hg f1.1 f1.2]; exact h3
theorem part_l {B : Nat → Int} {su mo : Nat → Int32} (hB : BB B) (hs : SM B su) (hm : ∀ j, j < 64 → mo j = nI (MM (zB B) (opI B 6) j)) : ∀ (f fuel k s : Nat) (G : List Nat) (gr : Nat → Int32), k + f = 3 → f < fuel → G.length = k → RS B s → pcS s + 2 * k ≤ 6 → LR gr 0 G →
    ∃ gr', fX3_partOpen_L12 su mo fuel (nI s) (nI k) (nI k) gr = some (nI (G ++ glS (zB B) (MM (zB B) (opI B 6)) f s).length, gr') ∧ LR gr' 0 (G ++ glS (zB B) (MM (zB B) (opI B 6)) f s)
  | f, fuel, k, s, G, gr, he, hf, hG, hR, hp, hg => by
    obtain ⟨fu, rfl⟩ : ∃ fu, fuel = fu + 1 := ⟨fuel - 1, by omega⟩
    rw [fX3_partOpen_L12, if_neg (g6 (by omega))]
    by_cases e : s = 0
    · rw [if_pos (by rw [e]; rfl)]
      have : glS (zB B) (MM (zB B) (opI B 6)) f s = [] := by
        cases f with
        | zero => rfl
        | succ f => unfold glS; rw [if_pos e]
      rw [this, List.append_nil, hG]
      exact ⟨gr, rfl, hg⟩
    · have h1 := hR.1
      obtain ⟨n1, n2, n3, n4⟩ := RS_next (M := MM (zB B) (opI B 6)) hR (by omega)
      match f, he, hf with
      | 0, he, hf => omega
      | f + 1, he, hf =>
        rw [if_neg (by rw [nI_e0 (by omega)]; exact e), fg_n hB hs hm h1 (by omega)]
        simp only [Option.bind_some]
        rw [gA_n (by omega) (by decide), sb_dif h1 n1, nI_1, nI_clamp (by omega)]
        have hl : LR (upd gr k (nI (fgr (zB B) (MM (zB B) (opI B 6)) s))) 0 (G ++ [fgr (zB B) (MM (zB B) (opI B 6)) s]) := by
          rw [LR_app]
          refine ⟨LR_upd G 0 (Or.inr (by omega)) hg, ?_, trivial⟩
          rw [up_eq, if_pos (by omega)]
        obtain ⟨gr', a1, a2⟩ := part_l hB hs hm f fu (k + 1) (dif s (fgr (zB B) (MM (zB B) (opI B 6)) s)) (G ++ [fgr (zB B) (MM (zB B) (opI B 6)) s]) _ (by omega) (by omega) (by rw [List.length_append, hG]; rfl) n2 (by omega) hl
        refine ⟨gr', ?_, ?_⟩
        · rw [a1]
          simp only [glS]
          rw [if_neg e, List.append_assoc]; rfl
        · simp only [glS]
          rw [if_neg e]
          rw [List.append_assoc] at a2
          exact a2
theorem gsB_len {B : Nat → Int} (h : BB B) : (gsB B).length ≤ 3 := by
  have : ∀ f s z M, (glS z M f s).length ≤ f := by
    intro f
    induction f with
    | zero => intro s z M; exact Nat.le_refl _
    | succ f ih =>
      intro s z M
      simp only [glS]
      split
      · simp
      · simp only [List.length_cons]
        exact Nat.succ_le_succ (ih _ _ _)
  exact this 3 _ _ _
theorem gl_lt {B : Nat → Int} {M : Nat → Nat} : ∀ (f s : Nat), RS B s → ∀ g ∈ glS (zB B) M f s, g < 64
  | 0, _, _, g, hg => absurd hg List.not_mem_nil
  | f + 1, s, h, g, hg => by
    simp only [glS] at hg
    by_cases e : s = 0
    · rw [if_pos e] at hg; exact absurd hg List.not_mem_nil
    · rw [if_neg e] at hg
      obtain ⟨n1, n2, n3, n4⟩ := RS_next (M := M) h (by omega)
      rcases List.mem_cons.mp hg with rfl | hg
      · exact n1
      · exact gl_lt f _ n2 g hg
theorem gsB_lt {B : Nat → Int} (h : BB B) : ∀ g ∈ gsB B, g < 64 := gl_lt 3 _ (RS_0 h)
/-- the class's groups out of its balances -/
theorem groups_c {B : Nat → Int} {b su mo gr : Nat → Int32} (hB : BB B) (hb : ∀ p, p < 6 → b p = zI (B p)) :
    ∃ su' mo' gr', fX3_addUpSets b su = some su' ∧ fX3_countParts b su' mo = some mo' ∧ fX3_partOpen b su' mo' gr = some (nI (gsB B).length, gr') ∧ LR gr' 0 (gsB B) := by
  obtain ⟨su', a1, a2⟩ := add_l hb 64 400 0 su rfl (by decide) (fun j hj => absurd hj (Nat.not_lt_zero _))
  obtain ⟨mo', b1, b2⟩ := count_l hB a2 63 400 1 (upd mo 0 0) rfl (by decide) (by decide) (fun j hj => by
    rw [show j = 0 from by omega, up_eq, if_pos rfl, MM_0]; rfl)
  obtain ⟨gr', c1, c2⟩ := part_l hB a2 b2 3 400 0 (opI B 6) [] gr rfl (by decide) rfl (RS_0 hB) (pc_le _) trivial
  refine ⟨su', mo', gr', a1, ?_, ?_, c2⟩
  · unfold fX3_countParts
    rw [open_n hB hb]
    simp only [Option.bind_some]
    rw [gA_0 (by decide) (by decide), c0]
    exact b1
  · unfold fX3_partOpen
    rw [open_n hB hb]
    simp only [Option.bind_some]
    exact c1
end
