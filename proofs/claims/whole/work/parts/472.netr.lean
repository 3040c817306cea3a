/-! ===== the reference's groups ===== -/
section
theorem low_n {s : Nat} (hs : s < 64) (h0 : 0 < s) : fX9_lowest (nI s) = some (nI (lwS s)) := all64 (P := fun s => 0 < s → fX9_lowest (nI s) = some (nI (lwS s))) (by decide +kernel) hs h0
theorem opI_n {B : Nat → Int} {n : Nat} (h : ∀ p, n ≤ p → p < 6 → B p = 0) : ∀ d, n + d ≤ 6 → opI B (n + d) = opI B n
  | 0, _ => rfl
  | d + 1, hd => by
    rw [show n + (d + 1) = n + d + 1 from rfl]
    simp only [opI]
    rw [if_pos (h (n + d) (by omega) (by omega)), opI_n h d (by omega)]
abbrev RTy : Type := Option (Int32 × (Nat → Int32) × (Nat → Int32) × (Nat → Int32) × (Nat → Int32))
theorem ropen_l {n : Nat} {B : Nat → Int} {b : Nat → Int32} (hn : n ≤ 6) (hB : BB B) (hb : ∀ p, p < 6 → b p = zI (B p)) (kx : Int32 → RTy) : ∀ (r fuel k : Nat), k + r = n → r < fuel → fX9_groups_L8 kx (nI n) b fuel (nI (opI B k)) (nI k) = kx (nI (opI B n))
  | 0, fuel, k, he, hf => by
    obtain ⟨f, rfl⟩ : ∃ f, fuel = f + 1 := ⟨fuel - 1, by omega⟩
    rw [fX9_groups_L8, if_pos (nI_le (by omega) (by omega)), show k = n from by omega]
  | r + 1, fuel, k, he, hf => by
    obtain ⟨f, rfl⟩ : ∃ f, fuel = f + 1 := ⟨fuel - 1, by omega⟩
    have ih := ropen_l hn hB hb kx r f (k + 1) (by omega) (by omega)
    have hk := hB.1 k (by omega)
    have ho : opI B k < 64 := Nat.lt_of_lt_of_le (opI_lt B k) (Nat.pow_le_pow_right (by decide) (show k ≤ 6 by omega))
    simp only [opI] at ih
    rw [fX9_groups_L8, if_neg (nI_ge (by omega) (by omega)), gA_n (by omega) (by decide), nI_clamp (by omega), hb k (by omega), nI_1, sb_or ho (by omega)]
    by_cases e : B k = 0
    · rw [if_pos e] at ih
      rw [if_pos (by rw [e]; rfl)]; exact ih
    · rw [if_neg e] at ih
      rw [if_neg (by rw [zI_0, zI_eq (by omega) (by omega)]; exact e)]; exact ih
/-- the reference's number of parts -/
def pv (B : Nat → Int) (j : Nat) : Int32 := if (sub j (opI B 6) && zB B j) = true then nI (MM (zB B) (opI B 6) j) else -1
def av (B : Nat → Int) (s k : Nat) : Int32 := if zB B s = true ∧ 0 < mx (zB B) (MM (zB B) (opI B 6)) s k then nI (mx (zB B) (MM (zB B) (opI B 6)) s k) else -1
theorem m1_lt : (-1 : Int32) < 0 ↔ True := by decide
theorem le_m1 {n : Nat} (h : n < 2 ^ 31) : ¬ nI n ≤ -1 := by
  rw [zI_m1, zI_n, zI_le (by omega) (by omega)]; omega
theorem rparts_l {B : Nat → Int} {su : Nat → Int32} (hB : BB B) (hs : SM B su) {s : Nat} (h64 : s < 64) (h0 : 0 < s) (hsub : sub s (opI B 6) = true) (kx : (Nat → Int32) → RTy) : ∀ (r fuel k : Nat) (pa : Nat → Int32), k + r = s → r < fuel → (∀ j, j < s → pa j = pv B j) → pa s = av B s k →
    ∃ pa', fX9_groups_L108 kx su (nI s) (nI (lwS s)) fuel (nI (k + 1)) pa = kx pa' ∧ (∀ j, j < s → pa' j = pv B j) ∧ pa' s = av B s s
  | 0, fuel, k, pa, he, hf, h1, h2 => by
    obtain ⟨f, rfl⟩ : ∃ f, fuel = f + 1 := ⟨fuel - 1, by omega⟩
    rw [fX9_groups_L108, if_pos (nI_lt (by omega) (by omega))]
    exact ⟨pa, rfl, h1, by rw [h2, show k = s from by omega]⟩
  | r + 1, fuel, k, pa, he, hf, h1, h2 => by
    obtain ⟨f, rfl⟩ : ∃ f, fuel = f + 1 := ⟨fuel - 1, by omega⟩
    have hg : k + 1 < 64 := by omega
    have hd := dif_lt (s := k + 1) (g := s) hg h64
    have hq := gq_r h64 hg
    rw [fX9_groups_L108, if_neg (nI_nlt (by omega) (by omega)), sb_dif hg h64, sb_bit hg (lwS_lt s), nI_1]
    have same : (gq (k + 1) s && zB B (k + 1)) = false → ∃ pa', fX9_groups_L108 kx su (nI s) (nI (lwS s)) f (nI (k + 1 + 1)) pa = kx pa' ∧ (∀ j, j < s → pa' j = pv B j) ∧ pa' s = av B s s := by
      intro e
      refine rparts_l hB hs h64 h0 hsub kx r f (k + 1) pa (by omega) (by omega) h1 ?_
      have e' : mx (zB B) (MM (zB B) (opI B 6)) s (k + 1) = mx (zB B) (MM (zB B) (opI B 6)) s k := by
        simp only [mx]
        rw [if_neg (by rw [e]; exact Bool.false_ne_true)]
      rw [h2]
      unfold av
      rw [e']
    by_cases e1 : dif (k + 1) s = 0
    · rw [if_pos (by rw [e1]; rfl)]
      by_cases e2 : (k + 1).testBit (lwS s) = true
      · have hgq := hq.mp ⟨e1, e2⟩
        rw [if_neg (by rw [bit0]; rw [e2]; decide), gA_n hg (by decide), nI_clamp (by omega)]
        by_cases e3 : zB B (k + 1) = true
        · have hd2 := dif_lt h64 hg
          have hds := (gq_fact h64 hg h0 hgq).2.2.2
          have hb2 := MM_bd (zB B) (opI B 6) (dif s (k + 1))
          have hb3 := mxM_bd (zB B) (opI B 6) s k
          have hsd := sub_difs h64 hg (opI_6 B) hsub
          have hzd := zB_dif h64 hg hgq e3
          rw [if_pos ((SM_0 hB hs hg).mpr e3), sb_dif h64 hg, gA_n hd2.1 (by decide), nI_clamp (by omega), h1 _ hds]
          by_cases e4 : zB B s = true
          · have hpv : pv B (dif s (k + 1)) = nI (MM (zB B) (opI B 6) (dif s (k + 1))) := by
              unfold pv; rw [hsd, hzd, e4]; rfl
            rw [hpv, if_neg (nI_pos (by omega)), gA_n h64 (by decide), gA_n h64 (by decide), nI_clamp (by omega), h2, nI_1]
            have hmx : mx (zB B) (MM (zB B) (opI B 6)) s (k + 1) = max (mx (zB B) (MM (zB B) (opI B 6)) s k) (1 + MM (zB B) (opI B 6) (dif s (k + 1))) := by
              simp only [mx]
              rw [hgq, e3]; rfl
            have upd_case : mx (zB B) (MM (zB B) (opI B 6)) s k < 1 + MM (zB B) (opI B 6) (dif s (k + 1)) → ∃ pa', fX9_groups_L108 kx su (nI s) (nI (lwS s)) f (nI (k + 1 + 1)) (upd pa s (nI (MM (zB B) (opI B 6) (dif s (k + 1)) + 1))) = kx pa' ∧ (∀ j, j < s → pa' j = pv B j) ∧ pa' s = av B s s := by
              intro hlt
              refine rparts_l hB hs h64 h0 hsub kx r f (k + 1) _ (by omega) (by omega) (fun j hj => ?_) ?_
              · rw [up_eq, if_neg (by omega)]; exact h1 j hj
              · rw [up_eq, if_pos rfl]
                unfold av
                rw [hmx, if_pos ⟨e4, by omega⟩]
                congr 1; omega
            by_cases e5 : 0 < mx (zB B) (MM (zB B) (opI B 6)) s k
            · have hav : av B s k = nI (mx (zB B) (MM (zB B) (opI B 6)) s k) := if_pos ⟨e4, e5⟩
              rw [hav]
              by_cases e6 : MM (zB B) (opI B 6) (dif s (k + 1)) + 1 ≤ mx (zB B) (MM (zB B) (opI B 6)) s k
              · rw [if_pos (nI_le e6 (by omega))]
                refine rparts_l hB hs h64 h0 hsub kx r f (k + 1) pa (by omega) (by omega) h1 ?_
                rw [h2, hav]
                unfold av
                rw [hmx, if_pos ⟨e4, by omega⟩]
                congr 1; omega
              · rw [if_neg (nI_ge (by omega) (by omega))]
                exact upd_case (by omega)
            · have hav : av B s k = -1 := if_neg (fun x => e5 x.2)
              rw [hav, if_neg (le_m1 (by omega))]
              exact upd_case (by omega)
          · have hpv : pv B (dif s (k + 1)) = -1 := by
              unfold pv
              rw [if_neg (fun x => by rw [Bool.and_eq_true, hzd] at x; exact e4 x.2)]
            rw [hpv, if_pos (by decide)]
            refine rparts_l hB hs h64 h0 hsub kx r f (k + 1) pa (by omega) (by omega) h1 ?_
            rw [h2]
            unfold av
            rw [if_neg (fun x => e4 x.1), if_neg (fun x => e4 x.1)]
        · rw [if_neg (fun x => e3 ((SM_0 hB hs hg).mp x))]
          refine same ?_
          rw [Bool.not_eq_true] at e3
          rw [e3, Bool.and_false]
      · rw [if_pos (by rw [bit0]; simpa using e2)]
        refine same ?_
        cases e : gq (k + 1) s with
        | false => rfl
        | true => exact absurd (hq.mpr e).2 e2
    · rw [if_neg (by rw [nI_e0 (by omega)]; exact e1)]
      refine same ?_
      cases e : gq (k + 1) s with
      | false => rfl
      | true => exact absurd (hq.mpr e).1 e1
theorem av_end {B : Nat → Int} {s : Nat} (h64 : s < 64) (h0 : 0 < s) (hsub : sub s (opI B 6) = true) : av B s s = pv B s := by
  unfold av pv
  rw [hsub, Bool.true_and]
  by_cases e : zB B s = true
  · have h1 := gq_self h64 h0
    have h2 := mx_pos (z := zB B) (M := MM (zB B) (opI B 6)) (s := s) (g := s) (by rw [h1.1, e]; rfl) s (Nat.le_refl _) (by omega)
    rw [if_pos ⟨e, by omega⟩, if_pos e, MM_s h64 h0, hsub, e]; rfl
  · rw [if_neg (fun x => e x.1), if_neg e]
theorem rsets_l {B : Nat → Int} {b : Nat → Int32} (hB : BB B) (hb : ∀ p, p < 6 → b p = zI (B p)) (kx : (Nat → Int32) → (Nat → Int32) → RTy) : ∀ (r fuel s : Nat) (su pa : Nat → Int32), s + r = 64 → 0 < s → r < fuel → (∀ j, j < s → su j = zI (ssum B j 6)) → (∀ j, j < s → pa j = pv B j) →
    ∃ su' pa', fX9_groups_L53 kx b (nI (opI B 6)) fuel (nI s) su pa = kx su' pa' ∧ SM B su' ∧ ∀ j, j < 64 → pa' j = pv B j
  | 0, fuel, s, su, pa, he, h0, hf, h1, h2 => by
    obtain ⟨f, rfl⟩ : ∃ f, fuel = f + 1 := ⟨fuel - 1, by omega⟩
    rw [fX9_groups_L53, if_pos (e64 (by omega) (by omega))]
    exact ⟨su, pa, rfl, fun j hj => h1 j (by omega), fun j hj => h2 j (by omega)⟩
  | r + 1, fuel, s, su, pa, he, h0, hf, h1, h2 => by
    obtain ⟨f, rfl⟩ : ∃ f, fuel = f + 1 := ⟨fuel - 1, by omega⟩
    have h64 : s < 64 := by omega
    have hr := rest_lt h64 h0
    have hd := dif_lt h64 (opI_6 B)
    have hlw := lwS_lt s
    rw [fX9_groups_L53, if_neg (g64 h64), low_n h64 h0]
    simp only [Option.bind_some]
    rw [sb_rest h64 h0, gA_n (by omega) (by decide), gA_n hlw (by decide), gA_n h64 (by decide), gA_n h64 (by decide), nI_clamp (by omega), nI_clamp (by omega), nI_clamp (by omega), h1 _ hr, hb _ hlw, zI_add, ← ssum_low h64 h0, sb_dif h64 (opI_6 B), nI_1]
    have su1 : ∀ j, j < s + 1 → upd su s (zI (ssum B s 6)) j = zI (ssum B j 6) := by
      intro j hj
      rw [up_eq]
      by_cases e : j = s
      · rw [if_pos e, e]
      · rw [if_neg e]; exact h1 j (by omega)
    by_cases e1 : dif s (opI B 6) = 0
    · have hsub := (sub_dif h64 (opI_6 B)).mp e1
      rw [if_pos (by rw [e1]; rfl)]
      -- sums beyond s are read never: a full table of the same values
      have key : ∀ (r2 fuel k : Nat) (pa : Nat → Int32), k + r2 = s → r2 < fuel → ∀ (kz : (Nat → Int32) → RTy), fX9_groups_L108 kz (upd su s (zI (ssum B s 6))) (nI s) (nI (lwS s)) fuel (nI (k + 1)) pa = fX9_groups_L108 kz (fun j => zI (ssum B j 6)) (nI s) (nI (lwS s)) fuel (nI (k + 1)) pa := by
        intro r2
        induction r2 with
        | zero =>
          intro fuel k pa hk hf kz
          obtain ⟨f, rfl⟩ : ∃ f, fuel = f + 1 := ⟨fuel - 1, by omega⟩
          rw [fX9_groups_L108, fX9_groups_L108, if_pos (nI_lt (by omega) (by omega)), if_pos (nI_lt (by omega) (by omega))]
        | succ r2 ih =>
          intro fuel k pa hk hf kz
          obtain ⟨f, rfl⟩ : ∃ f, fuel = f + 1 := ⟨fuel - 1, by omega⟩
          rw [fX9_groups_L108, fX9_groups_L108, if_neg (nI_nlt (by omega) (by omega)), if_neg (nI_nlt (by omega) (by omega))]
          simp only [nI_1, nI_clamp (show k + 1 < 2 ^ 31 by omega), su1 (k + 1) (by omega), fun pa => ih f (k + 1) pa (by omega) (by omega) kz]
      rw [show ∀ kz pa, fX9_groups_L108 kz (upd su s (zI (ssum B s 6))) (nI s) (nI (lwS s)) 400 1 pa = fX9_groups_L108 kz (fun j => zI (ssum B j 6)) (nI s) (nI (lwS s)) 400 (nI (0 + 1)) pa from fun kz pa => key s 400 0 pa (by omega) (by omega) kz]
      obtain ⟨pa', a1, a2, a3⟩ := rparts_l (su := fun j => zI (ssum B j 6)) hB (fun j _ => rfl) h64 h0 hsub (fun (u_parts_25 : (Nat → Int32)) => fX9_groups_L53 kx b (nI (opI B 6)) f (nI (s + 1)) (upd su s (zI (ssum B s 6))) u_parts_25) s 400 0 (upd pa s (-1)) (by omega) (by omega) (fun j hj => by rw [up_eq, if_neg (by omega)]; exact h2 j hj) (by
        rw [up_eq, if_pos rfl]
        unfold av
        rw [if_neg (fun x => by have := x.2; simp only [mx] at this; omega)])
      rw [a1]
      refine rsets_l hB hb kx r f (s + 1) _ pa' (by omega) (by omega) (by omega) su1 (fun j hj => ?_)
      by_cases e : j = s
      · rw [e, a3, av_end h64 h0 hsub]
      · exact a2 j (by omega)
    · rw [if_neg (by rw [nI_e0 (by omega)]; exact e1)]
      refine rsets_l hB hb kx r f (s + 1) _ _ (by omega) (by omega) (by omega) su1 (fun j hj => ?_)
      rw [up_eq]
      by_cases e : j = s
      · rw [if_pos e, e]
        unfold pv
        rw [if_neg (fun x => by rw [Bool.and_eq_true] at x; exact e1 ((sub_dif h64 (opI_6 B)).mpr x.1))]
      · rw [if_neg e]; exact h2 j (by omega)
theorem rfg_l {B : Nat → Int} {su pa : Nat → Int32} (hB : BB B) (hs : SM B su) (hp : ∀ j, j < 64 → pa j = pv B j) {s : Nat} (hR : RS B s) (h0 : 0 < s) (kx : Int32 → RTy) : ∀ (r fuel g : Nat), 0 < g → g + r = s → r < fuel → (∀ x, 1 ≤ x → x < g → ¬ ((gq x s && zB B x) = true ∧ 1 + MM (zB B) (opI B 6) (dif s x) = MM (zB B) (opI B 6) s)) →
    fX9_groups_L219 kx su pa (nI s) (nI (lwS s)) fuel (nI g) = kx (nI (fgS (zB B) (MM (zB B) (opI B 6)) s r g))
  | r, fuel, g, hg0, he, hf, hx => by
    obtain ⟨f, rfl⟩ : ∃ f, fuel = f + 1 := ⟨fuel - 1, by omega⟩
    obtain ⟨h64, hsub, hzs⟩ := id hR
    have hg : g < 64 := by omega
    have hd := dif_lt (s := g) (g := s) hg h64
    have hq := gq_r h64 hg
    have hM0 : MM (zB B) (opI B 6) s = mx (zB B) (MM (zB B) (opI B 6)) s s := by rw [MM_s h64 h0, hsub, hzs]; rfl
    have hb1 := MM_bd (zB B) (opI B 6) s
    have hb2 := MM_bd (zB B) (opI B 6) (dif s g)
    have hsp : pa s = nI (MM (zB B) (opI B 6) s) := by
      rw [hp s h64]; unfold pv; rw [hsub, hzs]; rfl
    have hself := gq_self h64 h0
    have hpos : 1 + MM (zB B) (opI B 6) (dif s s) ≤ MM (zB B) (opI B 6) s := by
      rw [hM0]
      exact mx_pos (by rw [hself.1, hzs]; rfl) s (Nat.le_refl _) (by omega)
    -- the end: the set itself
    have hend : r = 0 → (gq g s && zB B g) = true ∧ 1 + MM (zB B) (opI B 6) (dif s g) = MM (zB B) (opI B 6) s := by
      intro hr
      have hgs : g = s := by omega
      rw [hgs]
      refine ⟨by rw [hself.1, hzs]; rfl, ?_⟩
      obtain ⟨x, x1, x2, x3, x4⟩ := mx_att (z := zB B) (M := MM (zB B) (opI B 6)) (s := s) s (by omega)
      by_cases e : x = s
      · rw [e] at x4; omega
      · exact absurd ⟨x3, by omega⟩ (hx x x1 (by omega))
    have hdec : fgS (zB B) (MM (zB B) (opI B 6)) s r g = if (gq g s && zB B g) = true ∧ 1 + MM (zB B) (opI B 6) (dif s g) = MM (zB B) (opI B 6) s then g else fgS (zB B) (MM (zB B) (opI B 6)) s (r - 1) (g + 1) := by
      cases r with
      | zero => rw [if_pos (hend rfl)]; rfl
      | succ r => rfl
    have hno : ¬ ((gq g s && zB B g) = true ∧ 1 + MM (zB B) (opI B 6) (dif s g) = MM (zB B) (opI B 6) s) → fX9_groups_L219 kx su pa (nI s) (nI (lwS s)) f (nI (g + 1)) = kx (nI (fgS (zB B) (MM (zB B) (opI B 6)) s r g)) := by
      intro hn
      rw [hdec, if_neg hn]
      match r, he, hf with
      | 0, he, hf => exact absurd (hend rfl) hn
      | r + 1, he, hf =>
        refine rfg_l hB hs hp hR h0 kx r f (g + 1) (by omega) (by omega) (by omega) (fun x x1 x2 => ?_)
        by_cases e : x = g
        · rw [e]; exact hn
        · exact hx x x1 (by omega)
    rw [fX9_groups_L219, sb_dif hg h64, sb_bit hg (lwS_lt s), nI_1]
    by_cases e1 : dif g s = 0
    · rw [if_pos (by rw [e1]; rfl)]
      by_cases e2 : g.testBit (lwS s) = true
      · have hgq := hq.mp ⟨e1, e2⟩
        rw [if_neg (by rw [bit0]; rw [e2]; decide), gA_n hg (by decide), nI_clamp (by omega)]
        by_cases e3 : zB B g = true
        · have hd2 := dif_lt h64 hg
          have hsd := sub_difs h64 hg (opI_6 B) hsub
          have hzd := zB_dif h64 hg hgq e3
          have hpv : pa (dif s g) = nI (MM (zB B) (opI B 6) (dif s g)) := by
            rw [hp _ hd2.1]
            unfold pv; rw [hsd, hzd, hzs]; rfl
          rw [if_pos ((SM_0 hB hs hg).mpr e3), sb_dif h64 hg, gA_n hd2.1 (by decide), gA_n h64 (by decide), nI_clamp (by omega), nI_clamp (by omega), hpv, hsp, nn1, pk_sub (by omega)]
          by_cases e4 : 1 + MM (zB B) (opI B 6) (dif s g) = MM (zB B) (opI B 6) s
          · rw [if_pos (by congr 1; omega), hdec, if_pos ⟨by rw [hgq, e3]; rfl, e4⟩]
          · rw [if_neg (by rw [nI_eq (by omega) (by omega)]; omega)]
            exact hno (fun x => e4 x.2)
        · rw [if_neg (fun x => e3 ((SM_0 hB hs hg).mp x))]
          exact hno (fun x => e3 (by have := x.1; rw [Bool.and_eq_true] at this; exact this.2))
      · rw [if_pos (by rw [bit0]; simpa using e2)]
        exact hno (fun x => e2 (hq.mpr (by have := x.1; rw [Bool.and_eq_true] at this; exact this.1)).2)
    · rw [if_neg (by rw [nI_e0 (by omega)]; exact e1)]
      exact hno (fun x => e1 (hq.mpr (by have := x.1; rw [Bool.and_eq_true] at this; exact this.1)).1)
theorem rpart_l {B : Nat → Int} {b su pa : Nat → Int32} (hB : BB B) (hs : SM B su) (hp : ∀ j, j < 64 → pa j = pv B j) : ∀ (f fuel k s : Nat) (G : List Nat) (gr : Nat → Int32), k + f = 3 → f < fuel → G.length = k → RS B s → pcS s + 2 * k ≤ 6 → LR gr 0 G →
    ∃ gr', fX9_groups_L205 b su pa fuel (nI s) (nI k) gr = some (nI (G ++ glS (zB B) (MM (zB B) (opI B 6)) f s).length, b, su, pa, gr') ∧ LR gr' 0 (G ++ glS (zB B) (MM (zB B) (opI B 6)) f s)
  | f, fuel, k, s, G, gr, he, hf, hG, hR, hpc, hg => by
    obtain ⟨fu, rfl⟩ : ∃ fu, fuel = fu + 1 := ⟨fuel - 1, by omega⟩
    have h1 := hR.1
    rw [fX9_groups_L205]
    by_cases e : s = 0
    · rw [if_pos (by rw [e]; rfl)]
      have : glS (zB B) (MM (zB B) (opI B 6)) f s = [] := by
        cases f with
        | zero => rfl
        | succ f => unfold glS; rw [if_pos e]
      rw [this, List.append_nil, hG]
      exact ⟨gr, rfl, hg⟩
    · obtain ⟨n1, n2, n3, n4⟩ := RS_next (M := MM (zB B) (opI B 6)) hR (by omega)
      match f, he, hf with
      | 0, he, hf => omega
      | f + 1, he, hf =>
        have hlw := lw_bit h1 (show 0 < s by omega)
        have h2l : 1 ≤ 2 ^ lwS s := Nat.one_le_two_pow
        rw [if_neg (by rw [nI_e0 (by omega)]; exact e), low_n h1 (by omega)]
        simp only [Option.bind_some]
        rw [sb_one (lwS_lt s), rfg_l hB hs hp hR (by omega) _ (s - 2 ^ lwS s) 400 (2 ^ lwS s) (by omega) (by omega) (by omega) (fun x x1 x2 h => by
          have := (gq_fact (g := x) (s := s) h1 (by omega) (by omega) (by have := h.1; rw [Bool.and_eq_true] at this; exact this.1)).2.2.1
          omega), ← fgr_low h1 (by omega)]
        rw [gA_n (by omega) (by decide), sb_dif h1 n1, nI_1, nI_clamp (by omega)]
        have hl : LR (upd gr k (nI (fgr (zB B) (MM (zB B) (opI B 6)) s))) 0 (G ++ [fgr (zB B) (MM (zB B) (opI B 6)) s]) := by
          rw [LR_app]
          refine ⟨LR_upd G 0 (Or.inr (by omega)) hg, ?_, trivial⟩
          rw [up_eq, if_pos (by omega)]
        obtain ⟨gr', a1, a2⟩ := rpart_l (b := b) hB hs hp f fu (k + 1) (dif s (fgr (zB B) (MM (zB B) (opI B 6)) s)) (G ++ [fgr (zB B) (MM (zB B) (opI B 6)) s]) _ (by omega) (by omega) (by rw [List.length_append, hG]; rfl) n2 (by omega) hl
        refine ⟨gr', ?_, ?_⟩
        · rw [a1]
          simp only [glS]
          rw [if_neg e, List.append_assoc]; rfl
        · simp only [glS]
          rw [if_neg e]
          rw [List.append_assoc] at a2
          exact a2
/-- the reference's groups -/
theorem groups_r {n : Nat} {v : Nat → Nat} {L : List Nat} {ow b su pa gr : Nat → Int32} (hn : n ≤ 6) (ho : ∀ k, k < 36 → ow k = nI (v k)) (hW : DebW n v L) :
    ∃ z, fX9_groups (nI n) ow b su pa gr = some z ∧ z.1 = nI (gsB (bal v)).length ∧ (∀ p, p < 6 → z.2.1 p = zI (bal v p)) ∧ LR z.2.2.2.2 0 (gsB (bal v)) := by
  obtain ⟨b', a1, a2⟩ := bals_n (b := b) hn ho hW.out
  have hB := BB_bal hW.1
  have hop : opI (bal v) 6 = opI (bal v) n := by
    have := opI_n (B := bal v) (fun p h1 h2 => bal_out hW.out h2 h1) (6 - n) (by omega)
    rwa [show n + (6 - n) = 6 from by omega] at this
  unfold fX9_groups
  rw [a1]
  simp only [Option.bind_some]
  rw [show fX9_groups_L8 _ (nI n) b' 400 0 0 = _ from ropen_l hn hB a2 _ n 400 0 (by omega) (by omega), ← hop, gA_0 (by decide) (by decide), gA_0 (by decide) (by decide), c0]
  obtain ⟨su', pa', b1, b2, b3⟩ := rsets_l hB a2 (fun (u_sum_26 : (Nat → Int32)) (u_parts_26 : (Nat → Int32)) => fX9_groups_L205 b' u_sum_26 u_parts_26 400 (nI (opI (bal v) 6)) 0 gr) 63 400 1 (upd su 0 0) (upd pa 0 0) rfl (by decide) (by decide) (fun j hj => by
    rw [show j = 0 from by omega, up_eq, if_pos rfl, ssum_0]; rfl) (fun j hj => by
    rw [show j = 0 from by omega, up_eq, if_pos rfl]
    unfold pv zB
    rw [ssum_0, MM_0, show sub 0 (opI (bal v) 6) = true from sub_of (by decide) (opI_6 _) (fun x _ h => by simp at h)]; rfl)
  rw [show (1 : Int32) = nI 1 from rfl, b1]
  obtain ⟨gr', c1, c2⟩ := rpart_l (b := b') hB b2 b3 3 400 0 (opI (bal v) 6) [] gr rfl (by decide) rfl (RS_0 hB) (pc_le _) trivial
  refine ⟨_, c1, rfl, a2, c2⟩
end
