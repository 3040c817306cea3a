section
/-! ===== each call: told, events, books ===== -/
theorem EvR.clear {n : Nat} {num mum : Nat → Int32} : EvR n 0 num 0 mum := ⟨0, Nat.zero_le _, rfl, rfl, fun k hk => absurd hk (Nat.not_lt_zero _)⟩
theorem EvR.add {n t : Nat} {num mum : Nat → Int32} (h : ∀ k, k < t → num (3 * k) = mum (2 * k) ∧ num (3 * k + 1) = mum (2 * k + 1) ∧ ((∃ q, q < n ∧ num (3 * k + 1) = nI q ∧ (num (3 * k) = 0 ∨ num (3 * k) = 1)) ∨ (∃ r, r ≤ 3 ∧ num (3 * k + 1) = nI r ∧ num (3 * k) = 2) ∨ num (3 * k) = 3)) (ht : t < 8) (x y z : Int32) (hxy : (∃ q, q < n ∧ y = nI q ∧ (x = 0 ∨ x = 1)) ∨ (∃ r, r ≤ 3 ∧ y = nI r ∧ x = 2) ∨ x = 3) :
    EvR n (nI (t + 1)) (upd (upd (upd num (3 * t) x) (3 * t + 1) y) (3 * t + 2) z) (nI (t + 1)) (upd (upd mum (2 * t) x) (2 * t + 1) y) := by
  refine ⟨t + 1, ht, rfl, rfl, fun k hk => ?_⟩
  by_cases e : k = t
  · have h1 : upd (upd (upd num (3 * t) x) (3 * t + 1) y) (3 * t + 2) z (3 * k) = x := by
      rw [up_eq, if_neg (by omega), up_eq, if_neg (by omega), up_eq, if_pos (by omega)]
    have h2 : upd (upd (upd num (3 * t) x) (3 * t + 1) y) (3 * t + 2) z (3 * k + 1) = y := by
      rw [up_eq, if_neg (by omega), up_eq, if_pos (by omega)]
    have h3 : upd (upd mum (2 * t) x) (2 * t + 1) y (2 * k) = x := by
      rw [up_eq, if_neg (by omega), up_eq, if_pos (by omega)]
    have h4 : upd (upd mum (2 * t) x) (2 * t + 1) y (2 * k + 1) = y := by
      rw [up_eq, if_pos (by omega)]
    rw [h1, h2, h3, h4]
    exact ⟨rfl, rfl, hxy⟩
  · have h1 : upd (upd (upd num (3 * t) x) (3 * t + 1) y) (3 * t + 2) z (3 * k) = num (3 * k) := by
      rw [up_eq, if_neg (by omega), up_eq, if_neg (by omega), up_eq, if_neg (by omega)]
    have h2 : upd (upd (upd num (3 * t) x) (3 * t + 1) y) (3 * t + 2) z (3 * k + 1) = num (3 * k + 1) := by
      rw [up_eq, if_neg (by omega), up_eq, if_neg (by omega), up_eq, if_neg (by omega)]
    have h3 : upd (upd mum (2 * t) x) (2 * t + 1) y (2 * k) = mum (2 * k) := by
      rw [up_eq, if_neg (by omega), up_eq, if_neg (by omega)]
    have h4 : upd (upd mum (2 * t) x) (2 * t + 1) y (2 * k + 1) = mum (2 * k + 1) := by
      rw [up_eq, if_neg (by omega), up_eq, if_neg (by omega)]
    rw [h1, h2, h3, h4]
    exact h k (by omega)
/-- a row of events comes: both alike -/
theorem eadd {n : Nat} {sz ms : Int32} {num mum : Nat → Int32} (hE : EvR n sz num ms mum) (x y : Int32) (hxy : (∃ q, q < n ∧ y = nI q ∧ (x = 0 ∨ x = 1)) ∨ (∃ r, r ≤ 3 ∧ y = nI r ∧ x = 2) ∨ x = 3) :
    ∃ zc zm : Int32 × Int32 × (Nat → Int32), fX5_add 24 8 sz num x y 0 = some zc ∧ (if ms = 8 then (some ((-4), ms, mum)) else (gA (2 * ms) 16 (gA ((2 * ms) + 1) 16 (some (ms + 1, ms + 1, upd (upd mum (2 * ms : Int32).toNatClampNeg x) ((2 * ms) + 1 : Int32).toNatClampNeg y))))) = some zm ∧ zc.1 = zm.1 ∧ EvR n zc.2.1 zc.2.2 zm.2.1 zm.2.2 := by
  obtain ⟨t, ht, rfl, rfl, h⟩ := id hE
  by_cases e : t = 8
  · rw [show fX5_add 24 8 (nI t) num x y 0 = _ from add_f (R := 8) (by omega) (by omega) _ _ _, if_pos (show nI t = (8 : Int32) by rw [e]; rfl)]
    exact ⟨_, _, rfl, rfl, rfl, hE⟩
  · rw [show fX5_add 24 8 (nI t) num x y 0 = _ from add_n (R := 8) (by decide) (by decide) (by omega) _ _ _, if_neg (show ¬ nI t = (8 : Int32) from fun q => e ((nI_eq (b := 8) (by omega) (by decide)).mp q)), nn2, pk_mul, show nI (2 * t) + 1 = nI (2 * t + 1) from nI_1 _, gA_n (by omega) (by decide), gA_n (by omega) (by decide), nI_clamp (by omega), nI_clamp (by omega), nI_1]
    exact ⟨_, _, rfl, rfl, rfl, EvR.add h (by omega) _ _ _ hxy⟩
abbrev HTy : Type := Int32 × (Nat → Int32) × (Nat → Int32) × Int32 × Int32 × Int32 × Int32 × (Nat → Int32) × (Nat → Int32) × (Nat → Int32) × Int32 × (Nat → Int32) × (Nat → Int32) × (Nat → Int32) × (Nat → Int32) × (Nat → Int32) × Int32 × (Nat → Int32)
theorem hap_n {n : Nat} {re md : Nat → Int32} (x1 x2 x3 x4 x5 x6 : Int32) (hn : n ≤ 6) (hC : ConR n re md) {v : Nat → Nat} {L : List Nat} {sz : Int32} {ow od : Nat → Int32} (c1 c2 c3 c4 : Int32) (c5 c6 c7 : Nat → Int32) (c8 : Int32) (c9 c10 c11 c12 c13 : Nat → Int32) (c14 : Int32) (c15 : Nat → Int32) {ms : Int32} {mo mr : Nat → Int32} (d1 d2 d3 d4 : Int32) (d5 : Int64) (d6 d7 : Int32) (d8 d9 d10 d11 d12 d13 d14 d15 : Nat → Int32) (hW : DebW n v L) (hR1 : DebR sz ow od v L) (hR2 : DebR ms mo mr v L) (x y : Int32) (hxy : (∃ q, q < n ∧ y = nI q ∧ (x = 0 ∨ x = 1)) ∨ (∃ r, r ≤ 3 ∧ y = nI r ∧ x = 2) ∨ x = 3) :
    ∃ zc zm, fX8_happen 18 re sz ow od c1 c2 c3 c4 c5 c6 c7 c8 c9 c10 c11 c12 c13 6 c14 c15 x y = some zc ∧ fX9_happens (nI n) ms x1 x2 x3 x4 x5 d1 d2 d3 d4 d5 d6 d7 x6 mo md mr d8 d9 d10 d11 d12 d13 d14 d15 x y = some zm ∧ ∃ w M, DebW n w M ∧ DebR zc.1 zc.2.1 zc.2.2.1 w M ∧ DebR zm.1 zm.2.2.2.2.2.2.2.2.1 zm.2.2.2.2.2.2.2.2.2.1 w M := by
  unfold fX8_happen fX9_happens
  rcases hxy with ⟨q, hq, rfl, rfl | rfl⟩ | ⟨r, hr, rfl, rfl⟩ | rfl
  · obtain ⟨z, a1, a2, a3⟩ := clby_n (p := q) (S := (v, L)) (by omega) hW hR1
    obtain ⟨u, b1, b2⟩ := rcl_n (p := q) (b := 0) (f := fby q) (S := (v, L)) (Or.inl ⟨rfl, rfl⟩) hn (by omega) hW hR2
    rw [if_pos rfl, if_pos rfl, a1, b1]
    exact ⟨_, _, rfl, rfl, _, _, a3, a2, b2⟩
  · obtain ⟨z, a1, a2, a3⟩ := clto_n (p := q) (S := (v, L)) (by omega) hW hR1
    obtain ⟨u, b1, b2⟩ := rcl_n (p := q) (b := 1) (f := fto q) (S := (v, L)) (Or.inr ⟨rfl, rfl⟩) hn (by omega) hW hR2
    simp only [on0, if_false, if_true]
    rw [a1, b1]
    exact ⟨_, _, rfl, rfl, _, _, a3, a2, b2⟩
  · obtain ⟨z, a1, a2, a3, a4⟩ := search_r (rule := r) (st := c5) (pa := c6) (tk := c7) (re := re) hr hW hR1.2.1
    obtain ⟨u, b1, b2, b3, b4⟩ := cuts_n (rule := r) (pa := d8) (ra := d9) (le := d4) x1 x2 x3 x4 x5 d6 d7 x6 hn hr hC hW hR2
    obtain ⟨w, g1, g2, g3⟩ := cutc_n (n := n) (rule := r) (re := re) hW hR1 a4
    simp only [show ((2 : Int32) = 0) = False from by decide, show ((2 : Int32) = 1) = False from by decide, if_false, if_true]
    rw [a1, b1]
    simp only [Option.bind_some]
    rw [a2, a3, g1]
    exact ⟨_, _, rfl, rfl, _, _, g3, g2, b3⟩
  · obtain ⟨z, a1, a2, a3⟩ := bp_n (ba := c9) (lf := c10) (su := c11) (mo := c12) (gr := c13) (num := c15) hn hW hR1
    obtain ⟨u, b1, b2, b3⟩ := rset_n (ba := d10) (lf := d11) (su := d12) (pa := d13) (gr := d14) (num := d15) hn hW hR2
    simp only [show ((3 : Int32) = 0) = False from by decide, show ((3 : Int32) = 1) = False from by decide, show ((3 : Int32) = 2) = False from by decide, if_false, if_true]
    rw [a1, b1]
    exact ⟨_, _, rfl, rfl, _, _, stl_W hn hW, a3, b3⟩
theorem after_l {n t : Nat} {re md : Nat → Int32} (x1 x2 x3 x4 x5 : Int32) (hn : n ≤ 6) (hC : ConR n re md) (ht : t ≤ 8) {num mum : Nat → Int32} (hnum : ∀ k, k < t → num (3 * k) = mum (2 * k) ∧ num (3 * k + 1) = mum (2 * k + 1) ∧ ((∃ q, q < n ∧ num (3 * k + 1) = nI q ∧ (num (3 * k) = 0 ∨ num (3 * k) = 1)) ∨ (∃ r, r ≤ 3 ∧ num (3 * k + 1) = nI r ∧ num (3 * k) = 2) ∨ num (3 * k) = 3)) (kc : Int32 → (Nat → Int32) → (Nat → Int32) → Int32 → Int32 → Int32 → Int32 → (Nat → Int32) → (Nat → Int32) → (Nat → Int32) → Int32 → (Nat → Int32) → (Nat → Int32) → (Nat → Int32) → (Nat → Int32) → (Nat → Int32) → Int32 → (Nat → Int32) → Option (Int32 × Int32 × (Nat → Int32) × (Nat → Int32) × Int32 × Int32 × Int32 × Int32 × (Nat → Int32) × (Nat → Int32) × (Nat → Int32) × Int32 × (Nat → Int32) × (Nat → Int32) × (Nat → Int32) × (Nat → Int32) × (Nat → Int32) × Int32 × (Nat → Int32)))
    (kr : Int32 → Int32 → Int32 → Int32 → Int32 → Int64 → Int32 → Int32 → (Nat → Int32) → (Nat → Int32) → (Nat → Int32) → (Nat → Int32) → (Nat → Int32) → (Nat → Int32) → (Nat → Int32) → (Nat → Int32) → (Nat → Int32) → (Nat → Int32) → Option (Int32 × Int32 × Int32 × Int32 × Int32 × Int32 × Int64 × Int32 × Int32 × (Nat → Int32) × (Nat → Int32) × (Nat → Int32) × (Nat → Int32) × (Nat → Int32) × (Nat → Int32) × (Nat → Int32) × (Nat → Int32) × (Nat → Int32) × (Nat → Int32) × (Nat → Int32))) : ∀ (r fuel k : Nat) (v : Nat → Nat) (L : List Nat) (sz : Int32) (ow od : Nat → Int32) (c1 c2 c3 c4 : Int32) (c5 c6 c7 : Nat → Int32) (c8 : Int32) (c9 c10 c11 c12 c13 : Nat → Int32) (c14 : Int32) (c15 : Nat → Int32) (ms : Int32) (mo mr : Nat → Int32) (d1 d2 d3 d4 : Int32) (d5 : Int64) (d6 d7 : Int32) (d8 d9 d10 d11 d12 d13 d14 d15 : Nat → Int32), k + r = t → r < fuel → DebW n v L → DebR sz ow od v L → DebR ms mo mr v L →
    ∃ (w : Nat → Nat) (M : List Nat) (p1 : Int32) (p2 p3 : Nat → Int32) (p4 p5 p6 p7 : Int32) (p8 p9 p10 : Nat → Int32) (p11 : Int32) (p12 p13 p14 p15 p16 : Nat → Int32) (p17 : Int32) (p18 : Nat → Int32) (q1 q2 q3 q4 q5 : Int32) (q6 : Int64) (q7 q8 : Int32) (q9 q10 q11 q12 q13 q14 q15 q16 q17 q18 : Nat → Int32), DebW n w M ∧ DebR p1 p2 p3 w M ∧ DebR q1 q9 q10 w M ∧ fX8_after_L27 kc 24 18 re (nI t) num 6 fuel (nI k) sz ow od c1 c2 c3 c4 c5 c6 c7 c8 c9 c10 c11 c12 c13 c14 c15 = kc p1 p2 p3 p4 p5 p6 p7 p8 p9 p10 p11 p12 p13 p14 p15 p16 p17 p18 ∧ fX9_after_L17 kr (nI n) x1 x2 (nI t) x3 x4 x5 md mum fuel (nI k) ms d1 d2 d3 d4 d5 d6 d7 mo mr d8 d9 d10 d11 d12 d13 d14 d15 = kr q1 q2 q3 q4 q5 q6 q7 q8 q9 q10 q11 q12 q13 q14 q15 q16 q17 q18
  | 0, fuel, k, v, L, sz, ow, od, c1, c2, c3, c4, c5, c6, c7, c8, c9, c10, c11, c12, c13, c14, c15, ms, mo, mr, d1, d2, d3, d4, d5, d6, d7, d8, d9, d10, d11, d12, d13, d14, d15, he, hf, hW, hR1, hR2 => by
    obtain ⟨f, rfl⟩ : ∃ f, fuel = f + 1 := ⟨fuel - 1, by omega⟩
    rw [fX8_after_L27, fX9_after_L17, fX5_size]
    simp only [Option.bind_some]
    rw [if_pos (nI_le (by omega) (by omega)), if_pos (nI_le (by omega) (by omega))]
    exact ⟨v, L, _, _, _, _, _, _, _, _, _, _, _, _, _, _, _, _, _, _, _, _, _, _, _, _, _, _, _, _, _, _, _, _, _, _, _, _, hW, hR1, hR2, rfl, rfl⟩
  | r + 1, fuel, k, v, L, sz, ow, od, c1, c2, c3, c4, c5, c6, c7, c8, c9, c10, c11, c12, c13, c14, c15, ms, mo, mr, d1, d2, d3, d4, d5, d6, d7, d8, d9, d10, d11, d12, d13, d14, d15, he, hf, hW, hR1, hR2 => by
    obtain ⟨f, rfl⟩ : ∃ f, fuel = f + 1 := ⟨fuel - 1, by omega⟩
    obtain ⟨h1, h2, h3⟩ := hnum k (by omega)
    rw [fX8_after_L27, fX9_after_L17, fX5_size]
    simp only [Option.bind_some]
    rw [if_neg (nI_ge (by omega) (by omega)), if_neg (nI_ge (by omega) (by omega)), show fX5_at 24 (nI t) num (nI k) 0 = _ from at_n (w := 0) (by omega) (by decide) (by omega) (by decide), show fX5_at 24 (nI t) num (nI k) 1 = _ from at_n (w := 1) (by omega) (by decide) (by omega) (by decide)]
    simp only [Option.bind_some, Nat.add_zero]
    rw [nn2, pk_mul, show nI (2 * k) + 1 = nI (2 * k + 1) from nI_1 _, gA_n (by omega) (by decide), gA_n (by omega) (by decide), nI_clamp (by omega), nI_clamp (by omega), ← h1, ← h2, nI_1]
    obtain ⟨zc, zm, a1, a2, w, M, a3, a4, a5⟩ := hap_n x1 x2 (nI t) x3 x4 x5 hn hC c1 c2 c3 c4 c5 c6 c7 c8 c9 c10 c11 c12 c13 c14 c15 d1 d2 d3 d4 d5 d6 d7 d8 d9 d10 d11 d12 d13 d14 d15 hW hR1 hR2 (num (3 * k)) (num (3 * k + 1)) h3
    rw [a1, a2]
    simp only [Option.bind_some]
    exact after_l x1 x2 x3 x4 x5 hn hC ht hnum kc kr r f (k + 1) _ _ _ _ _ _ _ _ _ _ _ _ _ _ _ _ _ _ _ _ _ _ _ _ _ _ _ _ _ _ _ _ _ _ _ _ _ _ (by omega) (by omega) a3 a4 a5
set_option maxHeartbeats 1000000 in
theorem p_event {u_isKept u_now_people u_now_debts_size : Int32} {u_now_debts_owed u_now_debts_order u_now_consents_refused : (Nat → Int32)} {u_now_trail_size : Int32} {u_now_trail_numbers : (Nat → Int32)} {u_now_seen_size : Int32} {u_now_seen_numbers : (Nat → Int32)} {u_now_events_size : Int32} {u_now_events_numbers : (Nat → Int32)} {u_now_book_size : Int32} {u_now_book_numbers : (Nat → Int32)} {u_kept_people u_kept_debts_size : Int32} {u_kept_debts_owed u_kept_debts_order u_kept_consents_refused : (Nat → Int32)} {u_kept_trail_size : Int32} {u_kept_trail_numbers : (Nat → Int32)} {u_kept_seen_size : Int32} {u_kept_seen_numbers : (Nat → Int32)} {u_kept_events_size : Int32} {u_kept_events_numbers : (Nat → Int32)} {u_kept_book_size : Int32} {u_kept_book_numbers : (Nat → Int32)} {u_text_size : Int32} {u_text_signs : (Nat → Int32)} {uM_people uM_debts uM_cuts uM_seen uM_events uM_inBook uM_texted uM_imaged : Int32} {uM_owes uM_denies uM_debt uM_cut uM_sight uM_event uM_book uM_text uM_image uM_tapeSort uM_tapeSize : (Nat → Int32)} {uM_items : (Nat → Int64)} {ts tl : (Nat → Int32)} {ti : (Nat → Nat → Int64)} (x1 : Int32) (x2 : Int32) (hR : Rel u_now_people u_now_debts_size u_now_debts_owed u_now_debts_order u_now_consents_refused u_now_trail_size u_now_trail_numbers u_now_seen_size u_now_seen_numbers u_now_events_size u_now_events_numbers u_now_book_size u_now_book_numbers u_isKept u_kept_people u_kept_debts_size u_kept_debts_owed u_kept_debts_order u_kept_consents_refused u_kept_trail_size u_kept_trail_numbers u_kept_seen_size u_kept_seen_numbers u_kept_events_size u_kept_events_numbers u_kept_book_size u_kept_book_numbers u_text_size u_text_signs ts tl ti uM_people uM_owes uM_denies uM_debts uM_debt uM_cuts uM_cut uM_seen uM_sight uM_events uM_event uM_inBook uM_book uM_texted uM_text uM_imaged uM_image uM_tapeSort uM_tapeSize uM_items) :
    ∃ (zc : (Int32 × Int32 × (Nat → Int32))) (zm : (Int32 × Int32 × (Nat → Int32))), fX8_event 24 u_now_people 8 u_now_events_size u_now_events_numbers x1 x2 = some zc ∧ fX9_event uM_people uM_events uM_event x1 x2 = some zm ∧ zc.1 = zm.1 ∧ Rel u_now_people u_now_debts_size u_now_debts_owed u_now_debts_order u_now_consents_refused u_now_trail_size u_now_trail_numbers u_now_seen_size u_now_seen_numbers zc.2.1 zc.2.2 u_now_book_size u_now_book_numbers u_isKept u_kept_people u_kept_debts_size u_kept_debts_owed u_kept_debts_order u_kept_consents_refused u_kept_trail_size u_kept_trail_numbers u_kept_seen_size u_kept_seen_numbers u_kept_events_size u_kept_events_numbers u_kept_book_size u_kept_book_numbers u_text_size u_text_signs ts tl ti uM_people uM_owes uM_denies uM_debts uM_debt uM_cuts uM_cut uM_seen uM_sight zm.2.1 zm.2.2 uM_inBook uM_book uM_texted uM_text uM_imaged uM_image uM_tapeSort uM_tapeSize uM_items := by
  obtain ⟨⟨n, v, L, hn, rfl, rfl, hW, hR1, hR2, hC, hT, hS, hE, hB⟩, hK, hX, hQ⟩ := id hR
  unfold fX8_event fX9_event fX5_clear
  have fin : ∀ zc zm : Int32 × Int32 × (Nat → Int32), EvR n zc.2.1 zc.2.2 zm.2.1 zm.2.2 → Rel (nI n) u_now_debts_size u_now_debts_owed u_now_debts_order u_now_consents_refused u_now_trail_size u_now_trail_numbers u_now_seen_size u_now_seen_numbers zc.2.1 zc.2.2 u_now_book_size u_now_book_numbers u_isKept u_kept_people u_kept_debts_size u_kept_debts_owed u_kept_debts_order u_kept_consents_refused u_kept_trail_size u_kept_trail_numbers u_kept_seen_size u_kept_seen_numbers u_kept_events_size u_kept_events_numbers u_kept_book_size u_kept_book_numbers u_text_size u_text_signs ts tl ti (nI n) uM_owes uM_denies uM_debts uM_debt uM_cuts uM_cut uM_seen uM_sight zm.2.1 zm.2.2 uM_inBook uM_book uM_texted uM_text uM_imaged uM_image uM_tapeSort uM_tapeSize uM_items := fun zc zm h => ⟨⟨n, v, L, hn, rfl, rfl, hW, hR1, hR2, hC, hT, hS, h, hB⟩, hK, hX, hQ⟩
  by_cases m1 : x1 = -1
  · simp only [if_pos m1, Option.bind_some]
    exact ⟨_, _, rfl, rfl, rfl, fin _ (0, 0, uM_event) EvR.clear⟩
  · simp only [if_neg m1]
    rcases wi 0 3 (by decide) (by decide) x1 with ⟨a, _, ha, rfl, e⟩ | ⟨h, e⟩
    · rw [show fX9_within (nI a) 0 3 = some 1 from e]
      simp only [Option.bind_some, on0, if_false]
      rcases (show a = 0 ∨ a = 1 ∨ a = 2 ∨ a = 3 by omega) with rfl | rfl | rfl | rfl
      · rw [if_pos (show nI 0 = (0 : Int32) from rfl), if_neg (show ¬ (2 : Int32) ≤ nI 0 by decide), if_neg (show ¬ nI 0 = (2 : Int32) by decide)]
        rcases px n hn x2 with ⟨q, hq, rfl, e1, e2⟩ | ⟨_, e1, e2⟩
        · rw [e1, e2]
          simp only [Option.bind_some, on0, if_false]
          obtain ⟨zc, zm, a1, a2, a3, a4⟩ := eadd hE (nI 0) (nI q) (Or.inl ⟨q, hq, rfl, Or.inl rfl⟩)
          rw [a1, a2]
          exact ⟨_, _, rfl, rfl, a3, fin zc zm a4⟩
        · rw [e1, e2]
          simp only [Option.bind_some, on1, if_true]
          exact ⟨_, _, rfl, rfl, rfl, hR⟩
      · rw [if_neg (show ¬ nI 1 = (0 : Int32) by decide), if_pos (show nI 1 = (1 : Int32) from rfl), if_neg (show ¬ (2 : Int32) ≤ nI 1 by decide), if_neg (show ¬ nI 1 = (2 : Int32) by decide)]
        rcases px n hn x2 with ⟨q, hq, rfl, e1, e2⟩ | ⟨_, e1, e2⟩
        · rw [e1, e2]
          simp only [Option.bind_some, on0, if_false]
          obtain ⟨zc, zm, a1, a2, a3, a4⟩ := eadd hE (nI 1) (nI q) (Or.inl ⟨q, hq, rfl, Or.inr rfl⟩)
          rw [a1, a2]
          exact ⟨_, _, rfl, rfl, a3, fin zc zm a4⟩
        · rw [e1, e2]
          simp only [Option.bind_some, on1, if_true]
          exact ⟨_, _, rfl, rfl, rfl, hR⟩
      · rw [if_neg (show ¬ nI 2 = (0 : Int32) by decide), if_neg (show ¬ nI 2 = (1 : Int32) by decide), if_pos (show nI 2 = (2 : Int32) from rfl), if_pos (show (2 : Int32) ≤ nI 2 by decide), if_pos (show nI 2 = (2 : Int32) from rfl)]
        rcases rule_n x2 with ⟨r, hr, rfl, e1, e2⟩ | ⟨e1, e2⟩
        · rw [e1, e2]
          simp only [Option.bind_some, on0, if_false]
          obtain ⟨zc, zm, a1, a2, a3, a4⟩ := eadd hE (nI 2) (nI r) (Or.inr (Or.inl ⟨r, hr, rfl, rfl⟩))
          rw [a1, a2]
          exact ⟨_, _, rfl, rfl, a3, fin zc zm a4⟩
        · rw [e1, e2]
          simp only [Option.bind_some, on1, if_true]
          exact ⟨_, _, rfl, rfl, rfl, hR⟩
      · rw [if_neg (show ¬ nI 3 = (0 : Int32) by decide), if_neg (show ¬ nI 3 = (1 : Int32) by decide), if_neg (show ¬ nI 3 = (2 : Int32) by decide), if_pos (show nI 3 = (3 : Int32) from rfl), if_pos (show (2 : Int32) ≤ nI 3 by decide), if_neg (show ¬ nI 3 = (2 : Int32) by decide)]
        obtain ⟨zc, zm, a1, a2, a3, a4⟩ := eadd hE (nI 3) x2 (Or.inr (Or.inr rfl))
        rw [a1, a2]
        exact ⟨_, _, rfl, rfl, a3, fin zc zm a4⟩
    · have hno : ∀ a : Nat, a ≤ 3 → ¬ x1 = nI a := fun a ha q => by
        rw [q] at h
        rcases h with h | h
        · exact absurd h (nI_pos (by omega))
        · exact absurd h.2 (nI_nlt ha (by decide))
      rw [show fX9_within x1 0 3 = some 0 from e, if_neg (show ¬ x1 = 0 from hno 0 (by decide)), if_neg (show ¬ x1 = 1 from hno 1 (by decide)), if_neg (show ¬ x1 = 2 from hno 2 (by decide)), if_neg (show ¬ x1 = 3 from hno 3 (by decide))]
      simp only [Option.bind_some, on1, if_true]
      exact ⟨_, _, rfl, rfl, rfl, hR⟩
set_option maxHeartbeats 1000000 in
theorem p_looked {u_isKept u_now_people u_now_debts_size : Int32} {u_now_debts_owed u_now_debts_order u_now_consents_refused : (Nat → Int32)} {u_now_trail_size : Int32} {u_now_trail_numbers : (Nat → Int32)} {u_now_seen_size : Int32} {u_now_seen_numbers : (Nat → Int32)} {u_now_events_size : Int32} {u_now_events_numbers : (Nat → Int32)} {u_now_book_size : Int32} {u_now_book_numbers : (Nat → Int32)} {u_kept_people u_kept_debts_size : Int32} {u_kept_debts_owed u_kept_debts_order u_kept_consents_refused : (Nat → Int32)} {u_kept_trail_size : Int32} {u_kept_trail_numbers : (Nat → Int32)} {u_kept_seen_size : Int32} {u_kept_seen_numbers : (Nat → Int32)} {u_kept_events_size : Int32} {u_kept_events_numbers : (Nat → Int32)} {u_kept_book_size : Int32} {u_kept_book_numbers u_netting_balances u_netting_left u_netting_sums u_netting_most u_netting_groups u_netting_payments_numbers : (Nat → Int32)} {u_text_size : Int32} {u_text_signs : (Nat → Int32)} {uM_people uM_debts uM_cuts uM_seen uM_events uM_inBook uM_texted uM_imaged : Int32} {uM_owes uM_denies uM_debt uM_cut uM_sight uM_event uM_book uM_text uM_balance uM_left uM_sum uM_parts uM_group uM_payment uM_image uM_tapeSort uM_tapeSize : (Nat → Int32)} {uM_items : (Nat → Int64)} {ts tl : (Nat → Int32)} {ti : (Nat → Nat → Int64)} (hR : Rel u_now_people u_now_debts_size u_now_debts_owed u_now_debts_order u_now_consents_refused u_now_trail_size u_now_trail_numbers u_now_seen_size u_now_seen_numbers u_now_events_size u_now_events_numbers u_now_book_size u_now_book_numbers u_isKept u_kept_people u_kept_debts_size u_kept_debts_owed u_kept_debts_order u_kept_consents_refused u_kept_trail_size u_kept_trail_numbers u_kept_seen_size u_kept_seen_numbers u_kept_events_size u_kept_events_numbers u_kept_book_size u_kept_book_numbers u_text_size u_text_signs ts tl ti uM_people uM_owes uM_denies uM_debts uM_debt uM_cuts uM_cut uM_seen uM_sight uM_events uM_event uM_inBook uM_book uM_texted uM_text uM_imaged uM_image uM_tapeSort uM_tapeSize uM_items) :
    ∃ (zc : (Int32 × Int32 × (Nat → Int32) × (Nat → Int32) × (Nat → Int32) × (Nat → Int32) × (Nat → Int32) × Int32 × (Nat → Int32))) (zm : (Int32 × Int32 × Int32 × (Nat → Int32) × (Nat → Int32) × (Nat → Int32) × (Nat → Int32) × (Nat → Int32) × (Nat → Int32))), fX8_looked 24 18 u_now_debts_owed u_now_book_size u_now_book_numbers u_netting_balances u_netting_left u_netting_sums u_netting_most u_netting_groups 6 u_netting_payments_numbers = some zc ∧ fX9_looked uM_people uM_inBook uM_owes uM_book uM_balance uM_left uM_sum uM_parts uM_group uM_payment = some zm ∧ zc.1 = zm.1 ∧ Rel u_now_people u_now_debts_size u_now_debts_owed u_now_debts_order u_now_consents_refused u_now_trail_size u_now_trail_numbers u_now_seen_size u_now_seen_numbers u_now_events_size u_now_events_numbers u_now_book_size u_now_book_numbers u_isKept u_kept_people u_kept_debts_size u_kept_debts_owed u_kept_debts_order u_kept_consents_refused u_kept_trail_size u_kept_trail_numbers u_kept_seen_size u_kept_seen_numbers u_kept_events_size u_kept_events_numbers u_kept_book_size u_kept_book_numbers u_text_size u_text_signs ts tl ti uM_people uM_owes uM_denies uM_debts uM_debt uM_cuts uM_cut uM_seen uM_sight uM_events uM_event uM_inBook uM_book uM_texted uM_text uM_imaged uM_image uM_tapeSort uM_tapeSize uM_items := by
  obtain ⟨⟨n, v, L, hn, rfl, rfl, hW, hR1, hR2, hC, hT, hS, hE, hB⟩, hK, hX, hQ⟩ := id hR
  obtain ⟨t, ht, rfl, rfl, hx⟩ := id hB
  obtain ⟨z, a1, a2, a3, a4, a5⟩ := net_n (ba := u_netting_balances) (lf := u_netting_left) (su := u_netting_sums) (mo := u_netting_most) (gr := u_netting_groups) (num := u_netting_payments_numbers) hn hR1.2.1 hW
  obtain ⟨⟨y1, y2, y3, y4, y5, y6, y7, y8⟩, b1, b2, b3⟩ := payments_n (ba := uM_balance) (lf := uM_left) (su := uM_sum) (pa := uM_parts) (gr := uM_group) (num := uM_payment) hn hR2.2.1 hW
  have hI := PG_PI hn hW
  have hl : (PG v).2.length ≤ 6 := by have := hI.2.2.2; omega
  unfold fX8_looked fX9_looked fX8_firstUnpaid
  rw [a1, b1]
  simp only [Option.bind_some]
  rw [show fX8_firstUnpaid_L2 18 24 z.2.2.2.2.2.2.1 z.2.2.2.2.2.2.2 (nI t) u_now_book_numbers 400 0 = _ from fu_l (t := t) hl a5 (by omega) (by decide) t 400 0 (by omega) (by omega), show fX9_looked_L6 (nI t) y1 y2 uM_book y3 y4 y5 y6 y7 y8 400 0 = _ from lk_l (t := t) y1 y3 y4 y5 y6 y7 hl b3 ht t 400 0 (by omega) (by omega), fuI_cong hx t 0 (by omega)]
  exact ⟨_, _, rfl, rfl, rfl, hR⟩
set_option maxHeartbeats 1000000 in
theorem p_told {u_isKept u_now_people u_now_debts_size : Int32} {u_now_debts_owed u_now_debts_order u_now_consents_refused : (Nat → Int32)} {u_now_trail_size : Int32} {u_now_trail_numbers : (Nat → Int32)} {u_now_seen_size : Int32} {u_now_seen_numbers : (Nat → Int32)} {u_now_events_size : Int32} {u_now_events_numbers : (Nat → Int32)} {u_now_book_size : Int32} {u_now_book_numbers : (Nat → Int32)} {u_kept_people u_kept_debts_size : Int32} {u_kept_debts_owed u_kept_debts_order u_kept_consents_refused : (Nat → Int32)} {u_kept_trail_size : Int32} {u_kept_trail_numbers : (Nat → Int32)} {u_kept_seen_size : Int32} {u_kept_seen_numbers : (Nat → Int32)} {u_kept_events_size : Int32} {u_kept_events_numbers : (Nat → Int32)} {u_kept_book_size : Int32} {u_kept_book_numbers : (Nat → Int32)} {u_rings_rule u_rings_found u_rings_size u_rings_least : Int32} {u_rings_steps u_rings_path u_rings_taken : (Nat → Int32)} {u_netting_groupCount : Int32} {u_netting_balances u_netting_left u_netting_sums u_netting_most u_netting_groups : (Nat → Int32)} {u_netting_payments_size : Int32} {u_netting_payments_numbers : (Nat → Int32)} {u_text_size : Int32} {u_text_signs : (Nat → Int32)} {uM_people uM_debts uM_cuts uM_seen uM_events uM_inBook uM_texted uM_rule uM_rings uM_size uM_least : Int32} {uM_worth : Int64} {uM_groups uM_paid uM_imaged : Int32} {uM_owes uM_denies uM_debt uM_cut uM_sight uM_event uM_book uM_text uM_path uM_ring uM_balance uM_left uM_sum uM_parts uM_group uM_payment uM_image uM_tapeSort uM_tapeSize : (Nat → Int32)} {uM_items : (Nat → Int64)} {ts tl : (Nat → Int32)} {ti : (Nat → Nat → Int64)} (x1 : Int32) (hR : Rel u_now_people u_now_debts_size u_now_debts_owed u_now_debts_order u_now_consents_refused u_now_trail_size u_now_trail_numbers u_now_seen_size u_now_seen_numbers u_now_events_size u_now_events_numbers u_now_book_size u_now_book_numbers u_isKept u_kept_people u_kept_debts_size u_kept_debts_owed u_kept_debts_order u_kept_consents_refused u_kept_trail_size u_kept_trail_numbers u_kept_seen_size u_kept_seen_numbers u_kept_events_size u_kept_events_numbers u_kept_book_size u_kept_book_numbers u_text_size u_text_signs ts tl ti uM_people uM_owes uM_denies uM_debts uM_debt uM_cuts uM_cut uM_seen uM_sight uM_events uM_event uM_inBook uM_book uM_texted uM_text uM_imaged uM_image uM_tapeSort uM_tapeSize uM_items) :
    ∃ (zc : (Int32 × Int32 × Int32 × Int32 × Int32 × (Nat → Int32) × (Nat → Int32) × (Nat → Int32) × Int32 × (Nat → Int32) × (Nat → Int32) × (Nat → Int32) × (Nat → Int32) × (Nat → Int32) × Int32 × (Nat → Int32))) (zm : (Int32 × Int32 × Int32 × Int32 × Int32 × Int64 × Int32 × Int32 × (Nat → Int32) × (Nat → Int32) × (Nat → Int32) × (Nat → Int32) × (Nat → Int32) × (Nat → Int32) × (Nat → Int32) × (Nat → Int32))), fX8_told 18 u_now_people u_now_debts_size u_now_debts_owed u_now_consents_refused u_now_trail_size u_rings_rule u_rings_found u_rings_size u_rings_least u_rings_steps u_rings_path u_rings_taken u_netting_groupCount u_netting_balances u_netting_left u_netting_sums u_netting_most u_netting_groups 6 u_netting_payments_size u_netting_payments_numbers x1 = some zc ∧ fX9_told uM_people uM_debts uM_cuts uM_seen uM_events uM_inBook uM_texted uM_rule uM_rings uM_size uM_least uM_worth uM_groups uM_paid uM_imaged uM_owes uM_denies uM_debt uM_path uM_ring uM_balance uM_left uM_sum uM_parts uM_group uM_payment x1 = some zm ∧ zc.1 = zm.1 ∧ Rel u_now_people u_now_debts_size u_now_debts_owed u_now_debts_order u_now_consents_refused u_now_trail_size u_now_trail_numbers u_now_seen_size u_now_seen_numbers u_now_events_size u_now_events_numbers u_now_book_size u_now_book_numbers u_isKept u_kept_people u_kept_debts_size u_kept_debts_owed u_kept_debts_order u_kept_consents_refused u_kept_trail_size u_kept_trail_numbers u_kept_seen_size u_kept_seen_numbers u_kept_events_size u_kept_events_numbers u_kept_book_size u_kept_book_numbers u_text_size u_text_signs ts tl ti uM_people uM_owes uM_denies uM_debts uM_debt uM_cuts uM_cut uM_seen uM_sight uM_events uM_event uM_inBook uM_book uM_texted uM_text uM_imaged uM_image uM_tapeSort uM_tapeSize uM_items := by
  obtain ⟨⟨n, v, L, hn, rfl, rfl, hW, hR1, hR2, hC, hT, hS, hE, hB⟩, hK, hX, hQ⟩ := id hR
  have hlen := hW.len
  have hsz : u_now_debts_size = uM_debts := by rw [hR1.1, hR2.1]
  obtain ⟨tt, _, rfl, rfl, _⟩ := id hT
  have hBB := BB_bal hW.1
  have hI := PG_PI hn hW
  have hI2 := PW2_PI (re := u_now_consents_refused) hn hW
  obtain ⟨z, a1, a2, a3, a4, a5⟩ := net_n (ba := u_netting_balances) (lf := u_netting_left) (su := u_netting_sums) (mo := u_netting_most) (gr := u_netting_groups) (num := u_netting_payments_numbers) hn hR1.2.1 hW
  obtain ⟨w, c1, c2⟩ := cwill_n (ba := u_netting_balances) (lf := u_netting_left) (num := u_netting_payments_numbers) (re := u_now_consents_refused) hn hR1.2.1 hW
  unfold fX8_told fX9_told fX8_toldOfPayments fX8_toldOfWilling fX2_size fX4_found fX5_size fX3_totalAbove fX3_leftAbove fX3_groupCount
  by_cases n0 : x1 = 0
  · simp only [if_pos n0]
    exact ⟨_, _, rfl, rfl, rfl, hR⟩
  simp only [if_neg n0]
  by_cases n1 : x1 = 1
  · simp only [if_pos n1, Option.bind_some]
    exact ⟨_, _, rfl, rfl, hsz, hR⟩
  simp only [if_neg n1]
  by_cases n2 : x1 = 2
  · obtain ⟨y, b1, b2⟩ := search_f (re := u_now_consents_refused) (st := u_rings_steps) (pa := u_rings_path) (tk := u_rings_taken) hW hR1.2.1
    obtain ⟨u, d1, d2, d3, d4⟩ := takes_r (rule := 0) (pa := uM_path) (ra := uM_ring) (le := uM_least) uM_debts (nI tt) uM_seen uM_events uM_inBook uM_texted uM_groups uM_paid uM_imaged hn (by decide) hC hR2.2.1 hW
    simp only [if_pos n2]
    rw [b1, show fX9_takes (nI n) uM_debts (nI tt) uM_seen uM_events uM_inBook uM_texted uM_least uM_groups uM_paid uM_imaged uM_owes uM_denies uM_path uM_ring 0 = _ from d1]
    simp only [Option.bind_some]
    exact ⟨_, _, rfl, rfl, by show y.2.1 = u.2.2.1; rw [b2, d3], hR⟩
  simp only [if_neg n2]
  by_cases n3 : x1 = 3
  · simp only [if_pos n3, Option.bind_some]
    exact ⟨_, _, rfl, rfl, rfl, hR⟩
  simp only [if_neg n3]
  by_cases n4 : x1 = 4
  · simp only [if_pos n4]
    rw [ctot_n hR1.2.1, rtot_n hW hR2]
    exact ⟨_, _, rfl, rfl, rfl, hR⟩
  simp only [if_neg n4]
  by_cases n5 : x1 = 5
  · obtain ⟨u, d1, d2⟩ := rnet_n (b := uM_balance) (lf := uM_left) hn hW hR2.2.1
    simp only [if_pos n5]
    rw [a1, d1]
    simp only [Option.bind_some]
    rw [cab_n hBB.1 a3]
    exact ⟨_, _, rfl, rfl, by show zI _ = u.1; rw [d2], hR⟩
  simp only [if_neg n5]
  by_cases n6 : x1 = 6
  · obtain ⟨u, d1, d2⟩ := rop_n (b := uM_balance) hn hW hR2.2.1
    simp only [if_pos n6]
    rw [a1, d1]
    simp only [Option.bind_some]
    rw [open_n hBB a3]
    simp only [Option.bind_some]
    rw [bitc_n (opI_6 _), pc_op]
    exact ⟨_, _, rfl, rfl, by show nI _ = u.1; rw [d2], hR⟩
  simp only [if_neg n6]
  by_cases n7 : x1 = 7
  · obtain ⟨u, d1, d2, d3⟩ := groups_r (b := uM_balance) (su := uM_sum) (pa := uM_parts) (gr := uM_group) hn hR2.2.1 hW
    simp only [if_pos n7]
    rw [a1, d1]
    simp only [Option.bind_some]
    exact ⟨_, _, rfl, rfl, by show z.1 = u.1; rw [a2, d2], hR⟩
  simp only [if_neg n7]
  by_cases n8 : x1 = 8
  · obtain ⟨u, d1, d2⟩ := rfew_n (ba := uM_balance) (lf := uM_left) (su := uM_sum) (pa := uM_parts) (gr := uM_group) (num := uM_payment) hn hR2.2.1 hW
    simp only [if_pos n8]
    rw [a1, d1]
    simp only [Option.bind_some]
    exact ⟨_, _, rfl, rfl, by show z.2.2.2.2.2.2.1 = u.1; rw [d2, a5.2.1], hR⟩
  simp only [if_neg n8]
  by_cases n9 : x1 = 9
  · obtain ⟨u, d1, d2⟩ := rkp_n (ba := uM_balance) (lf := uM_left) (su := uM_sum) (pa := uM_parts) (gr := uM_group) (num := uM_payment) hn hC hR2.2.1 hW
    simp only [if_pos n9]
    rw [a1, d1]
    simp only [Option.bind_some]
    rw [ckp_n (re := u_now_consents_refused) hn hI a5]
    simp only [Option.bind_some]
    exact ⟨_, _, rfl, rfl, by show nI _ = u.1; rw [d2], hR⟩
  simp only [if_neg n9]
  by_cases n10 : x1 = 10
  · obtain ⟨u, d1, d2⟩ := rwill_n (ba := uM_balance) (lf := uM_left) (num := uM_payment) hn hC hR2.2.1 hW
    simp only [if_pos n10]
    rw [c1, d1]
    simp only [Option.bind_some]
    exact ⟨_, _, rfl, rfl, by show w.2.2.1 = u.1; rw [c2.2.1, d2.2.1], hR⟩
  simp only [if_neg n10]
  by_cases n11 : x1 = 11
  · obtain ⟨u, d1, d2⟩ := rwill_n (ba := uM_balance) (lf := uM_left) (num := uM_payment) hn hC hR2.2.1 hW
    simp only [if_pos n11]
    rw [c1, d1]
    simp only [Option.bind_some]
    rw [cab_n hI2.1 c2.1, rab_n hn hI2.1 hI2.2.1 d2.1]
    exact ⟨_, _, rfl, rfl, rfl, hR⟩
  simp only [if_neg n11]
  exact ⟨_, _, rfl, rfl, rfl, hR⟩
set_option maxHeartbeats 1000000 in
theorem p_after {u_isKept u_now_people u_now_debts_size : Int32} {u_now_debts_owed u_now_debts_order u_now_consents_refused : (Nat → Int32)} {u_now_trail_size : Int32} {u_now_trail_numbers : (Nat → Int32)} {u_now_seen_size : Int32} {u_now_seen_numbers : (Nat → Int32)} {u_now_events_size : Int32} {u_now_events_numbers : (Nat → Int32)} {u_now_book_size : Int32} {u_now_book_numbers : (Nat → Int32)} {u_kept_people u_kept_debts_size : Int32} {u_kept_debts_owed u_kept_debts_order u_kept_consents_refused : (Nat → Int32)} {u_kept_trail_size : Int32} {u_kept_trail_numbers : (Nat → Int32)} {u_kept_seen_size : Int32} {u_kept_seen_numbers : (Nat → Int32)} {u_kept_events_size : Int32} {u_kept_events_numbers : (Nat → Int32)} {u_kept_book_size : Int32} {u_kept_book_numbers : (Nat → Int32)} {u_supposed_size : Int32} {u_supposed_owed u_supposed_order : (Nat → Int32)} {u_rings_rule u_rings_found u_rings_size u_rings_least : Int32} {u_rings_steps u_rings_path u_rings_taken : (Nat → Int32)} {u_netting_groupCount : Int32} {u_netting_balances u_netting_left u_netting_sums u_netting_most u_netting_groups : (Nat → Int32)} {u_netting_payments_size : Int32} {u_netting_payments_numbers : (Nat → Int32)} {u_text_size : Int32} {u_text_signs : (Nat → Int32)} {uM_people uM_debts uM_cuts uM_seen uM_events uM_inBook uM_texted uM_rule uM_rings uM_size uM_least : Int32} {uM_worth : Int64} {uM_groups uM_paid uM_imaged : Int32} {uM_owes uM_denies uM_debt uM_cut uM_sight uM_event uM_book uM_text uM_path uM_ring uM_balance uM_left uM_sum uM_parts uM_group uM_payment uM_then uM_image uM_tapeSort uM_tapeSize : (Nat → Int32)} {uM_items : (Nat → Int64)} {ts tl : (Nat → Int32)} {ti : (Nat → Nat → Int64)} (x1 : Int32) (hR : Rel u_now_people u_now_debts_size u_now_debts_owed u_now_debts_order u_now_consents_refused u_now_trail_size u_now_trail_numbers u_now_seen_size u_now_seen_numbers u_now_events_size u_now_events_numbers u_now_book_size u_now_book_numbers u_isKept u_kept_people u_kept_debts_size u_kept_debts_owed u_kept_debts_order u_kept_consents_refused u_kept_trail_size u_kept_trail_numbers u_kept_seen_size u_kept_seen_numbers u_kept_events_size u_kept_events_numbers u_kept_book_size u_kept_book_numbers u_text_size u_text_signs ts tl ti uM_people uM_owes uM_denies uM_debts uM_debt uM_cuts uM_cut uM_seen uM_sight uM_events uM_event uM_inBook uM_book uM_texted uM_text uM_imaged uM_image uM_tapeSort uM_tapeSize uM_items) :
    ∃ (zc : (Int32 × Int32 × (Nat → Int32) × (Nat → Int32) × Int32 × Int32 × Int32 × Int32 × (Nat → Int32) × (Nat → Int32) × (Nat → Int32) × Int32 × (Nat → Int32) × (Nat → Int32) × (Nat → Int32) × (Nat → Int32) × (Nat → Int32) × Int32 × (Nat → Int32))) (zm : (Int32 × Int32 × Int32 × Int32 × Int32 × Int32 × Int64 × Int32 × Int32 × (Nat → Int32) × (Nat → Int32) × (Nat → Int32) × (Nat → Int32) × (Nat → Int32) × (Nat → Int32) × (Nat → Int32) × (Nat → Int32) × (Nat → Int32) × (Nat → Int32) × (Nat → Int32))), fX8_after 24 18 u_now_debts_size u_now_debts_owed u_now_debts_order u_now_consents_refused u_now_events_size u_now_events_numbers u_supposed_size u_supposed_owed u_supposed_order u_rings_rule u_rings_found u_rings_size u_rings_least u_rings_steps u_rings_path u_rings_taken u_netting_groupCount u_netting_balances u_netting_left u_netting_sums u_netting_most u_netting_groups 6 u_netting_payments_size u_netting_payments_numbers x1 = some zc ∧ fX9_after uM_people uM_debts uM_cuts uM_seen uM_events uM_inBook uM_texted uM_rule uM_rings uM_size uM_least uM_worth uM_groups uM_paid uM_imaged uM_owes uM_denies uM_debt uM_event uM_path uM_ring uM_balance uM_left uM_sum uM_parts uM_group uM_payment uM_then x1 = some zm ∧ zc.1 = zm.1 ∧ Rel u_now_people u_now_debts_size u_now_debts_owed u_now_debts_order u_now_consents_refused u_now_trail_size u_now_trail_numbers u_now_seen_size u_now_seen_numbers u_now_events_size u_now_events_numbers u_now_book_size u_now_book_numbers u_isKept u_kept_people u_kept_debts_size u_kept_debts_owed u_kept_debts_order u_kept_consents_refused u_kept_trail_size u_kept_trail_numbers u_kept_seen_size u_kept_seen_numbers u_kept_events_size u_kept_events_numbers u_kept_book_size u_kept_book_numbers u_text_size u_text_signs ts tl ti uM_people zm.2.2.2.2.2.2.2.2.2.1 uM_denies zm.2.1 zm.2.2.2.2.2.2.2.2.2.2.1 uM_cuts uM_cut uM_seen uM_sight uM_events uM_event uM_inBook uM_book uM_texted uM_text uM_imaged uM_image uM_tapeSort uM_tapeSize uM_items := by
  obtain ⟨⟨n, v, L, hn, rfl, rfl, hW, hR1, hR2, hC, hT, hS, hE, hB⟩, hK, hX, hQ⟩ := id hR
  obtain ⟨t, ht, rfl, rfl, hx⟩ := id hE
  unfold fX8_after fX9_after
  rcases wi 0 2 (by decide) (by decide) x1 with ⟨q, _, hq, rfl, e⟩ | ⟨h, e⟩
  · obtain ⟨z, a1, a2⟩ := take_n (o := u_supposed_owed) (d := u_supposed_order) hW hR1
    obtain ⟨y, b1, b2⟩ := keeps_n (sz := uM_debts) (ow := uM_owes) (od := uM_debt) (t := uM_then)
    rw [show fX9_within (nI q) 0 2 = some 1 from e, if_neg (nI_pos (by omega)), if_pos (show nI q ≤ (2 : Int32) from nI_le hq (by decide)), a1]
    simp only [Option.bind_some, on0, if_false]
    rw [b1]
    simp only [Option.bind_some]
    have key := fun kc kr => after_l (t := t) uM_cuts uM_seen uM_inBook uM_texted uM_imaged hn hC ht hx kc kr t 400 0 v L z.1 z.2.1 z.2.2 u_rings_rule u_rings_found u_rings_size u_rings_least u_rings_steps u_rings_path u_rings_taken u_netting_groupCount u_netting_balances u_netting_left u_netting_sums u_netting_most u_netting_groups u_netting_payments_size u_netting_payments_numbers uM_debts uM_owes uM_debt uM_rule uM_rings uM_size uM_least uM_worth uM_groups uM_paid uM_path uM_ring uM_balance uM_left uM_sum uM_parts uM_group uM_payment (by omega) (by omega) hW a2 hR2
    rw [show (0 : Int32) = nI 0 from rfl] at *
    obtain ⟨w, M, p1, p2, p3, p4, p5, p6, p7, p8, p9, p10, p11, p12, p13, p14, p15, p16, p17, p18, q1, q2, q3, q4, q5, q6, q7, q8, q9, q10, q11, q12, q13, q14, q15, q16, q17, q18, k1, k2, k3, k4, k5⟩ := key _ _
    rw [k4, k5]
    obtain ⟨u, u1, u2⟩ := returns_n (o := q9) (d := q10) hW hR2 b2
    by_cases e0 : nI q = nI 0
    · simp only [if_pos e0]
      rw [ctot_n k2.2.1, rtot_n k1 k3]
      simp only [Option.bind_some]
      rw [u1]
      exact ⟨_, _, rfl, rfl, rfl, ⟨n, v, L, hn, rfl, rfl, hW, hR1, u2, hC, hT, hS, hE, hB⟩, hK, hX, hQ⟩
    · simp only [if_neg e0]
      by_cases e1 : nI q = 1
      · simp only [if_pos e1]
        rw [u1]
        exact ⟨_, _, rfl, rfl, by show p1 = q1; rw [k2.1, k3.1], ⟨n, v, L, hn, rfl, rfl, hW, hR1, u2, hC, hT, hS, hE, hB⟩, hK, hX, hQ⟩
      · simp only [if_neg e1]
        obtain ⟨g, g1, g2⟩ := few_n (ba := p12) (lf := p13) (su := p14) (mo := p15) (gr := p16) (num := p18) hn k2.2.1 k1
        obtain ⟨h, h1, h2⟩ := rfew_n (ba := q13) (lf := q14) (su := q15) (pa := q16) (gr := q17) (num := q18) hn k3.2.1 k1
        rw [g1, h1]
        simp only [Option.bind_some]
        rw [u1]
        exact ⟨_, _, rfl, rfl, by show g.1 = h.1; rw [g2, h2], ⟨n, v, L, hn, rfl, rfl, hW, hR1, u2, hC, hT, hS, hE, hB⟩, hK, hX, hQ⟩
  · rw [show fX9_within x1 0 2 = some 0 from e]
    simp only [Option.bind_some, on1, if_true]
    rcases h with h | ⟨h, h2⟩
    · rw [if_pos (show x1 < 0 from h)]
      exact ⟨_, _, rfl, rfl, rfl, hR⟩
    · rw [if_neg (show ¬ x1 < 0 from h), if_neg (show ¬ x1 ≤ 2 from lt_nle h2)]
      exact ⟨_, _, rfl, rfl, rfl, hR⟩
end
