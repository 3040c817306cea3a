section
/-! ===== each call: rings, balances, payments ===== -/
theorem rule_n (x : Int32) : (∃ r, r ≤ 3 ∧ x = nI r ∧ fX8_isRule x = some 1 ∧ fX9_within x 0 3 = some 1) ∨ (fX8_isRule x = some 0 ∧ fX9_within x 0 3 = some 0) := by
  unfold fX8_isRule
  rcases wi 0 3 (by decide) (by decide) x with ⟨r, _, hr, rfl, e⟩ | ⟨h, e⟩
  · left
    refine ⟨r, hr, rfl, ?_, e⟩
    rw [if_neg (nI_pos (by omega)), if_neg (show ¬ (3 : Int32) < nI r from nI_nlt hr (by decide))]
  · right
    refine ⟨?_, e⟩
    rcases h with h | ⟨h, h2⟩
    · rw [if_pos (show x < 0 from h)]
    · rw [if_neg (show ¬ x < 0 from h), if_pos (show (3 : Int32) < x from h2)]
theorem rT_len {rule : Nat} {re : Nat → Int32} {v : Nat → Nat} : (rT rule re v).length ≤ 6 := by
  rcases rT_ok (rule := rule) (re := re) (v := v) with h | h
  · rw [h]; decide
  · exact h.2.1
theorem full_n {t : Nat} (ht : t ≤ 40) : fX5_isFull 40 (nI t) = some (if t = 40 then 1 else 0) := by
  unfold fX5_isFull
  by_cases e : t = 40
  · rw [if_pos e, e, if_neg (by decide)]
  · rw [if_neg e, if_pos (show nI t < (40 : Int32) from nI_lt (b := 40) (by omega) (by decide))]
theorem cut_l {n rule m : Nat} {re md : Nat → Int32} (x1 x2 x3 x4 x5 x6 x7 : Int32) (hn : n ≤ 6) (hr : rule ≤ 3) (hm : m ≤ 40) (hC : ConR n re md) : ∀ (r fuel k : Nat) (v : Nat → Nat) (L : List Nat) (sz : Int32) (ow od : Nat → Int32) (tz : Int32) (tn : Nat → Int32) (c1 c2 c3 c4 : Int32) (c5 c6 c7 : Nat → Int32) (ms : Int32) (mo mr : Nat → Int32) (mt : Int32) (mn : Nat → Int32) (d1 d2 d3 d4 : Int32) (d5 : Int64) (d6 d7 : Nat → Int32), k + r = m → r < fuel → DebW n v L → DebR sz ow od v L → DebR ms mo mr v L → RowR 40 tz tn mt mn →
    ∃ zc zm, fX8_cut_L22 120 re 40 (nI rule) (nI m) fuel (nI k) sz ow od tz tn c1 c2 c3 c4 c5 c6 c7 = some zc ∧ fX9_cut_L24 (nI n) x1 x2 x3 x4 x5 x6 x7 md (nI rule) (nI m) fuel (nI k) ms mt d1 d2 d3 d4 d5 mo mr mn d6 d7 = some zm ∧ zc.1 = zm.1 ∧ ∃ (w : Nat → Nat) (M : List Nat), DebW n w M ∧ DebR zc.2.1 zc.2.2.1 zc.2.2.2.1 w M ∧ DebR zm.2.1 zm.2.2.2.2.2.2.2.2.1 zm.2.2.2.2.2.2.2.2.2.1 w M ∧ RowR 40 zc.2.2.2.2.1 zc.2.2.2.2.2.1 zm.2.2.1 zm.2.2.2.2.2.2.2.2.2.2.1 ∧ ∃ q : Nat, q ≤ m ∧ zc.1 = nI q
  | 0, fuel, k, v, L, sz, ow, od, tz, tn, c1, c2, c3, c4, c5, c6, c7, ms, mo, mr, mt, mn, d1, d2, d3, d4, d5, d6, d7, he, hf, hW, hR1, hR2, hT => by
    obtain ⟨f, rfl⟩ : ∃ f, fuel = f + 1 := ⟨fuel - 1, by omega⟩
    rw [fX8_cut_L22, fX9_cut_L24, if_pos (nI_le (by omega) (by omega)), if_pos (nI_le (by omega) (by omega))]
    exact ⟨_, _, rfl, rfl, by show nI m = nI k; rw [show k = m from by omega], v, L, hW, hR1, hR2, hT, m, Nat.le_refl _, rfl⟩
  | r + 1, fuel, k, v, L, sz, ow, od, tz, tn, c1, c2, c3, c4, c5, c6, c7, ms, mo, mr, mt, mn, d1, d2, d3, d4, d5, d6, d7, he, hf, hW, hR1, hR2, hT => by
    obtain ⟨f, rfl⟩ : ∃ f, fuel = f + 1 := ⟨fuel - 1, by omega⟩
    obtain ⟨t, ht, rfl, rfl, hx⟩ := id hT
    have hlen := rT_len (rule := rule) (re := re) (v := v)
    obtain ⟨z, a1, a2, a3, a4⟩ := search_r (st := c5) (pa := c6) (tk := c7) (re := re) hr hW hR1.2.1
    rw [fX8_cut_L22, fX9_cut_L24, if_neg (nI_ge (by omega) (by omega)), if_neg (nI_ge (by omega) (by omega)), a1]
    simp only [Option.bind_some, fX4_size, fX4_least, a2, a3, nI_e0 (show (rT rule re v).length < 2 ^ 31 by omega)]
    rw [full_n ht]
    simp only [Option.bind_some]
    by_cases e40 : t = 40
    · rw [if_pos (show (40 : Int32) ≤ nI t by rw [e40]; decide)]
      by_cases e : (rT rule re v).length = 0
      · rw [if_pos e]
        exact ⟨_, _, rfl, rfl, rfl, v, L, hW, hR1, hR2, hT, k, by omega, rfl⟩
      · rw [if_neg e, if_pos e40, if_neg (by decide)]
        exact ⟨_, _, rfl, rfl, rfl, v, L, hW, hR1, hR2, hT, k, by omega, rfl⟩
    · rw [if_neg (show ¬ (40 : Int32) ≤ nI t from nI_ge (b := 40) (by omega) (by decide)), if_neg e40]
      obtain ⟨y, b1, b2, b3, b4⟩ := cuts_n (pa := d6) (ra := d7) (le := d4) (nI t) x1 x2 x3 x4 x5 x6 x7 hn hr hC hW hR2
      rw [b1]
      simp only [Option.bind_some, b2]
      by_cases e : rT rule re v = []
      · rw [if_pos (show (rT rule re v).length = 0 by rw [e]; rfl), if_pos e, if_pos rfl]
        rw [e] at b3
        exact ⟨_, _, rfl, rfl, rfl, v, L, hW, hR1, b3, hT, k, by omega, rfl⟩
      · have hl0 : ¬ (rT rule re v).length = 0 := fun h => e (List.length_eq_zero_iff.mp h)
        obtain ⟨w, g1, g2, g3⟩ := cutc_n (n := n) (rule := rule) (re := re) hW hR1 a4
        obtain ⟨b5, b6⟩ := b4 e
        rw [if_neg hl0, if_pos trivial, if_neg e, if_neg (by decide), g1]
        simp only [Option.bind_some]
        rw [show fX5_add 120 40 (nI t) tn (nI rule) (nI (rT rule re v).length) (nI (ls v (rT rule re v))) = _ from add_n (R := 40) (by decide) (by decide) (by omega) _ _ _, b5, b6, nn3, pk_mul, show nI (3 * t) + 1 = nI (3 * t + 1) from nI_1 _, show nI (3 * t) + 2 = nI (3 * t + 2) from nI_add _ 2, gA_n (by omega) (by decide), gA_n (by omega) (by decide), gA_n (by omega) (by decide), nI_clamp (by omega), nI_clamp (by omega), nI_clamp (by omega), nI_1, nI_1]
        exact cut_l x1 x2 x3 x4 x5 x6 x7 hn hr hm hC r f (k + 1) _ _ _ _ _ _ _ _ _ _ _ _ _ _ _ _ _ _ _ _ _ _ _ _ _ _ (by omega) (by omega) g3 g2 b3 (RowR.add hx (by omega) _ _ _)
set_option maxHeartbeats 1000000 in
theorem p_cut {u_isKept u_now_people u_now_debts_size : Int32} {u_now_debts_owed u_now_debts_order u_now_consents_refused : (Nat → Int32)} {u_now_trail_size : Int32} {u_now_trail_numbers : (Nat → Int32)} {u_now_seen_size : Int32} {u_now_seen_numbers : (Nat → Int32)} {u_now_events_size : Int32} {u_now_events_numbers : (Nat → Int32)} {u_now_book_size : Int32} {u_now_book_numbers : (Nat → Int32)} {u_kept_people u_kept_debts_size : Int32} {u_kept_debts_owed u_kept_debts_order u_kept_consents_refused : (Nat → Int32)} {u_kept_trail_size : Int32} {u_kept_trail_numbers : (Nat → Int32)} {u_kept_seen_size : Int32} {u_kept_seen_numbers : (Nat → Int32)} {u_kept_events_size : Int32} {u_kept_events_numbers : (Nat → Int32)} {u_kept_book_size : Int32} {u_kept_book_numbers : (Nat → Int32)} {u_rings_rule u_rings_found u_rings_size u_rings_least : Int32} {u_rings_steps u_rings_path u_rings_taken : (Nat → Int32)} {u_text_size : Int32} {u_text_signs : (Nat → Int32)} {uM_people uM_debts uM_cuts uM_seen uM_events uM_inBook uM_texted uM_rule uM_rings uM_size uM_least : Int32} {uM_worth : Int64} {uM_groups uM_paid uM_imaged : Int32} {uM_owes uM_denies uM_debt uM_cut uM_sight uM_event uM_book uM_text uM_path uM_ring uM_image uM_tapeSort uM_tapeSize : (Nat → Int32)} {uM_items : (Nat → Int64)} {ts tl : (Nat → Int32)} {ti : (Nat → Nat → Int64)} (x1 : Int32) (x2 : Int32) (hR : Rel u_now_people u_now_debts_size u_now_debts_owed u_now_debts_order u_now_consents_refused u_now_trail_size u_now_trail_numbers u_now_seen_size u_now_seen_numbers u_now_events_size u_now_events_numbers u_now_book_size u_now_book_numbers u_isKept u_kept_people u_kept_debts_size u_kept_debts_owed u_kept_debts_order u_kept_consents_refused u_kept_trail_size u_kept_trail_numbers u_kept_seen_size u_kept_seen_numbers u_kept_events_size u_kept_events_numbers u_kept_book_size u_kept_book_numbers u_text_size u_text_signs ts tl ti uM_people uM_owes uM_denies uM_debts uM_debt uM_cuts uM_cut uM_seen uM_sight uM_events uM_event uM_inBook uM_book uM_texted uM_text uM_imaged uM_image uM_tapeSort uM_tapeSize uM_items) :
    ∃ (zc : (Int32 × Int32 × (Nat → Int32) × (Nat → Int32) × Int32 × (Nat → Int32) × Int32 × Int32 × Int32 × Int32 × (Nat → Int32) × (Nat → Int32) × (Nat → Int32))) (zm : (Int32 × Int32 × Int32 × Int32 × Int32 × Int32 × Int32 × Int64 × (Nat → Int32) × (Nat → Int32) × (Nat → Int32) × (Nat → Int32) × (Nat → Int32))), fX8_cut 120 u_now_debts_size u_now_debts_owed u_now_debts_order u_now_consents_refused 40 u_now_trail_size u_now_trail_numbers u_rings_rule u_rings_found u_rings_size u_rings_least u_rings_steps u_rings_path u_rings_taken x1 x2 = some zc ∧ fX9_cut uM_people uM_debts uM_cuts uM_seen uM_events uM_inBook uM_texted uM_rule uM_rings uM_size uM_least uM_worth uM_groups uM_paid uM_imaged uM_owes uM_denies uM_debt uM_cut uM_path uM_ring x1 x2 = some zm ∧ zc.1 = zm.1 ∧ Rel u_now_people zc.2.1 zc.2.2.1 zc.2.2.2.1 u_now_consents_refused zc.2.2.2.2.1 zc.2.2.2.2.2.1 u_now_seen_size u_now_seen_numbers u_now_events_size u_now_events_numbers u_now_book_size u_now_book_numbers u_isKept u_kept_people u_kept_debts_size u_kept_debts_owed u_kept_debts_order u_kept_consents_refused u_kept_trail_size u_kept_trail_numbers u_kept_seen_size u_kept_seen_numbers u_kept_events_size u_kept_events_numbers u_kept_book_size u_kept_book_numbers u_text_size u_text_signs ts tl ti uM_people zm.2.2.2.2.2.2.2.2.1 uM_denies zm.2.1 zm.2.2.2.2.2.2.2.2.2.1 zm.2.2.1 zm.2.2.2.2.2.2.2.2.2.2.1 uM_seen uM_sight uM_events uM_event uM_inBook uM_book uM_texted uM_text uM_imaged uM_image uM_tapeSort uM_tapeSize uM_items := by
  obtain ⟨⟨n, v, L, hn, rfl, rfl, hW, hR1, hR2, hC, hT, hS, hE, hB⟩, hK, hX, hQ⟩ := id hR
  unfold fX8_cut fX9_cut
  rcases rule_n x1 with ⟨r, hr, rfl, e1, e2⟩ | ⟨e1, e2⟩
  · rw [e1, e2]
    simp only [Option.bind_some, on0, if_false]
    rcases wi 0 40 (by decide) (by decide) x2 with ⟨m, _, hm, rfl, e⟩ | ⟨h, e⟩
    · rw [show fX9_within (nI m) 0 40 = some 1 from e, if_neg (nI_pos (by omega)), if_pos (show nI m ≤ (40 : Int32) from nI_le hm (by decide))]
      simp only [Option.bind_some, on0, if_false]
      obtain ⟨zc, zm, a1, a2, a3, w, M, b1, b2, b3, b4, _⟩ := cut_l (rule := r) uM_seen uM_events uM_inBook uM_texted uM_groups uM_paid uM_imaged hn hr hm hC m 400 0 v L _ _ _ _ _ u_rings_rule u_rings_found u_rings_size u_rings_least u_rings_steps u_rings_path u_rings_taken _ _ _ _ _ uM_rule uM_rings uM_size uM_least uM_worth uM_path uM_ring (by omega) (by omega) hW hR1 hR2 hT
      exact ⟨_, _, a1, a2, a3, ⟨n, w, M, hn, rfl, rfl, b1, b2, b3, hC, b4, hS, hE, hB⟩, hK, hX, hQ⟩
    · rw [show fX9_within x2 0 40 = some 0 from e]
      simp only [Option.bind_some, on1, if_true]
      rcases h with h | ⟨h, h2⟩
      · rw [if_pos (show x2 < 0 from h)]
        exact ⟨_, _, rfl, rfl, rfl, hR⟩
      · rw [if_neg (show ¬ x2 < 0 from h), if_neg (show ¬ x2 ≤ 40 from lt_nle h2)]
        exact ⟨_, _, rfl, rfl, rfl, hR⟩
  · rw [e1, e2]
    simp only [Option.bind_some, on1, if_true]
    exact ⟨_, _, rfl, rfl, rfl, hR⟩
set_option maxHeartbeats 1000000 in
theorem p_ring {u_isKept u_now_people u_now_debts_size : Int32} {u_now_debts_owed u_now_debts_order u_now_consents_refused : (Nat → Int32)} {u_now_trail_size : Int32} {u_now_trail_numbers : (Nat → Int32)} {u_now_seen_size : Int32} {u_now_seen_numbers : (Nat → Int32)} {u_now_events_size : Int32} {u_now_events_numbers : (Nat → Int32)} {u_now_book_size : Int32} {u_now_book_numbers : (Nat → Int32)} {u_kept_people u_kept_debts_size : Int32} {u_kept_debts_owed u_kept_debts_order u_kept_consents_refused : (Nat → Int32)} {u_kept_trail_size : Int32} {u_kept_trail_numbers : (Nat → Int32)} {u_kept_seen_size : Int32} {u_kept_seen_numbers : (Nat → Int32)} {u_kept_events_size : Int32} {u_kept_events_numbers : (Nat → Int32)} {u_kept_book_size : Int32} {u_kept_book_numbers : (Nat → Int32)} {u_rings_rule u_rings_found u_rings_size u_rings_least : Int32} {u_rings_steps u_rings_path u_rings_taken : (Nat → Int32)} {u_text_size : Int32} {u_text_signs : (Nat → Int32)} {uM_people uM_debts uM_cuts uM_seen uM_events uM_inBook uM_texted uM_rule uM_rings uM_size uM_least : Int32} {uM_worth : Int64} {uM_groups uM_paid uM_imaged : Int32} {uM_owes uM_denies uM_debt uM_cut uM_sight uM_event uM_book uM_text uM_path uM_ring uM_image uM_tapeSort uM_tapeSize : (Nat → Int32)} {uM_items : (Nat → Int64)} {ts tl : (Nat → Int32)} {ti : (Nat → Nat → Int64)} (x1 : Int32) (x2 : Int32) (hR : Rel u_now_people u_now_debts_size u_now_debts_owed u_now_debts_order u_now_consents_refused u_now_trail_size u_now_trail_numbers u_now_seen_size u_now_seen_numbers u_now_events_size u_now_events_numbers u_now_book_size u_now_book_numbers u_isKept u_kept_people u_kept_debts_size u_kept_debts_owed u_kept_debts_order u_kept_consents_refused u_kept_trail_size u_kept_trail_numbers u_kept_seen_size u_kept_seen_numbers u_kept_events_size u_kept_events_numbers u_kept_book_size u_kept_book_numbers u_text_size u_text_signs ts tl ti uM_people uM_owes uM_denies uM_debts uM_debt uM_cuts uM_cut uM_seen uM_sight uM_events uM_event uM_inBook uM_book uM_texted uM_text uM_imaged uM_image uM_tapeSort uM_tapeSize uM_items) :
    ∃ (zc : (Int32 × Int32 × Int32 × Int32 × Int32 × (Nat → Int32) × (Nat → Int32) × (Nat → Int32))) (zm : (Int32 × Int32 × Int32 × Int32 × Int32 × Int64 × (Nat → Int32) × (Nat → Int32))), fX8_ring u_now_debts_owed u_now_consents_refused u_rings_rule u_rings_found u_rings_size u_rings_least u_rings_steps u_rings_path u_rings_taken x1 x2 = some zc ∧ fX9_ring uM_people uM_debts uM_cuts uM_seen uM_events uM_inBook uM_texted uM_rule uM_rings uM_size uM_least uM_worth uM_groups uM_paid uM_imaged uM_owes uM_denies uM_path uM_ring x1 x2 = some zm ∧ zc.1 = zm.1 ∧ Rel u_now_people u_now_debts_size u_now_debts_owed u_now_debts_order u_now_consents_refused u_now_trail_size u_now_trail_numbers u_now_seen_size u_now_seen_numbers u_now_events_size u_now_events_numbers u_now_book_size u_now_book_numbers u_isKept u_kept_people u_kept_debts_size u_kept_debts_owed u_kept_debts_order u_kept_consents_refused u_kept_trail_size u_kept_trail_numbers u_kept_seen_size u_kept_seen_numbers u_kept_events_size u_kept_events_numbers u_kept_book_size u_kept_book_numbers u_text_size u_text_signs ts tl ti uM_people uM_owes uM_denies uM_debts uM_debt uM_cuts uM_cut uM_seen uM_sight uM_events uM_event uM_inBook uM_book uM_texted uM_text uM_imaged uM_image uM_tapeSort uM_tapeSize uM_items := by
  obtain ⟨⟨n, v, L, hn, rfl, rfl, hW, hR1, hR2, hC, hT, hS, hE, hB⟩, hK, hX, hQ⟩ := id hR
  unfold fX8_ring fX9_ring
  rcases rule_n x1 with ⟨r, hr, rfl, e1, e2⟩ | ⟨e1, e2⟩
  · rw [e1, e2]
    simp only [Option.bind_some, on0, if_false]
    have hlen := rT_len (rule := r) (re := u_now_consents_refused) (v := v)
    obtain ⟨z, a1, a2, a3, a4⟩ := search_r (st := u_rings_steps) (pa := u_rings_path) (tk := u_rings_taken) (re := u_now_consents_refused) hr hW hR1.2.1
    obtain ⟨y, b1, b2, b3, b4, b5, b6⟩ := takes_r (pa := uM_path) (ra := uM_ring) (le := uM_least) uM_debts uM_cuts uM_seen uM_events uM_inBook uM_texted uM_groups uM_paid uM_imaged hn hr hC hR2.2.1 hW
    rw [a1, b1]
    simp only [Option.bind_some, fX4_size, fX4_least, a2, a3, b2, b4, nI_e0 (show (rT r u_now_consents_refused v).length < 2 ^ 31 by omega)]
    by_cases e : rT r u_now_consents_refused v = []
    · rw [if_pos (show (rT r u_now_consents_refused v).length = 0 by rw [e]; rfl), if_pos e, if_pos rfl]
      exact ⟨_, _, rfl, rfl, rfl, hR⟩
    · have hl0 : ¬ (rT r u_now_consents_refused v).length = 0 := fun h => e (List.length_eq_zero_iff.mp h)
      have hls : ls v (rT r u_now_consents_refused v) = lowC v (rT r u_now_consents_refused v) := by unfold ls; rw [if_neg e]
      rw [if_neg hl0, if_neg e]
      simp only [on0, if_false]
      by_cases m1 : x2 = -1
      · simp only [if_pos m1]
        exact ⟨_, _, rfl, rfl, rfl, hR⟩
      · simp only [if_neg m1]
        by_cases m2 : x2 = -2
        · simp only [if_pos m2]
          exact ⟨_, _, rfl, rfl, by show nI (ls v _) = _; rw [b5 e, hls], hR⟩
        · simp only [if_neg m2]
          rcases wn (rT r u_now_consents_refused v).length (by omega) x2 with ⟨k, hk, rfl, e5⟩ | ⟨h, e5⟩
          · rw [e5, pat_n a4 hlen hk]
            simp only [Option.bind_some, on0, if_false]
            rw [gA_n (by omega) (by decide), nI_clamp (by omega), LR_gp0 b6 hk]
            exact ⟨_, _, rfl, rfl, rfl, hR⟩
          · have : fX4_personAt (nI (rT r u_now_consents_refused v).length) z.2.2.2.2.2.2 x2 = some (-1) := by
              unfold fX4_personAt
              rcases h with h | ⟨h, h2⟩
              · rw [if_pos h]
              · rw [if_neg h, if_pos h2]
            rw [e5, this]
            simp only [Option.bind_some, on1, if_true]
            exact ⟨_, _, rfl, rfl, rfl, hR⟩
  · rw [e1, e2]
    simp only [Option.bind_some, on1, if_true]
    exact ⟨_, _, rfl, rfl, rfl, hR⟩
set_option maxHeartbeats 1000000 in
theorem p_balance {u_isKept u_now_people u_now_debts_size : Int32} {u_now_debts_owed u_now_debts_order u_now_consents_refused : (Nat → Int32)} {u_now_trail_size : Int32} {u_now_trail_numbers : (Nat → Int32)} {u_now_seen_size : Int32} {u_now_seen_numbers : (Nat → Int32)} {u_now_events_size : Int32} {u_now_events_numbers : (Nat → Int32)} {u_now_book_size : Int32} {u_now_book_numbers : (Nat → Int32)} {u_kept_people u_kept_debts_size : Int32} {u_kept_debts_owed u_kept_debts_order u_kept_consents_refused : (Nat → Int32)} {u_kept_trail_size : Int32} {u_kept_trail_numbers : (Nat → Int32)} {u_kept_seen_size : Int32} {u_kept_seen_numbers : (Nat → Int32)} {u_kept_events_size : Int32} {u_kept_events_numbers : (Nat → Int32)} {u_kept_book_size : Int32} {u_kept_book_numbers u_netting_balances u_netting_left : (Nat → Int32)} {u_text_size : Int32} {u_text_signs : (Nat → Int32)} {uM_people uM_debts uM_cuts uM_seen uM_events uM_inBook uM_texted uM_imaged : Int32} {uM_owes uM_denies uM_debt uM_cut uM_sight uM_event uM_book uM_text uM_balance uM_image uM_tapeSort uM_tapeSize : (Nat → Int32)} {uM_items : (Nat → Int64)} {ts tl : (Nat → Int32)} {ti : (Nat → Nat → Int64)} (x1 : Int32) (hR : Rel u_now_people u_now_debts_size u_now_debts_owed u_now_debts_order u_now_consents_refused u_now_trail_size u_now_trail_numbers u_now_seen_size u_now_seen_numbers u_now_events_size u_now_events_numbers u_now_book_size u_now_book_numbers u_isKept u_kept_people u_kept_debts_size u_kept_debts_owed u_kept_debts_order u_kept_consents_refused u_kept_trail_size u_kept_trail_numbers u_kept_seen_size u_kept_seen_numbers u_kept_events_size u_kept_events_numbers u_kept_book_size u_kept_book_numbers u_text_size u_text_signs ts tl ti uM_people uM_owes uM_denies uM_debts uM_debt uM_cuts uM_cut uM_seen uM_sight uM_events uM_event uM_inBook uM_book uM_texted uM_text uM_imaged uM_image uM_tapeSort uM_tapeSize uM_items) :
    ∃ (zc : (Int64 × (Nat → Int32) × (Nat → Int32))) (zm : (Int64 × (Nat → Int32))), fX8_balance u_now_people u_now_debts_owed u_netting_balances u_netting_left x1 = some zc ∧ fX9_balance uM_people uM_owes uM_balance x1 = some zm ∧ zc.1 = zm.1 ∧ Rel u_now_people u_now_debts_size u_now_debts_owed u_now_debts_order u_now_consents_refused u_now_trail_size u_now_trail_numbers u_now_seen_size u_now_seen_numbers u_now_events_size u_now_events_numbers u_now_book_size u_now_book_numbers u_isKept u_kept_people u_kept_debts_size u_kept_debts_owed u_kept_debts_order u_kept_consents_refused u_kept_trail_size u_kept_trail_numbers u_kept_seen_size u_kept_seen_numbers u_kept_events_size u_kept_events_numbers u_kept_book_size u_kept_book_numbers u_text_size u_text_signs ts tl ti uM_people uM_owes uM_denies uM_debts uM_debt uM_cuts uM_cut uM_seen uM_sight uM_events uM_event uM_inBook uM_book uM_texted uM_text uM_imaged uM_image uM_tapeSort uM_tapeSize uM_items := by
  obtain ⟨⟨n, v, L, hn, rfl, rfl, hW, hR1, hR2, hC, hT, hS, hE, hB⟩, hK, hX, hQ⟩ := id hR
  unfold fX8_balance fX9_balance
  rcases px n hn x1 with ⟨p, hp, rfl, e1, e2⟩ | ⟨_, e1, e2⟩
  · rw [e1, e2]
    simp only [Option.bind_some, on0, if_false]
    obtain ⟨z, a1, a2⟩ := weigh_n (b := u_netting_balances) (l := u_netting_left) hR1.2.1
    obtain ⟨y, b1, b2⟩ := bals_n (b := uM_balance) hn hR2.2.1 hW.out
    rw [a1, b1]
    simp only [Option.bind_some]
    unfold fX3_balanceOf
    rw [if_neg (nI_pos (by omega)), if_neg (g6 (by omega)), gA_n (by omega) (by decide), gA_n (by omega) (by decide), nI_clamp (by omega), (a2 p (by omega)).1, b2 p (by omega)]
    exact ⟨_, _, rfl, rfl, rfl, hR⟩
  · rw [e1, e2]
    simp only [Option.bind_some, on1, if_true]
    exact ⟨_, _, rfl, rfl, rfl, hR⟩
set_option maxHeartbeats 1000000 in
theorem p_group {u_isKept u_now_people u_now_debts_size : Int32} {u_now_debts_owed u_now_debts_order u_now_consents_refused : (Nat → Int32)} {u_now_trail_size : Int32} {u_now_trail_numbers : (Nat → Int32)} {u_now_seen_size : Int32} {u_now_seen_numbers : (Nat → Int32)} {u_now_events_size : Int32} {u_now_events_numbers : (Nat → Int32)} {u_now_book_size : Int32} {u_now_book_numbers : (Nat → Int32)} {u_kept_people u_kept_debts_size : Int32} {u_kept_debts_owed u_kept_debts_order u_kept_consents_refused : (Nat → Int32)} {u_kept_trail_size : Int32} {u_kept_trail_numbers : (Nat → Int32)} {u_kept_seen_size : Int32} {u_kept_seen_numbers : (Nat → Int32)} {u_kept_events_size : Int32} {u_kept_events_numbers : (Nat → Int32)} {u_kept_book_size : Int32} {u_kept_book_numbers u_netting_balances u_netting_left u_netting_sums u_netting_most u_netting_groups u_netting_payments_numbers : (Nat → Int32)} {u_text_size : Int32} {u_text_signs : (Nat → Int32)} {uM_people uM_debts uM_cuts uM_seen uM_events uM_inBook uM_texted uM_imaged : Int32} {uM_owes uM_denies uM_debt uM_cut uM_sight uM_event uM_book uM_text uM_balance uM_sum uM_parts uM_group uM_image uM_tapeSort uM_tapeSize : (Nat → Int32)} {uM_items : (Nat → Int64)} {ts tl : (Nat → Int32)} {ti : (Nat → Nat → Int64)} (x1 : Int32) (hR : Rel u_now_people u_now_debts_size u_now_debts_owed u_now_debts_order u_now_consents_refused u_now_trail_size u_now_trail_numbers u_now_seen_size u_now_seen_numbers u_now_events_size u_now_events_numbers u_now_book_size u_now_book_numbers u_isKept u_kept_people u_kept_debts_size u_kept_debts_owed u_kept_debts_order u_kept_consents_refused u_kept_trail_size u_kept_trail_numbers u_kept_seen_size u_kept_seen_numbers u_kept_events_size u_kept_events_numbers u_kept_book_size u_kept_book_numbers u_text_size u_text_signs ts tl ti uM_people uM_owes uM_denies uM_debts uM_debt uM_cuts uM_cut uM_seen uM_sight uM_events uM_event uM_inBook uM_book uM_texted uM_text uM_imaged uM_image uM_tapeSort uM_tapeSize uM_items) :
    ∃ (zc : (Int32 × Int32 × (Nat → Int32) × (Nat → Int32) × (Nat → Int32) × (Nat → Int32) × (Nat → Int32) × Int32 × (Nat → Int32))) (zm : (Int32 × Int32 × (Nat → Int32) × (Nat → Int32) × (Nat → Int32) × (Nat → Int32))), fX8_group 18 u_now_debts_owed u_netting_balances u_netting_left u_netting_sums u_netting_most u_netting_groups 6 u_netting_payments_numbers x1 = some zc ∧ fX9_group uM_people uM_owes uM_balance uM_sum uM_parts uM_group x1 = some zm ∧ zc.1 = zm.1 ∧ Rel u_now_people u_now_debts_size u_now_debts_owed u_now_debts_order u_now_consents_refused u_now_trail_size u_now_trail_numbers u_now_seen_size u_now_seen_numbers u_now_events_size u_now_events_numbers u_now_book_size u_now_book_numbers u_isKept u_kept_people u_kept_debts_size u_kept_debts_owed u_kept_debts_order u_kept_consents_refused u_kept_trail_size u_kept_trail_numbers u_kept_seen_size u_kept_seen_numbers u_kept_events_size u_kept_events_numbers u_kept_book_size u_kept_book_numbers u_text_size u_text_signs ts tl ti uM_people uM_owes uM_denies uM_debts uM_debt uM_cuts uM_cut uM_seen uM_sight uM_events uM_event uM_inBook uM_book uM_texted uM_text uM_imaged uM_image uM_tapeSort uM_tapeSize uM_items := by
  obtain ⟨⟨n, v, L, hn, rfl, rfl, hW, hR1, hR2, hC, hT, hS, hE, hB⟩, hK, hX, hQ⟩ := id hR
  have hB6 := gsB_len (BB_bal hW.1)
  obtain ⟨z, a1, a2, a3, a4, a5⟩ := net_n (ba := u_netting_balances) (lf := u_netting_left) (su := u_netting_sums) (mo := u_netting_most) (gr := u_netting_groups) (num := u_netting_payments_numbers) hn hR1.2.1 hW
  obtain ⟨y, b1, b2, b3, b4⟩ := groups_r (b := uM_balance) (su := uM_sum) (pa := uM_parts) (gr := uM_group) hn hR2.2.1 hW
  unfold fX8_group fX9_group
  rw [a1, b1]
  simp only [Option.bind_some]
  rw [a2, b2]
  rcases wn (gsB (bal v)).length (by omega) x1 with ⟨k, hk, rfl, e⟩ | ⟨h, e⟩
  · rw [e, gat_n a4 (by omega) hk]
    simp only [Option.bind_some, on0, if_false]
    rw [gA_n (by omega) (by decide), nI_clamp (by omega), LR_gp0 b4 hk]
    exact ⟨_, _, rfl, rfl, rfl, hR⟩
  · have : fX3_groupAt (nI (gsB (bal v)).length) z.2.2.2.2.2.1 x1 = some (-1) := by
      unfold fX3_groupAt
      rcases h with h | ⟨h, h2⟩
      · rw [if_pos h]
      · rw [if_neg h, if_pos h2]
    rw [e, this]
    simp only [Option.bind_some, on1, if_true]
    exact ⟨_, _, rfl, rfl, rfl, hR⟩
set_option maxHeartbeats 1000000 in
theorem p_payment {u_isKept u_now_people u_now_debts_size : Int32} {u_now_debts_owed u_now_debts_order u_now_consents_refused : (Nat → Int32)} {u_now_trail_size : Int32} {u_now_trail_numbers : (Nat → Int32)} {u_now_seen_size : Int32} {u_now_seen_numbers : (Nat → Int32)} {u_now_events_size : Int32} {u_now_events_numbers : (Nat → Int32)} {u_now_book_size : Int32} {u_now_book_numbers : (Nat → Int32)} {u_kept_people u_kept_debts_size : Int32} {u_kept_debts_owed u_kept_debts_order u_kept_consents_refused : (Nat → Int32)} {u_kept_trail_size : Int32} {u_kept_trail_numbers : (Nat → Int32)} {u_kept_seen_size : Int32} {u_kept_seen_numbers : (Nat → Int32)} {u_kept_events_size : Int32} {u_kept_events_numbers : (Nat → Int32)} {u_kept_book_size : Int32} {u_kept_book_numbers u_netting_balances u_netting_left u_netting_sums u_netting_most u_netting_groups u_netting_payments_numbers : (Nat → Int32)} {u_text_size : Int32} {u_text_signs : (Nat → Int32)} {uM_people uM_debts uM_cuts uM_seen uM_events uM_inBook uM_texted uM_imaged : Int32} {uM_owes uM_denies uM_debt uM_cut uM_sight uM_event uM_book uM_text uM_balance uM_left uM_sum uM_parts uM_group uM_payment uM_image uM_tapeSort uM_tapeSize : (Nat → Int32)} {uM_items : (Nat → Int64)} {ts tl : (Nat → Int32)} {ti : (Nat → Nat → Int64)} (x1 : Int32) (x2 : Int32) (hR : Rel u_now_people u_now_debts_size u_now_debts_owed u_now_debts_order u_now_consents_refused u_now_trail_size u_now_trail_numbers u_now_seen_size u_now_seen_numbers u_now_events_size u_now_events_numbers u_now_book_size u_now_book_numbers u_isKept u_kept_people u_kept_debts_size u_kept_debts_owed u_kept_debts_order u_kept_consents_refused u_kept_trail_size u_kept_trail_numbers u_kept_seen_size u_kept_seen_numbers u_kept_events_size u_kept_events_numbers u_kept_book_size u_kept_book_numbers u_text_size u_text_signs ts tl ti uM_people uM_owes uM_denies uM_debts uM_debt uM_cuts uM_cut uM_seen uM_sight uM_events uM_event uM_inBook uM_book uM_texted uM_text uM_imaged uM_image uM_tapeSort uM_tapeSize uM_items) :
    ∃ (zc : (Int32 × Int32 × (Nat → Int32) × (Nat → Int32) × (Nat → Int32) × (Nat → Int32) × (Nat → Int32) × Int32 × (Nat → Int32))) (zm : (Int32 × Int32 × Int32 × (Nat → Int32) × (Nat → Int32) × (Nat → Int32) × (Nat → Int32) × (Nat → Int32) × (Nat → Int32))), fX8_payment 18 u_now_debts_owed u_netting_balances u_netting_left u_netting_sums u_netting_most u_netting_groups 6 u_netting_payments_numbers x1 x2 = some zc ∧ fX9_payment uM_people uM_owes uM_balance uM_left uM_sum uM_parts uM_group uM_payment x1 x2 = some zm ∧ zc.1 = zm.1 ∧ Rel u_now_people u_now_debts_size u_now_debts_owed u_now_debts_order u_now_consents_refused u_now_trail_size u_now_trail_numbers u_now_seen_size u_now_seen_numbers u_now_events_size u_now_events_numbers u_now_book_size u_now_book_numbers u_isKept u_kept_people u_kept_debts_size u_kept_debts_owed u_kept_debts_order u_kept_consents_refused u_kept_trail_size u_kept_trail_numbers u_kept_seen_size u_kept_seen_numbers u_kept_events_size u_kept_events_numbers u_kept_book_size u_kept_book_numbers u_text_size u_text_signs ts tl ti uM_people uM_owes uM_denies uM_debts uM_debt uM_cuts uM_cut uM_seen uM_sight uM_events uM_event uM_inBook uM_book uM_texted uM_text uM_imaged uM_image uM_tapeSort uM_tapeSize uM_items := by
  obtain ⟨⟨n, v, L, hn, rfl, rfl, hW, hR1, hR2, hC, hT, hS, hE, hB⟩, hK, hX, hQ⟩ := id hR
  obtain ⟨z, a1, a2, a3, a4, a5⟩ := net_n (ba := u_netting_balances) (lf := u_netting_left) (su := u_netting_sums) (mo := u_netting_most) (gr := u_netting_groups) (num := u_netting_payments_numbers) hn hR1.2.1 hW
  obtain ⟨y, b1, b2, b3⟩ := payments_n (ba := uM_balance) (lf := uM_left) (su := uM_sum) (pa := uM_parts) (gr := uM_group) (num := uM_payment) hn hR2.2.1 hW
  have hI := PG_PI hn hW
  obtain ⟨t, c1, c2⟩ := pay_same (S := PG v) (by have := hI.2.2.2; omega) a5 b3 x1 x2
  unfold fX8_payment fX9_payment
  rw [a1, b1]
  simp only [Option.bind_some]
  rw [c1, c2]
  exact ⟨_, _, rfl, rfl, rfl, hR⟩
set_option maxHeartbeats 1000000 in
theorem p_willing {u_isKept u_now_people u_now_debts_size : Int32} {u_now_debts_owed u_now_debts_order u_now_consents_refused : (Nat → Int32)} {u_now_trail_size : Int32} {u_now_trail_numbers : (Nat → Int32)} {u_now_seen_size : Int32} {u_now_seen_numbers : (Nat → Int32)} {u_now_events_size : Int32} {u_now_events_numbers : (Nat → Int32)} {u_now_book_size : Int32} {u_now_book_numbers : (Nat → Int32)} {u_kept_people u_kept_debts_size : Int32} {u_kept_debts_owed u_kept_debts_order u_kept_consents_refused : (Nat → Int32)} {u_kept_trail_size : Int32} {u_kept_trail_numbers : (Nat → Int32)} {u_kept_seen_size : Int32} {u_kept_seen_numbers : (Nat → Int32)} {u_kept_events_size : Int32} {u_kept_events_numbers : (Nat → Int32)} {u_kept_book_size : Int32} {u_kept_book_numbers u_netting_balances u_netting_left u_netting_payments_numbers : (Nat → Int32)} {u_text_size : Int32} {u_text_signs : (Nat → Int32)} {uM_people uM_debts uM_cuts uM_seen uM_events uM_inBook uM_texted uM_imaged : Int32} {uM_owes uM_denies uM_debt uM_cut uM_sight uM_event uM_book uM_text uM_balance uM_left uM_payment uM_image uM_tapeSort uM_tapeSize : (Nat → Int32)} {uM_items : (Nat → Int64)} {ts tl : (Nat → Int32)} {ti : (Nat → Nat → Int64)} (x1 : Int32) (x2 : Int32) (hR : Rel u_now_people u_now_debts_size u_now_debts_owed u_now_debts_order u_now_consents_refused u_now_trail_size u_now_trail_numbers u_now_seen_size u_now_seen_numbers u_now_events_size u_now_events_numbers u_now_book_size u_now_book_numbers u_isKept u_kept_people u_kept_debts_size u_kept_debts_owed u_kept_debts_order u_kept_consents_refused u_kept_trail_size u_kept_trail_numbers u_kept_seen_size u_kept_seen_numbers u_kept_events_size u_kept_events_numbers u_kept_book_size u_kept_book_numbers u_text_size u_text_signs ts tl ti uM_people uM_owes uM_denies uM_debts uM_debt uM_cuts uM_cut uM_seen uM_sight uM_events uM_event uM_inBook uM_book uM_texted uM_text uM_imaged uM_image uM_tapeSort uM_tapeSize uM_items) :
    ∃ (zc : (Int32 × (Nat → Int32) × (Nat → Int32) × Int32 × (Nat → Int32))) (zm : (Int32 × Int32 × (Nat → Int32) × (Nat → Int32) × (Nat → Int32))), fX8_willing 18 u_now_debts_owed u_now_consents_refused u_netting_balances u_netting_left 6 u_netting_payments_numbers x1 x2 = some zc ∧ fX9_willing_ uM_people uM_owes uM_denies uM_balance uM_left uM_payment x1 x2 = some zm ∧ zc.1 = zm.1 ∧ Rel u_now_people u_now_debts_size u_now_debts_owed u_now_debts_order u_now_consents_refused u_now_trail_size u_now_trail_numbers u_now_seen_size u_now_seen_numbers u_now_events_size u_now_events_numbers u_now_book_size u_now_book_numbers u_isKept u_kept_people u_kept_debts_size u_kept_debts_owed u_kept_debts_order u_kept_consents_refused u_kept_trail_size u_kept_trail_numbers u_kept_seen_size u_kept_seen_numbers u_kept_events_size u_kept_events_numbers u_kept_book_size u_kept_book_numbers u_text_size u_text_signs ts tl ti uM_people uM_owes uM_denies uM_debts uM_debt uM_cuts uM_cut uM_seen uM_sight uM_events uM_event uM_inBook uM_book uM_texted uM_text uM_imaged uM_image uM_tapeSort uM_tapeSize uM_items := by
  obtain ⟨⟨n, v, L, hn, rfl, rfl, hW, hR1, hR2, hC, hT, hS, hE, hB⟩, hK, hX, hQ⟩ := id hR
  obtain ⟨z, a1, a5⟩ := cwill_n (ba := u_netting_balances) (lf := u_netting_left) (num := u_netting_payments_numbers) (re := u_now_consents_refused) hn hR1.2.1 hW
  obtain ⟨y, b1, b3⟩ := rwill_n (ba := uM_balance) (lf := uM_left) (num := uM_payment) hn hC hR2.2.1 hW
  have hI := PW2_PI (re := u_now_consents_refused) hn hW
  obtain ⟨t, c1, c2⟩ := pay_same (S := PW2 u_now_consents_refused v) (by have := hI.2.2.2; omega) a5 b3 x1 x2
  unfold fX8_willing fX9_willing_
  rw [a1, b1]
  simp only [Option.bind_some]
  rw [c1, c2]
  exact ⟨_, _, rfl, rfl, rfl, hR⟩
set_option maxHeartbeats 1000000 in
theorem p_settle {u_isKept u_now_people u_now_debts_size : Int32} {u_now_debts_owed u_now_debts_order u_now_consents_refused : (Nat → Int32)} {u_now_trail_size : Int32} {u_now_trail_numbers : (Nat → Int32)} {u_now_seen_size : Int32} {u_now_seen_numbers : (Nat → Int32)} {u_now_events_size : Int32} {u_now_events_numbers : (Nat → Int32)} {u_now_book_size : Int32} {u_now_book_numbers : (Nat → Int32)} {u_kept_people u_kept_debts_size : Int32} {u_kept_debts_owed u_kept_debts_order u_kept_consents_refused : (Nat → Int32)} {u_kept_trail_size : Int32} {u_kept_trail_numbers : (Nat → Int32)} {u_kept_seen_size : Int32} {u_kept_seen_numbers : (Nat → Int32)} {u_kept_events_size : Int32} {u_kept_events_numbers : (Nat → Int32)} {u_kept_book_size : Int32} {u_kept_book_numbers u_netting_balances u_netting_left u_netting_sums u_netting_most u_netting_groups u_netting_payments_numbers : (Nat → Int32)} {u_text_size : Int32} {u_text_signs : (Nat → Int32)} {uM_people uM_debts uM_cuts uM_seen uM_events uM_inBook uM_texted uM_imaged : Int32} {uM_owes uM_denies uM_debt uM_cut uM_sight uM_event uM_book uM_text uM_balance uM_left uM_sum uM_parts uM_group uM_payment uM_image uM_tapeSort uM_tapeSize : (Nat → Int32)} {uM_items : (Nat → Int64)} {ts tl : (Nat → Int32)} {ti : (Nat → Nat → Int64)} (hR : Rel u_now_people u_now_debts_size u_now_debts_owed u_now_debts_order u_now_consents_refused u_now_trail_size u_now_trail_numbers u_now_seen_size u_now_seen_numbers u_now_events_size u_now_events_numbers u_now_book_size u_now_book_numbers u_isKept u_kept_people u_kept_debts_size u_kept_debts_owed u_kept_debts_order u_kept_consents_refused u_kept_trail_size u_kept_trail_numbers u_kept_seen_size u_kept_seen_numbers u_kept_events_size u_kept_events_numbers u_kept_book_size u_kept_book_numbers u_text_size u_text_signs ts tl ti uM_people uM_owes uM_denies uM_debts uM_debt uM_cuts uM_cut uM_seen uM_sight uM_events uM_event uM_inBook uM_book uM_texted uM_text uM_imaged uM_image uM_tapeSort uM_tapeSize uM_items) :
    ∃ (zc : (Int32 × Int32 × (Nat → Int32) × (Nat → Int32) × Int32 × (Nat → Int32) × (Nat → Int32) × (Nat → Int32) × (Nat → Int32) × (Nat → Int32) × Int32 × (Nat → Int32))) (zm : (Int32 × Int32 × Int32 × Int32 × (Nat → Int32) × (Nat → Int32) × (Nat → Int32) × (Nat → Int32) × (Nat → Int32) × (Nat → Int32) × (Nat → Int32) × (Nat → Int32))), fX8_settle 18 u_now_debts_size u_now_debts_owed u_now_debts_order u_netting_balances u_netting_left u_netting_sums u_netting_most u_netting_groups 6 u_netting_payments_numbers = some zc ∧ fX9_settle uM_people uM_debts uM_owes uM_debt uM_balance uM_left uM_sum uM_parts uM_group uM_payment = some zm ∧ zc.1 = zm.1 ∧ Rel u_now_people zc.2.1 zc.2.2.1 zc.2.2.2.1 u_now_consents_refused u_now_trail_size u_now_trail_numbers u_now_seen_size u_now_seen_numbers u_now_events_size u_now_events_numbers u_now_book_size u_now_book_numbers u_isKept u_kept_people u_kept_debts_size u_kept_debts_owed u_kept_debts_order u_kept_consents_refused u_kept_trail_size u_kept_trail_numbers u_kept_seen_size u_kept_seen_numbers u_kept_events_size u_kept_events_numbers u_kept_book_size u_kept_book_numbers u_text_size u_text_signs ts tl ti uM_people zm.2.2.2.2.1 uM_denies zm.2.1 zm.2.2.2.2.2.1 uM_cuts uM_cut uM_seen uM_sight uM_events uM_event uM_inBook uM_book uM_texted uM_text uM_imaged uM_image uM_tapeSort uM_tapeSize uM_items := by
  obtain ⟨⟨n, v, L, hn, rfl, rfl, hW, hR1, hR2, hC, hT, hS, hE, hB⟩, hK, hX, hQ⟩ := id hR
  obtain ⟨z, a1, a2, a3⟩ := bp_n (ba := u_netting_balances) (lf := u_netting_left) (su := u_netting_sums) (mo := u_netting_most) (gr := u_netting_groups) (num := u_netting_payments_numbers) hn hW hR1
  obtain ⟨y, b1, b2, b3⟩ := rset_n (ba := uM_balance) (lf := uM_left) (su := uM_sum) (pa := uM_parts) (gr := uM_group) (num := uM_payment) hn hW hR2
  have hW2 := stl_W hn hW
  unfold fX8_settle fX9_settle fX2_size
  simp only [Option.bind_some]
  rw [a1, b1]
  simp only [Option.bind_some, a2, b2]
  have hsz : u_now_debts_size = uM_debts := by rw [hR1.1, hR2.1]
  by_cases e : okP (PG v).2 = true
  · simp only [if_pos e, on0, if_false]
    exact ⟨_, _, rfl, rfl, hsz, ⟨n, _, _, hn, rfl, rfl, hW2, a3, b3, hC, hT, hS, hE, hB⟩, hK, hX, hQ⟩
  · simp only [if_neg e, if_true]
    exact ⟨_, _, rfl, rfl, rfl, ⟨n, _, _, hn, rfl, rfl, hW2, a3, b3, hC, hT, hS, hE, hB⟩, hK, hX, hQ⟩
end
