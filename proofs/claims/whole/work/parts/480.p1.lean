section
/-! ===== each call: people, debts, rows ===== -/
theorem lt_nle {x y : Int32} (h : x < y) : ¬ y ≤ x := by rw [xle]; rw [xlt] at h; omega
theorem sub_m {n : Nat} : nI n + 1 - 1 = nI n := by rw [nI_1, nI_pred]
theorem g4 {i : Nat} (h : i < 6) : nI i < 6 := nI_lt h (by decide)
theorem prs_l {n : Nat} (hn : n < 6) (o0 d0 : Nat → Int32) (ho : ∀ x, x < 6 → o0 (6 * n + x) = 0 ∧ o0 (6 * x + n) = 0 ∧ d0 (6 * n + x) = 0 ∧ d0 (6 * x + n) = 0) : ∀ (r fuel x : Nat) (o d : Nat → Int32), x + r = 6 → r < fuel → (∀ k, k < 36 → o k = o0 k ∧ d k = d0 k) →
    ∃ o' d', fX9_person_L26 (nI (n + 1)) (nI n) fuel (nI x) o d = some (nI n, nI (n + 1), o', d') ∧ ∀ k, k < 36 → o' k = o0 k ∧ d' k = d0 k
  | 0, fuel, x, o, d, he, hf, h => by
    obtain ⟨f, rfl⟩ : ∃ f, fuel = f + 1 := ⟨fuel - 1, by omega⟩
    rw [fX9_person_L26, if_pos (e6 (by omega) (by omega))]
    exact ⟨o, d, rfl, h⟩
  | r + 1, fuel, x, o, d, he, hf, h => by
    obtain ⟨f, rfl⟩ : ∃ f, fuel = f + 1 := ⟨fuel - 1, by omega⟩
    obtain ⟨z1, z2, z3, z4⟩ := ho x (by omega)
    rw [fX9_person_L26, if_neg (g6 (by omega)), ix6', ix6', gA_n (by omega) (by decide), gA_n (by omega) (by decide), gA_n (by omega) (by decide), gA_n (by omega) (by decide), nI_clamp (by omega), nI_clamp (by omega), nI_1]
    refine prs_l hn o0 d0 ho r f (x + 1) _ _ (by omega) (by omega) (fun k hk => ?_)
    rw [up_eq, up_eq, up_eq, up_eq]
    by_cases e1 : k = 6 * x + n
    · rw [if_pos e1, if_pos e1, e1, z2, z4]; exact ⟨rfl, rfl⟩
    · rw [if_neg e1, if_neg e1]
      by_cases e2 : k = 6 * n + x
      · rw [if_pos e2, if_pos e2, e2, z1, z3]; exact ⟨rfl, rfl⟩
      · rw [if_neg e2, if_neg e2]; exact h k hk
theorem DebW.mono {n m : Nat} {v : Nat → Nat} {L : List Nat} (h : DebW n v L) (hm : n ≤ m) : DebW m v L := ⟨h.1, h.2.1, h.2.2.1, fun k hk => by have := h.2.2.2 k hk; exact ⟨this.1, by omega, by omega, this.2.2.2⟩⟩
theorem EvR.mono {n m : Nat} {sz : Int32} {num : Nat → Int32} {ms : Int32} {mn : Nat → Int32} (h : EvR n sz num ms mn) (hm : n ≤ m) : EvR m sz num ms mn := by
  obtain ⟨t, h1, h2, h3, h4⟩ := h
  refine ⟨t, h1, h2, h3, fun k hk => ?_⟩
  obtain ⟨a, b, c⟩ := h4 k hk
  refine ⟨a, b, ?_⟩
  rcases c with ⟨q, q1, q2⟩ | c
  · exact Or.inl ⟨q, by omega, q2⟩
  · exact Or.inr c
theorem cput_n {re : Nat → Int32} {i j : Nat} (hi : i < 6) (hj : j < 6) (x : Int32) : fX1_put re (nI i) (nI j) x = some (upd re (6 * i + j) (if x = 0 then 1 else 0)) := by
  unfold fX1_put
  rw [isCell_n hi hj]
  simp only [Option.bind_some, on0, if_false, ix6]
  rw [gA_n (by omega) (by decide), gA_n (by omega) (by decide), nI_clamp (by omega)]
  by_cases e : x = 0
  · rw [if_pos e, if_pos e]; rfl
  · rw [if_neg e, if_neg e]; rfl
theorem byte_n {c : Nat} (h : c < 128) : vp_nar .byte ((nI c).toInt8.toInt32) = nI c := co_dec (N := 128) (P := fun c => vp_nar .byte ((nI c).toInt8.toInt32) = nI c) (by decide +kernel) h
theorem RowR.clear {mx : Nat} {num mum : Nat → Int32} : RowR mx 0 num 0 mum := ⟨0, Nat.zero_le _, rfl, rfl, fun k hk => absurd hk (Nat.not_lt_zero _)⟩
theorem RowR.add {mx t : Nat} {num mum : Nat → Int32} (h : ∀ k, k < 3 * t → num k = mum k) (ht : t < mx) (x y z : Int32) : RowR mx (nI (t + 1)) (upd (upd (upd num (3 * t) x) (3 * t + 1) y) (3 * t + 2) z) (nI (t + 1)) (upd (upd (upd mum (3 * t) x) (3 * t + 1) y) (3 * t + 2) z) := by
  refine ⟨t + 1, ht, rfl, rfl, fun k hk => ?_⟩
  rw [up_eq, up_eq, up_eq, up_eq, up_eq, up_eq]
  by_cases e1 : k = 3 * t + 2
  · rw [if_pos e1, if_pos e1]
  · rw [if_neg e1, if_neg e1]
    by_cases e2 : k = 3 * t + 1
    · rw [if_pos e2, if_pos e2]
    · rw [if_neg e2, if_neg e2]
      by_cases e3 : k = 3 * t
      · rw [if_pos e3, if_pos e3]
      · rw [if_neg e3, if_neg e3]; exact h k (by omega)
/-- a row comes: both alike -/
theorem addp {N R n : Nat} (hN : 3 * R ≤ N) (hN2 : N ≤ 120) (hR8 : R ≤ 8) (hn : n ≤ 6) {sz ms : Int32} {num mum : Nat → Int32} (hT : RowR R sz num ms mum) (x1 x2 x3 : Int32) :
    ∃ zc zm : Int32 × Int32 × (Nat → Int32), fX8_addPayment N (nI n) (nI R) sz num x1 x2 x3 = some zc ∧ (if x1 = (-1) then (some (0, 0, mum)) else ((fX9_areTwo (nI n) x1 x2).bind (fun z2 => if z2 = 0 then (some ((-1), ms, mum)) else ((fX9_within x3 1 999).bind (fun z4 => if z4 = 0 then (some ((-2), ms, mum)) else (if ms = nI R then (some ((-4), ms, mum)) else (gA (3 * ms) (3 * R) (gA ((3 * ms) + 1) (3 * R) (gA ((3 * ms) + 2) (3 * R) (some (ms + 1, ms + 1, upd (upd (upd mum (3 * ms : Int32).toNatClampNeg x1) ((3 * ms) + 1 : Int32).toNatClampNeg x2) ((3 * ms) + 2 : Int32).toNatClampNeg x3))))))))))) = some zm ∧ zc.1 = zm.1 ∧ RowR R zc.2.1 zc.2.2 zm.2.1 zm.2.2 := by
  obtain ⟨t, ht, rfl, rfl, h⟩ := id hT
  unfold fX8_addPayment fX5_clear
  by_cases e0 : x1 = -1
  · rw [if_pos e0, if_pos e0]
    exact ⟨_, _, rfl, rfl, rfl, RowR.clear⟩
  · rw [if_neg e0, if_neg e0]
    rcases pp n hn x1 x2 with ⟨i, j, hi, hj, hij, rfl, rfl, e1, e2⟩ | ⟨e1, e2⟩
    · rw [e1, e2]
      simp only [Option.bind_some, on0, if_false]
      rcases wi 1 999 (by decide) (by decide) x3 with ⟨a, ha1, ha2, rfl, e3⟩ | ⟨h3, e3⟩
      · rw [show fX9_within (nI a) 1 999 = some 1 from e3, if_neg (i1 ha1 (by omega)), if_pos (show nI a ≤ (999 : Int32) from nI_le ha2 (by decide))]
        simp only [Option.bind_some, on0, if_false]
        by_cases e5 : t = R
        · rw [add_f (by omega) (by omega), if_pos (by rw [e5])]
          exact ⟨_, _, rfl, rfl, rfl, hT⟩
        · rw [add_n hN hN2 (show t < R by omega), if_neg (by rw [nI_eq (by omega) (by omega)]; exact e5), nn3, pk_mul, show nI (3 * t) + 1 = nI (3 * t + 1) from nI_1 _, show nI (3 * t) + 2 = nI (3 * t + 2) from nI_add _ 2, gA_n (by omega) (by omega), gA_n (by omega) (by omega), gA_n (by omega) (by omega), nI_clamp (by omega), nI_clamp (by omega), nI_clamp (by omega), nI_1]
          exact ⟨_, _, rfl, rfl, rfl, RowR.add h (by omega) _ _ _⟩
      · rw [show fX9_within x3 1 999 = some 0 from e3]
        simp only [Option.bind_some, on1, if_true]
        rcases h3 with h3 | ⟨h3, h4⟩
        · rw [if_pos (show x3 < 1 from h3)]
          exact ⟨_, _, rfl, rfl, rfl, hT⟩
        · rw [if_neg (show ¬ x3 < 1 from h3), if_neg (show ¬ x3 ≤ 999 from lt_nle h4)]
          exact ⟨_, _, rfl, rfl, rfl, hT⟩
    · rw [e1, e2]
      simp only [Option.bind_some, on1, if_true]
      exact ⟨_, _, rfl, rfl, rfl, hT⟩
set_option maxHeartbeats 1000000 in
theorem p_person {u_isKept u_now_people u_now_debts_size : Int32} {u_now_debts_owed u_now_debts_order u_now_consents_refused : (Nat → Int32)} {u_now_trail_size : Int32} {u_now_trail_numbers : (Nat → Int32)} {u_now_seen_size : Int32} {u_now_seen_numbers : (Nat → Int32)} {u_now_events_size : Int32} {u_now_events_numbers : (Nat → Int32)} {u_now_book_size : Int32} {u_now_book_numbers : (Nat → Int32)} {u_kept_people u_kept_debts_size : Int32} {u_kept_debts_owed u_kept_debts_order u_kept_consents_refused : (Nat → Int32)} {u_kept_trail_size : Int32} {u_kept_trail_numbers : (Nat → Int32)} {u_kept_seen_size : Int32} {u_kept_seen_numbers : (Nat → Int32)} {u_kept_events_size : Int32} {u_kept_events_numbers : (Nat → Int32)} {u_kept_book_size : Int32} {u_kept_book_numbers : (Nat → Int32)} {u_text_size : Int32} {u_text_signs : (Nat → Int32)} {uM_people uM_debts uM_cuts uM_seen uM_events uM_inBook uM_texted uM_imaged : Int32} {uM_owes uM_denies uM_debt uM_cut uM_sight uM_event uM_book uM_text uM_image uM_tapeSort uM_tapeSize : (Nat → Int32)} {uM_items : (Nat → Int64)} {ts tl : (Nat → Int32)} {ti : (Nat → Nat → Int64)} (hR : Rel u_now_people u_now_debts_size u_now_debts_owed u_now_debts_order u_now_consents_refused u_now_trail_size u_now_trail_numbers u_now_seen_size u_now_seen_numbers u_now_events_size u_now_events_numbers u_now_book_size u_now_book_numbers u_isKept u_kept_people u_kept_debts_size u_kept_debts_owed u_kept_debts_order u_kept_consents_refused u_kept_trail_size u_kept_trail_numbers u_kept_seen_size u_kept_seen_numbers u_kept_events_size u_kept_events_numbers u_kept_book_size u_kept_book_numbers u_text_size u_text_signs ts tl ti uM_people uM_owes uM_denies uM_debts uM_debt uM_cuts uM_cut uM_seen uM_sight uM_events uM_event uM_inBook uM_book uM_texted uM_text uM_imaged uM_image uM_tapeSort uM_tapeSize uM_items) :
    ∃ (zc : (Int32 × Int32)) (zm : (Int32 × Int32 × (Nat → Int32) × (Nat → Int32))), fX8_person u_now_people = some zc ∧ fX9_person uM_people uM_owes uM_denies = some zm ∧ zc.1 = zm.1 ∧ Rel zc.2 u_now_debts_size u_now_debts_owed u_now_debts_order u_now_consents_refused u_now_trail_size u_now_trail_numbers u_now_seen_size u_now_seen_numbers u_now_events_size u_now_events_numbers u_now_book_size u_now_book_numbers u_isKept u_kept_people u_kept_debts_size u_kept_debts_owed u_kept_debts_order u_kept_consents_refused u_kept_trail_size u_kept_trail_numbers u_kept_seen_size u_kept_seen_numbers u_kept_events_size u_kept_events_numbers u_kept_book_size u_kept_book_numbers u_text_size u_text_signs ts tl ti zm.2.1 zm.2.2.1 zm.2.2.2 uM_debts uM_debt uM_cuts uM_cut uM_seen uM_sight uM_events uM_event uM_inBook uM_book uM_texted uM_text uM_imaged uM_image uM_tapeSort uM_tapeSize uM_items := by
  obtain ⟨⟨n, v, L, hn, rfl, rfl, hW, hR1, hR2, hC, hT, hS, hE, hB⟩, hK, hX, hQ⟩ := id hR
  unfold fX8_person fX9_person
  by_cases h : n = 6
  · rw [if_neg (show ¬ nI n < 6 by rw [h]; decide), if_pos (show nI n = 6 by rw [h]; rfl)]
    exact ⟨_, _, rfl, rfl, rfl, hR⟩
  · rw [if_pos (g4 (show n < 6 by omega)), if_neg (show ¬ nI n = 6 from fun x => h ((nI_eq (by omega) (by decide)).mp x)), sub_m, nI_1]
    have ho := hW.out
    obtain ⟨o', d', a1, a2⟩ := prs_l (n := n) (by omega) uM_owes uM_denies (fun x hx => by
      rw [hR2.2.1 _ (show 6 * n + x < 36 by omega), hR2.2.1 _ (show 6 * x + n < 36 by omega), ho _ (show 6 * n + x < 36 by omega) (by omega), ho _ (show 6 * x + n < 36 by omega) (by omega), ← (hC.1 (6 * n + x) (by omega)).1, ← (hC.1 (6 * x + n) (by omega)).1, hC.2 (6 * n + x) (by omega) (by omega), hC.2 (6 * x + n) (by omega) (by omega)]
      exact ⟨rfl, rfl, rfl, rfl⟩) 6 400 0 uM_owes uM_denies rfl (by decide) (fun k _ => ⟨rfl, rfl⟩)
    rw [show (0 : Int32) = nI 0 from rfl, a1]
    refine ⟨_, _, rfl, rfl, rfl, ⟨n + 1, v, L, by omega, rfl, rfl, hW.mono (by omega), hR1, hR2.cong hW (fun j hj => (a2 j hj).1) (fun j _ => rfl), ⟨fun k hk => ?_, fun k hk hk2 => hC.2 k hk (by omega)⟩, hT, hS, hE.mono (by omega), hB⟩, hK, hX, hQ⟩
    show u_now_consents_refused k = d' k ∧ _
    rw [(a2 k hk).2]; exact hC.1 k hk
set_option maxHeartbeats 1000000 in
theorem p_owe {u_isKept u_now_people u_now_debts_size : Int32} {u_now_debts_owed u_now_debts_order u_now_consents_refused : (Nat → Int32)} {u_now_trail_size : Int32} {u_now_trail_numbers : (Nat → Int32)} {u_now_seen_size : Int32} {u_now_seen_numbers : (Nat → Int32)} {u_now_events_size : Int32} {u_now_events_numbers : (Nat → Int32)} {u_now_book_size : Int32} {u_now_book_numbers : (Nat → Int32)} {u_kept_people u_kept_debts_size : Int32} {u_kept_debts_owed u_kept_debts_order u_kept_consents_refused : (Nat → Int32)} {u_kept_trail_size : Int32} {u_kept_trail_numbers : (Nat → Int32)} {u_kept_seen_size : Int32} {u_kept_seen_numbers : (Nat → Int32)} {u_kept_events_size : Int32} {u_kept_events_numbers : (Nat → Int32)} {u_kept_book_size : Int32} {u_kept_book_numbers : (Nat → Int32)} {u_text_size : Int32} {u_text_signs : (Nat → Int32)} {uM_people uM_debts uM_cuts uM_seen uM_events uM_inBook uM_texted uM_imaged : Int32} {uM_owes uM_denies uM_debt uM_cut uM_sight uM_event uM_book uM_text uM_image uM_tapeSort uM_tapeSize : (Nat → Int32)} {uM_items : (Nat → Int64)} {ts tl : (Nat → Int32)} {ti : (Nat → Nat → Int64)} (x1 : Int32) (x2 : Int32) (x3 : Int32) (hR : Rel u_now_people u_now_debts_size u_now_debts_owed u_now_debts_order u_now_consents_refused u_now_trail_size u_now_trail_numbers u_now_seen_size u_now_seen_numbers u_now_events_size u_now_events_numbers u_now_book_size u_now_book_numbers u_isKept u_kept_people u_kept_debts_size u_kept_debts_owed u_kept_debts_order u_kept_consents_refused u_kept_trail_size u_kept_trail_numbers u_kept_seen_size u_kept_seen_numbers u_kept_events_size u_kept_events_numbers u_kept_book_size u_kept_book_numbers u_text_size u_text_signs ts tl ti uM_people uM_owes uM_denies uM_debts uM_debt uM_cuts uM_cut uM_seen uM_sight uM_events uM_event uM_inBook uM_book uM_texted uM_text uM_imaged uM_image uM_tapeSort uM_tapeSize uM_items) :
    ∃ (zc : (Int32 × Int32 × (Nat → Int32) × (Nat → Int32))) (zm : (Int32 × Int32 × (Nat → Int32) × (Nat → Int32))), fX8_owe u_now_people u_now_debts_size u_now_debts_owed u_now_debts_order x1 x2 x3 = some zc ∧ fX9_owe uM_people uM_debts uM_owes uM_debt x1 x2 x3 = some zm ∧ zc.1 = zm.1 ∧ Rel u_now_people zc.2.1 zc.2.2.1 zc.2.2.2 u_now_consents_refused u_now_trail_size u_now_trail_numbers u_now_seen_size u_now_seen_numbers u_now_events_size u_now_events_numbers u_now_book_size u_now_book_numbers u_isKept u_kept_people u_kept_debts_size u_kept_debts_owed u_kept_debts_order u_kept_consents_refused u_kept_trail_size u_kept_trail_numbers u_kept_seen_size u_kept_seen_numbers u_kept_events_size u_kept_events_numbers u_kept_book_size u_kept_book_numbers u_text_size u_text_signs ts tl ti uM_people zm.2.2.1 uM_denies zm.2.1 zm.2.2.2 uM_cuts uM_cut uM_seen uM_sight uM_events uM_event uM_inBook uM_book uM_texted uM_text uM_imaged uM_image uM_tapeSort uM_tapeSize uM_items := by
  obtain ⟨⟨n, v, L, hn, rfl, rfl, hW, hR1, hR2, hC, hT, hS, hE, hB⟩, hK, hX, hQ⟩ := id hR
  unfold fX8_owe fX9_owe
  rcases pp n hn x1 x2 with ⟨i, j, hi, hj, hij, rfl, rfl, e1, e2⟩ | ⟨e1, e2⟩
  · rw [e1, e2]
    simp only [Option.bind_some, on0, if_false]
    rcases wi 1 99 (by decide) (by decide) x3 with ⟨a, ha1, ha2, rfl, e3⟩ | ⟨h3, e3⟩
    · have hc : 6 * i + j < 36 := by omega
      have hv := hW.1 _ hc
      rw [show fX9_within (nI a) 1 99 = some 1 from e3, if_neg (i1 ha1 (by omega)), if_pos (show nI a ≤ (99 : Int32) from nI_le ha2 (by decide)), amount_n (by omega) (by omega), ix6']
      simp only [Option.bind_some, on0, if_false, gA_n hc (show 36 < 2 ^ 31 by decide), nI_clamp (show 6 * i + j < 2 ^ 31 by omega)]
      rw [hR1.2.1 _ hc, hR2.2.1 _ hc, nI_add]
      by_cases h9 : v (6 * i + j) + a ≤ 999
      · have hp : v (6 * i + j) + a = 0 ∨ ((6 * i + j) / 6 < n ∧ (6 * i + j) % 6 < n ∧ (6 * i + j) / 6 ≠ (6 * i + j) % 6) := Or.inr ⟨by omega, by omega, by omega⟩
        obtain ⟨z, a1, a2⟩ := put_n (a := v (6 * i + j) + a) hW hR1 (show i < 6 by omega) (show j < 6 by omega) h9
        obtain ⟨y, b1, b2⟩ := becomes_n (c := 6 * i + j) (a := v (6 * i + j) + a) hW hR2 hc h9 hp
        rw [if_pos (show nI (v (6 * i + j) + a) ≤ (999 : Int32) from nI_le h9 (by decide)), if_pos (show nI (v (6 * i + j) + a) ≤ (999 : Int32) from nI_le h9 (by decide)), a1, b1]
        refine ⟨_, _, rfl, rfl, ?_, ⟨n, _, _, hn, rfl, rfl, hW.set _ _ hc h9 hp, a2, b2, hC, hT, hS, hE, hB⟩, hK, hX, hQ⟩
        show nI (v (6 * i + j) + a) = y.2.1 (6 * i + j)
        rw [b2.2.1 _ hc]; unfold sV; rw [if_pos rfl]
      · rw [if_neg (show ¬ nI (v (6 * i + j) + a) ≤ (999 : Int32) from nI_ge (a := 999) (by omega) (by omega)), if_neg (show ¬ nI (v (6 * i + j) + a) ≤ (999 : Int32) from nI_ge (a := 999) (by omega) (by omega))]
        exact ⟨_, _, rfl, rfl, rfl, hR⟩
    · rw [show fX9_within x3 1 99 = some 0 from e3]
      simp only [Option.bind_some, on1, if_true]
      rcases h3 with h3 | ⟨h3, h4⟩
      · rw [if_pos (show x3 < 1 from h3)]
        exact ⟨_, _, rfl, rfl, rfl, hR⟩
      · rw [if_neg (show ¬ x3 < 1 from h3), if_neg (show ¬ x3 ≤ 99 from lt_nle h4)]
        exact ⟨_, _, rfl, rfl, rfl, hR⟩
  · rw [e1, e2]
    simp only [Option.bind_some, on1, if_true]
    exact ⟨_, _, rfl, rfl, rfl, hR⟩
set_option maxHeartbeats 1000000 in
theorem p_pay {u_isKept u_now_people u_now_debts_size : Int32} {u_now_debts_owed u_now_debts_order u_now_consents_refused : (Nat → Int32)} {u_now_trail_size : Int32} {u_now_trail_numbers : (Nat → Int32)} {u_now_seen_size : Int32} {u_now_seen_numbers : (Nat → Int32)} {u_now_events_size : Int32} {u_now_events_numbers : (Nat → Int32)} {u_now_book_size : Int32} {u_now_book_numbers : (Nat → Int32)} {u_kept_people u_kept_debts_size : Int32} {u_kept_debts_owed u_kept_debts_order u_kept_consents_refused : (Nat → Int32)} {u_kept_trail_size : Int32} {u_kept_trail_numbers : (Nat → Int32)} {u_kept_seen_size : Int32} {u_kept_seen_numbers : (Nat → Int32)} {u_kept_events_size : Int32} {u_kept_events_numbers : (Nat → Int32)} {u_kept_book_size : Int32} {u_kept_book_numbers : (Nat → Int32)} {u_text_size : Int32} {u_text_signs : (Nat → Int32)} {uM_people uM_debts uM_cuts uM_seen uM_events uM_inBook uM_texted uM_imaged : Int32} {uM_owes uM_denies uM_debt uM_cut uM_sight uM_event uM_book uM_text uM_image uM_tapeSort uM_tapeSize : (Nat → Int32)} {uM_items : (Nat → Int64)} {ts tl : (Nat → Int32)} {ti : (Nat → Nat → Int64)} (x1 : Int32) (x2 : Int32) (x3 : Int32) (hR : Rel u_now_people u_now_debts_size u_now_debts_owed u_now_debts_order u_now_consents_refused u_now_trail_size u_now_trail_numbers u_now_seen_size u_now_seen_numbers u_now_events_size u_now_events_numbers u_now_book_size u_now_book_numbers u_isKept u_kept_people u_kept_debts_size u_kept_debts_owed u_kept_debts_order u_kept_consents_refused u_kept_trail_size u_kept_trail_numbers u_kept_seen_size u_kept_seen_numbers u_kept_events_size u_kept_events_numbers u_kept_book_size u_kept_book_numbers u_text_size u_text_signs ts tl ti uM_people uM_owes uM_denies uM_debts uM_debt uM_cuts uM_cut uM_seen uM_sight uM_events uM_event uM_inBook uM_book uM_texted uM_text uM_imaged uM_image uM_tapeSort uM_tapeSize uM_items) :
    ∃ (zc : (Int32 × Int32 × (Nat → Int32) × (Nat → Int32))) (zm : (Int32 × Int32 × (Nat → Int32) × (Nat → Int32))), fX8_pay u_now_people u_now_debts_size u_now_debts_owed u_now_debts_order x1 x2 x3 = some zc ∧ fX9_pay uM_people uM_debts uM_owes uM_debt x1 x2 x3 = some zm ∧ zc.1 = zm.1 ∧ Rel u_now_people zc.2.1 zc.2.2.1 zc.2.2.2 u_now_consents_refused u_now_trail_size u_now_trail_numbers u_now_seen_size u_now_seen_numbers u_now_events_size u_now_events_numbers u_now_book_size u_now_book_numbers u_isKept u_kept_people u_kept_debts_size u_kept_debts_owed u_kept_debts_order u_kept_consents_refused u_kept_trail_size u_kept_trail_numbers u_kept_seen_size u_kept_seen_numbers u_kept_events_size u_kept_events_numbers u_kept_book_size u_kept_book_numbers u_text_size u_text_signs ts tl ti uM_people zm.2.2.1 uM_denies zm.2.1 zm.2.2.2 uM_cuts uM_cut uM_seen uM_sight uM_events uM_event uM_inBook uM_book uM_texted uM_text uM_imaged uM_image uM_tapeSort uM_tapeSize uM_items := by
  obtain ⟨⟨n, v, L, hn, rfl, rfl, hW, hR1, hR2, hC, hT, hS, hE, hB⟩, hK, hX, hQ⟩ := id hR
  unfold fX8_pay fX9_pay
  rcases pp n hn x1 x2 with ⟨i, j, hi, hj, hij, rfl, rfl, e1, e2⟩ | ⟨e1, e2⟩
  · rw [e1, e2]
    simp only [Option.bind_some, on0, if_false]
    rcases wi 1 99 (by decide) (by decide) x3 with ⟨a, ha1, ha2, rfl, e3⟩ | ⟨h3, e3⟩
    · have hc : 6 * i + j < 36 := by omega
      have hv := hW.1 _ hc
      rw [show fX9_within (nI a) 1 99 = some 1 from e3, if_neg (i1 ha1 (by omega)), if_pos (show nI a ≤ (99 : Int32) from nI_le ha2 (by decide)), amount_n (by omega) (by omega), ix6']
      simp only [Option.bind_some, on0, if_false, gA_n hc (show 36 < 2 ^ 31 by decide), nI_clamp (show 6 * i + j < 2 ^ 31 by omega)]
      rw [hR1.2.1 _ hc, hR2.2.1 _ hc]
      by_cases h9 : a ≤ v (6 * i + j)
      · have hp : v (6 * i + j) - a = 0 ∨ ((6 * i + j) / 6 < n ∧ (6 * i + j) % 6 < n ∧ (6 * i + j) / 6 ≠ (6 * i + j) % 6) := Or.inr ⟨by omega, by omega, by omega⟩
        obtain ⟨z, a1, a2⟩ := put_n (a := v (6 * i + j) - a) hW hR1 (show i < 6 by omega) (show j < 6 by omega) (by omega)
        obtain ⟨y, b1, b2⟩ := becomes_n (c := 6 * i + j) (a := v (6 * i + j) - a) hW hR2 hc (by omega) hp
        rw [pk_sub h9, if_pos (nI_pos' (by omega)), if_pos (nI_le h9 (by omega)), a1, b1]
        refine ⟨_, _, rfl, rfl, ?_, ⟨n, _, _, hn, rfl, rfl, hW.set _ _ hc (by omega) hp, a2, b2, hC, hT, hS, hE, hB⟩, hK, hX, hQ⟩
        show nI (v (6 * i + j) - a) = y.2.1 (6 * i + j)
        rw [b2.2.1 _ hc]; unfold sV; rw [if_pos rfl]
      · rw [if_neg (lt_nle (pk_sneg (by omega) (by omega))), if_neg (nI_ge (by omega) (by omega))]
        exact ⟨_, _, rfl, rfl, rfl, hR⟩
    · rw [show fX9_within x3 1 99 = some 0 from e3]
      simp only [Option.bind_some, on1, if_true]
      rcases h3 with h3 | ⟨h3, h4⟩
      · rw [if_pos (show x3 < 1 from h3)]
        exact ⟨_, _, rfl, rfl, rfl, hR⟩
      · rw [if_neg (show ¬ x3 < 1 from h3), if_neg (show ¬ x3 ≤ 99 from lt_nle h4)]
        exact ⟨_, _, rfl, rfl, rfl, hR⟩
  · rw [e1, e2]
    simp only [Option.bind_some, on1, if_true]
    exact ⟨_, _, rfl, rfl, rfl, hR⟩
set_option maxHeartbeats 1000000 in
theorem p_consent {u_isKept u_now_people u_now_debts_size : Int32} {u_now_debts_owed u_now_debts_order u_now_consents_refused : (Nat → Int32)} {u_now_trail_size : Int32} {u_now_trail_numbers : (Nat → Int32)} {u_now_seen_size : Int32} {u_now_seen_numbers : (Nat → Int32)} {u_now_events_size : Int32} {u_now_events_numbers : (Nat → Int32)} {u_now_book_size : Int32} {u_now_book_numbers : (Nat → Int32)} {u_kept_people u_kept_debts_size : Int32} {u_kept_debts_owed u_kept_debts_order u_kept_consents_refused : (Nat → Int32)} {u_kept_trail_size : Int32} {u_kept_trail_numbers : (Nat → Int32)} {u_kept_seen_size : Int32} {u_kept_seen_numbers : (Nat → Int32)} {u_kept_events_size : Int32} {u_kept_events_numbers : (Nat → Int32)} {u_kept_book_size : Int32} {u_kept_book_numbers : (Nat → Int32)} {u_text_size : Int32} {u_text_signs : (Nat → Int32)} {uM_people uM_debts uM_cuts uM_seen uM_events uM_inBook uM_texted uM_imaged : Int32} {uM_owes uM_denies uM_debt uM_cut uM_sight uM_event uM_book uM_text uM_image uM_tapeSort uM_tapeSize : (Nat → Int32)} {uM_items : (Nat → Int64)} {ts tl : (Nat → Int32)} {ti : (Nat → Nat → Int64)} (x1 : Int32) (x2 : Int32) (x3 : Int32) (hx3 : x3 = 0 ∨ x3 = 1) (hR : Rel u_now_people u_now_debts_size u_now_debts_owed u_now_debts_order u_now_consents_refused u_now_trail_size u_now_trail_numbers u_now_seen_size u_now_seen_numbers u_now_events_size u_now_events_numbers u_now_book_size u_now_book_numbers u_isKept u_kept_people u_kept_debts_size u_kept_debts_owed u_kept_debts_order u_kept_consents_refused u_kept_trail_size u_kept_trail_numbers u_kept_seen_size u_kept_seen_numbers u_kept_events_size u_kept_events_numbers u_kept_book_size u_kept_book_numbers u_text_size u_text_signs ts tl ti uM_people uM_owes uM_denies uM_debts uM_debt uM_cuts uM_cut uM_seen uM_sight uM_events uM_event uM_inBook uM_book uM_texted uM_text uM_imaged uM_image uM_tapeSort uM_tapeSize uM_items) :
    ∃ (zc : (Int32 × (Nat → Int32))) (zm : (Int32 × (Nat → Int32))), fX8_consent u_now_people u_now_consents_refused x1 x2 x3 = some zc ∧ fX9_consent uM_people uM_denies x1 x2 x3 = some zm ∧ zc.1 = zm.1 ∧ Rel u_now_people u_now_debts_size u_now_debts_owed u_now_debts_order zc.2 u_now_trail_size u_now_trail_numbers u_now_seen_size u_now_seen_numbers u_now_events_size u_now_events_numbers u_now_book_size u_now_book_numbers u_isKept u_kept_people u_kept_debts_size u_kept_debts_owed u_kept_debts_order u_kept_consents_refused u_kept_trail_size u_kept_trail_numbers u_kept_seen_size u_kept_seen_numbers u_kept_events_size u_kept_events_numbers u_kept_book_size u_kept_book_numbers u_text_size u_text_signs ts tl ti uM_people uM_owes zm.2 uM_debts uM_debt uM_cuts uM_cut uM_seen uM_sight uM_events uM_event uM_inBook uM_book uM_texted uM_text uM_imaged uM_image uM_tapeSort uM_tapeSize uM_items := by
  obtain ⟨⟨n, v, L, hn, rfl, rfl, hW, hR1, hR2, hC, hT, hS, hE, hB⟩, hK, hX, hQ⟩ := id hR
  unfold fX8_consent fX9_consent
  rcases pp n hn x1 x2 with ⟨i, j, hi, hj, hij, rfl, rfl, e1, e2⟩ | ⟨e1, e2⟩
  · have hc : 6 * i + j < 36 := by omega
    obtain ⟨h1, h2⟩ := hC.1 _ hc
    rw [e1, e2]
    simp only [Option.bind_some, on0, if_false]
    rw [given_n (by omega) (by omega), cput_n (by omega) (by omega), ix6']
    simp only [Option.bind_some, gA_n hc (show 36 < 2 ^ 31 by decide), nI_clamp (show 6 * i + j < 2 ^ 31 by omega)]
    rw [asn _ (by rcases h2 with h2 | h2 <;> rw [h2] <;> decide)]
    simp only [Option.bind_some]
    have hans : (if u_now_consents_refused (6 * i + j) = 0 then (1 : Int32) else 0) = 1 - uM_denies (6 * i + j) := by
      rw [← h1]
      rcases h2 with h2 | h2 <;> rw [h2] <;> decide
    have hCR : ∀ y : Int32, y = 0 ∨ y = 1 → ConR n (upd u_now_consents_refused (6 * i + j) y) (upd uM_denies (6 * i + j) y) := by
      intro y hy
      refine ⟨fun k hk => ?_, fun k hk hk2 => ?_⟩
      · rw [up_eq, up_eq]
        by_cases e : k = 6 * i + j
        · rw [if_pos e]; exact ⟨by rw [if_pos e], hy⟩
        · simp only [if_neg e]; exact hC.1 k hk
      · rw [up_eq, if_neg (fun e => hk2 (by rw [e]; exact ⟨by omega, by omega⟩))]; exact hC.2 k hk hk2
    by_cases e3 : x3 = 0
    · simp only [if_pos e3]
      exact ⟨_, _, rfl, rfl, hans, ⟨n, v, L, hn, rfl, rfl, hW, hR1, hR2, hCR 1 (Or.inr rfl), hT, hS, hE, hB⟩, hK, hX, hQ⟩
    · simp only [if_neg e3]
      exact ⟨_, _, rfl, rfl, hans, ⟨n, v, L, hn, rfl, rfl, hW, hR1, hR2, hCR 0 (Or.inl rfl), hT, hS, hE, hB⟩, hK, hX, hQ⟩
  · rw [e1, e2]
    simp only [Option.bind_some, on1, if_true]
    exact ⟨_, _, rfl, rfl, rfl, hR⟩
set_option maxHeartbeats 1000000 in
theorem p_of {u_isKept u_now_people u_now_debts_size : Int32} {u_now_debts_owed u_now_debts_order u_now_consents_refused : (Nat → Int32)} {u_now_trail_size : Int32} {u_now_trail_numbers : (Nat → Int32)} {u_now_seen_size : Int32} {u_now_seen_numbers : (Nat → Int32)} {u_now_events_size : Int32} {u_now_events_numbers : (Nat → Int32)} {u_now_book_size : Int32} {u_now_book_numbers : (Nat → Int32)} {u_kept_people u_kept_debts_size : Int32} {u_kept_debts_owed u_kept_debts_order u_kept_consents_refused : (Nat → Int32)} {u_kept_trail_size : Int32} {u_kept_trail_numbers : (Nat → Int32)} {u_kept_seen_size : Int32} {u_kept_seen_numbers : (Nat → Int32)} {u_kept_events_size : Int32} {u_kept_events_numbers : (Nat → Int32)} {u_kept_book_size : Int32} {u_kept_book_numbers : (Nat → Int32)} {u_text_size : Int32} {u_text_signs : (Nat → Int32)} {uM_people uM_debts uM_cuts uM_seen uM_events uM_inBook uM_texted uM_imaged : Int32} {uM_owes uM_denies uM_debt uM_cut uM_sight uM_event uM_book uM_text uM_image uM_tapeSort uM_tapeSize : (Nat → Int32)} {uM_items : (Nat → Int64)} {ts tl : (Nat → Int32)} {ti : (Nat → Nat → Int64)} (x1 : Int32) (x2 : Int32) (x3 : Int32) (hR : Rel u_now_people u_now_debts_size u_now_debts_owed u_now_debts_order u_now_consents_refused u_now_trail_size u_now_trail_numbers u_now_seen_size u_now_seen_numbers u_now_events_size u_now_events_numbers u_now_book_size u_now_book_numbers u_isKept u_kept_people u_kept_debts_size u_kept_debts_owed u_kept_debts_order u_kept_consents_refused u_kept_trail_size u_kept_trail_numbers u_kept_seen_size u_kept_seen_numbers u_kept_events_size u_kept_events_numbers u_kept_book_size u_kept_book_numbers u_text_size u_text_signs ts tl ti uM_people uM_owes uM_denies uM_debts uM_debt uM_cuts uM_cut uM_seen uM_sight uM_events uM_event uM_inBook uM_book uM_texted uM_text uM_imaged uM_image uM_tapeSort uM_tapeSize uM_items) :
    ∃ (zc : Int32) (zm : Int32), fX8_of u_now_people u_now_debts_size u_now_debts_owed u_now_debts_order u_now_consents_refused x1 x2 x3 = some zc ∧ fX9_of uM_people uM_debts uM_owes uM_denies uM_debt x1 x2 x3 = some zm ∧ zc = zm ∧ Rel u_now_people u_now_debts_size u_now_debts_owed u_now_debts_order u_now_consents_refused u_now_trail_size u_now_trail_numbers u_now_seen_size u_now_seen_numbers u_now_events_size u_now_events_numbers u_now_book_size u_now_book_numbers u_isKept u_kept_people u_kept_debts_size u_kept_debts_owed u_kept_debts_order u_kept_consents_refused u_kept_trail_size u_kept_trail_numbers u_kept_seen_size u_kept_seen_numbers u_kept_events_size u_kept_events_numbers u_kept_book_size u_kept_book_numbers u_text_size u_text_signs ts tl ti uM_people uM_owes uM_denies uM_debts uM_debt uM_cuts uM_cut uM_seen uM_sight uM_events uM_event uM_inBook uM_book uM_texted uM_text uM_imaged uM_image uM_tapeSort uM_tapeSize uM_items := by
  obtain ⟨⟨n, v, L, hn, rfl, rfl, hW, hR1, hR2, hC, hT, hS, hE, hB⟩, hK, hX, hQ⟩ := id hR
  unfold fX8_of fX9_of
  rcases pp n hn x1 x2 with ⟨i, j, hi, hj, hij, rfl, rfl, e1, e2⟩ | ⟨e1, e2⟩
  · have hc : 6 * i + j < 36 := by omega
    obtain ⟨h1, h2⟩ := hC.1 _ hc
    have hlen := hW.len
    have hs1 := hR1.1
    have hs2 := hR2.1
    subst hs1 hs2
    rw [e1, e2]
    simp only [Option.bind_some, on0, if_false]
    rw [amount_n (by omega) (by omega), given_n (by omega) (by omega), ix6']
    unfold fX2_placeOf fX9_numberOf
    rw [show fX2_placeOf_L2 (nI L.length) u_now_debts_owed u_now_debts_order (nI i) (nI j) 400 0 = _ from pl_l hW hR1 (show i < 6 by omega) (show j < 6 by omega) L.length 400 0 (by omega) (by omega), show fX9_numberOf_L2 (nI L.length) uM_debt (nI (6 * i + j)) 400 0 = _ from nu_l hW hR2.lr hc L.length 400 0 (by omega) (by omega)]
    simp only [Option.bind_some, gA_n hc (show 36 < 2 ^ 31 by decide), nI_clamp (show 6 * i + j < 2 ^ 31 by omega)]
    rw [asn _ (by rcases h2 with h2 | h2 <;> rw [h2] <;> decide)]
    simp only [Option.bind_some]
    by_cases e3 : x3 = 0
    · simp only [if_pos e3]
      exact ⟨_, _, rfl, rfl, by rw [hR1.2.1 _ hc, hR2.2.1 _ hc], hR⟩
    · simp only [if_neg e3]
      by_cases e4 : x3 = 1
      · simp only [if_pos e4]
        refine ⟨_, _, rfl, rfl, ?_, hR⟩
        rw [← h1]
        rcases h2 with h2 | h2 <;> rw [h2] <;> decide
      · simp only [if_neg e4]
        by_cases e5 : x3 = 2
        · simp only [if_pos e5]
          exact ⟨_, _, rfl, rfl, rfl, hR⟩
        · simp only [if_neg e5]
          exact ⟨_, _, rfl, rfl, rfl, hR⟩
  · rw [e1, e2]
    simp only [Option.bind_some, on1, if_true]
    exact ⟨_, _, rfl, rfl, rfl, hR⟩
set_option maxHeartbeats 1000000 in
theorem p_debt {u_isKept u_now_people u_now_debts_size : Int32} {u_now_debts_owed u_now_debts_order u_now_consents_refused : (Nat → Int32)} {u_now_trail_size : Int32} {u_now_trail_numbers : (Nat → Int32)} {u_now_seen_size : Int32} {u_now_seen_numbers : (Nat → Int32)} {u_now_events_size : Int32} {u_now_events_numbers : (Nat → Int32)} {u_now_book_size : Int32} {u_now_book_numbers : (Nat → Int32)} {u_kept_people u_kept_debts_size : Int32} {u_kept_debts_owed u_kept_debts_order u_kept_consents_refused : (Nat → Int32)} {u_kept_trail_size : Int32} {u_kept_trail_numbers : (Nat → Int32)} {u_kept_seen_size : Int32} {u_kept_seen_numbers : (Nat → Int32)} {u_kept_events_size : Int32} {u_kept_events_numbers : (Nat → Int32)} {u_kept_book_size : Int32} {u_kept_book_numbers : (Nat → Int32)} {u_text_size : Int32} {u_text_signs : (Nat → Int32)} {uM_people uM_debts uM_cuts uM_seen uM_events uM_inBook uM_texted uM_imaged : Int32} {uM_owes uM_denies uM_debt uM_cut uM_sight uM_event uM_book uM_text uM_image uM_tapeSort uM_tapeSize : (Nat → Int32)} {uM_items : (Nat → Int64)} {ts tl : (Nat → Int32)} {ti : (Nat → Nat → Int64)} (x1 : Int32) (x2 : Int32) (hR : Rel u_now_people u_now_debts_size u_now_debts_owed u_now_debts_order u_now_consents_refused u_now_trail_size u_now_trail_numbers u_now_seen_size u_now_seen_numbers u_now_events_size u_now_events_numbers u_now_book_size u_now_book_numbers u_isKept u_kept_people u_kept_debts_size u_kept_debts_owed u_kept_debts_order u_kept_consents_refused u_kept_trail_size u_kept_trail_numbers u_kept_seen_size u_kept_seen_numbers u_kept_events_size u_kept_events_numbers u_kept_book_size u_kept_book_numbers u_text_size u_text_signs ts tl ti uM_people uM_owes uM_denies uM_debts uM_debt uM_cuts uM_cut uM_seen uM_sight uM_events uM_event uM_inBook uM_book uM_texted uM_text uM_imaged uM_image uM_tapeSort uM_tapeSize uM_items) :
    ∃ (zc : Int32) (zm : Int32), fX8_debt u_now_debts_size u_now_debts_owed u_now_debts_order x1 x2 = some zc ∧ fX9_debt uM_debts uM_owes uM_debt x1 x2 = some zm ∧ zc = zm ∧ Rel u_now_people u_now_debts_size u_now_debts_owed u_now_debts_order u_now_consents_refused u_now_trail_size u_now_trail_numbers u_now_seen_size u_now_seen_numbers u_now_events_size u_now_events_numbers u_now_book_size u_now_book_numbers u_isKept u_kept_people u_kept_debts_size u_kept_debts_owed u_kept_debts_order u_kept_consents_refused u_kept_trail_size u_kept_trail_numbers u_kept_seen_size u_kept_seen_numbers u_kept_events_size u_kept_events_numbers u_kept_book_size u_kept_book_numbers u_text_size u_text_signs ts tl ti uM_people uM_owes uM_denies uM_debts uM_debt uM_cuts uM_cut uM_seen uM_sight uM_events uM_event uM_inBook uM_book uM_texted uM_text uM_imaged uM_image uM_tapeSort uM_tapeSize uM_items := by
  obtain ⟨⟨n, v, L, hn, rfl, rfl, hW, hR1, hR2, hC, hT, hS, hE, hB⟩, hK, hX, hQ⟩ := id hR
  have hlen := hW.len
  have hs1 := hR1.1
  have hs2 := hR2.1
  subst hs1 hs2
  unfold fX8_debt fX9_debt
  rcases wn L.length (by omega) x1 with ⟨k, hk, rfl, e⟩ | ⟨h, e⟩
  · have hcc := hW.2.2.2 _ (gp_mem L k hk)
    rw [e, cat_n hW hR1 hk]
    simp only [Option.bind_some, on0, if_false, gA_n (show k < 30 by omega) (show 30 < 2 ^ 31 by decide), nI_clamp (show k < 2 ^ 31 by omega), LR_gp0 hR2.lr hk, dv6 (show gp L k < 2 ^ 31 by omega), rm6' (show gp L k < 2 ^ 31 by omega), gA_n hcc.1 (show 36 < 2 ^ 31 by decide), nI_clamp (show gp L k < 2 ^ 31 by omega), hR2.2.1 _ hcc.1]
    by_cases e3 : x2 = 0
    · simp only [if_pos e3]
      exact ⟨_, _, rfl, rfl, rfl, hR⟩
    · simp only [if_neg e3]
      by_cases e4 : x2 = 1
      · simp only [if_pos e4]
        exact ⟨_, _, rfl, rfl, rfl, hR⟩
      · simp only [if_neg e4]
        by_cases e5 : x2 = 2
        · simp only [if_pos e5]
          exact ⟨_, _, rfl, rfl, rfl, hR⟩
        · simp only [if_neg e5]
          exact ⟨_, _, rfl, rfl, rfl, hR⟩
  · rw [e]
    simp only [Option.bind_some, on1, if_true]
    have : fX2_at (nI L.length) u_now_debts_owed u_now_debts_order x1 x2 = some (-1) := by
      unfold fX2_at
      rcases h with h | ⟨h, h2⟩
      · rw [if_pos h]
      · rw [if_neg h, if_neg (fun x => lt_nle x h2)]
    rw [this]
    exact ⟨_, _, rfl, rfl, rfl, hR⟩
set_option maxHeartbeats 1000000 in
theorem p_feed {u_isKept u_now_people u_now_debts_size : Int32} {u_now_debts_owed u_now_debts_order u_now_consents_refused : (Nat → Int32)} {u_now_trail_size : Int32} {u_now_trail_numbers : (Nat → Int32)} {u_now_seen_size : Int32} {u_now_seen_numbers : (Nat → Int32)} {u_now_events_size : Int32} {u_now_events_numbers : (Nat → Int32)} {u_now_book_size : Int32} {u_now_book_numbers : (Nat → Int32)} {u_kept_people u_kept_debts_size : Int32} {u_kept_debts_owed u_kept_debts_order u_kept_consents_refused : (Nat → Int32)} {u_kept_trail_size : Int32} {u_kept_trail_numbers : (Nat → Int32)} {u_kept_seen_size : Int32} {u_kept_seen_numbers : (Nat → Int32)} {u_kept_events_size : Int32} {u_kept_events_numbers : (Nat → Int32)} {u_kept_book_size : Int32} {u_kept_book_numbers : (Nat → Int32)} {u_text_size : Int32} {u_text_signs : (Nat → Int32)} {uM_people uM_debts uM_cuts uM_seen uM_events uM_inBook uM_texted uM_imaged : Int32} {uM_owes uM_denies uM_debt uM_cut uM_sight uM_event uM_book uM_text uM_image uM_tapeSort uM_tapeSize : (Nat → Int32)} {uM_items : (Nat → Int64)} {ts tl : (Nat → Int32)} {ti : (Nat → Nat → Int64)} (x1 : Int32) (hR : Rel u_now_people u_now_debts_size u_now_debts_owed u_now_debts_order u_now_consents_refused u_now_trail_size u_now_trail_numbers u_now_seen_size u_now_seen_numbers u_now_events_size u_now_events_numbers u_now_book_size u_now_book_numbers u_isKept u_kept_people u_kept_debts_size u_kept_debts_owed u_kept_debts_order u_kept_consents_refused u_kept_trail_size u_kept_trail_numbers u_kept_seen_size u_kept_seen_numbers u_kept_events_size u_kept_events_numbers u_kept_book_size u_kept_book_numbers u_text_size u_text_signs ts tl ti uM_people uM_owes uM_denies uM_debts uM_debt uM_cuts uM_cut uM_seen uM_sight uM_events uM_event uM_inBook uM_book uM_texted uM_text uM_imaged uM_image uM_tapeSort uM_tapeSize uM_items) :
    ∃ (zc : (Int32 × Int32 × (Nat → Int32))) (zm : (Int32 × Int32 × (Nat → Int32))), fX8_feed u_text_size u_text_signs x1 = some zc ∧ fX9_feed uM_texted uM_text x1 = some zm ∧ zc.1 = zm.1 ∧ Rel u_now_people u_now_debts_size u_now_debts_owed u_now_debts_order u_now_consents_refused u_now_trail_size u_now_trail_numbers u_now_seen_size u_now_seen_numbers u_now_events_size u_now_events_numbers u_now_book_size u_now_book_numbers u_isKept u_kept_people u_kept_debts_size u_kept_debts_owed u_kept_debts_order u_kept_consents_refused u_kept_trail_size u_kept_trail_numbers u_kept_seen_size u_kept_seen_numbers u_kept_events_size u_kept_events_numbers u_kept_book_size u_kept_book_numbers zc.2.1 zc.2.2 ts tl ti uM_people uM_owes uM_denies uM_debts uM_debt uM_cuts uM_cut uM_seen uM_sight uM_events uM_event uM_inBook uM_book zm.2.1 zm.2.2 uM_imaged uM_image uM_tapeSort uM_tapeSize uM_items := by
  obtain ⟨⟨n, v, L, hn, rfl, rfl, hW, hR1, hR2, hC, hT, hS, hE, hB⟩, hK, hX, hQ⟩ := id hR
  obtain ⟨t, ht, rfl, rfl, hx⟩ := id hX
  unfold fX8_feed fX9_feed
  rcases wi 0 127 (by decide) (by decide) x1 with ⟨c, _, hc, rfl, e⟩ | ⟨h, e⟩
  · rw [show fX9_within (nI c) 0 127 = some 1 from e, if_neg (nI_pos (by omega)), if_pos (show nI c ≤ (127 : Int32) from nI_le hc (by decide))]
    simp only [Option.bind_some, on0, if_false]
    unfold fX7_add
    by_cases h1 : t = 100
    · rw [if_neg (show ¬ nI t < (100 : Int32) by rw [h1]; decide), if_pos (show nI t = (100 : Int32) by rw [h1]; rfl)]
      exact ⟨_, _, rfl, rfl, rfl, hR⟩
    · rw [if_pos (show nI t < (100 : Int32) from nI_lt (b := 100) (by omega) (by decide)), if_neg (show ¬ nI t = (100 : Int32) from fun x => h1 ((nI_eq (b := 100) (by omega) (by decide)).mp x)), gA_n (by omega) (by decide), gA_n (by omega) (by decide), nI_clamp (by omega), nI_1, byte_n (by omega)]
      refine ⟨_, _, rfl, rfl, rfl, ⟨n, v, L, hn, rfl, rfl, hW, hR1, hR2, hC, hT, hS, hE, hB⟩, hK, ⟨t + 1, by omega, rfl, rfl, fun k hk => ?_⟩, hQ⟩
      show upd u_text_signs t (nI c) k = upd uM_text t (nI c) k ∧ ∃ c', c' ≤ 127 ∧ upd u_text_signs t (nI c) k = nI c'
      rw [up_eq, up_eq]
      by_cases e5 : k = t
      · rw [if_pos e5]; exact ⟨by rw [if_pos e5], c, hc, rfl⟩
      · simp only [if_neg e5]; exact hx k (by omega)
  · rw [show fX9_within x1 0 127 = some 0 from e]
    simp only [Option.bind_some, on1, if_true]
    rcases h with h | ⟨h, h2⟩
    · rw [if_pos (show x1 < 0 from h)]
      exact ⟨_, _, rfl, rfl, rfl, hR⟩
    · rw [if_neg (show ¬ x1 < 0 from h), if_neg (show ¬ x1 ≤ 127 from lt_nle h2)]
      exact ⟨_, _, rfl, rfl, rfl, hR⟩
set_option maxHeartbeats 1000000 in
theorem p_trail {u_isKept u_now_people u_now_debts_size : Int32} {u_now_debts_owed u_now_debts_order u_now_consents_refused : (Nat → Int32)} {u_now_trail_size : Int32} {u_now_trail_numbers : (Nat → Int32)} {u_now_seen_size : Int32} {u_now_seen_numbers : (Nat → Int32)} {u_now_events_size : Int32} {u_now_events_numbers : (Nat → Int32)} {u_now_book_size : Int32} {u_now_book_numbers : (Nat → Int32)} {u_kept_people u_kept_debts_size : Int32} {u_kept_debts_owed u_kept_debts_order u_kept_consents_refused : (Nat → Int32)} {u_kept_trail_size : Int32} {u_kept_trail_numbers : (Nat → Int32)} {u_kept_seen_size : Int32} {u_kept_seen_numbers : (Nat → Int32)} {u_kept_events_size : Int32} {u_kept_events_numbers : (Nat → Int32)} {u_kept_book_size : Int32} {u_kept_book_numbers : (Nat → Int32)} {u_text_size : Int32} {u_text_signs : (Nat → Int32)} {uM_people uM_debts uM_cuts uM_seen uM_events uM_inBook uM_texted uM_imaged : Int32} {uM_owes uM_denies uM_debt uM_cut uM_sight uM_event uM_book uM_text uM_image uM_tapeSort uM_tapeSize : (Nat → Int32)} {uM_items : (Nat → Int64)} {ts tl : (Nat → Int32)} {ti : (Nat → Nat → Int64)} (x1 : Int32) (x2 : Int32) (hR : Rel u_now_people u_now_debts_size u_now_debts_owed u_now_debts_order u_now_consents_refused u_now_trail_size u_now_trail_numbers u_now_seen_size u_now_seen_numbers u_now_events_size u_now_events_numbers u_now_book_size u_now_book_numbers u_isKept u_kept_people u_kept_debts_size u_kept_debts_owed u_kept_debts_order u_kept_consents_refused u_kept_trail_size u_kept_trail_numbers u_kept_seen_size u_kept_seen_numbers u_kept_events_size u_kept_events_numbers u_kept_book_size u_kept_book_numbers u_text_size u_text_signs ts tl ti uM_people uM_owes uM_denies uM_debts uM_debt uM_cuts uM_cut uM_seen uM_sight uM_events uM_event uM_inBook uM_book uM_texted uM_text uM_imaged uM_image uM_tapeSort uM_tapeSize uM_items) :
    ∃ (zc : Int32) (zm : Int32), fX8_trail 120 u_now_trail_size u_now_trail_numbers x1 x2 = some zc ∧ fX9_trail uM_cuts uM_cut x1 x2 = some zm ∧ zc = zm ∧ Rel u_now_people u_now_debts_size u_now_debts_owed u_now_debts_order u_now_consents_refused u_now_trail_size u_now_trail_numbers u_now_seen_size u_now_seen_numbers u_now_events_size u_now_events_numbers u_now_book_size u_now_book_numbers u_isKept u_kept_people u_kept_debts_size u_kept_debts_owed u_kept_debts_order u_kept_consents_refused u_kept_trail_size u_kept_trail_numbers u_kept_seen_size u_kept_seen_numbers u_kept_events_size u_kept_events_numbers u_kept_book_size u_kept_book_numbers u_text_size u_text_signs ts tl ti uM_people uM_owes uM_denies uM_debts uM_debt uM_cuts uM_cut uM_seen uM_sight uM_events uM_event uM_inBook uM_book uM_texted uM_text uM_imaged uM_image uM_tapeSort uM_tapeSize uM_items := by
  obtain ⟨⟨n, v, L, hn, rfl, rfl, hW, hR1, hR2, hC, hT, hS, hE, hB⟩, hK, hX, hQ⟩ := id hR
  obtain ⟨t, ht, rfl, rfl, hx⟩ := id hT
  unfold fX8_trail fX9_trail
  obtain ⟨z, a1, a2⟩ := rd_same (N := 120) (M := 120) (t := t) (by omega) (by decide) (by omega) (by decide) hx x1 x2
  rw [a1, a2]
  exact ⟨_, _, rfl, rfl, rfl, hR⟩
set_option maxHeartbeats 1000000 in
theorem p_forget {u_isKept u_now_people u_now_debts_size : Int32} {u_now_debts_owed u_now_debts_order u_now_consents_refused : (Nat → Int32)} {u_now_trail_size : Int32} {u_now_trail_numbers : (Nat → Int32)} {u_now_seen_size : Int32} {u_now_seen_numbers : (Nat → Int32)} {u_now_events_size : Int32} {u_now_events_numbers : (Nat → Int32)} {u_now_book_size : Int32} {u_now_book_numbers : (Nat → Int32)} {u_kept_people u_kept_debts_size : Int32} {u_kept_debts_owed u_kept_debts_order u_kept_consents_refused : (Nat → Int32)} {u_kept_trail_size : Int32} {u_kept_trail_numbers : (Nat → Int32)} {u_kept_seen_size : Int32} {u_kept_seen_numbers : (Nat → Int32)} {u_kept_events_size : Int32} {u_kept_events_numbers : (Nat → Int32)} {u_kept_book_size : Int32} {u_kept_book_numbers : (Nat → Int32)} {u_text_size : Int32} {u_text_signs : (Nat → Int32)} {uM_people uM_debts uM_cuts uM_seen uM_events uM_inBook uM_texted uM_imaged : Int32} {uM_owes uM_denies uM_debt uM_cut uM_sight uM_event uM_book uM_text uM_image uM_tapeSort uM_tapeSize : (Nat → Int32)} {uM_items : (Nat → Int64)} {ts tl : (Nat → Int32)} {ti : (Nat → Nat → Int64)} (hR : Rel u_now_people u_now_debts_size u_now_debts_owed u_now_debts_order u_now_consents_refused u_now_trail_size u_now_trail_numbers u_now_seen_size u_now_seen_numbers u_now_events_size u_now_events_numbers u_now_book_size u_now_book_numbers u_isKept u_kept_people u_kept_debts_size u_kept_debts_owed u_kept_debts_order u_kept_consents_refused u_kept_trail_size u_kept_trail_numbers u_kept_seen_size u_kept_seen_numbers u_kept_events_size u_kept_events_numbers u_kept_book_size u_kept_book_numbers u_text_size u_text_signs ts tl ti uM_people uM_owes uM_denies uM_debts uM_debt uM_cuts uM_cut uM_seen uM_sight uM_events uM_event uM_inBook uM_book uM_texted uM_text uM_imaged uM_image uM_tapeSort uM_tapeSize uM_items) :
    ∃ (zc : (Int32 × Int32)) (zm : (Int32 × Int32)), fX8_forget u_now_trail_size = some zc ∧ fX9_forget uM_cuts = some zm ∧ zc.1 = zm.1 ∧ Rel u_now_people u_now_debts_size u_now_debts_owed u_now_debts_order u_now_consents_refused zc.2 u_now_trail_numbers u_now_seen_size u_now_seen_numbers u_now_events_size u_now_events_numbers u_now_book_size u_now_book_numbers u_isKept u_kept_people u_kept_debts_size u_kept_debts_owed u_kept_debts_order u_kept_consents_refused u_kept_trail_size u_kept_trail_numbers u_kept_seen_size u_kept_seen_numbers u_kept_events_size u_kept_events_numbers u_kept_book_size u_kept_book_numbers u_text_size u_text_signs ts tl ti uM_people uM_owes uM_denies uM_debts uM_debt zm.2 uM_cut uM_seen uM_sight uM_events uM_event uM_inBook uM_book uM_texted uM_text uM_imaged uM_image uM_tapeSort uM_tapeSize uM_items := by
  obtain ⟨⟨n, v, L, hn, rfl, rfl, hW, hR1, hR2, hC, hT, hS, hE, hB⟩, hK, hX, hQ⟩ := id hR
  obtain ⟨t, ht, rfl, rfl, hx⟩ := id hT
  unfold fX8_forget fX9_forget fX5_size fX5_clear
  exact ⟨_, _, rfl, rfl, rfl, ⟨n, v, L, hn, rfl, rfl, hW, hR1, hR2, hC, RowR.clear, hS, hE, hB⟩, hK, hX, hQ⟩
set_option maxHeartbeats 1000000 in
theorem p_see {u_isKept u_now_people u_now_debts_size : Int32} {u_now_debts_owed u_now_debts_order u_now_consents_refused : (Nat → Int32)} {u_now_trail_size : Int32} {u_now_trail_numbers : (Nat → Int32)} {u_now_seen_size : Int32} {u_now_seen_numbers : (Nat → Int32)} {u_now_events_size : Int32} {u_now_events_numbers : (Nat → Int32)} {u_now_book_size : Int32} {u_now_book_numbers : (Nat → Int32)} {u_kept_people u_kept_debts_size : Int32} {u_kept_debts_owed u_kept_debts_order u_kept_consents_refused : (Nat → Int32)} {u_kept_trail_size : Int32} {u_kept_trail_numbers : (Nat → Int32)} {u_kept_seen_size : Int32} {u_kept_seen_numbers : (Nat → Int32)} {u_kept_events_size : Int32} {u_kept_events_numbers : (Nat → Int32)} {u_kept_book_size : Int32} {u_kept_book_numbers : (Nat → Int32)} {u_text_size : Int32} {u_text_signs : (Nat → Int32)} {uM_people uM_debts uM_cuts uM_seen uM_events uM_inBook uM_texted uM_imaged : Int32} {uM_owes uM_denies uM_debt uM_cut uM_sight uM_event uM_book uM_text uM_image uM_tapeSort uM_tapeSize : (Nat → Int32)} {uM_items : (Nat → Int64)} {ts tl : (Nat → Int32)} {ti : (Nat → Nat → Int64)} (x1 : Int32) (x2 : Int32) (x3 : Int32) (hR : Rel u_now_people u_now_debts_size u_now_debts_owed u_now_debts_order u_now_consents_refused u_now_trail_size u_now_trail_numbers u_now_seen_size u_now_seen_numbers u_now_events_size u_now_events_numbers u_now_book_size u_now_book_numbers u_isKept u_kept_people u_kept_debts_size u_kept_debts_owed u_kept_debts_order u_kept_consents_refused u_kept_trail_size u_kept_trail_numbers u_kept_seen_size u_kept_seen_numbers u_kept_events_size u_kept_events_numbers u_kept_book_size u_kept_book_numbers u_text_size u_text_signs ts tl ti uM_people uM_owes uM_denies uM_debts uM_debt uM_cuts uM_cut uM_seen uM_sight uM_events uM_event uM_inBook uM_book uM_texted uM_text uM_imaged uM_image uM_tapeSort uM_tapeSize uM_items) :
    ∃ (zc : (Int32 × Int32 × (Nat → Int32))) (zm : (Int32 × Int32 × (Nat → Int32))), fX8_see 15 u_now_people 5 u_now_seen_size u_now_seen_numbers x1 x2 x3 = some zc ∧ fX9_see uM_people uM_seen uM_sight x1 x2 x3 = some zm ∧ zc.1 = zm.1 ∧ Rel u_now_people u_now_debts_size u_now_debts_owed u_now_debts_order u_now_consents_refused u_now_trail_size u_now_trail_numbers zc.2.1 zc.2.2 u_now_events_size u_now_events_numbers u_now_book_size u_now_book_numbers u_isKept u_kept_people u_kept_debts_size u_kept_debts_owed u_kept_debts_order u_kept_consents_refused u_kept_trail_size u_kept_trail_numbers u_kept_seen_size u_kept_seen_numbers u_kept_events_size u_kept_events_numbers u_kept_book_size u_kept_book_numbers u_text_size u_text_signs ts tl ti uM_people uM_owes uM_denies uM_debts uM_debt uM_cuts uM_cut zm.2.1 zm.2.2 uM_events uM_event uM_inBook uM_book uM_texted uM_text uM_imaged uM_image uM_tapeSort uM_tapeSize uM_items := by
  obtain ⟨⟨n, v, L, hn, rfl, rfl, hW, hR1, hR2, hC, hT, hS, hE, hB⟩, hK, hX, hQ⟩ := id hR
  obtain ⟨zc, zm, a1, a2, a3, a4⟩ := addp (N := 15) (R := 5) (n := n) (by decide) (by decide) (by decide) hn hS x1 x2 x3
  unfold fX8_see fX9_see
  rw [show fX8_addPayment 15 (nI n) 5 u_now_seen_size u_now_seen_numbers x1 x2 x3 = _ from a1]
  exact ⟨_, _, rfl, a2, a3, ⟨n, v, L, hn, rfl, rfl, hW, hR1, hR2, hC, hT, a4, hE, hB⟩, hK, hX, hQ⟩
set_option maxHeartbeats 1000000 in
theorem p_book {u_isKept u_now_people u_now_debts_size : Int32} {u_now_debts_owed u_now_debts_order u_now_consents_refused : (Nat → Int32)} {u_now_trail_size : Int32} {u_now_trail_numbers : (Nat → Int32)} {u_now_seen_size : Int32} {u_now_seen_numbers : (Nat → Int32)} {u_now_events_size : Int32} {u_now_events_numbers : (Nat → Int32)} {u_now_book_size : Int32} {u_now_book_numbers : (Nat → Int32)} {u_kept_people u_kept_debts_size : Int32} {u_kept_debts_owed u_kept_debts_order u_kept_consents_refused : (Nat → Int32)} {u_kept_trail_size : Int32} {u_kept_trail_numbers : (Nat → Int32)} {u_kept_seen_size : Int32} {u_kept_seen_numbers : (Nat → Int32)} {u_kept_events_size : Int32} {u_kept_events_numbers : (Nat → Int32)} {u_kept_book_size : Int32} {u_kept_book_numbers : (Nat → Int32)} {u_text_size : Int32} {u_text_signs : (Nat → Int32)} {uM_people uM_debts uM_cuts uM_seen uM_events uM_inBook uM_texted uM_imaged : Int32} {uM_owes uM_denies uM_debt uM_cut uM_sight uM_event uM_book uM_text uM_image uM_tapeSort uM_tapeSize : (Nat → Int32)} {uM_items : (Nat → Int64)} {ts tl : (Nat → Int32)} {ti : (Nat → Nat → Int64)} (x1 : Int32) (x2 : Int32) (x3 : Int32) (hR : Rel u_now_people u_now_debts_size u_now_debts_owed u_now_debts_order u_now_consents_refused u_now_trail_size u_now_trail_numbers u_now_seen_size u_now_seen_numbers u_now_events_size u_now_events_numbers u_now_book_size u_now_book_numbers u_isKept u_kept_people u_kept_debts_size u_kept_debts_owed u_kept_debts_order u_kept_consents_refused u_kept_trail_size u_kept_trail_numbers u_kept_seen_size u_kept_seen_numbers u_kept_events_size u_kept_events_numbers u_kept_book_size u_kept_book_numbers u_text_size u_text_signs ts tl ti uM_people uM_owes uM_denies uM_debts uM_debt uM_cuts uM_cut uM_seen uM_sight uM_events uM_event uM_inBook uM_book uM_texted uM_text uM_imaged uM_image uM_tapeSort uM_tapeSize uM_items) :
    ∃ (zc : (Int32 × Int32 × (Nat → Int32))) (zm : (Int32 × Int32 × (Nat → Int32))), fX8_book 24 u_now_people 8 u_now_book_size u_now_book_numbers x1 x2 x3 = some zc ∧ fX9_book uM_people uM_inBook uM_book x1 x2 x3 = some zm ∧ zc.1 = zm.1 ∧ Rel u_now_people u_now_debts_size u_now_debts_owed u_now_debts_order u_now_consents_refused u_now_trail_size u_now_trail_numbers u_now_seen_size u_now_seen_numbers u_now_events_size u_now_events_numbers zc.2.1 zc.2.2 u_isKept u_kept_people u_kept_debts_size u_kept_debts_owed u_kept_debts_order u_kept_consents_refused u_kept_trail_size u_kept_trail_numbers u_kept_seen_size u_kept_seen_numbers u_kept_events_size u_kept_events_numbers u_kept_book_size u_kept_book_numbers u_text_size u_text_signs ts tl ti uM_people uM_owes uM_denies uM_debts uM_debt uM_cuts uM_cut uM_seen uM_sight uM_events uM_event zm.2.1 zm.2.2 uM_texted uM_text uM_imaged uM_image uM_tapeSort uM_tapeSize uM_items := by
  obtain ⟨⟨n, v, L, hn, rfl, rfl, hW, hR1, hR2, hC, hT, hS, hE, hB⟩, hK, hX, hQ⟩ := id hR
  obtain ⟨zc, zm, a1, a2, a3, a4⟩ := addp (N := 24) (R := 8) (n := n) (by decide) (by decide) (by decide) hn hB x1 x2 x3
  unfold fX8_book fX9_book
  rw [show fX8_addPayment 24 (nI n) 8 u_now_book_size u_now_book_numbers x1 x2 x3 = _ from a1]
  exact ⟨_, _, rfl, a2, a3, ⟨n, v, L, hn, rfl, rfl, hW, hR1, hR2, hC, hT, hS, hE, a4⟩, hK, hX, hQ⟩
set_option maxHeartbeats 1000000 in
theorem p_count {u_isKept u_now_people u_now_debts_size : Int32} {u_now_debts_owed u_now_debts_order u_now_consents_refused : (Nat → Int32)} {u_now_trail_size : Int32} {u_now_trail_numbers : (Nat → Int32)} {u_now_seen_size : Int32} {u_now_seen_numbers : (Nat → Int32)} {u_now_events_size : Int32} {u_now_events_numbers : (Nat → Int32)} {u_now_book_size : Int32} {u_now_book_numbers : (Nat → Int32)} {u_kept_people u_kept_debts_size : Int32} {u_kept_debts_owed u_kept_debts_order u_kept_consents_refused : (Nat → Int32)} {u_kept_trail_size : Int32} {u_kept_trail_numbers : (Nat → Int32)} {u_kept_seen_size : Int32} {u_kept_seen_numbers : (Nat → Int32)} {u_kept_events_size : Int32} {u_kept_events_numbers : (Nat → Int32)} {u_kept_book_size : Int32} {u_kept_book_numbers : (Nat → Int32)} {u_text_size : Int32} {u_text_signs : (Nat → Int32)} {uM_people uM_debts uM_cuts uM_seen uM_events uM_inBook uM_texted uM_imaged : Int32} {uM_owes uM_denies uM_debt uM_cut uM_sight uM_event uM_book uM_text uM_image uM_tapeSort uM_tapeSize : (Nat → Int32)} {uM_items : (Nat → Int64)} {ts tl : (Nat → Int32)} {ti : (Nat → Nat → Int64)} (x1 : Int32) (hR : Rel u_now_people u_now_debts_size u_now_debts_owed u_now_debts_order u_now_consents_refused u_now_trail_size u_now_trail_numbers u_now_seen_size u_now_seen_numbers u_now_events_size u_now_events_numbers u_now_book_size u_now_book_numbers u_isKept u_kept_people u_kept_debts_size u_kept_debts_owed u_kept_debts_order u_kept_consents_refused u_kept_trail_size u_kept_trail_numbers u_kept_seen_size u_kept_seen_numbers u_kept_events_size u_kept_events_numbers u_kept_book_size u_kept_book_numbers u_text_size u_text_signs ts tl ti uM_people uM_owes uM_denies uM_debts uM_debt uM_cuts uM_cut uM_seen uM_sight uM_events uM_event uM_inBook uM_book uM_texted uM_text uM_imaged uM_image uM_tapeSort uM_tapeSize uM_items) :
    ∃ (zc : Int32) (zm : Int32), fX8_count u_now_seen_size u_now_events_size u_now_book_size u_text_size x1 = some zc ∧ fX9_count uM_seen uM_events uM_inBook uM_texted x1 = some zm ∧ zc = zm ∧ Rel u_now_people u_now_debts_size u_now_debts_owed u_now_debts_order u_now_consents_refused u_now_trail_size u_now_trail_numbers u_now_seen_size u_now_seen_numbers u_now_events_size u_now_events_numbers u_now_book_size u_now_book_numbers u_isKept u_kept_people u_kept_debts_size u_kept_debts_owed u_kept_debts_order u_kept_consents_refused u_kept_trail_size u_kept_trail_numbers u_kept_seen_size u_kept_seen_numbers u_kept_events_size u_kept_events_numbers u_kept_book_size u_kept_book_numbers u_text_size u_text_signs ts tl ti uM_people uM_owes uM_denies uM_debts uM_debt uM_cuts uM_cut uM_seen uM_sight uM_events uM_event uM_inBook uM_book uM_texted uM_text uM_imaged uM_image uM_tapeSort uM_tapeSize uM_items := by
  obtain ⟨⟨n, v, L, hn, rfl, rfl, hW, hR1, hR2, hC, hT, hS, hE, hB⟩, hK, hX, hQ⟩ := id hR
  obtain ⟨t1, _, rfl, rfl, _⟩ := id hS
  obtain ⟨t2, _, rfl, rfl, _⟩ := id hE
  obtain ⟨t3, _, rfl, rfl, _⟩ := id hB
  obtain ⟨t4, _, rfl, rfl, _⟩ := id hX
  unfold fX8_count fX9_count fX5_size fX7_size
  simp only [Option.bind_some]
  by_cases e0 : x1 = 0
  · simp only [if_pos e0]
    exact ⟨_, _, rfl, rfl, rfl, hR⟩
  · simp only [if_neg e0]
    by_cases e1 : x1 = 1
    · simp only [if_pos e1]
      exact ⟨_, _, rfl, rfl, rfl, hR⟩
    · simp only [if_neg e1]
      by_cases e2 : x1 = 2
      · simp only [if_pos e2]
        exact ⟨_, _, rfl, rfl, rfl, hR⟩
      · simp only [if_neg e2]
        by_cases e3 : x1 = 3
        · simp only [if_pos e3]
          exact ⟨_, _, rfl, rfl, rfl, hR⟩
        · simp only [if_neg e3]
          exact ⟨_, _, rfl, rfl, rfl, hR⟩
end
