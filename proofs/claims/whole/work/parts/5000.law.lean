/-! THE CLAIM OUT OF ONE WALK OF THE LAW'S BODY. Your part is whole_start (and what it stands on); all else here is the same for every law, but numbers. -/
def R_law : String := "DebtRingsLaw"
def lw_P (b : Addr) (xs : List Int32) (args : Array Value) (s : State) : Prop := args = #[.ref b] ∧ s.IntsAt b xs ∧ xs.length ≤ 3072 ∧ (Jvm.Cond.and given_1 narrow_1).before args s = true
def lw_Q (_ : Array Value) (s : State) (o : Outcome) (t : State) : Prop := o = .returned (some (.int 1)) ∧ Framed s o t [] 600000 7302250
def lw_Z (below : List Frame) (a : Array Value) (s : State) : State → Prop := fun t => ∃ o, t.status = .running ∧ Ended t below o ∧ lw_Q a s o t
/-- the law's own end, with 1 on the stack, nothing written that was there before, its room as the claim has it -/
theorem lw_ret {p : Program} {l : Launch} {e : Env} {s : State} {m : MethodId} {below : List Frame} {meth : Method} {c : Code} {b : Nat} (hx : p.tables.exec = Jvm.exec) (hb : c.code = code) (hr : meth.sig.returnType = ret) (hlocks : meth.locks = false) {pc : Nat} {H : Heap} {ls : Array Slot} (hdg : decode code pc = .ok (.ireturn, 1)) : W p l e room_1 s m #[Value.ref b] below meth c H [] 600000 7302250 (lw_Z below #[Value.ref b] s) (F0 m pc ls [.int 1]) := by
  intro T hT X
  obtain ⟨fs, hret, hrun, hended, hW, hframe⟩ := X.leave (v := some (.int 1)) (hlocks := hlocks) (fun h => by rw [hr] at h; cases h)
  have hmeth' : T.vm.method? m = some meth := X.method'
  refine ⟨T.setFrames fs, ?_, .returned (some (.int 1)), hrun, hended, rfl, ⟨_, rfl⟩, hW, hframe⟩
  jvm_step X.here [X.here.top, hx, hb, hdg, hmeth', hr, ret, narrow_b1]
  (try refine ⟨rfl, ?_⟩); (try refine ⟨rfl, ?_⟩)
  first | (intro acts; rw [hret _ acts rfl rfl rfl]) | rw [hret _ _ rfl rfl rfl]
  exact Steps.refl _
/-- what holds at the law's entry: the machine, the code, the tables' words (any of lw_tbl by 'hts w (by decide +kernel)'), the script of L ints xs at the cell b, what the Statement gives of the start (any of its parts by flat_of_before) -/
def lw_At (p : Program) (s : State) (m : MethodId) (meth : Method) (c : Code) (b L : Nat) (xs : Nat → Int32) : Prop :=
  p.tables.exec = Jvm.exec ∧ c.code = code ∧ meth.sig.returnType = ret ∧ c.maxLocals = 4 ∧ s.vm.findClass R_law = some m.cls ∧ (∀ w ∈ lw_tbl, w.before #[Value.ref b] s = true) ∧ va_X b L xs s s.heap ∧ b < s.heap.size ∧ meth.locks = false ∧ (Jvm.Cond.and given_1 narrow_1).before #[Value.ref b] s = true
/-! ===== the law: its world, calls from it ===== -/
def LTape (ad : Nat → Nat) (tp : Nat → Option Nat) : Prop := ∀ k, k < 6 → tp (nI k).toNatClampNeg = some (ad (47 + 2 * k))
def LInv (C : Nat → ClassId) (ad : Nat → Nat) (tp : Nat → Option Nat) (w : va_W) : Prop :=
  ∃ (u_isKept : Int32) (u_now_people : Int32) (u_now_debts_size : Int32) (u_now_debts_owed : (Nat → Int32)) (u_now_debts_order : (Nat → Int32)) (u_now_consents_refused : (Nat → Int32)) (u_now_trail_size : Int32) (u_now_trail_numbers : (Nat → Int32)) (u_now_seen_size : Int32) (u_now_seen_numbers : (Nat → Int32)) (u_now_events_size : Int32) (u_now_events_numbers : (Nat → Int32)) (u_now_book_size : Int32) (u_now_book_numbers : (Nat → Int32)) (u_kept_people : Int32) (u_kept_debts_size : Int32) (u_kept_debts_owed : (Nat → Int32)) (u_kept_debts_order : (Nat → Int32)) (u_kept_consents_refused : (Nat → Int32)) (u_kept_trail_size : Int32) (u_kept_trail_numbers : (Nat → Int32)) (u_kept_seen_size : Int32) (u_kept_seen_numbers : (Nat → Int32)) (u_kept_events_size : Int32) (u_kept_events_numbers : (Nat → Int32)) (u_kept_book_size : Int32) (u_kept_book_numbers : (Nat → Int32)) (u_supposed_size : Int32) (u_supposed_owed : (Nat → Int32)) (u_supposed_order : (Nat → Int32)) (u_rings_rule : Int32) (u_rings_found : Int32) (u_rings_size : Int32) (u_rings_least : Int32) (u_rings_steps : (Nat → Int32)) (u_rings_path : (Nat → Int32)) (u_rings_taken : (Nat → Int32)) (u_netting_groupCount : Int32) (u_netting_balances : (Nat → Int32)) (u_netting_left : (Nat → Int32)) (u_netting_sums : (Nat → Int32)) (u_netting_most : (Nat → Int32)) (u_netting_groups : (Nat → Int32)) (u_netting_payments_size : Int32) (u_netting_payments_numbers : (Nat → Int32)) (u_text_size : Int32) (u_text_signs : (Nat → Int32)) (uM_people : Int32) (uM_debts : Int32) (uM_cuts : Int32) (uM_seen : Int32) (uM_events : Int32) (uM_inBook : Int32) (uM_texted : Int32) (uM_rule : Int32) (uM_rings : Int32) (uM_size : Int32) (uM_least : Int32) (uM_worth : Int64) (uM_groups : Int32) (uM_paid : Int32) (uM_imaged : Int32) (uM_owes : (Nat → Int32)) (uM_denies : (Nat → Int32)) (uM_debt : (Nat → Int32)) (uM_cut : (Nat → Int32)) (uM_sight : (Nat → Int32)) (uM_event : (Nat → Int32)) (uM_book : (Nat → Int32)) (uM_text : (Nat → Int32)) (uM_path : (Nat → Int32)) (uM_ring : (Nat → Int32)) (uM_balance : (Nat → Int32)) (uM_left : (Nat → Int32)) (uM_sum : (Nat → Int32)) (uM_parts : (Nat → Int32)) (uM_group : (Nat → Int32)) (uM_payment : (Nat → Int32)) (uM_then : (Nat → Int32)) (uM_image : (Nat → Int32)) (uM_tapeSort : (Nat → Int32)) (uM_tapeSize : (Nat → Int32)) (uM_items : (Nat → Int64)) (ts : (Nat → Int32)) (tl : (Nat → Int32)) (ti : (Nat → Nat → Int64)), Rel u_now_people u_now_debts_size u_now_debts_owed u_now_debts_order u_now_consents_refused u_now_trail_size u_now_trail_numbers u_now_seen_size u_now_seen_numbers u_now_events_size u_now_events_numbers u_now_book_size u_now_book_numbers u_isKept u_kept_people u_kept_debts_size u_kept_debts_owed u_kept_debts_order u_kept_consents_refused u_kept_trail_size u_kept_trail_numbers u_kept_seen_size u_kept_seen_numbers u_kept_events_size u_kept_events_numbers u_kept_book_size u_kept_book_numbers u_text_size u_text_signs ts tl ti uM_people uM_owes uM_denies uM_debts uM_debt uM_cuts uM_cut uM_seen uM_sight uM_events uM_event uM_inBook uM_book uM_texted uM_text uM_imaged uM_image uM_tapeSort uM_tapeSize uM_items ∧ w = [((ad 0), .inr (8, [.ref (ad 1), .ref (ad 15), .int u_isKept, .ref (ad 29), .ref (ad 32), .ref (ad 36), .ref (ad 44), .ref (ad 46)])), ((ad 1), .inr (0, [.int u_now_people, .ref (ad 2), .ref (ad 5), .ref (ad 7), .ref (ad 9), .ref (ad 11), .ref (ad 13)])), ((ad 2), .inr (2, [.ref (ad 3), .ref (ad 4), .int u_now_debts_size])), ((ad 3), .inl (C 0, 36, .inl u_now_debts_owed)), ((ad 4), .inl (C 0, 36, .inl u_now_debts_order)), ((ad 5), .inr (1, [.ref (ad 6)])), ((ad 6), .inl (C 2, 36, .inl u_now_consents_refused)), ((ad 7), .inr (5, [.ref (ad 8), .int 40, .int u_now_trail_size])), ((ad 8), .inl (C 0, 120, .inl u_now_trail_numbers)), ((ad 9), .inr (5, [.ref (ad 10), .int 5, .int u_now_seen_size])), ((ad 10), .inl (C 0, 15, .inl u_now_seen_numbers)), ((ad 11), .inr (5, [.ref (ad 12), .int 8, .int u_now_events_size])), ((ad 12), .inl (C 0, 24, .inl u_now_events_numbers)), ((ad 13), .inr (5, [.ref (ad 14), .int 8, .int u_now_book_size])), ((ad 14), .inl (C 0, 24, .inl u_now_book_numbers)), ((ad 15), .inr (0, [.int u_kept_people, .ref (ad 16), .ref (ad 19), .ref (ad 21), .ref (ad 23), .ref (ad 25), .ref (ad 27)])), ((ad 16), .inr (2, [.ref (ad 17), .ref (ad 18), .int u_kept_debts_size])), ((ad 17), .inl (C 0, 36, .inl u_kept_debts_owed)), ((ad 18), .inl (C 0, 36, .inl u_kept_debts_order)), ((ad 19), .inr (1, [.ref (ad 20)])), ((ad 20), .inl (C 2, 36, .inl u_kept_consents_refused)), ((ad 21), .inr (5, [.ref (ad 22), .int 40, .int u_kept_trail_size])), ((ad 22), .inl (C 0, 120, .inl u_kept_trail_numbers)), ((ad 23), .inr (5, [.ref (ad 24), .int 5, .int u_kept_seen_size])), ((ad 24), .inl (C 0, 15, .inl u_kept_seen_numbers)), ((ad 25), .inr (5, [.ref (ad 26), .int 8, .int u_kept_events_size])), ((ad 26), .inl (C 0, 24, .inl u_kept_events_numbers)), ((ad 27), .inr (5, [.ref (ad 28), .int 8, .int u_kept_book_size])), ((ad 28), .inl (C 0, 24, .inl u_kept_book_numbers)), ((ad 29), .inr (2, [.ref (ad 30), .ref (ad 31), .int u_supposed_size])), ((ad 30), .inl (C 0, 36, .inl u_supposed_owed)), ((ad 31), .inl (C 0, 36, .inl u_supposed_order)), ((ad 32), .inr (4, [.ref (ad 33), .ref (ad 34), .ref (ad 35), .int u_rings_rule, .int u_rings_found, .int u_rings_size, .int u_rings_least])), ((ad 33), .inl (C 0, 36, .inl u_rings_steps)), ((ad 34), .inl (C 0, 6, .inl u_rings_path)), ((ad 35), .inl (C 0, 6, .inl u_rings_taken)), ((ad 36), .inr (3, [.ref (ad 37), .ref (ad 38), .ref (ad 39), .ref (ad 40), .ref (ad 41), .int u_netting_groupCount, .ref (ad 42)])), ((ad 37), .inl (C 0, 6, .inl u_netting_balances)), ((ad 38), .inl (C 0, 6, .inl u_netting_left)), ((ad 39), .inl (C 0, 64, .inl u_netting_sums)), ((ad 40), .inl (C 0, 64, .inl u_netting_most)), ((ad 41), .inl (C 0, 6, .inl u_netting_groups)), ((ad 42), .inr (5, [.ref (ad 43), .int 6, .int u_netting_payments_size])), ((ad 43), .inl (C 0, 18, .inl u_netting_payments_numbers)), ((ad 44), .inr (7, [.ref (ad 45), .int u_text_size])), ((ad 45), .inl (C 3, 100, .inl u_text_signs)), ((ad 46), .inl (C 4, 6, .inr (.inr (.inr (.inr tp))))), ((ad 47), .inr (6, [.int (ts 0), .int (tl 0), .ref (ad 48)])), ((ad 48), .inl (C 1, 60, .inr (.inl (ti 0)))), ((ad 49), .inr (6, [.int (ts 1), .int (tl 1), .ref (ad 50)])), ((ad 50), .inl (C 1, 60, .inr (.inl (ti 1)))), ((ad 51), .inr (6, [.int (ts 2), .int (tl 2), .ref (ad 52)])), ((ad 52), .inl (C 1, 60, .inr (.inl (ti 2)))), ((ad 53), .inr (6, [.int (ts 3), .int (tl 3), .ref (ad 54)])), ((ad 54), .inl (C 1, 60, .inr (.inl (ti 3)))), ((ad 55), .inr (6, [.int (ts 4), .int (tl 4), .ref (ad 56)])), ((ad 56), .inl (C 1, 60, .inr (.inl (ti 4)))), ((ad 57), .inr (6, [.int (ts 5), .int (tl 5), .ref (ad 58)])), ((ad 58), .inl (C 1, 60, .inr (.inl (ti 5)))), ((ad 59), .inr (9, [.int uM_people, .ref (ad 60), .ref (ad 61), .int uM_debts, .ref (ad 62), .int uM_cuts, .ref (ad 63), .int uM_seen, .ref (ad 64), .int uM_events, .ref (ad 65), .int uM_inBook, .ref (ad 66), .int uM_texted, .ref (ad 67), .ref (ad 68), .int uM_rule, .int uM_rings, .int uM_size, .int uM_least, .long uM_worth, .ref (ad 69), .ref (ad 70), .ref (ad 71), .ref (ad 72), .ref (ad 73), .int uM_groups, .ref (ad 74), .int uM_paid, .ref (ad 75), .ref (ad 76), .int uM_imaged, .ref (ad 77), .ref (ad 78), .ref (ad 79), .ref (ad 80)])), ((ad 60), .inl (C 0, 36, .inl uM_owes)), ((ad 61), .inl (C 0, 36, .inl uM_denies)), ((ad 62), .inl (C 0, 30, .inl uM_debt)), ((ad 63), .inl (C 0, 120, .inl uM_cut)), ((ad 64), .inl (C 0, 15, .inl uM_sight)), ((ad 65), .inl (C 0, 16, .inl uM_event)), ((ad 66), .inl (C 0, 24, .inl uM_book)), ((ad 67), .inl (C 0, 100, .inl uM_text)), ((ad 68), .inl (C 0, 6, .inl uM_path)), ((ad 69), .inl (C 0, 6, .inl uM_ring)), ((ad 70), .inl (C 0, 6, .inl uM_balance)), ((ad 71), .inl (C 0, 6, .inl uM_left)), ((ad 72), .inl (C 0, 64, .inl uM_sum)), ((ad 73), .inl (C 0, 64, .inl uM_parts)), ((ad 74), .inl (C 0, 3, .inl uM_group)), ((ad 75), .inl (C 0, 30, .inl uM_payment)), ((ad 76), .inl (C 0, 67, .inl uM_then)), ((ad 77), .inl (C 0, 284, .inl uM_image)), ((ad 78), .inl (C 0, 6, .inl uM_tapeSort)), ((ad 79), .inl (C 0, 6, .inl uM_tapeSize)), ((ad 80), .inl (C 1, 360, .inr (.inl uM_items)))]
theorem lw_vin {i L : Nat} (k : Nat) (x : Int32) (hx : x = nI k) (h : i + k < L) (hL : L ≤ 3072) : vp_in (nI i + x) L := by
  rw [hx, nI_add]
  exact vp_in_nI h (by omega)
theorem lw_cmp {x y : Int64} (h : x = y) : lg_cmp x y = 0 := by
  subst h
  simp [lg_cmp]
theorem lw_tape (x : Int32) : ∃ k : Nat, k < 6 ∧ (¬ (x < 0 ∨ 6 ≤ x) → x = nI k) := by
  rcases pk_ix x (n := 6) (by decide) with h | h | ⟨j, h1, h2⟩
  · exact ⟨0, by decide, fun q => absurd (Or.inl h) q⟩
  · exact ⟨0, by decide, fun q => absurd (Or.inr h) q⟩
  · exact ⟨j, h1, fun _ => h2⟩
theorem lw_tape2 (x y : Int32) : (∃ k : Nat, k < 6 ∧ x = nI k ∧ y = nI k) ∨ ∃ k j : Nat, k < 6 ∧ j < 6 ∧ k ≠ j ∧ (¬ (x < 0 ∨ 6 ≤ x) → x = nI k) ∧ (¬ (y < 0 ∨ 6 ≤ y) → y = nI j) := by
  have other : ∀ k : Nat, ∃ j : Nat, j < 6 ∧ k ≠ j := fun k => by
    by_cases h : k = 0
    · exact ⟨1, by decide, by omega⟩
    · exact ⟨0, by decide, h⟩
  rcases pk_ix x (n := 6) (by decide) with h | h | ⟨j, h1, h2⟩
  · obtain ⟨k, hk, hy⟩ := lw_tape y
    obtain ⟨j, hj, hn⟩ := other k
    exact Or.inr ⟨j, k, hj, hk, hn.symm, fun q => absurd (Or.inl h) q, hy⟩
  · obtain ⟨k, hk, hy⟩ := lw_tape y
    obtain ⟨j, hj, hn⟩ := other k
    exact Or.inr ⟨j, k, hj, hk, hn.symm, fun q => absurd (Or.inr h) q, hy⟩
  · rcases pk_ix y (n := 6) (by decide) with g | g | ⟨k, g1, g2⟩
    · obtain ⟨k, hk, hn⟩ := other j
      exact Or.inr ⟨j, k, h1, hk, hn, fun _ => h2, fun q => absurd (Or.inl g) q⟩
    · obtain ⟨k, hk, hn⟩ := other j
      exact Or.inr ⟨j, k, h1, hk, hn, fun _ => h2, fun q => absurd (Or.inr g) q⟩
    · by_cases e : j = k
      · subst e
        exact Or.inl ⟨j, h1, h2, g2⟩
      · exact Or.inr ⟨j, k, h1, g1, e, fun _ => h2, fun _ => g2⟩
theorem cVL {p : Program} {l : Launch} {e : Env} {R : Room} {s : State} {m : MethodId} {args : Array Value} {below : List Frame} {meth : Method} {c : Code} {H : Heap} {locs : List Loc} {Q : State → Prop} {D : va_G} {C : Nat → ClassId} {A : Nat → Prop} {own : String} {cc : ByteArray} {nL d pc : Nat} {ls : Array Slot} {rest : List Value} {ws : va_W} {cells slots : Nat}
    {y : MethodName} {bytes : ByteArray} {nL' d' index ci : Nat} {ret : Option FieldType} {b : Addr} {As st0 st2 : List Value} {wc w1 wr w2 : va_W} {ov : Option Value} {T : u_T} {N : Nat} {fs : List Value} (cx : CX p m c s args own cc nL D C A R d) (hc : Ct l y bytes nL' ret d' D C (.ref b :: As) wc w1 ov)
    (hlk : Cond.methodLink own index y ∈ gdt) (hy : (y.cls ≠ "java/lang/invoke/MethodHandle" ∧ y.cls ≠ "java/lang/invoke/VarHandle") ∧ Cond.instanceMethod y ∈ gdt ∧ Cond.selects y.cls y y ∈ gdt ∧ Cond.initialized y.cls ∈ gdt ∧ Cond.code y bytes nL' ret ∈ gdt) (hlen : (parseMethodDescriptor y.desc).map (fun d => d.parameters.length) = some As.length)
    (hd : d' + 1 ≤ d ∧ nL' ≤ 21) (hw : HW D A s.heap H locs ws) (isC isR pm : List Nat) (hC : isC.map (fun i => ws[i]?) = wc.map some) (hR : isR.map (fun i => ws[i]?) = wr.map some) (hq : (va_nd isC && va_nd isR && va_nd pm && isR.all (fun i => !(isC.contains i))) = true) (hpm : pm.map (fun i => (wr ++ w1)[i]?) = w2.map some)
    (hb : wc[0]? = some (b, .inr (ci, fs))) (hci : vwCl[ci]? = some (y.cls, T, N)) (hst : st0 = As.reverse ++ .ref b :: rest) (hcat : (rest.map fun v => v.category).sum ≤ 8) (hdg : decode cc pc = .ok (.invokevirtual index, 3)) (hs2 : ov.toList ++ rest = st2)
    (kk : ∀ (H1 : Heap) (locs1 : List Loc), HW D A s.heap H1 locs1 w2 → W p l e R s m args below meth c H1 locs1 cells slots Q (F0 m (pc + 3) ls st2)) (hls : ls.size = nL) (hf : cells ≤ R.cells ∧ slots ≤ R.slots := by exact ⟨Nat.le_of_ble_eq_true rfl, Nat.le_of_ble_eq_true rfl⟩) : W p l e R s m args below meth c H locs cells slots Q (F0 m pc ls st0) := by
  simp only [Bool.and_eq_true, List.all_eq_true, Bool.not_eq_true', List.contains_eq_mem, decide_eq_false_iff_not] at hq
  obtain ⟨⟨⟨q1, q2⟩, q3⟩, q4⟩ := hq
  obtain ⟨hx, hb1, hml, hown, hts, hK, hA, hr1, hr2⟩ := id cx
  obtain ⟨n1, n2⟩ := hd
  have hP := pre_at (av := .ref b :: As) hK hw isC hC q1
  have hPc : va_P D vwCl wc H := by
    intro k q hkq
    have h1 : (isC.map (fun i => ws[i]?))[k]? = some (some q) := by rw [hC, List.getElem?_map, hkq]; rfl
    rw [List.getElem?_map] at h1
    cases hi : isC[k]? with
    | none => rw [hi] at h1; cases h1
    | some i => rw [hi] at h1; exact hw.1 i q (Option.some.inj h1)
  have hr := va_runV (As := As) (b := b) (rest := rest) (C := y.cls) (nL := nL) (Ts := gdt) (H := H) (locs := locs) (cells := cells) (slots := slots) (e := e) (below := below) (meth := meth) (R := R) (g := F0 m pc ls st0) ⟨hx, hb1, hml, hown, hts⟩ (hc H.size)
    ⟨callB_of As.length hts (good_A hy.2.2.2.2) rfl rfl rfl (hts _ hy.2.2.2.1) (hts _ hlk) ⟨hy.1.1, hy.1.2, hlen⟩ ⟨show d' + 1 ≤ R.frames by omega, show 8 + (nL' + 11) + 40 * d' ≤ R.locals by omega⟩, hts _ hy.2.1, hts _ hy.2.2.1⟩
    ⟨hP.1, va_recv hK.1 hPc hci hb, hP.2⟩ rfl rfl hls hst (lv_room hcat) hdg ⟨hf.1, hf.2⟩
  subst hs2
  intro T hT X
  obtain ⟨v, st₀, t, T', L, h0, X', hL, e1, e2, ⟨hov, hP1, hD1, hz, hk⟩, st⟩ := hr T hT X
  cases hov
  rw [h0] at hz hk
  obtain ⟨hP, hD, hS⟩ := hw
  have hFc := va_free (wc := wc) hD hS hA isC hC
  have hk' : ∀ q : Nat, q < H.size → ¬ va_A wc H.size q → T'.heap[q]? = H[q]? := fun q h1 h2 => by rw [e1]; exact hk q h1 h2
  rw [← e1] at hP1
  obtain ⟨hP2, hD2⟩ := va_join hP hD isC isR hC hR q2 q4 hk' hFc hP1 hD1
  have hS2 : va_S A s.heap T'.heap (locs ++ L) := ⟨Nat.le_trans hS.1 (by rw [e1]; exact hz), fun q h1 h2 => by rw [e1, hk q (Nat.lt_of_lt_of_le h1 hS.1) (fun z => h2 (hFc q z))]; exact hS.2.1 q h1 h2, fun q hq => by
      rcases List.mem_append.mp hq with h | h
      · exact hS.2.2 q h
      · exact hFc _ (hL q h)⟩
  have hP3 : va_P D vwCl w2 T'.heap := by
    intro k q hkq
    have h1 : (pm.map (fun i => (wr ++ w1)[i]?))[k]? = some (some q) := by rw [hpm, List.getElem?_map, hkq]; rfl
    rw [List.getElem?_map] at h1
    cases hi : pm[k]? with
    | none => rw [hi] at h1; cases h1
    | some i => rw [hi] at h1; exact hP2 i q (Option.some.inj h1)
  obtain ⟨t2, a1, b1⟩ := kk T'.heap (locs ++ L) ⟨hP3, hD2.sub pm q3 hpm, hS2⟩ T' rfl X'
  exact ⟨t2, st t2 a1, b1⟩
theorem lk_L_13 : Cond.methodLink RL 13 yX8_person ∈ gdt := gdt_of 288 (by decide +kernel) (by decide +kernel)
theorem lk_L_17 : Cond.methodLink RL 17 yX9_person ∈ gdt := gdt_of 949 (by decide +kernel) (by decide +kernel)
theorem lk_L_18 : Cond.methodLink RL 18 yX8_owe ∈ gdt := gdt_of 292 (by decide +kernel) (by decide +kernel)
theorem lk_L_22 : Cond.methodLink RL 22 yX9_owe ∈ gdt := gdt_of 953 (by decide +kernel) (by decide +kernel)
theorem lk_L_23 : Cond.methodLink RL 23 yX8_pay ∈ gdt := gdt_of 323 (by decide +kernel) (by decide +kernel)
theorem lk_L_26 : Cond.methodLink RL 26 yX9_pay ∈ gdt := gdt_of 976 (by decide +kernel) (by decide +kernel)
theorem lk_L_27 : Cond.methodLink RL 27 yX8_consent ∈ gdt := gdt_of 327 (by decide +kernel) (by decide +kernel)
theorem lk_L_31 : Cond.methodLink RL 31 yX9_consent ∈ gdt := gdt_of 980 (by decide +kernel) (by decide +kernel)
theorem lk_L_32 : Cond.methodLink RL 32 yX8_of ∈ gdt := gdt_of 343 (by decide +kernel) (by decide +kernel)
theorem lk_L_35 : Cond.methodLink RL 35 yX9_of ∈ gdt := gdt_of 984 (by decide +kernel) (by decide +kernel)
theorem lk_L_36 : Cond.methodLink RL 36 yX8_debt ∈ gdt := gdt_of 356 (by decide +kernel) (by decide +kernel)
theorem lk_L_40 : Cond.methodLink RL 40 yX9_debt ∈ gdt := gdt_of 988 (by decide +kernel) (by decide +kernel)
theorem lk_L_41 : Cond.methodLink RL 41 yX8_feed ∈ gdt := gdt_of 361 (by decide +kernel) (by decide +kernel)
theorem lk_L_45 : Cond.methodLink RL 45 yX9_feed ∈ gdt := gdt_of 992 (by decide +kernel) (by decide +kernel)
theorem lk_L_46 : Cond.methodLink RL 46 yX8_read ∈ gdt := gdt_of 369 (by decide +kernel) (by decide +kernel)
theorem lk_L_49 : Cond.methodLink RL 49 yX9_read ∈ gdt := gdt_of 996 (by decide +kernel) (by decide +kernel)
theorem lk_L_50 : Cond.methodLink RL 50 yX8_cut ∈ gdt := gdt_of 487 (by decide +kernel) (by decide +kernel)
theorem lk_L_53 : Cond.methodLink RL 53 yX9_cut ∈ gdt := gdt_of 1050 (by decide +kernel) (by decide +kernel)
theorem lk_L_54 : Cond.methodLink RL 54 yX8_ring ∈ gdt := gdt_of 488 (by decide +kernel) (by decide +kernel)
theorem lk_L_57 : Cond.methodLink RL 57 yX9_ring ∈ gdt := gdt_of 1051 (by decide +kernel) (by decide +kernel)
theorem lk_L_58 : Cond.methodLink RL 58 yX8_trail ∈ gdt := gdt_of 493 (by decide +kernel) (by decide +kernel)
theorem lk_L_61 : Cond.methodLink RL 61 yX9_trail ∈ gdt := gdt_of 1055 (by decide +kernel) (by decide +kernel)
theorem lk_L_62 : Cond.methodLink RL 62 yX8_forget ∈ gdt := gdt_of 501 (by decide +kernel) (by decide +kernel)
theorem lk_L_65 : Cond.methodLink RL 65 yX9_forget ∈ gdt := gdt_of 1059 (by decide +kernel) (by decide +kernel)
theorem lk_L_66 : Cond.methodLink RL 66 yX8_balance ∈ gdt := gdt_of 513 (by decide +kernel) (by decide +kernel)
theorem lk_L_70 : Cond.methodLink RL 70 yX9_balance ∈ gdt := gdt_of 1063 (by decide +kernel) (by decide +kernel)
theorem lk_L_71 : Cond.methodLink RL 71 yX8_group ∈ gdt := gdt_of 527 (by decide +kernel) (by decide +kernel)
theorem lk_L_74 : Cond.methodLink RL 74 yX9_group ∈ gdt := gdt_of 1072 (by decide +kernel) (by decide +kernel)
theorem lk_L_75 : Cond.methodLink RL 75 yX8_payment ∈ gdt := gdt_of 581 (by decide +kernel) (by decide +kernel)
theorem lk_L_78 : Cond.methodLink RL 78 yX9_payment ∈ gdt := gdt_of 1083 (by decide +kernel) (by decide +kernel)
theorem lk_L_79 : Cond.methodLink RL 79 yX8_willing ∈ gdt := gdt_of 585 (by decide +kernel) (by decide +kernel)
theorem lk_L_82 : Cond.methodLink RL 82 yX9_willing_ ∈ gdt := gdt_of 1099 (by decide +kernel) (by decide +kernel)
theorem lk_L_83 : Cond.methodLink RL 83 yX8_settle ∈ gdt := gdt_of 594 (by decide +kernel) (by decide +kernel)
theorem lk_L_86 : Cond.methodLink RL 86 yX9_settle ∈ gdt := gdt_of 1107 (by decide +kernel) (by decide +kernel)
theorem lk_L_87 : Cond.methodLink RL 87 yX8_told ∈ gdt := gdt_of 610 (by decide +kernel) (by decide +kernel)
theorem lk_L_90 : Cond.methodLink RL 90 yX9_told ∈ gdt := gdt_of 1115 (by decide +kernel) (by decide +kernel)
theorem lk_L_91 : Cond.methodLink RL 91 yX8_without ∈ gdt := gdt_of 656 (by decide +kernel) (by decide +kernel)
theorem lk_L_94 : Cond.methodLink RL 94 yX9_without ∈ gdt := gdt_of 1143 (by decide +kernel) (by decide +kernel)
theorem lk_L_95 : Cond.methodLink RL 95 yX8_see ∈ gdt := gdt_of 677 (by decide +kernel) (by decide +kernel)
theorem lk_L_98 : Cond.methodLink RL 98 yX9_see ∈ gdt := gdt_of 1159 (by decide +kernel) (by decide +kernel)
theorem lk_L_99 : Cond.methodLink RL 99 yX8_fits ∈ gdt := gdt_of 685 (by decide +kernel) (by decide +kernel)
theorem lk_L_102 : Cond.methodLink RL 102 yX9_fits_ ∈ gdt := gdt_of 1163 (by decide +kernel) (by decide +kernel)
theorem lk_L_103 : Cond.methodLink RL 103 yX8_odds ∈ gdt := gdt_of 698 (by decide +kernel) (by decide +kernel)
theorem lk_L_107 : Cond.methodLink RL 107 yX9_odds ∈ gdt := gdt_of 1175 (by decide +kernel) (by decide +kernel)
theorem lk_L_108 : Cond.methodLink RL 108 yX8_mean ∈ gdt := gdt_of 712 (by decide +kernel) (by decide +kernel)
theorem lk_L_111 : Cond.methodLink RL 111 yX9_mean ∈ gdt := gdt_of 1190 (by decide +kernel) (by decide +kernel)
theorem lk_L_112 : Cond.methodLink RL 112 yX8_event ∈ gdt := gdt_of 716 (by decide +kernel) (by decide +kernel)
theorem lk_L_115 : Cond.methodLink RL 115 yX9_event ∈ gdt := gdt_of 1194 (by decide +kernel) (by decide +kernel)
theorem lk_L_116 : Cond.methodLink RL 116 yX8_after ∈ gdt := gdt_of 720 (by decide +kernel) (by decide +kernel)
theorem lk_L_119 : Cond.methodLink RL 119 yX9_after ∈ gdt := gdt_of 1198 (by decide +kernel) (by decide +kernel)
theorem lk_L_120 : Cond.methodLink RL 120 yX8_book ∈ gdt := gdt_of 728 (by decide +kernel) (by decide +kernel)
theorem lk_L_123 : Cond.methodLink RL 123 yX9_book ∈ gdt := gdt_of 1206 (by decide +kernel) (by decide +kernel)
theorem lk_L_124 : Cond.methodLink RL 124 yX8_looked ∈ gdt := gdt_of 732 (by decide +kernel) (by decide +kernel)
theorem lk_L_127 : Cond.methodLink RL 127 yX9_looked ∈ gdt := gdt_of 1210 (by decide +kernel) (by decide +kernel)
theorem lk_L_131 : Cond.methodLink RL 131 yX9_judge ∈ gdt := gdt_of 1214 (by decide +kernel) (by decide +kernel)
theorem lk_L_128 : Cond.methodLink RL 128 yX8_judge ∈ gdt := gdt_of 736 (by decide +kernel) (by decide +kernel)
theorem lk_L_132 : Cond.methodLink RL 132 yX8_image ∈ gdt := gdt_of 766 (by decide +kernel) (by decide +kernel)
theorem lk_L_135 : Cond.methodLink RL 135 yX9_image ∈ gdt := gdt_of 1223 (by decide +kernel) (by decide +kernel)
theorem lk_L_136 : Cond.methodLink RL 136 yX8_undo ∈ gdt := gdt_of 785 (by decide +kernel) (by decide +kernel)
theorem lk_L_139 : Cond.methodLink RL 139 yX9_undo ∈ gdt := gdt_of 1227 (by decide +kernel) (by decide +kernel)
theorem lk_L_140 : Cond.methodLink RL 140 yX8_count ∈ gdt := gdt_of 789 (by decide +kernel) (by decide +kernel)
theorem lk_L_143 : Cond.methodLink RL 143 yX9_count ∈ gdt := gdt_of 1231 (by decide +kernel) (by decide +kernel)
theorem lk_L_147 : Cond.methodLink RL 147 yX9_tape ∈ gdt := gdt_of 1235 (by decide +kernel) (by decide +kernel)
theorem lk_L_144 : Cond.methodLink RL 144 yX8_tape ∈ gdt := gdt_of 793 (by decide +kernel) (by decide +kernel)
theorem cl_L_148 : Cond.constantLong RL 148 4294967295 ∈ gdt := gdt_of 1254 (by decide +kernel) (by decide +kernel)
theorem lk_L_154 : Cond.methodLink RL 154 yX9_item ∈ gdt := gdt_of 1239 (by decide +kernel) (by decide +kernel)
theorem lk_L_150 : Cond.methodLink RL 150 yX8_item ∈ gdt := gdt_of 801 (by decide +kernel) (by decide +kernel)
theorem lk_L_159 : Cond.methodLink RL 159 yX9_peek ∈ gdt := gdt_of 1246 (by decide +kernel) (by decide +kernel)
theorem lk_L_155 : Cond.methodLink RL 155 yX8_peek ∈ gdt := gdt_of 814 (by decide +kernel) (by decide +kernel)
theorem lk_L_164 : Cond.methodLink RL 164 yX9_shift ∈ gdt := gdt_of 1250 (by decide +kernel) (by decide +kernel)
theorem lk_L_160 : Cond.methodLink RL 160 yX8_shift ∈ gdt := gdt_of 818 (by decide +kernel) (by decide +kernel)
theorem my_X8_pay : (yX8_pay.cls ≠ "java/lang/invoke/MethodHandle" ∧ yX8_pay.cls ≠ "java/lang/invoke/VarHandle") ∧ Cond.instanceMethod yX8_pay ∈ gdt ∧ Cond.selects yX8_pay.cls yX8_pay yX8_pay ∈ gdt ∧ Cond.initialized yX8_pay.cls ∈ gdt ∧ Cond.code yX8_pay cX8_pay 5 (some .int) ∈ gdt := ⟨⟨by decide +kernel, by decide +kernel⟩, gdt_of 324 (by decide +kernel) (by decide +kernel), gdt_of 325 (by decide +kernel) (by decide +kernel), gdt_of 67 (by decide +kernel) (by decide +kernel), gdt_of 326 (by decide +kernel) (by decide +kernel)⟩
theorem ml_X8_pay : (parseMethodDescriptor yX8_pay.desc).map (fun d => d.parameters.length) = some 3 := by decide +kernel
theorem my_X9_pay : (yX9_pay.cls ≠ "java/lang/invoke/MethodHandle" ∧ yX9_pay.cls ≠ "java/lang/invoke/VarHandle") ∧ Cond.instanceMethod yX9_pay ∈ gdt ∧ Cond.selects yX9_pay.cls yX9_pay yX9_pay ∈ gdt ∧ Cond.initialized yX9_pay.cls ∈ gdt ∧ Cond.code yX9_pay cX9_pay 5 (some .int) ∈ gdt := ⟨⟨by decide +kernel, by decide +kernel⟩, gdt_of 977 (by decide +kernel) (by decide +kernel), gdt_of 978 (by decide +kernel) (by decide +kernel), gdt_of 77 (by decide +kernel) (by decide +kernel), gdt_of 979 (by decide +kernel) (by decide +kernel)⟩
theorem ml_X9_pay : (parseMethodDescriptor yX9_pay.desc).map (fun d => d.parameters.length) = some 3 := by decide +kernel
theorem my_X8_of : (yX8_of.cls ≠ "java/lang/invoke/MethodHandle" ∧ yX8_of.cls ≠ "java/lang/invoke/VarHandle") ∧ Cond.instanceMethod yX8_of ∈ gdt ∧ Cond.selects yX8_of.cls yX8_of yX8_of ∈ gdt ∧ Cond.initialized yX8_of.cls ∈ gdt ∧ Cond.code yX8_of cX8_of 4 (some .int) ∈ gdt := ⟨⟨by decide +kernel, by decide +kernel⟩, gdt_of 344 (by decide +kernel) (by decide +kernel), gdt_of 345 (by decide +kernel) (by decide +kernel), gdt_of 67 (by decide +kernel) (by decide +kernel), gdt_of 346 (by decide +kernel) (by decide +kernel)⟩
theorem ml_X8_of : (parseMethodDescriptor yX8_of.desc).map (fun d => d.parameters.length) = some 3 := by decide +kernel
theorem my_X9_of : (yX9_of.cls ≠ "java/lang/invoke/MethodHandle" ∧ yX9_of.cls ≠ "java/lang/invoke/VarHandle") ∧ Cond.instanceMethod yX9_of ∈ gdt ∧ Cond.selects yX9_of.cls yX9_of yX9_of ∈ gdt ∧ Cond.initialized yX9_of.cls ∈ gdt ∧ Cond.code yX9_of cX9_of 5 (some .int) ∈ gdt := ⟨⟨by decide +kernel, by decide +kernel⟩, gdt_of 985 (by decide +kernel) (by decide +kernel), gdt_of 986 (by decide +kernel) (by decide +kernel), gdt_of 77 (by decide +kernel) (by decide +kernel), gdt_of 987 (by decide +kernel) (by decide +kernel)⟩
theorem ml_X9_of : (parseMethodDescriptor yX9_of.desc).map (fun d => d.parameters.length) = some 3 := by decide +kernel
theorem my_X8_debt : (yX8_debt.cls ≠ "java/lang/invoke/MethodHandle" ∧ yX8_debt.cls ≠ "java/lang/invoke/VarHandle") ∧ Cond.instanceMethod yX8_debt ∈ gdt ∧ Cond.selects yX8_debt.cls yX8_debt yX8_debt ∈ gdt ∧ Cond.initialized yX8_debt.cls ∈ gdt ∧ Cond.code yX8_debt cX8_debt 3 (some .int) ∈ gdt := ⟨⟨by decide +kernel, by decide +kernel⟩, gdt_of 357 (by decide +kernel) (by decide +kernel), gdt_of 358 (by decide +kernel) (by decide +kernel), gdt_of 67 (by decide +kernel) (by decide +kernel), gdt_of 359 (by decide +kernel) (by decide +kernel)⟩
theorem ml_X8_debt : (parseMethodDescriptor yX8_debt.desc).map (fun d => d.parameters.length) = some 2 := by decide +kernel
theorem my_X9_debt : (yX9_debt.cls ≠ "java/lang/invoke/MethodHandle" ∧ yX9_debt.cls ≠ "java/lang/invoke/VarHandle") ∧ Cond.instanceMethod yX9_debt ∈ gdt ∧ Cond.selects yX9_debt.cls yX9_debt yX9_debt ∈ gdt ∧ Cond.initialized yX9_debt.cls ∈ gdt ∧ Cond.code yX9_debt cX9_debt 3 (some .int) ∈ gdt := ⟨⟨by decide +kernel, by decide +kernel⟩, gdt_of 989 (by decide +kernel) (by decide +kernel), gdt_of 990 (by decide +kernel) (by decide +kernel), gdt_of 77 (by decide +kernel) (by decide +kernel), gdt_of 991 (by decide +kernel) (by decide +kernel)⟩
theorem ml_X9_debt : (parseMethodDescriptor yX9_debt.desc).map (fun d => d.parameters.length) = some 2 := by decide +kernel
theorem my_X8_feed : (yX8_feed.cls ≠ "java/lang/invoke/MethodHandle" ∧ yX8_feed.cls ≠ "java/lang/invoke/VarHandle") ∧ Cond.instanceMethod yX8_feed ∈ gdt ∧ Cond.selects yX8_feed.cls yX8_feed yX8_feed ∈ gdt ∧ Cond.initialized yX8_feed.cls ∈ gdt ∧ Cond.code yX8_feed cX8_feed 2 (some .int) ∈ gdt := ⟨⟨by decide +kernel, by decide +kernel⟩, gdt_of 362 (by decide +kernel) (by decide +kernel), gdt_of 363 (by decide +kernel) (by decide +kernel), gdt_of 67 (by decide +kernel) (by decide +kernel), gdt_of 364 (by decide +kernel) (by decide +kernel)⟩
theorem ml_X8_feed : (parseMethodDescriptor yX8_feed.desc).map (fun d => d.parameters.length) = some 1 := by decide +kernel
theorem my_X9_feed : (yX9_feed.cls ≠ "java/lang/invoke/MethodHandle" ∧ yX9_feed.cls ≠ "java/lang/invoke/VarHandle") ∧ Cond.instanceMethod yX9_feed ∈ gdt ∧ Cond.selects yX9_feed.cls yX9_feed yX9_feed ∈ gdt ∧ Cond.initialized yX9_feed.cls ∈ gdt ∧ Cond.code yX9_feed cX9_feed 2 (some .int) ∈ gdt := ⟨⟨by decide +kernel, by decide +kernel⟩, gdt_of 993 (by decide +kernel) (by decide +kernel), gdt_of 994 (by decide +kernel) (by decide +kernel), gdt_of 77 (by decide +kernel) (by decide +kernel), gdt_of 995 (by decide +kernel) (by decide +kernel)⟩
theorem ml_X9_feed : (parseMethodDescriptor yX9_feed.desc).map (fun d => d.parameters.length) = some 1 := by decide +kernel
theorem my_X8_read : (yX8_read.cls ≠ "java/lang/invoke/MethodHandle" ∧ yX8_read.cls ≠ "java/lang/invoke/VarHandle") ∧ Cond.instanceMethod yX8_read ∈ gdt ∧ Cond.selects yX8_read.cls yX8_read yX8_read ∈ gdt ∧ Cond.initialized yX8_read.cls ∈ gdt ∧ Cond.code yX8_read cX8_read 5 (some .int) ∈ gdt := ⟨⟨by decide +kernel, by decide +kernel⟩, gdt_of 370 (by decide +kernel) (by decide +kernel), gdt_of 371 (by decide +kernel) (by decide +kernel), gdt_of 67 (by decide +kernel) (by decide +kernel), gdt_of 372 (by decide +kernel) (by decide +kernel)⟩
theorem ml_X8_read : (parseMethodDescriptor yX8_read.desc).map (fun d => d.parameters.length) = some 0 := by decide +kernel
theorem my_X9_read : (yX9_read.cls ≠ "java/lang/invoke/MethodHandle" ∧ yX9_read.cls ≠ "java/lang/invoke/VarHandle") ∧ Cond.instanceMethod yX9_read ∈ gdt ∧ Cond.selects yX9_read.cls yX9_read yX9_read ∈ gdt ∧ Cond.initialized yX9_read.cls ∈ gdt ∧ Cond.code yX9_read cX9_read 5 (some .int) ∈ gdt := ⟨⟨by decide +kernel, by decide +kernel⟩, gdt_of 997 (by decide +kernel) (by decide +kernel), gdt_of 998 (by decide +kernel) (by decide +kernel), gdt_of 77 (by decide +kernel) (by decide +kernel), gdt_of 999 (by decide +kernel) (by decide +kernel)⟩
theorem ml_X9_read : (parseMethodDescriptor yX9_read.desc).map (fun d => d.parameters.length) = some 0 := by decide +kernel
theorem my_X8_ring : (yX8_ring.cls ≠ "java/lang/invoke/MethodHandle" ∧ yX8_ring.cls ≠ "java/lang/invoke/VarHandle") ∧ Cond.instanceMethod yX8_ring ∈ gdt ∧ Cond.selects yX8_ring.cls yX8_ring yX8_ring ∈ gdt ∧ Cond.initialized yX8_ring.cls ∈ gdt ∧ Cond.code yX8_ring cX8_ring 3 (some .int) ∈ gdt := ⟨⟨by decide +kernel, by decide +kernel⟩, gdt_of 489 (by decide +kernel) (by decide +kernel), gdt_of 490 (by decide +kernel) (by decide +kernel), gdt_of 67 (by decide +kernel) (by decide +kernel), gdt_of 491 (by decide +kernel) (by decide +kernel)⟩
theorem ml_X8_ring : (parseMethodDescriptor yX8_ring.desc).map (fun d => d.parameters.length) = some 2 := by decide +kernel
theorem my_X9_ring : (yX9_ring.cls ≠ "java/lang/invoke/MethodHandle" ∧ yX9_ring.cls ≠ "java/lang/invoke/VarHandle") ∧ Cond.instanceMethod yX9_ring ∈ gdt ∧ Cond.selects yX9_ring.cls yX9_ring yX9_ring ∈ gdt ∧ Cond.initialized yX9_ring.cls ∈ gdt ∧ Cond.code yX9_ring cX9_ring 3 (some .int) ∈ gdt := ⟨⟨by decide +kernel, by decide +kernel⟩, gdt_of 1052 (by decide +kernel) (by decide +kernel), gdt_of 1053 (by decide +kernel) (by decide +kernel), gdt_of 77 (by decide +kernel) (by decide +kernel), gdt_of 1054 (by decide +kernel) (by decide +kernel)⟩
theorem ml_X9_ring : (parseMethodDescriptor yX9_ring.desc).map (fun d => d.parameters.length) = some 2 := by decide +kernel
theorem my_X8_trail : (yX8_trail.cls ≠ "java/lang/invoke/MethodHandle" ∧ yX8_trail.cls ≠ "java/lang/invoke/VarHandle") ∧ Cond.instanceMethod yX8_trail ∈ gdt ∧ Cond.selects yX8_trail.cls yX8_trail yX8_trail ∈ gdt ∧ Cond.initialized yX8_trail.cls ∈ gdt ∧ Cond.code yX8_trail cX8_trail 3 (some .int) ∈ gdt := ⟨⟨by decide +kernel, by decide +kernel⟩, gdt_of 494 (by decide +kernel) (by decide +kernel), gdt_of 495 (by decide +kernel) (by decide +kernel), gdt_of 67 (by decide +kernel) (by decide +kernel), gdt_of 496 (by decide +kernel) (by decide +kernel)⟩
theorem ml_X8_trail : (parseMethodDescriptor yX8_trail.desc).map (fun d => d.parameters.length) = some 2 := by decide +kernel
theorem my_X9_trail : (yX9_trail.cls ≠ "java/lang/invoke/MethodHandle" ∧ yX9_trail.cls ≠ "java/lang/invoke/VarHandle") ∧ Cond.instanceMethod yX9_trail ∈ gdt ∧ Cond.selects yX9_trail.cls yX9_trail yX9_trail ∈ gdt ∧ Cond.initialized yX9_trail.cls ∈ gdt ∧ Cond.code yX9_trail cX9_trail 3 (some .int) ∈ gdt := ⟨⟨by decide +kernel, by decide +kernel⟩, gdt_of 1056 (by decide +kernel) (by decide +kernel), gdt_of 1057 (by decide +kernel) (by decide +kernel), gdt_of 77 (by decide +kernel) (by decide +kernel), gdt_of 1058 (by decide +kernel) (by decide +kernel)⟩
theorem ml_X9_trail : (parseMethodDescriptor yX9_trail.desc).map (fun d => d.parameters.length) = some 2 := by decide +kernel
theorem my_X8_forget : (yX8_forget.cls ≠ "java/lang/invoke/MethodHandle" ∧ yX8_forget.cls ≠ "java/lang/invoke/VarHandle") ∧ Cond.instanceMethod yX8_forget ∈ gdt ∧ Cond.selects yX8_forget.cls yX8_forget yX8_forget ∈ gdt ∧ Cond.initialized yX8_forget.cls ∈ gdt ∧ Cond.code yX8_forget cX8_forget 2 (some .int) ∈ gdt := ⟨⟨by decide +kernel, by decide +kernel⟩, gdt_of 502 (by decide +kernel) (by decide +kernel), gdt_of 503 (by decide +kernel) (by decide +kernel), gdt_of 67 (by decide +kernel) (by decide +kernel), gdt_of 504 (by decide +kernel) (by decide +kernel)⟩
theorem ml_X8_forget : (parseMethodDescriptor yX8_forget.desc).map (fun d => d.parameters.length) = some 0 := by decide +kernel
theorem my_X9_forget : (yX9_forget.cls ≠ "java/lang/invoke/MethodHandle" ∧ yX9_forget.cls ≠ "java/lang/invoke/VarHandle") ∧ Cond.instanceMethod yX9_forget ∈ gdt ∧ Cond.selects yX9_forget.cls yX9_forget yX9_forget ∈ gdt ∧ Cond.initialized yX9_forget.cls ∈ gdt ∧ Cond.code yX9_forget cX9_forget 2 (some .int) ∈ gdt := ⟨⟨by decide +kernel, by decide +kernel⟩, gdt_of 1060 (by decide +kernel) (by decide +kernel), gdt_of 1061 (by decide +kernel) (by decide +kernel), gdt_of 77 (by decide +kernel) (by decide +kernel), gdt_of 1062 (by decide +kernel) (by decide +kernel)⟩
theorem ml_X9_forget : (parseMethodDescriptor yX9_forget.desc).map (fun d => d.parameters.length) = some 0 := by decide +kernel
theorem my_X8_balance : (yX8_balance.cls ≠ "java/lang/invoke/MethodHandle" ∧ yX8_balance.cls ≠ "java/lang/invoke/VarHandle") ∧ Cond.instanceMethod yX8_balance ∈ gdt ∧ Cond.selects yX8_balance.cls yX8_balance yX8_balance ∈ gdt ∧ Cond.initialized yX8_balance.cls ∈ gdt ∧ Cond.code yX8_balance cX8_balance 2 (some .long) ∈ gdt := ⟨⟨by decide +kernel, by decide +kernel⟩, gdt_of 514 (by decide +kernel) (by decide +kernel), gdt_of 515 (by decide +kernel) (by decide +kernel), gdt_of 67 (by decide +kernel) (by decide +kernel), gdt_of 516 (by decide +kernel) (by decide +kernel)⟩
theorem ml_X8_balance : (parseMethodDescriptor yX8_balance.desc).map (fun d => d.parameters.length) = some 1 := by decide +kernel
theorem my_X9_balance : (yX9_balance.cls ≠ "java/lang/invoke/MethodHandle" ∧ yX9_balance.cls ≠ "java/lang/invoke/VarHandle") ∧ Cond.instanceMethod yX9_balance ∈ gdt ∧ Cond.selects yX9_balance.cls yX9_balance yX9_balance ∈ gdt ∧ Cond.initialized yX9_balance.cls ∈ gdt ∧ Cond.code yX9_balance cX9_balance 2 (some .long) ∈ gdt := ⟨⟨by decide +kernel, by decide +kernel⟩, gdt_of 1064 (by decide +kernel) (by decide +kernel), gdt_of 1065 (by decide +kernel) (by decide +kernel), gdt_of 77 (by decide +kernel) (by decide +kernel), gdt_of 1066 (by decide +kernel) (by decide +kernel)⟩
theorem ml_X9_balance : (parseMethodDescriptor yX9_balance.desc).map (fun d => d.parameters.length) = some 1 := by decide +kernel
theorem my_X8_group : (yX8_group.cls ≠ "java/lang/invoke/MethodHandle" ∧ yX8_group.cls ≠ "java/lang/invoke/VarHandle") ∧ Cond.instanceMethod yX8_group ∈ gdt ∧ Cond.selects yX8_group.cls yX8_group yX8_group ∈ gdt ∧ Cond.initialized yX8_group.cls ∈ gdt ∧ Cond.code yX8_group cX8_group 2 (some .int) ∈ gdt := ⟨⟨by decide +kernel, by decide +kernel⟩, gdt_of 528 (by decide +kernel) (by decide +kernel), gdt_of 529 (by decide +kernel) (by decide +kernel), gdt_of 67 (by decide +kernel) (by decide +kernel), gdt_of 530 (by decide +kernel) (by decide +kernel)⟩
theorem ml_X8_group : (parseMethodDescriptor yX8_group.desc).map (fun d => d.parameters.length) = some 1 := by decide +kernel
theorem my_X9_group : (yX9_group.cls ≠ "java/lang/invoke/MethodHandle" ∧ yX9_group.cls ≠ "java/lang/invoke/VarHandle") ∧ Cond.instanceMethod yX9_group ∈ gdt ∧ Cond.selects yX9_group.cls yX9_group yX9_group ∈ gdt ∧ Cond.initialized yX9_group.cls ∈ gdt ∧ Cond.code yX9_group cX9_group 2 (some .int) ∈ gdt := ⟨⟨by decide +kernel, by decide +kernel⟩, gdt_of 1073 (by decide +kernel) (by decide +kernel), gdt_of 1074 (by decide +kernel) (by decide +kernel), gdt_of 77 (by decide +kernel) (by decide +kernel), gdt_of 1075 (by decide +kernel) (by decide +kernel)⟩
theorem ml_X9_group : (parseMethodDescriptor yX9_group.desc).map (fun d => d.parameters.length) = some 1 := by decide +kernel
theorem my_X8_payment : (yX8_payment.cls ≠ "java/lang/invoke/MethodHandle" ∧ yX8_payment.cls ≠ "java/lang/invoke/VarHandle") ∧ Cond.instanceMethod yX8_payment ∈ gdt ∧ Cond.selects yX8_payment.cls yX8_payment yX8_payment ∈ gdt ∧ Cond.initialized yX8_payment.cls ∈ gdt ∧ Cond.code yX8_payment cX8_payment 3 (some .int) ∈ gdt := ⟨⟨by decide +kernel, by decide +kernel⟩, gdt_of 582 (by decide +kernel) (by decide +kernel), gdt_of 583 (by decide +kernel) (by decide +kernel), gdt_of 67 (by decide +kernel) (by decide +kernel), gdt_of 584 (by decide +kernel) (by decide +kernel)⟩
theorem ml_X8_payment : (parseMethodDescriptor yX8_payment.desc).map (fun d => d.parameters.length) = some 2 := by decide +kernel
theorem my_X9_payment : (yX9_payment.cls ≠ "java/lang/invoke/MethodHandle" ∧ yX9_payment.cls ≠ "java/lang/invoke/VarHandle") ∧ Cond.instanceMethod yX9_payment ∈ gdt ∧ Cond.selects yX9_payment.cls yX9_payment yX9_payment ∈ gdt ∧ Cond.initialized yX9_payment.cls ∈ gdt ∧ Cond.code yX9_payment cX9_payment 3 (some .int) ∈ gdt := ⟨⟨by decide +kernel, by decide +kernel⟩, gdt_of 1084 (by decide +kernel) (by decide +kernel), gdt_of 1085 (by decide +kernel) (by decide +kernel), gdt_of 77 (by decide +kernel) (by decide +kernel), gdt_of 1086 (by decide +kernel) (by decide +kernel)⟩
theorem ml_X9_payment : (parseMethodDescriptor yX9_payment.desc).map (fun d => d.parameters.length) = some 2 := by decide +kernel
theorem my_X8_willing : (yX8_willing.cls ≠ "java/lang/invoke/MethodHandle" ∧ yX8_willing.cls ≠ "java/lang/invoke/VarHandle") ∧ Cond.instanceMethod yX8_willing ∈ gdt ∧ Cond.selects yX8_willing.cls yX8_willing yX8_willing ∈ gdt ∧ Cond.initialized yX8_willing.cls ∈ gdt ∧ Cond.code yX8_willing cX8_willing 3 (some .int) ∈ gdt := ⟨⟨by decide +kernel, by decide +kernel⟩, gdt_of 586 (by decide +kernel) (by decide +kernel), gdt_of 587 (by decide +kernel) (by decide +kernel), gdt_of 67 (by decide +kernel) (by decide +kernel), gdt_of 588 (by decide +kernel) (by decide +kernel)⟩
theorem ml_X8_willing : (parseMethodDescriptor yX8_willing.desc).map (fun d => d.parameters.length) = some 2 := by decide +kernel
theorem my_X9_willing_ : (yX9_willing_.cls ≠ "java/lang/invoke/MethodHandle" ∧ yX9_willing_.cls ≠ "java/lang/invoke/VarHandle") ∧ Cond.instanceMethod yX9_willing_ ∈ gdt ∧ Cond.selects yX9_willing_.cls yX9_willing_ yX9_willing_ ∈ gdt ∧ Cond.initialized yX9_willing_.cls ∈ gdt ∧ Cond.code yX9_willing_ cX9_willing_ 3 (some .int) ∈ gdt := ⟨⟨by decide +kernel, by decide +kernel⟩, gdt_of 1100 (by decide +kernel) (by decide +kernel), gdt_of 1101 (by decide +kernel) (by decide +kernel), gdt_of 77 (by decide +kernel) (by decide +kernel), gdt_of 1102 (by decide +kernel) (by decide +kernel)⟩
theorem ml_X9_willing_ : (parseMethodDescriptor yX9_willing_.desc).map (fun d => d.parameters.length) = some 2 := by decide +kernel
theorem my_X8_settle : (yX8_settle.cls ≠ "java/lang/invoke/MethodHandle" ∧ yX8_settle.cls ≠ "java/lang/invoke/VarHandle") ∧ Cond.instanceMethod yX8_settle ∈ gdt ∧ Cond.selects yX8_settle.cls yX8_settle yX8_settle ∈ gdt ∧ Cond.initialized yX8_settle.cls ∈ gdt ∧ Cond.code yX8_settle cX8_settle 2 (some .int) ∈ gdt := ⟨⟨by decide +kernel, by decide +kernel⟩, gdt_of 595 (by decide +kernel) (by decide +kernel), gdt_of 596 (by decide +kernel) (by decide +kernel), gdt_of 67 (by decide +kernel) (by decide +kernel), gdt_of 597 (by decide +kernel) (by decide +kernel)⟩
theorem ml_X8_settle : (parseMethodDescriptor yX8_settle.desc).map (fun d => d.parameters.length) = some 0 := by decide +kernel
theorem my_X9_settle : (yX9_settle.cls ≠ "java/lang/invoke/MethodHandle" ∧ yX9_settle.cls ≠ "java/lang/invoke/VarHandle") ∧ Cond.instanceMethod yX9_settle ∈ gdt ∧ Cond.selects yX9_settle.cls yX9_settle yX9_settle ∈ gdt ∧ Cond.initialized yX9_settle.cls ∈ gdt ∧ Cond.code yX9_settle cX9_settle 2 (some .int) ∈ gdt := ⟨⟨by decide +kernel, by decide +kernel⟩, gdt_of 1108 (by decide +kernel) (by decide +kernel), gdt_of 1109 (by decide +kernel) (by decide +kernel), gdt_of 77 (by decide +kernel) (by decide +kernel), gdt_of 1110 (by decide +kernel) (by decide +kernel)⟩
theorem ml_X9_settle : (parseMethodDescriptor yX9_settle.desc).map (fun d => d.parameters.length) = some 0 := by decide +kernel
theorem my_X8_told : (yX8_told.cls ≠ "java/lang/invoke/MethodHandle" ∧ yX8_told.cls ≠ "java/lang/invoke/VarHandle") ∧ Cond.instanceMethod yX8_told ∈ gdt ∧ Cond.selects yX8_told.cls yX8_told yX8_told ∈ gdt ∧ Cond.initialized yX8_told.cls ∈ gdt ∧ Cond.code yX8_told cX8_told 2 (some .int) ∈ gdt := ⟨⟨by decide +kernel, by decide +kernel⟩, gdt_of 611 (by decide +kernel) (by decide +kernel), gdt_of 612 (by decide +kernel) (by decide +kernel), gdt_of 67 (by decide +kernel) (by decide +kernel), gdt_of 613 (by decide +kernel) (by decide +kernel)⟩
theorem ml_X8_told : (parseMethodDescriptor yX8_told.desc).map (fun d => d.parameters.length) = some 1 := by decide +kernel
theorem my_X9_told : (yX9_told.cls ≠ "java/lang/invoke/MethodHandle" ∧ yX9_told.cls ≠ "java/lang/invoke/VarHandle") ∧ Cond.instanceMethod yX9_told ∈ gdt ∧ Cond.selects yX9_told.cls yX9_told yX9_told ∈ gdt ∧ Cond.initialized yX9_told.cls ∈ gdt ∧ Cond.code yX9_told cX9_told 2 (some .int) ∈ gdt := ⟨⟨by decide +kernel, by decide +kernel⟩, gdt_of 1116 (by decide +kernel) (by decide +kernel), gdt_of 1117 (by decide +kernel) (by decide +kernel), gdt_of 77 (by decide +kernel) (by decide +kernel), gdt_of 1118 (by decide +kernel) (by decide +kernel)⟩
theorem ml_X9_told : (parseMethodDescriptor yX9_told.desc).map (fun d => d.parameters.length) = some 1 := by decide +kernel
theorem my_X8_without : (yX8_without.cls ≠ "java/lang/invoke/MethodHandle" ∧ yX8_without.cls ≠ "java/lang/invoke/VarHandle") ∧ Cond.instanceMethod yX8_without ∈ gdt ∧ Cond.selects yX8_without.cls yX8_without yX8_without ∈ gdt ∧ Cond.initialized yX8_without.cls ∈ gdt ∧ Cond.code yX8_without cX8_without 2 (some .int) ∈ gdt := ⟨⟨by decide +kernel, by decide +kernel⟩, gdt_of 657 (by decide +kernel) (by decide +kernel), gdt_of 658 (by decide +kernel) (by decide +kernel), gdt_of 67 (by decide +kernel) (by decide +kernel), gdt_of 659 (by decide +kernel) (by decide +kernel)⟩
theorem ml_X8_without : (parseMethodDescriptor yX8_without.desc).map (fun d => d.parameters.length) = some 1 := by decide +kernel
theorem my_X9_without : (yX9_without.cls ≠ "java/lang/invoke/MethodHandle" ∧ yX9_without.cls ≠ "java/lang/invoke/VarHandle") ∧ Cond.instanceMethod yX9_without ∈ gdt ∧ Cond.selects yX9_without.cls yX9_without yX9_without ∈ gdt ∧ Cond.initialized yX9_without.cls ∈ gdt ∧ Cond.code yX9_without cX9_without 3 (some .int) ∈ gdt := ⟨⟨by decide +kernel, by decide +kernel⟩, gdt_of 1144 (by decide +kernel) (by decide +kernel), gdt_of 1145 (by decide +kernel) (by decide +kernel), gdt_of 77 (by decide +kernel) (by decide +kernel), gdt_of 1146 (by decide +kernel) (by decide +kernel)⟩
theorem ml_X9_without : (parseMethodDescriptor yX9_without.desc).map (fun d => d.parameters.length) = some 1 := by decide +kernel
theorem my_X8_see : (yX8_see.cls ≠ "java/lang/invoke/MethodHandle" ∧ yX8_see.cls ≠ "java/lang/invoke/VarHandle") ∧ Cond.instanceMethod yX8_see ∈ gdt ∧ Cond.selects yX8_see.cls yX8_see yX8_see ∈ gdt ∧ Cond.initialized yX8_see.cls ∈ gdt ∧ Cond.code yX8_see cX8_see 4 (some .int) ∈ gdt := ⟨⟨by decide +kernel, by decide +kernel⟩, gdt_of 678 (by decide +kernel) (by decide +kernel), gdt_of 679 (by decide +kernel) (by decide +kernel), gdt_of 67 (by decide +kernel) (by decide +kernel), gdt_of 680 (by decide +kernel) (by decide +kernel)⟩
theorem ml_X8_see : (parseMethodDescriptor yX8_see.desc).map (fun d => d.parameters.length) = some 3 := by decide +kernel
theorem my_X9_see : (yX9_see.cls ≠ "java/lang/invoke/MethodHandle" ∧ yX9_see.cls ≠ "java/lang/invoke/VarHandle") ∧ Cond.instanceMethod yX9_see ∈ gdt ∧ Cond.selects yX9_see.cls yX9_see yX9_see ∈ gdt ∧ Cond.initialized yX9_see.cls ∈ gdt ∧ Cond.code yX9_see cX9_see 4 (some .int) ∈ gdt := ⟨⟨by decide +kernel, by decide +kernel⟩, gdt_of 1160 (by decide +kernel) (by decide +kernel), gdt_of 1161 (by decide +kernel) (by decide +kernel), gdt_of 77 (by decide +kernel) (by decide +kernel), gdt_of 1162 (by decide +kernel) (by decide +kernel)⟩
theorem ml_X9_see : (parseMethodDescriptor yX9_see.desc).map (fun d => d.parameters.length) = some 3 := by decide +kernel
theorem my_X8_fits : (yX8_fits.cls ≠ "java/lang/invoke/MethodHandle" ∧ yX8_fits.cls ≠ "java/lang/invoke/VarHandle") ∧ Cond.instanceMethod yX8_fits ∈ gdt ∧ Cond.selects yX8_fits.cls yX8_fits yX8_fits ∈ gdt ∧ Cond.initialized yX8_fits.cls ∈ gdt ∧ Cond.code yX8_fits cX8_fits 7 (some .int) ∈ gdt := ⟨⟨by decide +kernel, by decide +kernel⟩, gdt_of 686 (by decide +kernel) (by decide +kernel), gdt_of 687 (by decide +kernel) (by decide +kernel), gdt_of 67 (by decide +kernel) (by decide +kernel), gdt_of 688 (by decide +kernel) (by decide +kernel)⟩
theorem ml_X8_fits : (parseMethodDescriptor yX8_fits.desc).map (fun d => d.parameters.length) = some 3 := by decide +kernel
theorem my_X9_fits_ : (yX9_fits_.cls ≠ "java/lang/invoke/MethodHandle" ∧ yX9_fits_.cls ≠ "java/lang/invoke/VarHandle") ∧ Cond.instanceMethod yX9_fits_ ∈ gdt ∧ Cond.selects yX9_fits_.cls yX9_fits_ yX9_fits_ ∈ gdt ∧ Cond.initialized yX9_fits_.cls ∈ gdt ∧ Cond.code yX9_fits_ cX9_fits_ 7 (some .int) ∈ gdt := ⟨⟨by decide +kernel, by decide +kernel⟩, gdt_of 1164 (by decide +kernel) (by decide +kernel), gdt_of 1165 (by decide +kernel) (by decide +kernel), gdt_of 77 (by decide +kernel) (by decide +kernel), gdt_of 1166 (by decide +kernel) (by decide +kernel)⟩
theorem ml_X9_fits_ : (parseMethodDescriptor yX9_fits_.desc).map (fun d => d.parameters.length) = some 3 := by decide +kernel
theorem my_X8_odds : (yX8_odds.cls ≠ "java/lang/invoke/MethodHandle" ∧ yX8_odds.cls ≠ "java/lang/invoke/VarHandle") ∧ Cond.instanceMethod yX8_odds ∈ gdt ∧ Cond.selects yX8_odds.cls yX8_odds yX8_odds ∈ gdt ∧ Cond.initialized yX8_odds.cls ∈ gdt ∧ Cond.code yX8_odds cX8_odds 6 (some .long) ∈ gdt := ⟨⟨by decide +kernel, by decide +kernel⟩, gdt_of 699 (by decide +kernel) (by decide +kernel), gdt_of 700 (by decide +kernel) (by decide +kernel), gdt_of 67 (by decide +kernel) (by decide +kernel), gdt_of 701 (by decide +kernel) (by decide +kernel)⟩
theorem ml_X8_odds : (parseMethodDescriptor yX8_odds.desc).map (fun d => d.parameters.length) = some 3 := by decide +kernel
theorem my_X9_odds : (yX9_odds.cls ≠ "java/lang/invoke/MethodHandle" ∧ yX9_odds.cls ≠ "java/lang/invoke/VarHandle") ∧ Cond.instanceMethod yX9_odds ∈ gdt ∧ Cond.selects yX9_odds.cls yX9_odds yX9_odds ∈ gdt ∧ Cond.initialized yX9_odds.cls ∈ gdt ∧ Cond.code yX9_odds cX9_odds 7 (some .long) ∈ gdt := ⟨⟨by decide +kernel, by decide +kernel⟩, gdt_of 1176 (by decide +kernel) (by decide +kernel), gdt_of 1177 (by decide +kernel) (by decide +kernel), gdt_of 77 (by decide +kernel) (by decide +kernel), gdt_of 1178 (by decide +kernel) (by decide +kernel)⟩
theorem ml_X9_odds : (parseMethodDescriptor yX9_odds.desc).map (fun d => d.parameters.length) = some 3 := by decide +kernel
theorem my_X8_mean : (yX8_mean.cls ≠ "java/lang/invoke/MethodHandle" ∧ yX8_mean.cls ≠ "java/lang/invoke/VarHandle") ∧ Cond.instanceMethod yX8_mean ∈ gdt ∧ Cond.selects yX8_mean.cls yX8_mean yX8_mean ∈ gdt ∧ Cond.initialized yX8_mean.cls ∈ gdt ∧ Cond.code yX8_mean cX8_mean 2 (some .long) ∈ gdt := ⟨⟨by decide +kernel, by decide +kernel⟩, gdt_of 713 (by decide +kernel) (by decide +kernel), gdt_of 714 (by decide +kernel) (by decide +kernel), gdt_of 67 (by decide +kernel) (by decide +kernel), gdt_of 715 (by decide +kernel) (by decide +kernel)⟩
theorem ml_X8_mean : (parseMethodDescriptor yX8_mean.desc).map (fun d => d.parameters.length) = some 1 := by decide +kernel
theorem my_X9_mean : (yX9_mean.cls ≠ "java/lang/invoke/MethodHandle" ∧ yX9_mean.cls ≠ "java/lang/invoke/VarHandle") ∧ Cond.instanceMethod yX9_mean ∈ gdt ∧ Cond.selects yX9_mean.cls yX9_mean yX9_mean ∈ gdt ∧ Cond.initialized yX9_mean.cls ∈ gdt ∧ Cond.code yX9_mean cX9_mean 2 (some .long) ∈ gdt := ⟨⟨by decide +kernel, by decide +kernel⟩, gdt_of 1191 (by decide +kernel) (by decide +kernel), gdt_of 1192 (by decide +kernel) (by decide +kernel), gdt_of 77 (by decide +kernel) (by decide +kernel), gdt_of 1193 (by decide +kernel) (by decide +kernel)⟩
theorem ml_X9_mean : (parseMethodDescriptor yX9_mean.desc).map (fun d => d.parameters.length) = some 1 := by decide +kernel
theorem my_X8_event : (yX8_event.cls ≠ "java/lang/invoke/MethodHandle" ∧ yX8_event.cls ≠ "java/lang/invoke/VarHandle") ∧ Cond.instanceMethod yX8_event ∈ gdt ∧ Cond.selects yX8_event.cls yX8_event yX8_event ∈ gdt ∧ Cond.initialized yX8_event.cls ∈ gdt ∧ Cond.code yX8_event cX8_event 3 (some .int) ∈ gdt := ⟨⟨by decide +kernel, by decide +kernel⟩, gdt_of 717 (by decide +kernel) (by decide +kernel), gdt_of 718 (by decide +kernel) (by decide +kernel), gdt_of 67 (by decide +kernel) (by decide +kernel), gdt_of 719 (by decide +kernel) (by decide +kernel)⟩
theorem ml_X8_event : (parseMethodDescriptor yX8_event.desc).map (fun d => d.parameters.length) = some 2 := by decide +kernel
theorem my_X9_event : (yX9_event.cls ≠ "java/lang/invoke/MethodHandle" ∧ yX9_event.cls ≠ "java/lang/invoke/VarHandle") ∧ Cond.instanceMethod yX9_event ∈ gdt ∧ Cond.selects yX9_event.cls yX9_event yX9_event ∈ gdt ∧ Cond.initialized yX9_event.cls ∈ gdt ∧ Cond.code yX9_event cX9_event 3 (some .int) ∈ gdt := ⟨⟨by decide +kernel, by decide +kernel⟩, gdt_of 1195 (by decide +kernel) (by decide +kernel), gdt_of 1196 (by decide +kernel) (by decide +kernel), gdt_of 77 (by decide +kernel) (by decide +kernel), gdt_of 1197 (by decide +kernel) (by decide +kernel)⟩
theorem ml_X9_event : (parseMethodDescriptor yX9_event.desc).map (fun d => d.parameters.length) = some 2 := by decide +kernel
theorem my_X8_after : (yX8_after.cls ≠ "java/lang/invoke/MethodHandle" ∧ yX8_after.cls ≠ "java/lang/invoke/VarHandle") ∧ Cond.instanceMethod yX8_after ∈ gdt ∧ Cond.selects yX8_after.cls yX8_after yX8_after ∈ gdt ∧ Cond.initialized yX8_after.cls ∈ gdt ∧ Cond.code yX8_after cX8_after 3 (some .int) ∈ gdt := ⟨⟨by decide +kernel, by decide +kernel⟩, gdt_of 721 (by decide +kernel) (by decide +kernel), gdt_of 722 (by decide +kernel) (by decide +kernel), gdt_of 67 (by decide +kernel) (by decide +kernel), gdt_of 723 (by decide +kernel) (by decide +kernel)⟩
theorem ml_X8_after : (parseMethodDescriptor yX8_after.desc).map (fun d => d.parameters.length) = some 1 := by decide +kernel
theorem my_X9_after : (yX9_after.cls ≠ "java/lang/invoke/MethodHandle" ∧ yX9_after.cls ≠ "java/lang/invoke/VarHandle") ∧ Cond.instanceMethod yX9_after ∈ gdt ∧ Cond.selects yX9_after.cls yX9_after yX9_after ∈ gdt ∧ Cond.initialized yX9_after.cls ∈ gdt ∧ Cond.code yX9_after cX9_after 3 (some .int) ∈ gdt := ⟨⟨by decide +kernel, by decide +kernel⟩, gdt_of 1199 (by decide +kernel) (by decide +kernel), gdt_of 1200 (by decide +kernel) (by decide +kernel), gdt_of 77 (by decide +kernel) (by decide +kernel), gdt_of 1201 (by decide +kernel) (by decide +kernel)⟩
theorem ml_X9_after : (parseMethodDescriptor yX9_after.desc).map (fun d => d.parameters.length) = some 1 := by decide +kernel
theorem my_X8_book : (yX8_book.cls ≠ "java/lang/invoke/MethodHandle" ∧ yX8_book.cls ≠ "java/lang/invoke/VarHandle") ∧ Cond.instanceMethod yX8_book ∈ gdt ∧ Cond.selects yX8_book.cls yX8_book yX8_book ∈ gdt ∧ Cond.initialized yX8_book.cls ∈ gdt ∧ Cond.code yX8_book cX8_book 4 (some .int) ∈ gdt := ⟨⟨by decide +kernel, by decide +kernel⟩, gdt_of 729 (by decide +kernel) (by decide +kernel), gdt_of 730 (by decide +kernel) (by decide +kernel), gdt_of 67 (by decide +kernel) (by decide +kernel), gdt_of 731 (by decide +kernel) (by decide +kernel)⟩
theorem ml_X8_book : (parseMethodDescriptor yX8_book.desc).map (fun d => d.parameters.length) = some 3 := by decide +kernel
theorem my_X9_book : (yX9_book.cls ≠ "java/lang/invoke/MethodHandle" ∧ yX9_book.cls ≠ "java/lang/invoke/VarHandle") ∧ Cond.instanceMethod yX9_book ∈ gdt ∧ Cond.selects yX9_book.cls yX9_book yX9_book ∈ gdt ∧ Cond.initialized yX9_book.cls ∈ gdt ∧ Cond.code yX9_book cX9_book 4 (some .int) ∈ gdt := ⟨⟨by decide +kernel, by decide +kernel⟩, gdt_of 1207 (by decide +kernel) (by decide +kernel), gdt_of 1208 (by decide +kernel) (by decide +kernel), gdt_of 77 (by decide +kernel) (by decide +kernel), gdt_of 1209 (by decide +kernel) (by decide +kernel)⟩
theorem ml_X9_book : (parseMethodDescriptor yX9_book.desc).map (fun d => d.parameters.length) = some 3 := by decide +kernel
theorem my_X8_looked : (yX8_looked.cls ≠ "java/lang/invoke/MethodHandle" ∧ yX8_looked.cls ≠ "java/lang/invoke/VarHandle") ∧ Cond.instanceMethod yX8_looked ∈ gdt ∧ Cond.selects yX8_looked.cls yX8_looked yX8_looked ∈ gdt ∧ Cond.initialized yX8_looked.cls ∈ gdt ∧ Cond.code yX8_looked cX8_looked 1 (some .int) ∈ gdt := ⟨⟨by decide +kernel, by decide +kernel⟩, gdt_of 733 (by decide +kernel) (by decide +kernel), gdt_of 734 (by decide +kernel) (by decide +kernel), gdt_of 67 (by decide +kernel) (by decide +kernel), gdt_of 735 (by decide +kernel) (by decide +kernel)⟩
theorem ml_X8_looked : (parseMethodDescriptor yX8_looked.desc).map (fun d => d.parameters.length) = some 0 := by decide +kernel
theorem my_X9_looked : (yX9_looked.cls ≠ "java/lang/invoke/MethodHandle" ∧ yX9_looked.cls ≠ "java/lang/invoke/VarHandle") ∧ Cond.instanceMethod yX9_looked ∈ gdt ∧ Cond.selects yX9_looked.cls yX9_looked yX9_looked ∈ gdt ∧ Cond.initialized yX9_looked.cls ∈ gdt ∧ Cond.code yX9_looked cX9_looked 2 (some .int) ∈ gdt := ⟨⟨by decide +kernel, by decide +kernel⟩, gdt_of 1211 (by decide +kernel) (by decide +kernel), gdt_of 1212 (by decide +kernel) (by decide +kernel), gdt_of 77 (by decide +kernel) (by decide +kernel), gdt_of 1213 (by decide +kernel) (by decide +kernel)⟩
theorem ml_X9_looked : (parseMethodDescriptor yX9_looked.desc).map (fun d => d.parameters.length) = some 0 := by decide +kernel
theorem my_X9_judge : (yX9_judge.cls ≠ "java/lang/invoke/MethodHandle" ∧ yX9_judge.cls ≠ "java/lang/invoke/VarHandle") ∧ Cond.instanceMethod yX9_judge ∈ gdt ∧ Cond.selects yX9_judge.cls yX9_judge yX9_judge ∈ gdt ∧ Cond.initialized yX9_judge.cls ∈ gdt ∧ Cond.code yX9_judge cX9_judge 4 (some .int) ∈ gdt := ⟨⟨by decide +kernel, by decide +kernel⟩, gdt_of 1215 (by decide +kernel) (by decide +kernel), gdt_of 1216 (by decide +kernel) (by decide +kernel), gdt_of 77 (by decide +kernel) (by decide +kernel), gdt_of 1217 (by decide +kernel) (by decide +kernel)⟩
theorem ml_X9_judge : (parseMethodDescriptor yX9_judge.desc).map (fun d => d.parameters.length) = some 2 := by decide +kernel
theorem my_X8_judge : (yX8_judge.cls ≠ "java/lang/invoke/MethodHandle" ∧ yX8_judge.cls ≠ "java/lang/invoke/VarHandle") ∧ Cond.instanceMethod yX8_judge ∈ gdt ∧ Cond.selects yX8_judge.cls yX8_judge yX8_judge ∈ gdt ∧ Cond.initialized yX8_judge.cls ∈ gdt ∧ Cond.code yX8_judge cX8_judge 5 (some .int) ∈ gdt := ⟨⟨by decide +kernel, by decide +kernel⟩, gdt_of 737 (by decide +kernel) (by decide +kernel), gdt_of 738 (by decide +kernel) (by decide +kernel), gdt_of 67 (by decide +kernel) (by decide +kernel), gdt_of 739 (by decide +kernel) (by decide +kernel)⟩
theorem ml_X8_judge : (parseMethodDescriptor yX8_judge.desc).map (fun d => d.parameters.length) = some 2 := by decide +kernel
theorem my_X8_image : (yX8_image.cls ≠ "java/lang/invoke/MethodHandle" ∧ yX8_image.cls ≠ "java/lang/invoke/VarHandle") ∧ Cond.instanceMethod yX8_image ∈ gdt ∧ Cond.selects yX8_image.cls yX8_image yX8_image ∈ gdt ∧ Cond.initialized yX8_image.cls ∈ gdt ∧ Cond.code yX8_image cX8_image 1 (some .int) ∈ gdt := ⟨⟨by decide +kernel, by decide +kernel⟩, gdt_of 767 (by decide +kernel) (by decide +kernel), gdt_of 768 (by decide +kernel) (by decide +kernel), gdt_of 67 (by decide +kernel) (by decide +kernel), gdt_of 769 (by decide +kernel) (by decide +kernel)⟩
theorem ml_X8_image : (parseMethodDescriptor yX8_image.desc).map (fun d => d.parameters.length) = some 0 := by decide +kernel
theorem my_X9_image : (yX9_image.cls ≠ "java/lang/invoke/MethodHandle" ∧ yX9_image.cls ≠ "java/lang/invoke/VarHandle") ∧ Cond.instanceMethod yX9_image ∈ gdt ∧ Cond.selects yX9_image.cls yX9_image yX9_image ∈ gdt ∧ Cond.initialized yX9_image.cls ∈ gdt ∧ Cond.code yX9_image cX9_image 2 (some .int) ∈ gdt := ⟨⟨by decide +kernel, by decide +kernel⟩, gdt_of 1224 (by decide +kernel) (by decide +kernel), gdt_of 1225 (by decide +kernel) (by decide +kernel), gdt_of 77 (by decide +kernel) (by decide +kernel), gdt_of 1226 (by decide +kernel) (by decide +kernel)⟩
theorem ml_X9_image : (parseMethodDescriptor yX9_image.desc).map (fun d => d.parameters.length) = some 0 := by decide +kernel
theorem my_X8_undo : (yX8_undo.cls ≠ "java/lang/invoke/MethodHandle" ∧ yX8_undo.cls ≠ "java/lang/invoke/VarHandle") ∧ Cond.instanceMethod yX8_undo ∈ gdt ∧ Cond.selects yX8_undo.cls yX8_undo yX8_undo ∈ gdt ∧ Cond.initialized yX8_undo.cls ∈ gdt ∧ Cond.code yX8_undo cX8_undo 1 (some .int) ∈ gdt := ⟨⟨by decide +kernel, by decide +kernel⟩, gdt_of 786 (by decide +kernel) (by decide +kernel), gdt_of 787 (by decide +kernel) (by decide +kernel), gdt_of 67 (by decide +kernel) (by decide +kernel), gdt_of 788 (by decide +kernel) (by decide +kernel)⟩
theorem ml_X8_undo : (parseMethodDescriptor yX8_undo.desc).map (fun d => d.parameters.length) = some 0 := by decide +kernel
theorem my_X9_undo : (yX9_undo.cls ≠ "java/lang/invoke/MethodHandle" ∧ yX9_undo.cls ≠ "java/lang/invoke/VarHandle") ∧ Cond.instanceMethod yX9_undo ∈ gdt ∧ Cond.selects yX9_undo.cls yX9_undo yX9_undo ∈ gdt ∧ Cond.initialized yX9_undo.cls ∈ gdt ∧ Cond.code yX9_undo cX9_undo 2 (some .int) ∈ gdt := ⟨⟨by decide +kernel, by decide +kernel⟩, gdt_of 1228 (by decide +kernel) (by decide +kernel), gdt_of 1229 (by decide +kernel) (by decide +kernel), gdt_of 77 (by decide +kernel) (by decide +kernel), gdt_of 1230 (by decide +kernel) (by decide +kernel)⟩
theorem ml_X9_undo : (parseMethodDescriptor yX9_undo.desc).map (fun d => d.parameters.length) = some 0 := by decide +kernel
theorem my_X8_count : (yX8_count.cls ≠ "java/lang/invoke/MethodHandle" ∧ yX8_count.cls ≠ "java/lang/invoke/VarHandle") ∧ Cond.instanceMethod yX8_count ∈ gdt ∧ Cond.selects yX8_count.cls yX8_count yX8_count ∈ gdt ∧ Cond.initialized yX8_count.cls ∈ gdt ∧ Cond.code yX8_count cX8_count 2 (some .int) ∈ gdt := ⟨⟨by decide +kernel, by decide +kernel⟩, gdt_of 790 (by decide +kernel) (by decide +kernel), gdt_of 791 (by decide +kernel) (by decide +kernel), gdt_of 67 (by decide +kernel) (by decide +kernel), gdt_of 792 (by decide +kernel) (by decide +kernel)⟩
theorem ml_X8_count : (parseMethodDescriptor yX8_count.desc).map (fun d => d.parameters.length) = some 1 := by decide +kernel
theorem my_X9_count : (yX9_count.cls ≠ "java/lang/invoke/MethodHandle" ∧ yX9_count.cls ≠ "java/lang/invoke/VarHandle") ∧ Cond.instanceMethod yX9_count ∈ gdt ∧ Cond.selects yX9_count.cls yX9_count yX9_count ∈ gdt ∧ Cond.initialized yX9_count.cls ∈ gdt ∧ Cond.code yX9_count cX9_count 2 (some .int) ∈ gdt := ⟨⟨by decide +kernel, by decide +kernel⟩, gdt_of 1232 (by decide +kernel) (by decide +kernel), gdt_of 1233 (by decide +kernel) (by decide +kernel), gdt_of 77 (by decide +kernel) (by decide +kernel), gdt_of 1234 (by decide +kernel) (by decide +kernel)⟩
theorem ml_X9_count : (parseMethodDescriptor yX9_count.desc).map (fun d => d.parameters.length) = some 1 := by decide +kernel
theorem my_X9_tape : (yX9_tape.cls ≠ "java/lang/invoke/MethodHandle" ∧ yX9_tape.cls ≠ "java/lang/invoke/VarHandle") ∧ Cond.instanceMethod yX9_tape ∈ gdt ∧ Cond.selects yX9_tape.cls yX9_tape yX9_tape ∈ gdt ∧ Cond.initialized yX9_tape.cls ∈ gdt ∧ Cond.code yX9_tape cX9_tape 5 (some .int) ∈ gdt := ⟨⟨by decide +kernel, by decide +kernel⟩, gdt_of 1236 (by decide +kernel) (by decide +kernel), gdt_of 1237 (by decide +kernel) (by decide +kernel), gdt_of 77 (by decide +kernel) (by decide +kernel), gdt_of 1238 (by decide +kernel) (by decide +kernel)⟩
theorem ml_X9_tape : (parseMethodDescriptor yX9_tape.desc).map (fun d => d.parameters.length) = some 3 := by decide +kernel
theorem my_X8_tape : (yX8_tape.cls ≠ "java/lang/invoke/MethodHandle" ∧ yX8_tape.cls ≠ "java/lang/invoke/VarHandle") ∧ Cond.instanceMethod yX8_tape ∈ gdt ∧ Cond.selects yX8_tape.cls yX8_tape yX8_tape ∈ gdt ∧ Cond.initialized yX8_tape.cls ∈ gdt ∧ Cond.code yX8_tape cX8_tape 5 (some .int) ∈ gdt := ⟨⟨by decide +kernel, by decide +kernel⟩, gdt_of 794 (by decide +kernel) (by decide +kernel), gdt_of 795 (by decide +kernel) (by decide +kernel), gdt_of 67 (by decide +kernel) (by decide +kernel), gdt_of 796 (by decide +kernel) (by decide +kernel)⟩
theorem ml_X8_tape : (parseMethodDescriptor yX8_tape.desc).map (fun d => d.parameters.length) = some 3 := by decide +kernel
theorem my_X9_item : (yX9_item.cls ≠ "java/lang/invoke/MethodHandle" ∧ yX9_item.cls ≠ "java/lang/invoke/VarHandle") ∧ Cond.instanceMethod yX9_item ∈ gdt ∧ Cond.selects yX9_item.cls yX9_item yX9_item ∈ gdt ∧ Cond.initialized yX9_item.cls ∈ gdt ∧ Cond.code yX9_item cX9_item 5 (some .int) ∈ gdt := ⟨⟨by decide +kernel, by decide +kernel⟩, gdt_of 1240 (by decide +kernel) (by decide +kernel), gdt_of 1241 (by decide +kernel) (by decide +kernel), gdt_of 77 (by decide +kernel) (by decide +kernel), gdt_of 1242 (by decide +kernel) (by decide +kernel)⟩
theorem ml_X9_item : (parseMethodDescriptor yX9_item.desc).map (fun d => d.parameters.length) = some 3 := by decide +kernel
theorem my_X8_item : (yX8_item.cls ≠ "java/lang/invoke/MethodHandle" ∧ yX8_item.cls ≠ "java/lang/invoke/VarHandle") ∧ Cond.instanceMethod yX8_item ∈ gdt ∧ Cond.selects yX8_item.cls yX8_item yX8_item ∈ gdt ∧ Cond.initialized yX8_item.cls ∈ gdt ∧ Cond.code yX8_item cX8_item 6 (some .int) ∈ gdt := ⟨⟨by decide +kernel, by decide +kernel⟩, gdt_of 802 (by decide +kernel) (by decide +kernel), gdt_of 803 (by decide +kernel) (by decide +kernel), gdt_of 67 (by decide +kernel) (by decide +kernel), gdt_of 804 (by decide +kernel) (by decide +kernel)⟩
theorem ml_X8_item : (parseMethodDescriptor yX8_item.desc).map (fun d => d.parameters.length) = some 3 := by decide +kernel
theorem my_X9_peek : (yX9_peek.cls ≠ "java/lang/invoke/MethodHandle" ∧ yX9_peek.cls ≠ "java/lang/invoke/VarHandle") ∧ Cond.instanceMethod yX9_peek ∈ gdt ∧ Cond.selects yX9_peek.cls yX9_peek yX9_peek ∈ gdt ∧ Cond.initialized yX9_peek.cls ∈ gdt ∧ Cond.code yX9_peek cX9_peek 3 (some .long) ∈ gdt := ⟨⟨by decide +kernel, by decide +kernel⟩, gdt_of 1247 (by decide +kernel) (by decide +kernel), gdt_of 1248 (by decide +kernel) (by decide +kernel), gdt_of 77 (by decide +kernel) (by decide +kernel), gdt_of 1249 (by decide +kernel) (by decide +kernel)⟩
theorem ml_X9_peek : (parseMethodDescriptor yX9_peek.desc).map (fun d => d.parameters.length) = some 2 := by decide +kernel
theorem my_X8_peek : (yX8_peek.cls ≠ "java/lang/invoke/MethodHandle" ∧ yX8_peek.cls ≠ "java/lang/invoke/VarHandle") ∧ Cond.instanceMethod yX8_peek ∈ gdt ∧ Cond.selects yX8_peek.cls yX8_peek yX8_peek ∈ gdt ∧ Cond.initialized yX8_peek.cls ∈ gdt ∧ Cond.code yX8_peek cX8_peek 4 (some .long) ∈ gdt := ⟨⟨by decide +kernel, by decide +kernel⟩, gdt_of 815 (by decide +kernel) (by decide +kernel), gdt_of 816 (by decide +kernel) (by decide +kernel), gdt_of 67 (by decide +kernel) (by decide +kernel), gdt_of 817 (by decide +kernel) (by decide +kernel)⟩
theorem ml_X8_peek : (parseMethodDescriptor yX8_peek.desc).map (fun d => d.parameters.length) = some 2 := by decide +kernel
theorem my_X9_shift : (yX9_shift.cls ≠ "java/lang/invoke/MethodHandle" ∧ yX9_shift.cls ≠ "java/lang/invoke/VarHandle") ∧ Cond.instanceMethod yX9_shift ∈ gdt ∧ Cond.selects yX9_shift.cls yX9_shift yX9_shift ∈ gdt ∧ Cond.initialized yX9_shift.cls ∈ gdt ∧ Cond.code yX9_shift cX9_shift 7 (some .int) ∈ gdt := ⟨⟨by decide +kernel, by decide +kernel⟩, gdt_of 1251 (by decide +kernel) (by decide +kernel), gdt_of 1252 (by decide +kernel) (by decide +kernel), gdt_of 77 (by decide +kernel) (by decide +kernel), gdt_of 1253 (by decide +kernel) (by decide +kernel)⟩
theorem ml_X9_shift : (parseMethodDescriptor yX9_shift.desc).map (fun d => d.parameters.length) = some 5 := by decide +kernel
theorem my_X8_shift : (yX8_shift.cls ≠ "java/lang/invoke/MethodHandle" ∧ yX8_shift.cls ≠ "java/lang/invoke/VarHandle") ∧ Cond.instanceMethod yX8_shift ∈ gdt ∧ Cond.selects yX8_shift.cls yX8_shift yX8_shift ∈ gdt ∧ Cond.initialized yX8_shift.cls ∈ gdt ∧ Cond.code yX8_shift cX8_shift 8 (some .int) ∈ gdt := ⟨⟨by decide +kernel, by decide +kernel⟩, gdt_of 819 (by decide +kernel) (by decide +kernel), gdt_of 820 (by decide +kernel) (by decide +kernel), gdt_of 67 (by decide +kernel) (by decide +kernel), gdt_of 821 (by decide +kernel) (by decide +kernel)⟩
theorem ml_X8_shift : (parseMethodDescriptor yX8_shift.desc).map (fun d => d.parameters.length) = some 5 := by decide +kernel
theorem dL_law_0 : decode cL_law 0 = .ok (.new 7, 3) := by decide +kernel
theorem dL_law_3 : decode cL_law 3 = .ok (.dup, 1) := by decide +kernel
theorem dL_law_4 : decode cL_law 4 = .ok (.invokespecial 9, 3) := by decide +kernel
theorem dL_law_7 : decode cL_law 7 = .ok (.astore_n 1, 1) := by decide +kernel
theorem dL_law_8 : decode cL_law 8 = .ok (.new 10, 3) := by decide +kernel
theorem dL_law_11 : decode cL_law 11 = .ok (.dup, 1) := by decide +kernel
theorem dL_law_12 : decode cL_law 12 = .ok (.invokespecial 12, 3) := by decide +kernel
theorem dL_law_15 : decode cL_law 15 = .ok (.astore_n 2, 1) := by decide +kernel
theorem dL_law_16 : decode cL_law 16 = .ok (.iconst 0, 1) := by decide +kernel
theorem dL_law_17 : decode cL_law 17 = .ok (.istore_n 3, 1) := by decide +kernel
theorem dL_law_18 : decode cL_law 18 = .ok (.iload_n 3, 1) := by decide +kernel
theorem dL_law_19 : decode cL_law 19 = .ok (.aload_n 0, 1) := by decide +kernel
theorem dL_law_20 : decode cL_law 20 = .ok (.arraylength, 1) := by decide +kernel
theorem dL_law_21 : decode cL_law 21 = .ok (.bipush 6, 2) := by decide +kernel
theorem dL_law_23 : decode cL_law 23 = .ok (.isub, 1) := by decide +kernel
theorem dL_law_24 : decode cL_law 24 = .ok (.if_icmp .gt 1285, 3) := by decide +kernel
theorem dL_law_27 : decode cL_law 27 = .ok (.aload_n 0, 1) := by decide +kernel
theorem dL_law_28 : decode cL_law 28 = .ok (.iload_n 3, 1) := by decide +kernel
theorem dL_law_29 : decode cL_law 29 = .ok (.iaload, 1) := by decide +kernel
theorem dL_law_30 : decode cL_law 30 = .ok (.bipush 63, 2) := by decide +kernel
theorem dL_law_32 : decode cL_law 32 = .ok (.iand, 1) := by decide +kernel
theorem dL_law_33 : decode cL_law 33 = .ok (.tableswitch 1270 0 34 #[155, 168, 211, 254, 313, 356, 389, 412, 425, 458, 491, 524, 537, 561, 584, 617, 650, 663, 686, 709, 752, 795, 839, 863, 896, 919, 962, 975, 1008, 1021, 1034, 1057, 1100, 1173, 1207], 155) := by decide +kernel
theorem dL_law_188 : decode cL_law 188 = .ok (.aload_n 1, 1) := by decide +kernel
theorem dL_law_189 : decode cL_law 189 = .ok (.invokevirtual 13, 3) := by decide +kernel
theorem dL_law_192 : decode cL_law 192 = .ok (.aload_n 2, 1) := by decide +kernel
theorem dL_law_193 : decode cL_law 193 = .ok (.invokevirtual 17, 3) := by decide +kernel
theorem dL_law_196 : decode cL_law 196 = .ok (.if_icmp .eq 1107, 3) := by decide +kernel
theorem dL_law_199 : decode cL_law 199 = .ok (.iconst 0, 1) := by decide +kernel
theorem dL_law_200 : decode cL_law 200 = .ok (.ireturn, 1) := by decide +kernel
theorem dL_law_201 : decode cL_law 201 = .ok (.aload_n 1, 1) := by decide +kernel
theorem dL_law_202 : decode cL_law 202 = .ok (.aload_n 0, 1) := by decide +kernel
theorem dL_law_203 : decode cL_law 203 = .ok (.iload_n 3, 1) := by decide +kernel
theorem dL_law_204 : decode cL_law 204 = .ok (.iconst 1, 1) := by decide +kernel
theorem dL_law_205 : decode cL_law 205 = .ok (.iadd, 1) := by decide +kernel
theorem dL_law_206 : decode cL_law 206 = .ok (.iaload, 1) := by decide +kernel
theorem dL_law_207 : decode cL_law 207 = .ok (.aload_n 0, 1) := by decide +kernel
theorem dL_law_208 : decode cL_law 208 = .ok (.iload_n 3, 1) := by decide +kernel
theorem dL_law_209 : decode cL_law 209 = .ok (.iconst 2, 1) := by decide +kernel
theorem dL_law_210 : decode cL_law 210 = .ok (.iadd, 1) := by decide +kernel
theorem dL_law_211 : decode cL_law 211 = .ok (.iaload, 1) := by decide +kernel
theorem dL_law_212 : decode cL_law 212 = .ok (.aload_n 0, 1) := by decide +kernel
theorem dL_law_213 : decode cL_law 213 = .ok (.iload_n 3, 1) := by decide +kernel
theorem dL_law_214 : decode cL_law 214 = .ok (.iconst 3, 1) := by decide +kernel
theorem dL_law_215 : decode cL_law 215 = .ok (.iadd, 1) := by decide +kernel
theorem dL_law_216 : decode cL_law 216 = .ok (.iaload, 1) := by decide +kernel
theorem dL_law_217 : decode cL_law 217 = .ok (.invokevirtual 18, 3) := by decide +kernel
theorem dL_law_220 : decode cL_law 220 = .ok (.aload_n 2, 1) := by decide +kernel
theorem dL_law_221 : decode cL_law 221 = .ok (.aload_n 0, 1) := by decide +kernel
theorem dL_law_222 : decode cL_law 222 = .ok (.iload_n 3, 1) := by decide +kernel
theorem dL_law_223 : decode cL_law 223 = .ok (.iconst 1, 1) := by decide +kernel
theorem dL_law_224 : decode cL_law 224 = .ok (.iadd, 1) := by decide +kernel
theorem dL_law_225 : decode cL_law 225 = .ok (.iaload, 1) := by decide +kernel
theorem dL_law_226 : decode cL_law 226 = .ok (.aload_n 0, 1) := by decide +kernel
theorem dL_law_227 : decode cL_law 227 = .ok (.iload_n 3, 1) := by decide +kernel
theorem dL_law_228 : decode cL_law 228 = .ok (.iconst 2, 1) := by decide +kernel
theorem dL_law_229 : decode cL_law 229 = .ok (.iadd, 1) := by decide +kernel
theorem dL_law_230 : decode cL_law 230 = .ok (.iaload, 1) := by decide +kernel
theorem dL_law_231 : decode cL_law 231 = .ok (.aload_n 0, 1) := by decide +kernel
theorem dL_law_232 : decode cL_law 232 = .ok (.iload_n 3, 1) := by decide +kernel
theorem dL_law_233 : decode cL_law 233 = .ok (.iconst 3, 1) := by decide +kernel
theorem dL_law_234 : decode cL_law 234 = .ok (.iadd, 1) := by decide +kernel
theorem dL_law_235 : decode cL_law 235 = .ok (.iaload, 1) := by decide +kernel
theorem dL_law_236 : decode cL_law 236 = .ok (.invokevirtual 22, 3) := by decide +kernel
theorem dL_law_239 : decode cL_law 239 = .ok (.if_icmp .eq 1064, 3) := by decide +kernel
theorem dL_law_242 : decode cL_law 242 = .ok (.iconst 0, 1) := by decide +kernel
theorem dL_law_243 : decode cL_law 243 = .ok (.ireturn, 1) := by decide +kernel
theorem dL_law_244 : decode cL_law 244 = .ok (.aload_n 1, 1) := by decide +kernel
theorem dL_law_245 : decode cL_law 245 = .ok (.aload_n 0, 1) := by decide +kernel
theorem dL_law_246 : decode cL_law 246 = .ok (.iload_n 3, 1) := by decide +kernel
theorem dL_law_247 : decode cL_law 247 = .ok (.iconst 1, 1) := by decide +kernel
theorem dL_law_248 : decode cL_law 248 = .ok (.iadd, 1) := by decide +kernel
theorem dL_law_249 : decode cL_law 249 = .ok (.iaload, 1) := by decide +kernel
theorem dL_law_250 : decode cL_law 250 = .ok (.aload_n 0, 1) := by decide +kernel
theorem dL_law_251 : decode cL_law 251 = .ok (.iload_n 3, 1) := by decide +kernel
theorem dL_law_252 : decode cL_law 252 = .ok (.iconst 2, 1) := by decide +kernel
theorem dL_law_253 : decode cL_law 253 = .ok (.iadd, 1) := by decide +kernel
theorem dL_law_254 : decode cL_law 254 = .ok (.iaload, 1) := by decide +kernel
theorem dL_law_255 : decode cL_law 255 = .ok (.aload_n 0, 1) := by decide +kernel
theorem dL_law_256 : decode cL_law 256 = .ok (.iload_n 3, 1) := by decide +kernel
theorem dL_law_257 : decode cL_law 257 = .ok (.iconst 3, 1) := by decide +kernel
theorem dL_law_258 : decode cL_law 258 = .ok (.iadd, 1) := by decide +kernel
theorem dL_law_259 : decode cL_law 259 = .ok (.iaload, 1) := by decide +kernel
theorem dL_law_260 : decode cL_law 260 = .ok (.invokevirtual 23, 3) := by decide +kernel
theorem dL_law_263 : decode cL_law 263 = .ok (.aload_n 2, 1) := by decide +kernel
theorem dL_law_264 : decode cL_law 264 = .ok (.aload_n 0, 1) := by decide +kernel
theorem dL_law_265 : decode cL_law 265 = .ok (.iload_n 3, 1) := by decide +kernel
theorem dL_law_266 : decode cL_law 266 = .ok (.iconst 1, 1) := by decide +kernel
theorem dL_law_267 : decode cL_law 267 = .ok (.iadd, 1) := by decide +kernel
theorem dL_law_268 : decode cL_law 268 = .ok (.iaload, 1) := by decide +kernel
theorem dL_law_269 : decode cL_law 269 = .ok (.aload_n 0, 1) := by decide +kernel
theorem dL_law_270 : decode cL_law 270 = .ok (.iload_n 3, 1) := by decide +kernel
theorem dL_law_271 : decode cL_law 271 = .ok (.iconst 2, 1) := by decide +kernel
theorem dL_law_272 : decode cL_law 272 = .ok (.iadd, 1) := by decide +kernel
theorem dL_law_273 : decode cL_law 273 = .ok (.iaload, 1) := by decide +kernel
theorem dL_law_274 : decode cL_law 274 = .ok (.aload_n 0, 1) := by decide +kernel
theorem dL_law_275 : decode cL_law 275 = .ok (.iload_n 3, 1) := by decide +kernel
theorem dL_law_276 : decode cL_law 276 = .ok (.iconst 3, 1) := by decide +kernel
theorem dL_law_277 : decode cL_law 277 = .ok (.iadd, 1) := by decide +kernel
theorem dL_law_278 : decode cL_law 278 = .ok (.iaload, 1) := by decide +kernel
theorem dL_law_279 : decode cL_law 279 = .ok (.invokevirtual 26, 3) := by decide +kernel
theorem dL_law_282 : decode cL_law 282 = .ok (.if_icmp .eq 1021, 3) := by decide +kernel
theorem dL_law_285 : decode cL_law 285 = .ok (.iconst 0, 1) := by decide +kernel
theorem dL_law_286 : decode cL_law 286 = .ok (.ireturn, 1) := by decide +kernel
theorem dL_law_287 : decode cL_law 287 = .ok (.aload_n 1, 1) := by decide +kernel
theorem dL_law_288 : decode cL_law 288 = .ok (.aload_n 0, 1) := by decide +kernel
theorem dL_law_289 : decode cL_law 289 = .ok (.iload_n 3, 1) := by decide +kernel
theorem dL_law_290 : decode cL_law 290 = .ok (.iconst 1, 1) := by decide +kernel
theorem dL_law_291 : decode cL_law 291 = .ok (.iadd, 1) := by decide +kernel
theorem dL_law_292 : decode cL_law 292 = .ok (.iaload, 1) := by decide +kernel
theorem dL_law_293 : decode cL_law 293 = .ok (.aload_n 0, 1) := by decide +kernel
theorem dL_law_294 : decode cL_law 294 = .ok (.iload_n 3, 1) := by decide +kernel
theorem dL_law_295 : decode cL_law 295 = .ok (.iconst 2, 1) := by decide +kernel
theorem dL_law_296 : decode cL_law 296 = .ok (.iadd, 1) := by decide +kernel
theorem dL_law_297 : decode cL_law 297 = .ok (.iaload, 1) := by decide +kernel
theorem dL_law_298 : decode cL_law 298 = .ok (.aload_n 0, 1) := by decide +kernel
theorem dL_law_299 : decode cL_law 299 = .ok (.iload_n 3, 1) := by decide +kernel
theorem dL_law_300 : decode cL_law 300 = .ok (.iconst 3, 1) := by decide +kernel
theorem dL_law_301 : decode cL_law 301 = .ok (.iadd, 1) := by decide +kernel
theorem dL_law_302 : decode cL_law 302 = .ok (.iaload, 1) := by decide +kernel
theorem dL_law_303 : decode cL_law 303 = .ok (.ifCond .eq 7, 3) := by decide +kernel
theorem dL_law_306 : decode cL_law 306 = .ok (.iconst 1, 1) := by decide +kernel
theorem dL_law_307 : decode cL_law 307 = .ok (.goto 4, 3) := by decide +kernel
theorem dL_law_310 : decode cL_law 310 = .ok (.iconst 0, 1) := by decide +kernel
theorem dL_law_311 : decode cL_law 311 = .ok (.invokevirtual 27, 3) := by decide +kernel
theorem dL_law_314 : decode cL_law 314 = .ok (.aload_n 2, 1) := by decide +kernel
theorem dL_law_315 : decode cL_law 315 = .ok (.aload_n 0, 1) := by decide +kernel
theorem dL_law_316 : decode cL_law 316 = .ok (.iload_n 3, 1) := by decide +kernel
theorem dL_law_317 : decode cL_law 317 = .ok (.iconst 1, 1) := by decide +kernel
theorem dL_law_318 : decode cL_law 318 = .ok (.iadd, 1) := by decide +kernel
theorem dL_law_319 : decode cL_law 319 = .ok (.iaload, 1) := by decide +kernel
theorem dL_law_320 : decode cL_law 320 = .ok (.aload_n 0, 1) := by decide +kernel
theorem dL_law_321 : decode cL_law 321 = .ok (.iload_n 3, 1) := by decide +kernel
theorem dL_law_322 : decode cL_law 322 = .ok (.iconst 2, 1) := by decide +kernel
theorem dL_law_323 : decode cL_law 323 = .ok (.iadd, 1) := by decide +kernel
theorem dL_law_324 : decode cL_law 324 = .ok (.iaload, 1) := by decide +kernel
theorem dL_law_325 : decode cL_law 325 = .ok (.aload_n 0, 1) := by decide +kernel
theorem dL_law_326 : decode cL_law 326 = .ok (.iload_n 3, 1) := by decide +kernel
theorem dL_law_327 : decode cL_law 327 = .ok (.iconst 3, 1) := by decide +kernel
theorem dL_law_328 : decode cL_law 328 = .ok (.iadd, 1) := by decide +kernel
theorem dL_law_329 : decode cL_law 329 = .ok (.iaload, 1) := by decide +kernel
theorem dL_law_330 : decode cL_law 330 = .ok (.ifCond .eq 7, 3) := by decide +kernel
theorem dL_law_333 : decode cL_law 333 = .ok (.iconst 1, 1) := by decide +kernel
theorem dL_law_334 : decode cL_law 334 = .ok (.goto 4, 3) := by decide +kernel
theorem dL_law_337 : decode cL_law 337 = .ok (.iconst 0, 1) := by decide +kernel
theorem dL_law_338 : decode cL_law 338 = .ok (.invokevirtual 31, 3) := by decide +kernel
theorem dL_law_341 : decode cL_law 341 = .ok (.if_icmp .eq 962, 3) := by decide +kernel
theorem dL_law_344 : decode cL_law 344 = .ok (.iconst 0, 1) := by decide +kernel
theorem dL_law_345 : decode cL_law 345 = .ok (.ireturn, 1) := by decide +kernel
theorem dL_law_346 : decode cL_law 346 = .ok (.aload_n 1, 1) := by decide +kernel
theorem dL_law_347 : decode cL_law 347 = .ok (.aload_n 0, 1) := by decide +kernel
theorem dL_law_348 : decode cL_law 348 = .ok (.iload_n 3, 1) := by decide +kernel
theorem dL_law_349 : decode cL_law 349 = .ok (.iconst 1, 1) := by decide +kernel
theorem dL_law_350 : decode cL_law 350 = .ok (.iadd, 1) := by decide +kernel
theorem dL_law_351 : decode cL_law 351 = .ok (.iaload, 1) := by decide +kernel
theorem dL_law_352 : decode cL_law 352 = .ok (.aload_n 0, 1) := by decide +kernel
theorem dL_law_353 : decode cL_law 353 = .ok (.iload_n 3, 1) := by decide +kernel
theorem dL_law_354 : decode cL_law 354 = .ok (.iconst 2, 1) := by decide +kernel
theorem dL_law_355 : decode cL_law 355 = .ok (.iadd, 1) := by decide +kernel
theorem dL_law_356 : decode cL_law 356 = .ok (.iaload, 1) := by decide +kernel
theorem dL_law_357 : decode cL_law 357 = .ok (.aload_n 0, 1) := by decide +kernel
theorem dL_law_358 : decode cL_law 358 = .ok (.iload_n 3, 1) := by decide +kernel
theorem dL_law_359 : decode cL_law 359 = .ok (.iconst 3, 1) := by decide +kernel
theorem dL_law_360 : decode cL_law 360 = .ok (.iadd, 1) := by decide +kernel
theorem dL_law_361 : decode cL_law 361 = .ok (.iaload, 1) := by decide +kernel
theorem dL_law_362 : decode cL_law 362 = .ok (.invokevirtual 32, 3) := by decide +kernel
theorem dL_law_365 : decode cL_law 365 = .ok (.aload_n 2, 1) := by decide +kernel
theorem dL_law_366 : decode cL_law 366 = .ok (.aload_n 0, 1) := by decide +kernel
theorem dL_law_367 : decode cL_law 367 = .ok (.iload_n 3, 1) := by decide +kernel
theorem dL_law_368 : decode cL_law 368 = .ok (.iconst 1, 1) := by decide +kernel
theorem dL_law_369 : decode cL_law 369 = .ok (.iadd, 1) := by decide +kernel
theorem dL_law_370 : decode cL_law 370 = .ok (.iaload, 1) := by decide +kernel
theorem dL_law_371 : decode cL_law 371 = .ok (.aload_n 0, 1) := by decide +kernel
theorem dL_law_372 : decode cL_law 372 = .ok (.iload_n 3, 1) := by decide +kernel
theorem dL_law_373 : decode cL_law 373 = .ok (.iconst 2, 1) := by decide +kernel
theorem dL_law_374 : decode cL_law 374 = .ok (.iadd, 1) := by decide +kernel
theorem dL_law_375 : decode cL_law 375 = .ok (.iaload, 1) := by decide +kernel
theorem dL_law_376 : decode cL_law 376 = .ok (.aload_n 0, 1) := by decide +kernel
theorem dL_law_377 : decode cL_law 377 = .ok (.iload_n 3, 1) := by decide +kernel
theorem dL_law_378 : decode cL_law 378 = .ok (.iconst 3, 1) := by decide +kernel
theorem dL_law_379 : decode cL_law 379 = .ok (.iadd, 1) := by decide +kernel
theorem dL_law_380 : decode cL_law 380 = .ok (.iaload, 1) := by decide +kernel
theorem dL_law_381 : decode cL_law 381 = .ok (.invokevirtual 35, 3) := by decide +kernel
theorem dL_law_384 : decode cL_law 384 = .ok (.if_icmp .eq 919, 3) := by decide +kernel
theorem dL_law_387 : decode cL_law 387 = .ok (.iconst 0, 1) := by decide +kernel
theorem dL_law_388 : decode cL_law 388 = .ok (.ireturn, 1) := by decide +kernel
theorem dL_law_389 : decode cL_law 389 = .ok (.aload_n 1, 1) := by decide +kernel
theorem dL_law_390 : decode cL_law 390 = .ok (.aload_n 0, 1) := by decide +kernel
theorem dL_law_391 : decode cL_law 391 = .ok (.iload_n 3, 1) := by decide +kernel
theorem dL_law_392 : decode cL_law 392 = .ok (.iconst 1, 1) := by decide +kernel
theorem dL_law_393 : decode cL_law 393 = .ok (.iadd, 1) := by decide +kernel
theorem dL_law_394 : decode cL_law 394 = .ok (.iaload, 1) := by decide +kernel
theorem dL_law_395 : decode cL_law 395 = .ok (.aload_n 0, 1) := by decide +kernel
theorem dL_law_396 : decode cL_law 396 = .ok (.iload_n 3, 1) := by decide +kernel
theorem dL_law_397 : decode cL_law 397 = .ok (.iconst 2, 1) := by decide +kernel
theorem dL_law_398 : decode cL_law 398 = .ok (.iadd, 1) := by decide +kernel
theorem dL_law_399 : decode cL_law 399 = .ok (.iaload, 1) := by decide +kernel
theorem dL_law_400 : decode cL_law 400 = .ok (.invokevirtual 36, 3) := by decide +kernel
theorem dL_law_403 : decode cL_law 403 = .ok (.aload_n 2, 1) := by decide +kernel
theorem dL_law_404 : decode cL_law 404 = .ok (.aload_n 0, 1) := by decide +kernel
theorem dL_law_405 : decode cL_law 405 = .ok (.iload_n 3, 1) := by decide +kernel
theorem dL_law_406 : decode cL_law 406 = .ok (.iconst 1, 1) := by decide +kernel
theorem dL_law_407 : decode cL_law 407 = .ok (.iadd, 1) := by decide +kernel
theorem dL_law_408 : decode cL_law 408 = .ok (.iaload, 1) := by decide +kernel
theorem dL_law_409 : decode cL_law 409 = .ok (.aload_n 0, 1) := by decide +kernel
theorem dL_law_410 : decode cL_law 410 = .ok (.iload_n 3, 1) := by decide +kernel
theorem dL_law_411 : decode cL_law 411 = .ok (.iconst 2, 1) := by decide +kernel
theorem dL_law_412 : decode cL_law 412 = .ok (.iadd, 1) := by decide +kernel
theorem dL_law_413 : decode cL_law 413 = .ok (.iaload, 1) := by decide +kernel
theorem dL_law_414 : decode cL_law 414 = .ok (.invokevirtual 40, 3) := by decide +kernel
theorem dL_law_417 : decode cL_law 417 = .ok (.if_icmp .eq 886, 3) := by decide +kernel
theorem dL_law_420 : decode cL_law 420 = .ok (.iconst 0, 1) := by decide +kernel
theorem dL_law_421 : decode cL_law 421 = .ok (.ireturn, 1) := by decide +kernel
theorem dL_law_422 : decode cL_law 422 = .ok (.aload_n 1, 1) := by decide +kernel
theorem dL_law_423 : decode cL_law 423 = .ok (.aload_n 0, 1) := by decide +kernel
theorem dL_law_424 : decode cL_law 424 = .ok (.iload_n 3, 1) := by decide +kernel
theorem dL_law_425 : decode cL_law 425 = .ok (.iconst 1, 1) := by decide +kernel
theorem dL_law_426 : decode cL_law 426 = .ok (.iadd, 1) := by decide +kernel
theorem dL_law_427 : decode cL_law 427 = .ok (.iaload, 1) := by decide +kernel
theorem dL_law_428 : decode cL_law 428 = .ok (.invokevirtual 41, 3) := by decide +kernel
theorem dL_law_431 : decode cL_law 431 = .ok (.aload_n 2, 1) := by decide +kernel
theorem dL_law_432 : decode cL_law 432 = .ok (.aload_n 0, 1) := by decide +kernel
theorem dL_law_433 : decode cL_law 433 = .ok (.iload_n 3, 1) := by decide +kernel
theorem dL_law_434 : decode cL_law 434 = .ok (.iconst 1, 1) := by decide +kernel
theorem dL_law_435 : decode cL_law 435 = .ok (.iadd, 1) := by decide +kernel
theorem dL_law_436 : decode cL_law 436 = .ok (.iaload, 1) := by decide +kernel
theorem dL_law_437 : decode cL_law 437 = .ok (.invokevirtual 45, 3) := by decide +kernel
theorem dL_law_440 : decode cL_law 440 = .ok (.if_icmp .eq 863, 3) := by decide +kernel
theorem dL_law_443 : decode cL_law 443 = .ok (.iconst 0, 1) := by decide +kernel
theorem dL_law_444 : decode cL_law 444 = .ok (.ireturn, 1) := by decide +kernel
theorem dL_law_445 : decode cL_law 445 = .ok (.aload_n 1, 1) := by decide +kernel
theorem dL_law_446 : decode cL_law 446 = .ok (.invokevirtual 46, 3) := by decide +kernel
theorem dL_law_449 : decode cL_law 449 = .ok (.aload_n 2, 1) := by decide +kernel
theorem dL_law_450 : decode cL_law 450 = .ok (.invokevirtual 49, 3) := by decide +kernel
theorem dL_law_453 : decode cL_law 453 = .ok (.if_icmp .eq 850, 3) := by decide +kernel
theorem dL_law_456 : decode cL_law 456 = .ok (.iconst 0, 1) := by decide +kernel
theorem dL_law_457 : decode cL_law 457 = .ok (.ireturn, 1) := by decide +kernel
theorem dL_law_458 : decode cL_law 458 = .ok (.aload_n 1, 1) := by decide +kernel
theorem dL_law_459 : decode cL_law 459 = .ok (.aload_n 0, 1) := by decide +kernel
theorem dL_law_460 : decode cL_law 460 = .ok (.iload_n 3, 1) := by decide +kernel
theorem dL_law_461 : decode cL_law 461 = .ok (.iconst 1, 1) := by decide +kernel
theorem dL_law_462 : decode cL_law 462 = .ok (.iadd, 1) := by decide +kernel
theorem dL_law_463 : decode cL_law 463 = .ok (.iaload, 1) := by decide +kernel
theorem dL_law_464 : decode cL_law 464 = .ok (.aload_n 0, 1) := by decide +kernel
theorem dL_law_465 : decode cL_law 465 = .ok (.iload_n 3, 1) := by decide +kernel
theorem dL_law_466 : decode cL_law 466 = .ok (.iconst 2, 1) := by decide +kernel
theorem dL_law_467 : decode cL_law 467 = .ok (.iadd, 1) := by decide +kernel
theorem dL_law_468 : decode cL_law 468 = .ok (.iaload, 1) := by decide +kernel
theorem dL_law_469 : decode cL_law 469 = .ok (.invokevirtual 50, 3) := by decide +kernel
theorem dL_law_472 : decode cL_law 472 = .ok (.aload_n 2, 1) := by decide +kernel
theorem dL_law_473 : decode cL_law 473 = .ok (.aload_n 0, 1) := by decide +kernel
theorem dL_law_474 : decode cL_law 474 = .ok (.iload_n 3, 1) := by decide +kernel
theorem dL_law_475 : decode cL_law 475 = .ok (.iconst 1, 1) := by decide +kernel
theorem dL_law_476 : decode cL_law 476 = .ok (.iadd, 1) := by decide +kernel
theorem dL_law_477 : decode cL_law 477 = .ok (.iaload, 1) := by decide +kernel
theorem dL_law_478 : decode cL_law 478 = .ok (.aload_n 0, 1) := by decide +kernel
theorem dL_law_479 : decode cL_law 479 = .ok (.iload_n 3, 1) := by decide +kernel
theorem dL_law_480 : decode cL_law 480 = .ok (.iconst 2, 1) := by decide +kernel
theorem dL_law_481 : decode cL_law 481 = .ok (.iadd, 1) := by decide +kernel
theorem dL_law_482 : decode cL_law 482 = .ok (.iaload, 1) := by decide +kernel
theorem dL_law_483 : decode cL_law 483 = .ok (.invokevirtual 53, 3) := by decide +kernel
theorem dL_law_486 : decode cL_law 486 = .ok (.if_icmp .eq 817, 3) := by decide +kernel
theorem dL_law_489 : decode cL_law 489 = .ok (.iconst 0, 1) := by decide +kernel
theorem dL_law_490 : decode cL_law 490 = .ok (.ireturn, 1) := by decide +kernel
theorem dL_law_491 : decode cL_law 491 = .ok (.aload_n 1, 1) := by decide +kernel
theorem dL_law_492 : decode cL_law 492 = .ok (.aload_n 0, 1) := by decide +kernel
theorem dL_law_493 : decode cL_law 493 = .ok (.iload_n 3, 1) := by decide +kernel
theorem dL_law_494 : decode cL_law 494 = .ok (.iconst 1, 1) := by decide +kernel
theorem dL_law_495 : decode cL_law 495 = .ok (.iadd, 1) := by decide +kernel
theorem dL_law_496 : decode cL_law 496 = .ok (.iaload, 1) := by decide +kernel
theorem dL_law_497 : decode cL_law 497 = .ok (.aload_n 0, 1) := by decide +kernel
theorem dL_law_498 : decode cL_law 498 = .ok (.iload_n 3, 1) := by decide +kernel
theorem dL_law_499 : decode cL_law 499 = .ok (.iconst 2, 1) := by decide +kernel
theorem dL_law_500 : decode cL_law 500 = .ok (.iadd, 1) := by decide +kernel
theorem dL_law_501 : decode cL_law 501 = .ok (.iaload, 1) := by decide +kernel
theorem dL_law_502 : decode cL_law 502 = .ok (.invokevirtual 54, 3) := by decide +kernel
theorem dL_law_505 : decode cL_law 505 = .ok (.aload_n 2, 1) := by decide +kernel
theorem dL_law_506 : decode cL_law 506 = .ok (.aload_n 0, 1) := by decide +kernel
theorem dL_law_507 : decode cL_law 507 = .ok (.iload_n 3, 1) := by decide +kernel
theorem dL_law_508 : decode cL_law 508 = .ok (.iconst 1, 1) := by decide +kernel
theorem dL_law_509 : decode cL_law 509 = .ok (.iadd, 1) := by decide +kernel
theorem dL_law_510 : decode cL_law 510 = .ok (.iaload, 1) := by decide +kernel
theorem dL_law_511 : decode cL_law 511 = .ok (.aload_n 0, 1) := by decide +kernel
theorem dL_law_512 : decode cL_law 512 = .ok (.iload_n 3, 1) := by decide +kernel
theorem dL_law_513 : decode cL_law 513 = .ok (.iconst 2, 1) := by decide +kernel
theorem dL_law_514 : decode cL_law 514 = .ok (.iadd, 1) := by decide +kernel
theorem dL_law_515 : decode cL_law 515 = .ok (.iaload, 1) := by decide +kernel
theorem dL_law_516 : decode cL_law 516 = .ok (.invokevirtual 57, 3) := by decide +kernel
theorem dL_law_519 : decode cL_law 519 = .ok (.if_icmp .eq 784, 3) := by decide +kernel
theorem dL_law_522 : decode cL_law 522 = .ok (.iconst 0, 1) := by decide +kernel
theorem dL_law_523 : decode cL_law 523 = .ok (.ireturn, 1) := by decide +kernel
theorem dL_law_524 : decode cL_law 524 = .ok (.aload_n 1, 1) := by decide +kernel
theorem dL_law_525 : decode cL_law 525 = .ok (.aload_n 0, 1) := by decide +kernel
theorem dL_law_526 : decode cL_law 526 = .ok (.iload_n 3, 1) := by decide +kernel
theorem dL_law_527 : decode cL_law 527 = .ok (.iconst 1, 1) := by decide +kernel
theorem dL_law_528 : decode cL_law 528 = .ok (.iadd, 1) := by decide +kernel
theorem dL_law_529 : decode cL_law 529 = .ok (.iaload, 1) := by decide +kernel
theorem dL_law_530 : decode cL_law 530 = .ok (.aload_n 0, 1) := by decide +kernel
theorem dL_law_531 : decode cL_law 531 = .ok (.iload_n 3, 1) := by decide +kernel
theorem dL_law_532 : decode cL_law 532 = .ok (.iconst 2, 1) := by decide +kernel
theorem dL_law_533 : decode cL_law 533 = .ok (.iadd, 1) := by decide +kernel
theorem dL_law_534 : decode cL_law 534 = .ok (.iaload, 1) := by decide +kernel
theorem dL_law_535 : decode cL_law 535 = .ok (.invokevirtual 58, 3) := by decide +kernel
theorem dL_law_538 : decode cL_law 538 = .ok (.aload_n 2, 1) := by decide +kernel
theorem dL_law_539 : decode cL_law 539 = .ok (.aload_n 0, 1) := by decide +kernel
theorem dL_law_540 : decode cL_law 540 = .ok (.iload_n 3, 1) := by decide +kernel
theorem dL_law_541 : decode cL_law 541 = .ok (.iconst 1, 1) := by decide +kernel
theorem dL_law_542 : decode cL_law 542 = .ok (.iadd, 1) := by decide +kernel
theorem dL_law_543 : decode cL_law 543 = .ok (.iaload, 1) := by decide +kernel
theorem dL_law_544 : decode cL_law 544 = .ok (.aload_n 0, 1) := by decide +kernel
theorem dL_law_545 : decode cL_law 545 = .ok (.iload_n 3, 1) := by decide +kernel
theorem dL_law_546 : decode cL_law 546 = .ok (.iconst 2, 1) := by decide +kernel
theorem dL_law_547 : decode cL_law 547 = .ok (.iadd, 1) := by decide +kernel
theorem dL_law_548 : decode cL_law 548 = .ok (.iaload, 1) := by decide +kernel
theorem dL_law_549 : decode cL_law 549 = .ok (.invokevirtual 61, 3) := by decide +kernel
theorem dL_law_552 : decode cL_law 552 = .ok (.if_icmp .eq 751, 3) := by decide +kernel
theorem dL_law_555 : decode cL_law 555 = .ok (.iconst 0, 1) := by decide +kernel
theorem dL_law_556 : decode cL_law 556 = .ok (.ireturn, 1) := by decide +kernel
theorem dL_law_557 : decode cL_law 557 = .ok (.aload_n 1, 1) := by decide +kernel
theorem dL_law_558 : decode cL_law 558 = .ok (.invokevirtual 62, 3) := by decide +kernel
theorem dL_law_561 : decode cL_law 561 = .ok (.aload_n 2, 1) := by decide +kernel
theorem dL_law_562 : decode cL_law 562 = .ok (.invokevirtual 65, 3) := by decide +kernel
theorem dL_law_565 : decode cL_law 565 = .ok (.if_icmp .eq 738, 3) := by decide +kernel
theorem dL_law_568 : decode cL_law 568 = .ok (.iconst 0, 1) := by decide +kernel
theorem dL_law_569 : decode cL_law 569 = .ok (.ireturn, 1) := by decide +kernel
theorem dL_law_570 : decode cL_law 570 = .ok (.aload_n 1, 1) := by decide +kernel
theorem dL_law_571 : decode cL_law 571 = .ok (.aload_n 0, 1) := by decide +kernel
theorem dL_law_572 : decode cL_law 572 = .ok (.iload_n 3, 1) := by decide +kernel
theorem dL_law_573 : decode cL_law 573 = .ok (.iconst 1, 1) := by decide +kernel
theorem dL_law_574 : decode cL_law 574 = .ok (.iadd, 1) := by decide +kernel
theorem dL_law_575 : decode cL_law 575 = .ok (.iaload, 1) := by decide +kernel
theorem dL_law_576 : decode cL_law 576 = .ok (.invokevirtual 66, 3) := by decide +kernel
theorem dL_law_579 : decode cL_law 579 = .ok (.aload_n 2, 1) := by decide +kernel
theorem dL_law_580 : decode cL_law 580 = .ok (.aload_n 0, 1) := by decide +kernel
theorem dL_law_581 : decode cL_law 581 = .ok (.iload_n 3, 1) := by decide +kernel
theorem dL_law_582 : decode cL_law 582 = .ok (.iconst 1, 1) := by decide +kernel
theorem dL_law_583 : decode cL_law 583 = .ok (.iadd, 1) := by decide +kernel
theorem dL_law_584 : decode cL_law 584 = .ok (.iaload, 1) := by decide +kernel
theorem dL_law_585 : decode cL_law 585 = .ok (.invokevirtual 70, 3) := by decide +kernel
theorem dL_law_588 : decode cL_law 588 = .ok (.lcmp, 1) := by decide +kernel
theorem dL_law_589 : decode cL_law 589 = .ok (.ifCond .eq 714, 3) := by decide +kernel
theorem dL_law_592 : decode cL_law 592 = .ok (.iconst 0, 1) := by decide +kernel
theorem dL_law_593 : decode cL_law 593 = .ok (.ireturn, 1) := by decide +kernel
theorem dL_law_594 : decode cL_law 594 = .ok (.aload_n 1, 1) := by decide +kernel
theorem dL_law_595 : decode cL_law 595 = .ok (.aload_n 0, 1) := by decide +kernel
theorem dL_law_596 : decode cL_law 596 = .ok (.iload_n 3, 1) := by decide +kernel
theorem dL_law_597 : decode cL_law 597 = .ok (.iconst 1, 1) := by decide +kernel
theorem dL_law_598 : decode cL_law 598 = .ok (.iadd, 1) := by decide +kernel
theorem dL_law_599 : decode cL_law 599 = .ok (.iaload, 1) := by decide +kernel
theorem dL_law_600 : decode cL_law 600 = .ok (.invokevirtual 71, 3) := by decide +kernel
theorem dL_law_603 : decode cL_law 603 = .ok (.aload_n 2, 1) := by decide +kernel
theorem dL_law_604 : decode cL_law 604 = .ok (.aload_n 0, 1) := by decide +kernel
theorem dL_law_605 : decode cL_law 605 = .ok (.iload_n 3, 1) := by decide +kernel
theorem dL_law_606 : decode cL_law 606 = .ok (.iconst 1, 1) := by decide +kernel
theorem dL_law_607 : decode cL_law 607 = .ok (.iadd, 1) := by decide +kernel
theorem dL_law_608 : decode cL_law 608 = .ok (.iaload, 1) := by decide +kernel
theorem dL_law_609 : decode cL_law 609 = .ok (.invokevirtual 74, 3) := by decide +kernel
theorem dL_law_612 : decode cL_law 612 = .ok (.if_icmp .eq 691, 3) := by decide +kernel
theorem dL_law_615 : decode cL_law 615 = .ok (.iconst 0, 1) := by decide +kernel
theorem dL_law_616 : decode cL_law 616 = .ok (.ireturn, 1) := by decide +kernel
theorem dL_law_617 : decode cL_law 617 = .ok (.aload_n 1, 1) := by decide +kernel
theorem dL_law_618 : decode cL_law 618 = .ok (.aload_n 0, 1) := by decide +kernel
theorem dL_law_619 : decode cL_law 619 = .ok (.iload_n 3, 1) := by decide +kernel
theorem dL_law_620 : decode cL_law 620 = .ok (.iconst 1, 1) := by decide +kernel
theorem dL_law_621 : decode cL_law 621 = .ok (.iadd, 1) := by decide +kernel
theorem dL_law_622 : decode cL_law 622 = .ok (.iaload, 1) := by decide +kernel
theorem dL_law_623 : decode cL_law 623 = .ok (.aload_n 0, 1) := by decide +kernel
theorem dL_law_624 : decode cL_law 624 = .ok (.iload_n 3, 1) := by decide +kernel
theorem dL_law_625 : decode cL_law 625 = .ok (.iconst 2, 1) := by decide +kernel
theorem dL_law_626 : decode cL_law 626 = .ok (.iadd, 1) := by decide +kernel
theorem dL_law_627 : decode cL_law 627 = .ok (.iaload, 1) := by decide +kernel
theorem dL_law_628 : decode cL_law 628 = .ok (.invokevirtual 75, 3) := by decide +kernel
theorem dL_law_631 : decode cL_law 631 = .ok (.aload_n 2, 1) := by decide +kernel
theorem dL_law_632 : decode cL_law 632 = .ok (.aload_n 0, 1) := by decide +kernel
theorem dL_law_633 : decode cL_law 633 = .ok (.iload_n 3, 1) := by decide +kernel
theorem dL_law_634 : decode cL_law 634 = .ok (.iconst 1, 1) := by decide +kernel
theorem dL_law_635 : decode cL_law 635 = .ok (.iadd, 1) := by decide +kernel
theorem dL_law_636 : decode cL_law 636 = .ok (.iaload, 1) := by decide +kernel
theorem dL_law_637 : decode cL_law 637 = .ok (.aload_n 0, 1) := by decide +kernel
theorem dL_law_638 : decode cL_law 638 = .ok (.iload_n 3, 1) := by decide +kernel
theorem dL_law_639 : decode cL_law 639 = .ok (.iconst 2, 1) := by decide +kernel
theorem dL_law_640 : decode cL_law 640 = .ok (.iadd, 1) := by decide +kernel
theorem dL_law_641 : decode cL_law 641 = .ok (.iaload, 1) := by decide +kernel
theorem dL_law_642 : decode cL_law 642 = .ok (.invokevirtual 78, 3) := by decide +kernel
theorem dL_law_645 : decode cL_law 645 = .ok (.if_icmp .eq 658, 3) := by decide +kernel
theorem dL_law_648 : decode cL_law 648 = .ok (.iconst 0, 1) := by decide +kernel
theorem dL_law_649 : decode cL_law 649 = .ok (.ireturn, 1) := by decide +kernel
theorem dL_law_650 : decode cL_law 650 = .ok (.aload_n 1, 1) := by decide +kernel
theorem dL_law_651 : decode cL_law 651 = .ok (.aload_n 0, 1) := by decide +kernel
theorem dL_law_652 : decode cL_law 652 = .ok (.iload_n 3, 1) := by decide +kernel
theorem dL_law_653 : decode cL_law 653 = .ok (.iconst 1, 1) := by decide +kernel
theorem dL_law_654 : decode cL_law 654 = .ok (.iadd, 1) := by decide +kernel
theorem dL_law_655 : decode cL_law 655 = .ok (.iaload, 1) := by decide +kernel
theorem dL_law_656 : decode cL_law 656 = .ok (.aload_n 0, 1) := by decide +kernel
theorem dL_law_657 : decode cL_law 657 = .ok (.iload_n 3, 1) := by decide +kernel
theorem dL_law_658 : decode cL_law 658 = .ok (.iconst 2, 1) := by decide +kernel
theorem dL_law_659 : decode cL_law 659 = .ok (.iadd, 1) := by decide +kernel
theorem dL_law_660 : decode cL_law 660 = .ok (.iaload, 1) := by decide +kernel
theorem dL_law_661 : decode cL_law 661 = .ok (.invokevirtual 79, 3) := by decide +kernel
theorem dL_law_664 : decode cL_law 664 = .ok (.aload_n 2, 1) := by decide +kernel
theorem dL_law_665 : decode cL_law 665 = .ok (.aload_n 0, 1) := by decide +kernel
theorem dL_law_666 : decode cL_law 666 = .ok (.iload_n 3, 1) := by decide +kernel
theorem dL_law_667 : decode cL_law 667 = .ok (.iconst 1, 1) := by decide +kernel
theorem dL_law_668 : decode cL_law 668 = .ok (.iadd, 1) := by decide +kernel
theorem dL_law_669 : decode cL_law 669 = .ok (.iaload, 1) := by decide +kernel
theorem dL_law_670 : decode cL_law 670 = .ok (.aload_n 0, 1) := by decide +kernel
theorem dL_law_671 : decode cL_law 671 = .ok (.iload_n 3, 1) := by decide +kernel
theorem dL_law_672 : decode cL_law 672 = .ok (.iconst 2, 1) := by decide +kernel
theorem dL_law_673 : decode cL_law 673 = .ok (.iadd, 1) := by decide +kernel
theorem dL_law_674 : decode cL_law 674 = .ok (.iaload, 1) := by decide +kernel
theorem dL_law_675 : decode cL_law 675 = .ok (.invokevirtual 82, 3) := by decide +kernel
theorem dL_law_678 : decode cL_law 678 = .ok (.if_icmp .eq 625, 3) := by decide +kernel
theorem dL_law_681 : decode cL_law 681 = .ok (.iconst 0, 1) := by decide +kernel
theorem dL_law_682 : decode cL_law 682 = .ok (.ireturn, 1) := by decide +kernel
theorem dL_law_683 : decode cL_law 683 = .ok (.aload_n 1, 1) := by decide +kernel
theorem dL_law_684 : decode cL_law 684 = .ok (.invokevirtual 83, 3) := by decide +kernel
theorem dL_law_687 : decode cL_law 687 = .ok (.aload_n 2, 1) := by decide +kernel
theorem dL_law_688 : decode cL_law 688 = .ok (.invokevirtual 86, 3) := by decide +kernel
theorem dL_law_691 : decode cL_law 691 = .ok (.if_icmp .eq 612, 3) := by decide +kernel
theorem dL_law_694 : decode cL_law 694 = .ok (.iconst 0, 1) := by decide +kernel
theorem dL_law_695 : decode cL_law 695 = .ok (.ireturn, 1) := by decide +kernel
theorem dL_law_696 : decode cL_law 696 = .ok (.aload_n 1, 1) := by decide +kernel
theorem dL_law_697 : decode cL_law 697 = .ok (.aload_n 0, 1) := by decide +kernel
theorem dL_law_698 : decode cL_law 698 = .ok (.iload_n 3, 1) := by decide +kernel
theorem dL_law_699 : decode cL_law 699 = .ok (.iconst 1, 1) := by decide +kernel
theorem dL_law_700 : decode cL_law 700 = .ok (.iadd, 1) := by decide +kernel
theorem dL_law_701 : decode cL_law 701 = .ok (.iaload, 1) := by decide +kernel
theorem dL_law_702 : decode cL_law 702 = .ok (.invokevirtual 87, 3) := by decide +kernel
theorem dL_law_705 : decode cL_law 705 = .ok (.aload_n 2, 1) := by decide +kernel
theorem dL_law_706 : decode cL_law 706 = .ok (.aload_n 0, 1) := by decide +kernel
theorem dL_law_707 : decode cL_law 707 = .ok (.iload_n 3, 1) := by decide +kernel
theorem dL_law_708 : decode cL_law 708 = .ok (.iconst 1, 1) := by decide +kernel
theorem dL_law_709 : decode cL_law 709 = .ok (.iadd, 1) := by decide +kernel
theorem dL_law_710 : decode cL_law 710 = .ok (.iaload, 1) := by decide +kernel
theorem dL_law_711 : decode cL_law 711 = .ok (.invokevirtual 90, 3) := by decide +kernel
theorem dL_law_714 : decode cL_law 714 = .ok (.if_icmp .eq 589, 3) := by decide +kernel
theorem dL_law_717 : decode cL_law 717 = .ok (.iconst 0, 1) := by decide +kernel
theorem dL_law_718 : decode cL_law 718 = .ok (.ireturn, 1) := by decide +kernel
theorem dL_law_719 : decode cL_law 719 = .ok (.aload_n 1, 1) := by decide +kernel
theorem dL_law_720 : decode cL_law 720 = .ok (.aload_n 0, 1) := by decide +kernel
theorem dL_law_721 : decode cL_law 721 = .ok (.iload_n 3, 1) := by decide +kernel
theorem dL_law_722 : decode cL_law 722 = .ok (.iconst 1, 1) := by decide +kernel
theorem dL_law_723 : decode cL_law 723 = .ok (.iadd, 1) := by decide +kernel
theorem dL_law_724 : decode cL_law 724 = .ok (.iaload, 1) := by decide +kernel
theorem dL_law_725 : decode cL_law 725 = .ok (.invokevirtual 91, 3) := by decide +kernel
theorem dL_law_728 : decode cL_law 728 = .ok (.aload_n 2, 1) := by decide +kernel
theorem dL_law_729 : decode cL_law 729 = .ok (.aload_n 0, 1) := by decide +kernel
theorem dL_law_730 : decode cL_law 730 = .ok (.iload_n 3, 1) := by decide +kernel
theorem dL_law_731 : decode cL_law 731 = .ok (.iconst 1, 1) := by decide +kernel
theorem dL_law_732 : decode cL_law 732 = .ok (.iadd, 1) := by decide +kernel
theorem dL_law_733 : decode cL_law 733 = .ok (.iaload, 1) := by decide +kernel
theorem dL_law_734 : decode cL_law 734 = .ok (.invokevirtual 94, 3) := by decide +kernel
theorem dL_law_737 : decode cL_law 737 = .ok (.if_icmp .eq 566, 3) := by decide +kernel
theorem dL_law_740 : decode cL_law 740 = .ok (.iconst 0, 1) := by decide +kernel
theorem dL_law_741 : decode cL_law 741 = .ok (.ireturn, 1) := by decide +kernel
theorem dL_law_742 : decode cL_law 742 = .ok (.aload_n 1, 1) := by decide +kernel
theorem dL_law_743 : decode cL_law 743 = .ok (.aload_n 0, 1) := by decide +kernel
theorem dL_law_744 : decode cL_law 744 = .ok (.iload_n 3, 1) := by decide +kernel
theorem dL_law_745 : decode cL_law 745 = .ok (.iconst 1, 1) := by decide +kernel
theorem dL_law_746 : decode cL_law 746 = .ok (.iadd, 1) := by decide +kernel
theorem dL_law_747 : decode cL_law 747 = .ok (.iaload, 1) := by decide +kernel
theorem dL_law_748 : decode cL_law 748 = .ok (.aload_n 0, 1) := by decide +kernel
theorem dL_law_749 : decode cL_law 749 = .ok (.iload_n 3, 1) := by decide +kernel
theorem dL_law_750 : decode cL_law 750 = .ok (.iconst 2, 1) := by decide +kernel
theorem dL_law_751 : decode cL_law 751 = .ok (.iadd, 1) := by decide +kernel
theorem dL_law_752 : decode cL_law 752 = .ok (.iaload, 1) := by decide +kernel
theorem dL_law_753 : decode cL_law 753 = .ok (.aload_n 0, 1) := by decide +kernel
theorem dL_law_754 : decode cL_law 754 = .ok (.iload_n 3, 1) := by decide +kernel
theorem dL_law_755 : decode cL_law 755 = .ok (.iconst 3, 1) := by decide +kernel
theorem dL_law_756 : decode cL_law 756 = .ok (.iadd, 1) := by decide +kernel
theorem dL_law_757 : decode cL_law 757 = .ok (.iaload, 1) := by decide +kernel
theorem dL_law_758 : decode cL_law 758 = .ok (.invokevirtual 95, 3) := by decide +kernel
theorem dL_law_761 : decode cL_law 761 = .ok (.aload_n 2, 1) := by decide +kernel
theorem dL_law_762 : decode cL_law 762 = .ok (.aload_n 0, 1) := by decide +kernel
theorem dL_law_763 : decode cL_law 763 = .ok (.iload_n 3, 1) := by decide +kernel
theorem dL_law_764 : decode cL_law 764 = .ok (.iconst 1, 1) := by decide +kernel
theorem dL_law_765 : decode cL_law 765 = .ok (.iadd, 1) := by decide +kernel
theorem dL_law_766 : decode cL_law 766 = .ok (.iaload, 1) := by decide +kernel
theorem dL_law_767 : decode cL_law 767 = .ok (.aload_n 0, 1) := by decide +kernel
theorem dL_law_768 : decode cL_law 768 = .ok (.iload_n 3, 1) := by decide +kernel
theorem dL_law_769 : decode cL_law 769 = .ok (.iconst 2, 1) := by decide +kernel
theorem dL_law_770 : decode cL_law 770 = .ok (.iadd, 1) := by decide +kernel
theorem dL_law_771 : decode cL_law 771 = .ok (.iaload, 1) := by decide +kernel
theorem dL_law_772 : decode cL_law 772 = .ok (.aload_n 0, 1) := by decide +kernel
theorem dL_law_773 : decode cL_law 773 = .ok (.iload_n 3, 1) := by decide +kernel
theorem dL_law_774 : decode cL_law 774 = .ok (.iconst 3, 1) := by decide +kernel
theorem dL_law_775 : decode cL_law 775 = .ok (.iadd, 1) := by decide +kernel
theorem dL_law_776 : decode cL_law 776 = .ok (.iaload, 1) := by decide +kernel
theorem dL_law_777 : decode cL_law 777 = .ok (.invokevirtual 98, 3) := by decide +kernel
theorem dL_law_780 : decode cL_law 780 = .ok (.if_icmp .eq 523, 3) := by decide +kernel
theorem dL_law_783 : decode cL_law 783 = .ok (.iconst 0, 1) := by decide +kernel
theorem dL_law_784 : decode cL_law 784 = .ok (.ireturn, 1) := by decide +kernel
theorem dL_law_785 : decode cL_law 785 = .ok (.aload_n 1, 1) := by decide +kernel
theorem dL_law_786 : decode cL_law 786 = .ok (.aload_n 0, 1) := by decide +kernel
theorem dL_law_787 : decode cL_law 787 = .ok (.iload_n 3, 1) := by decide +kernel
theorem dL_law_788 : decode cL_law 788 = .ok (.iconst 1, 1) := by decide +kernel
theorem dL_law_789 : decode cL_law 789 = .ok (.iadd, 1) := by decide +kernel
theorem dL_law_790 : decode cL_law 790 = .ok (.iaload, 1) := by decide +kernel
theorem dL_law_791 : decode cL_law 791 = .ok (.aload_n 0, 1) := by decide +kernel
theorem dL_law_792 : decode cL_law 792 = .ok (.iload_n 3, 1) := by decide +kernel
theorem dL_law_793 : decode cL_law 793 = .ok (.iconst 2, 1) := by decide +kernel
theorem dL_law_794 : decode cL_law 794 = .ok (.iadd, 1) := by decide +kernel
theorem dL_law_795 : decode cL_law 795 = .ok (.iaload, 1) := by decide +kernel
theorem dL_law_796 : decode cL_law 796 = .ok (.aload_n 0, 1) := by decide +kernel
theorem dL_law_797 : decode cL_law 797 = .ok (.iload_n 3, 1) := by decide +kernel
theorem dL_law_798 : decode cL_law 798 = .ok (.iconst 3, 1) := by decide +kernel
theorem dL_law_799 : decode cL_law 799 = .ok (.iadd, 1) := by decide +kernel
theorem dL_law_800 : decode cL_law 800 = .ok (.iaload, 1) := by decide +kernel
theorem dL_law_801 : decode cL_law 801 = .ok (.invokevirtual 99, 3) := by decide +kernel
theorem dL_law_804 : decode cL_law 804 = .ok (.aload_n 2, 1) := by decide +kernel
theorem dL_law_805 : decode cL_law 805 = .ok (.aload_n 0, 1) := by decide +kernel
theorem dL_law_806 : decode cL_law 806 = .ok (.iload_n 3, 1) := by decide +kernel
theorem dL_law_807 : decode cL_law 807 = .ok (.iconst 1, 1) := by decide +kernel
theorem dL_law_808 : decode cL_law 808 = .ok (.iadd, 1) := by decide +kernel
theorem dL_law_809 : decode cL_law 809 = .ok (.iaload, 1) := by decide +kernel
theorem dL_law_810 : decode cL_law 810 = .ok (.aload_n 0, 1) := by decide +kernel
theorem dL_law_811 : decode cL_law 811 = .ok (.iload_n 3, 1) := by decide +kernel
theorem dL_law_812 : decode cL_law 812 = .ok (.iconst 2, 1) := by decide +kernel
theorem dL_law_813 : decode cL_law 813 = .ok (.iadd, 1) := by decide +kernel
theorem dL_law_814 : decode cL_law 814 = .ok (.iaload, 1) := by decide +kernel
theorem dL_law_815 : decode cL_law 815 = .ok (.aload_n 0, 1) := by decide +kernel
theorem dL_law_816 : decode cL_law 816 = .ok (.iload_n 3, 1) := by decide +kernel
theorem dL_law_817 : decode cL_law 817 = .ok (.iconst 3, 1) := by decide +kernel
theorem dL_law_818 : decode cL_law 818 = .ok (.iadd, 1) := by decide +kernel
theorem dL_law_819 : decode cL_law 819 = .ok (.iaload, 1) := by decide +kernel
theorem dL_law_820 : decode cL_law 820 = .ok (.invokevirtual 102, 3) := by decide +kernel
theorem dL_law_823 : decode cL_law 823 = .ok (.if_icmp .eq 480, 3) := by decide +kernel
theorem dL_law_826 : decode cL_law 826 = .ok (.iconst 0, 1) := by decide +kernel
theorem dL_law_827 : decode cL_law 827 = .ok (.ireturn, 1) := by decide +kernel
theorem dL_law_828 : decode cL_law 828 = .ok (.aload_n 1, 1) := by decide +kernel
theorem dL_law_829 : decode cL_law 829 = .ok (.aload_n 0, 1) := by decide +kernel
theorem dL_law_830 : decode cL_law 830 = .ok (.iload_n 3, 1) := by decide +kernel
theorem dL_law_831 : decode cL_law 831 = .ok (.iconst 1, 1) := by decide +kernel
theorem dL_law_832 : decode cL_law 832 = .ok (.iadd, 1) := by decide +kernel
theorem dL_law_833 : decode cL_law 833 = .ok (.iaload, 1) := by decide +kernel
theorem dL_law_834 : decode cL_law 834 = .ok (.aload_n 0, 1) := by decide +kernel
theorem dL_law_835 : decode cL_law 835 = .ok (.iload_n 3, 1) := by decide +kernel
theorem dL_law_836 : decode cL_law 836 = .ok (.iconst 2, 1) := by decide +kernel
theorem dL_law_837 : decode cL_law 837 = .ok (.iadd, 1) := by decide +kernel
theorem dL_law_838 : decode cL_law 838 = .ok (.iaload, 1) := by decide +kernel
theorem dL_law_839 : decode cL_law 839 = .ok (.aload_n 0, 1) := by decide +kernel
theorem dL_law_840 : decode cL_law 840 = .ok (.iload_n 3, 1) := by decide +kernel
theorem dL_law_841 : decode cL_law 841 = .ok (.iconst 3, 1) := by decide +kernel
theorem dL_law_842 : decode cL_law 842 = .ok (.iadd, 1) := by decide +kernel
theorem dL_law_843 : decode cL_law 843 = .ok (.iaload, 1) := by decide +kernel
theorem dL_law_844 : decode cL_law 844 = .ok (.invokevirtual 103, 3) := by decide +kernel
theorem dL_law_847 : decode cL_law 847 = .ok (.aload_n 2, 1) := by decide +kernel
theorem dL_law_848 : decode cL_law 848 = .ok (.aload_n 0, 1) := by decide +kernel
theorem dL_law_849 : decode cL_law 849 = .ok (.iload_n 3, 1) := by decide +kernel
theorem dL_law_850 : decode cL_law 850 = .ok (.iconst 1, 1) := by decide +kernel
theorem dL_law_851 : decode cL_law 851 = .ok (.iadd, 1) := by decide +kernel
theorem dL_law_852 : decode cL_law 852 = .ok (.iaload, 1) := by decide +kernel
theorem dL_law_853 : decode cL_law 853 = .ok (.aload_n 0, 1) := by decide +kernel
theorem dL_law_854 : decode cL_law 854 = .ok (.iload_n 3, 1) := by decide +kernel
theorem dL_law_855 : decode cL_law 855 = .ok (.iconst 2, 1) := by decide +kernel
theorem dL_law_856 : decode cL_law 856 = .ok (.iadd, 1) := by decide +kernel
theorem dL_law_857 : decode cL_law 857 = .ok (.iaload, 1) := by decide +kernel
theorem dL_law_858 : decode cL_law 858 = .ok (.aload_n 0, 1) := by decide +kernel
theorem dL_law_859 : decode cL_law 859 = .ok (.iload_n 3, 1) := by decide +kernel
theorem dL_law_860 : decode cL_law 860 = .ok (.iconst 3, 1) := by decide +kernel
theorem dL_law_861 : decode cL_law 861 = .ok (.iadd, 1) := by decide +kernel
theorem dL_law_862 : decode cL_law 862 = .ok (.iaload, 1) := by decide +kernel
theorem dL_law_863 : decode cL_law 863 = .ok (.invokevirtual 107, 3) := by decide +kernel
theorem dL_law_866 : decode cL_law 866 = .ok (.lcmp, 1) := by decide +kernel
theorem dL_law_867 : decode cL_law 867 = .ok (.ifCond .eq 436, 3) := by decide +kernel
theorem dL_law_870 : decode cL_law 870 = .ok (.iconst 0, 1) := by decide +kernel
theorem dL_law_871 : decode cL_law 871 = .ok (.ireturn, 1) := by decide +kernel
theorem dL_law_872 : decode cL_law 872 = .ok (.aload_n 1, 1) := by decide +kernel
theorem dL_law_873 : decode cL_law 873 = .ok (.aload_n 0, 1) := by decide +kernel
theorem dL_law_874 : decode cL_law 874 = .ok (.iload_n 3, 1) := by decide +kernel
theorem dL_law_875 : decode cL_law 875 = .ok (.iconst 1, 1) := by decide +kernel
theorem dL_law_876 : decode cL_law 876 = .ok (.iadd, 1) := by decide +kernel
theorem dL_law_877 : decode cL_law 877 = .ok (.iaload, 1) := by decide +kernel
theorem dL_law_878 : decode cL_law 878 = .ok (.invokevirtual 108, 3) := by decide +kernel
theorem dL_law_881 : decode cL_law 881 = .ok (.aload_n 2, 1) := by decide +kernel
theorem dL_law_882 : decode cL_law 882 = .ok (.aload_n 0, 1) := by decide +kernel
theorem dL_law_883 : decode cL_law 883 = .ok (.iload_n 3, 1) := by decide +kernel
theorem dL_law_884 : decode cL_law 884 = .ok (.iconst 1, 1) := by decide +kernel
theorem dL_law_885 : decode cL_law 885 = .ok (.iadd, 1) := by decide +kernel
theorem dL_law_886 : decode cL_law 886 = .ok (.iaload, 1) := by decide +kernel
theorem dL_law_887 : decode cL_law 887 = .ok (.invokevirtual 111, 3) := by decide +kernel
theorem dL_law_890 : decode cL_law 890 = .ok (.lcmp, 1) := by decide +kernel
theorem dL_law_891 : decode cL_law 891 = .ok (.ifCond .eq 412, 3) := by decide +kernel
theorem dL_law_894 : decode cL_law 894 = .ok (.iconst 0, 1) := by decide +kernel
theorem dL_law_895 : decode cL_law 895 = .ok (.ireturn, 1) := by decide +kernel
theorem dL_law_896 : decode cL_law 896 = .ok (.aload_n 1, 1) := by decide +kernel
theorem dL_law_897 : decode cL_law 897 = .ok (.aload_n 0, 1) := by decide +kernel
theorem dL_law_898 : decode cL_law 898 = .ok (.iload_n 3, 1) := by decide +kernel
theorem dL_law_899 : decode cL_law 899 = .ok (.iconst 1, 1) := by decide +kernel
theorem dL_law_900 : decode cL_law 900 = .ok (.iadd, 1) := by decide +kernel
theorem dL_law_901 : decode cL_law 901 = .ok (.iaload, 1) := by decide +kernel
theorem dL_law_902 : decode cL_law 902 = .ok (.aload_n 0, 1) := by decide +kernel
theorem dL_law_903 : decode cL_law 903 = .ok (.iload_n 3, 1) := by decide +kernel
theorem dL_law_904 : decode cL_law 904 = .ok (.iconst 2, 1) := by decide +kernel
theorem dL_law_905 : decode cL_law 905 = .ok (.iadd, 1) := by decide +kernel
theorem dL_law_906 : decode cL_law 906 = .ok (.iaload, 1) := by decide +kernel
theorem dL_law_907 : decode cL_law 907 = .ok (.invokevirtual 112, 3) := by decide +kernel
theorem dL_law_910 : decode cL_law 910 = .ok (.aload_n 2, 1) := by decide +kernel
theorem dL_law_911 : decode cL_law 911 = .ok (.aload_n 0, 1) := by decide +kernel
theorem dL_law_912 : decode cL_law 912 = .ok (.iload_n 3, 1) := by decide +kernel
theorem dL_law_913 : decode cL_law 913 = .ok (.iconst 1, 1) := by decide +kernel
theorem dL_law_914 : decode cL_law 914 = .ok (.iadd, 1) := by decide +kernel
theorem dL_law_915 : decode cL_law 915 = .ok (.iaload, 1) := by decide +kernel
theorem dL_law_916 : decode cL_law 916 = .ok (.aload_n 0, 1) := by decide +kernel
theorem dL_law_917 : decode cL_law 917 = .ok (.iload_n 3, 1) := by decide +kernel
theorem dL_law_918 : decode cL_law 918 = .ok (.iconst 2, 1) := by decide +kernel
theorem dL_law_919 : decode cL_law 919 = .ok (.iadd, 1) := by decide +kernel
theorem dL_law_920 : decode cL_law 920 = .ok (.iaload, 1) := by decide +kernel
theorem dL_law_921 : decode cL_law 921 = .ok (.invokevirtual 115, 3) := by decide +kernel
theorem dL_law_924 : decode cL_law 924 = .ok (.if_icmp .eq 379, 3) := by decide +kernel
theorem dL_law_927 : decode cL_law 927 = .ok (.iconst 0, 1) := by decide +kernel
theorem dL_law_928 : decode cL_law 928 = .ok (.ireturn, 1) := by decide +kernel
theorem dL_law_929 : decode cL_law 929 = .ok (.aload_n 1, 1) := by decide +kernel
theorem dL_law_930 : decode cL_law 930 = .ok (.aload_n 0, 1) := by decide +kernel
theorem dL_law_931 : decode cL_law 931 = .ok (.iload_n 3, 1) := by decide +kernel
theorem dL_law_932 : decode cL_law 932 = .ok (.iconst 1, 1) := by decide +kernel
theorem dL_law_933 : decode cL_law 933 = .ok (.iadd, 1) := by decide +kernel
theorem dL_law_934 : decode cL_law 934 = .ok (.iaload, 1) := by decide +kernel
theorem dL_law_935 : decode cL_law 935 = .ok (.invokevirtual 116, 3) := by decide +kernel
theorem dL_law_938 : decode cL_law 938 = .ok (.aload_n 2, 1) := by decide +kernel
theorem dL_law_939 : decode cL_law 939 = .ok (.aload_n 0, 1) := by decide +kernel
theorem dL_law_940 : decode cL_law 940 = .ok (.iload_n 3, 1) := by decide +kernel
theorem dL_law_941 : decode cL_law 941 = .ok (.iconst 1, 1) := by decide +kernel
theorem dL_law_942 : decode cL_law 942 = .ok (.iadd, 1) := by decide +kernel
theorem dL_law_943 : decode cL_law 943 = .ok (.iaload, 1) := by decide +kernel
theorem dL_law_944 : decode cL_law 944 = .ok (.invokevirtual 119, 3) := by decide +kernel
theorem dL_law_947 : decode cL_law 947 = .ok (.if_icmp .eq 356, 3) := by decide +kernel
theorem dL_law_950 : decode cL_law 950 = .ok (.iconst 0, 1) := by decide +kernel
theorem dL_law_951 : decode cL_law 951 = .ok (.ireturn, 1) := by decide +kernel
theorem dL_law_952 : decode cL_law 952 = .ok (.aload_n 1, 1) := by decide +kernel
theorem dL_law_953 : decode cL_law 953 = .ok (.aload_n 0, 1) := by decide +kernel
theorem dL_law_954 : decode cL_law 954 = .ok (.iload_n 3, 1) := by decide +kernel
theorem dL_law_955 : decode cL_law 955 = .ok (.iconst 1, 1) := by decide +kernel
theorem dL_law_956 : decode cL_law 956 = .ok (.iadd, 1) := by decide +kernel
theorem dL_law_957 : decode cL_law 957 = .ok (.iaload, 1) := by decide +kernel
theorem dL_law_958 : decode cL_law 958 = .ok (.aload_n 0, 1) := by decide +kernel
theorem dL_law_959 : decode cL_law 959 = .ok (.iload_n 3, 1) := by decide +kernel
theorem dL_law_960 : decode cL_law 960 = .ok (.iconst 2, 1) := by decide +kernel
theorem dL_law_961 : decode cL_law 961 = .ok (.iadd, 1) := by decide +kernel
theorem dL_law_962 : decode cL_law 962 = .ok (.iaload, 1) := by decide +kernel
theorem dL_law_963 : decode cL_law 963 = .ok (.aload_n 0, 1) := by decide +kernel
theorem dL_law_964 : decode cL_law 964 = .ok (.iload_n 3, 1) := by decide +kernel
theorem dL_law_965 : decode cL_law 965 = .ok (.iconst 3, 1) := by decide +kernel
theorem dL_law_966 : decode cL_law 966 = .ok (.iadd, 1) := by decide +kernel
theorem dL_law_967 : decode cL_law 967 = .ok (.iaload, 1) := by decide +kernel
theorem dL_law_968 : decode cL_law 968 = .ok (.invokevirtual 120, 3) := by decide +kernel
theorem dL_law_971 : decode cL_law 971 = .ok (.aload_n 2, 1) := by decide +kernel
theorem dL_law_972 : decode cL_law 972 = .ok (.aload_n 0, 1) := by decide +kernel
theorem dL_law_973 : decode cL_law 973 = .ok (.iload_n 3, 1) := by decide +kernel
theorem dL_law_974 : decode cL_law 974 = .ok (.iconst 1, 1) := by decide +kernel
theorem dL_law_975 : decode cL_law 975 = .ok (.iadd, 1) := by decide +kernel
theorem dL_law_976 : decode cL_law 976 = .ok (.iaload, 1) := by decide +kernel
theorem dL_law_977 : decode cL_law 977 = .ok (.aload_n 0, 1) := by decide +kernel
theorem dL_law_978 : decode cL_law 978 = .ok (.iload_n 3, 1) := by decide +kernel
theorem dL_law_979 : decode cL_law 979 = .ok (.iconst 2, 1) := by decide +kernel
theorem dL_law_980 : decode cL_law 980 = .ok (.iadd, 1) := by decide +kernel
theorem dL_law_981 : decode cL_law 981 = .ok (.iaload, 1) := by decide +kernel
theorem dL_law_982 : decode cL_law 982 = .ok (.aload_n 0, 1) := by decide +kernel
theorem dL_law_983 : decode cL_law 983 = .ok (.iload_n 3, 1) := by decide +kernel
theorem dL_law_984 : decode cL_law 984 = .ok (.iconst 3, 1) := by decide +kernel
theorem dL_law_985 : decode cL_law 985 = .ok (.iadd, 1) := by decide +kernel
theorem dL_law_986 : decode cL_law 986 = .ok (.iaload, 1) := by decide +kernel
theorem dL_law_987 : decode cL_law 987 = .ok (.invokevirtual 123, 3) := by decide +kernel
theorem dL_law_990 : decode cL_law 990 = .ok (.if_icmp .eq 313, 3) := by decide +kernel
theorem dL_law_993 : decode cL_law 993 = .ok (.iconst 0, 1) := by decide +kernel
theorem dL_law_994 : decode cL_law 994 = .ok (.ireturn, 1) := by decide +kernel
theorem dL_law_995 : decode cL_law 995 = .ok (.aload_n 1, 1) := by decide +kernel
theorem dL_law_996 : decode cL_law 996 = .ok (.invokevirtual 124, 3) := by decide +kernel
theorem dL_law_999 : decode cL_law 999 = .ok (.aload_n 2, 1) := by decide +kernel
theorem dL_law_1000 : decode cL_law 1000 = .ok (.invokevirtual 127, 3) := by decide +kernel
theorem dL_law_1003 : decode cL_law 1003 = .ok (.if_icmp .eq 300, 3) := by decide +kernel
theorem dL_law_1006 : decode cL_law 1006 = .ok (.iconst 0, 1) := by decide +kernel
theorem dL_law_1007 : decode cL_law 1007 = .ok (.ireturn, 1) := by decide +kernel
theorem dL_law_1008 : decode cL_law 1008 = .ok (.aload_n 1, 1) := by decide +kernel
theorem dL_law_1009 : decode cL_law 1009 = .ok (.aload_n 0, 1) := by decide +kernel
theorem dL_law_1010 : decode cL_law 1010 = .ok (.iload_n 3, 1) := by decide +kernel
theorem dL_law_1011 : decode cL_law 1011 = .ok (.iconst 1, 1) := by decide +kernel
theorem dL_law_1012 : decode cL_law 1012 = .ok (.iadd, 1) := by decide +kernel
theorem dL_law_1013 : decode cL_law 1013 = .ok (.iaload, 1) := by decide +kernel
theorem dL_law_1014 : decode cL_law 1014 = .ok (.aload_n 0, 1) := by decide +kernel
theorem dL_law_1015 : decode cL_law 1015 = .ok (.iload_n 3, 1) := by decide +kernel
theorem dL_law_1016 : decode cL_law 1016 = .ok (.iconst 2, 1) := by decide +kernel
theorem dL_law_1017 : decode cL_law 1017 = .ok (.iadd, 1) := by decide +kernel
theorem dL_law_1018 : decode cL_law 1018 = .ok (.iaload, 1) := by decide +kernel
theorem dL_law_1019 : decode cL_law 1019 = .ok (.invokevirtual 128, 3) := by decide +kernel
theorem dL_law_1022 : decode cL_law 1022 = .ok (.aload_n 2, 1) := by decide +kernel
theorem dL_law_1023 : decode cL_law 1023 = .ok (.aload_n 0, 1) := by decide +kernel
theorem dL_law_1024 : decode cL_law 1024 = .ok (.iload_n 3, 1) := by decide +kernel
theorem dL_law_1025 : decode cL_law 1025 = .ok (.iconst 1, 1) := by decide +kernel
theorem dL_law_1026 : decode cL_law 1026 = .ok (.iadd, 1) := by decide +kernel
theorem dL_law_1027 : decode cL_law 1027 = .ok (.iaload, 1) := by decide +kernel
theorem dL_law_1028 : decode cL_law 1028 = .ok (.aload_n 0, 1) := by decide +kernel
theorem dL_law_1029 : decode cL_law 1029 = .ok (.iload_n 3, 1) := by decide +kernel
theorem dL_law_1030 : decode cL_law 1030 = .ok (.iconst 2, 1) := by decide +kernel
theorem dL_law_1031 : decode cL_law 1031 = .ok (.iadd, 1) := by decide +kernel
theorem dL_law_1032 : decode cL_law 1032 = .ok (.iaload, 1) := by decide +kernel
theorem dL_law_1033 : decode cL_law 1033 = .ok (.invokevirtual 131, 3) := by decide +kernel
theorem dL_law_1036 : decode cL_law 1036 = .ok (.if_icmp .eq 267, 3) := by decide +kernel
theorem dL_law_1039 : decode cL_law 1039 = .ok (.iconst 0, 1) := by decide +kernel
theorem dL_law_1040 : decode cL_law 1040 = .ok (.ireturn, 1) := by decide +kernel
theorem dL_law_1041 : decode cL_law 1041 = .ok (.aload_n 1, 1) := by decide +kernel
theorem dL_law_1042 : decode cL_law 1042 = .ok (.invokevirtual 132, 3) := by decide +kernel
theorem dL_law_1045 : decode cL_law 1045 = .ok (.aload_n 2, 1) := by decide +kernel
theorem dL_law_1046 : decode cL_law 1046 = .ok (.invokevirtual 135, 3) := by decide +kernel
theorem dL_law_1049 : decode cL_law 1049 = .ok (.if_icmp .eq 254, 3) := by decide +kernel
theorem dL_law_1052 : decode cL_law 1052 = .ok (.iconst 0, 1) := by decide +kernel
theorem dL_law_1053 : decode cL_law 1053 = .ok (.ireturn, 1) := by decide +kernel
theorem dL_law_1054 : decode cL_law 1054 = .ok (.aload_n 1, 1) := by decide +kernel
theorem dL_law_1055 : decode cL_law 1055 = .ok (.invokevirtual 136, 3) := by decide +kernel
theorem dL_law_1058 : decode cL_law 1058 = .ok (.aload_n 2, 1) := by decide +kernel
theorem dL_law_1059 : decode cL_law 1059 = .ok (.invokevirtual 139, 3) := by decide +kernel
theorem dL_law_1062 : decode cL_law 1062 = .ok (.if_icmp .eq 241, 3) := by decide +kernel
theorem dL_law_1065 : decode cL_law 1065 = .ok (.iconst 0, 1) := by decide +kernel
theorem dL_law_1066 : decode cL_law 1066 = .ok (.ireturn, 1) := by decide +kernel
theorem dL_law_1067 : decode cL_law 1067 = .ok (.aload_n 1, 1) := by decide +kernel
theorem dL_law_1068 : decode cL_law 1068 = .ok (.aload_n 0, 1) := by decide +kernel
theorem dL_law_1069 : decode cL_law 1069 = .ok (.iload_n 3, 1) := by decide +kernel
theorem dL_law_1070 : decode cL_law 1070 = .ok (.iconst 1, 1) := by decide +kernel
theorem dL_law_1071 : decode cL_law 1071 = .ok (.iadd, 1) := by decide +kernel
theorem dL_law_1072 : decode cL_law 1072 = .ok (.iaload, 1) := by decide +kernel
theorem dL_law_1073 : decode cL_law 1073 = .ok (.invokevirtual 140, 3) := by decide +kernel
theorem dL_law_1076 : decode cL_law 1076 = .ok (.aload_n 2, 1) := by decide +kernel
theorem dL_law_1077 : decode cL_law 1077 = .ok (.aload_n 0, 1) := by decide +kernel
theorem dL_law_1078 : decode cL_law 1078 = .ok (.iload_n 3, 1) := by decide +kernel
theorem dL_law_1079 : decode cL_law 1079 = .ok (.iconst 1, 1) := by decide +kernel
theorem dL_law_1080 : decode cL_law 1080 = .ok (.iadd, 1) := by decide +kernel
theorem dL_law_1081 : decode cL_law 1081 = .ok (.iaload, 1) := by decide +kernel
theorem dL_law_1082 : decode cL_law 1082 = .ok (.invokevirtual 143, 3) := by decide +kernel
theorem dL_law_1085 : decode cL_law 1085 = .ok (.if_icmp .eq 218, 3) := by decide +kernel
theorem dL_law_1088 : decode cL_law 1088 = .ok (.iconst 0, 1) := by decide +kernel
theorem dL_law_1089 : decode cL_law 1089 = .ok (.ireturn, 1) := by decide +kernel
theorem dL_law_1090 : decode cL_law 1090 = .ok (.aload_n 1, 1) := by decide +kernel
theorem dL_law_1091 : decode cL_law 1091 = .ok (.aload_n 0, 1) := by decide +kernel
theorem dL_law_1092 : decode cL_law 1092 = .ok (.iload_n 3, 1) := by decide +kernel
theorem dL_law_1093 : decode cL_law 1093 = .ok (.iconst 1, 1) := by decide +kernel
theorem dL_law_1094 : decode cL_law 1094 = .ok (.iadd, 1) := by decide +kernel
theorem dL_law_1095 : decode cL_law 1095 = .ok (.iaload, 1) := by decide +kernel
theorem dL_law_1096 : decode cL_law 1096 = .ok (.aload_n 0, 1) := by decide +kernel
theorem dL_law_1097 : decode cL_law 1097 = .ok (.iload_n 3, 1) := by decide +kernel
theorem dL_law_1098 : decode cL_law 1098 = .ok (.iconst 2, 1) := by decide +kernel
theorem dL_law_1099 : decode cL_law 1099 = .ok (.iadd, 1) := by decide +kernel
theorem dL_law_1100 : decode cL_law 1100 = .ok (.iaload, 1) := by decide +kernel
theorem dL_law_1101 : decode cL_law 1101 = .ok (.aload_n 0, 1) := by decide +kernel
theorem dL_law_1102 : decode cL_law 1102 = .ok (.iload_n 3, 1) := by decide +kernel
theorem dL_law_1103 : decode cL_law 1103 = .ok (.iconst 3, 1) := by decide +kernel
theorem dL_law_1104 : decode cL_law 1104 = .ok (.iadd, 1) := by decide +kernel
theorem dL_law_1105 : decode cL_law 1105 = .ok (.iaload, 1) := by decide +kernel
theorem dL_law_1106 : decode cL_law 1106 = .ok (.invokevirtual 144, 3) := by decide +kernel
theorem dL_law_1109 : decode cL_law 1109 = .ok (.aload_n 2, 1) := by decide +kernel
theorem dL_law_1110 : decode cL_law 1110 = .ok (.aload_n 0, 1) := by decide +kernel
theorem dL_law_1111 : decode cL_law 1111 = .ok (.iload_n 3, 1) := by decide +kernel
theorem dL_law_1112 : decode cL_law 1112 = .ok (.iconst 1, 1) := by decide +kernel
theorem dL_law_1113 : decode cL_law 1113 = .ok (.iadd, 1) := by decide +kernel
theorem dL_law_1114 : decode cL_law 1114 = .ok (.iaload, 1) := by decide +kernel
theorem dL_law_1115 : decode cL_law 1115 = .ok (.aload_n 0, 1) := by decide +kernel
theorem dL_law_1116 : decode cL_law 1116 = .ok (.iload_n 3, 1) := by decide +kernel
theorem dL_law_1117 : decode cL_law 1117 = .ok (.iconst 2, 1) := by decide +kernel
theorem dL_law_1118 : decode cL_law 1118 = .ok (.iadd, 1) := by decide +kernel
theorem dL_law_1119 : decode cL_law 1119 = .ok (.iaload, 1) := by decide +kernel
theorem dL_law_1120 : decode cL_law 1120 = .ok (.aload_n 0, 1) := by decide +kernel
theorem dL_law_1121 : decode cL_law 1121 = .ok (.iload_n 3, 1) := by decide +kernel
theorem dL_law_1122 : decode cL_law 1122 = .ok (.iconst 3, 1) := by decide +kernel
theorem dL_law_1123 : decode cL_law 1123 = .ok (.iadd, 1) := by decide +kernel
theorem dL_law_1124 : decode cL_law 1124 = .ok (.iaload, 1) := by decide +kernel
theorem dL_law_1125 : decode cL_law 1125 = .ok (.invokevirtual 147, 3) := by decide +kernel
theorem dL_law_1128 : decode cL_law 1128 = .ok (.if_icmp .eq 175, 3) := by decide +kernel
theorem dL_law_1131 : decode cL_law 1131 = .ok (.iconst 0, 1) := by decide +kernel
theorem dL_law_1132 : decode cL_law 1132 = .ok (.ireturn, 1) := by decide +kernel
theorem dL_law_1133 : decode cL_law 1133 = .ok (.aload_n 1, 1) := by decide +kernel
theorem dL_law_1134 : decode cL_law 1134 = .ok (.aload_n 0, 1) := by decide +kernel
theorem dL_law_1135 : decode cL_law 1135 = .ok (.iload_n 3, 1) := by decide +kernel
theorem dL_law_1136 : decode cL_law 1136 = .ok (.iconst 1, 1) := by decide +kernel
theorem dL_law_1137 : decode cL_law 1137 = .ok (.iadd, 1) := by decide +kernel
theorem dL_law_1138 : decode cL_law 1138 = .ok (.iaload, 1) := by decide +kernel
theorem dL_law_1139 : decode cL_law 1139 = .ok (.aload_n 0, 1) := by decide +kernel
theorem dL_law_1140 : decode cL_law 1140 = .ok (.iload_n 3, 1) := by decide +kernel
theorem dL_law_1141 : decode cL_law 1141 = .ok (.iconst 2, 1) := by decide +kernel
theorem dL_law_1142 : decode cL_law 1142 = .ok (.iadd, 1) := by decide +kernel
theorem dL_law_1143 : decode cL_law 1143 = .ok (.iaload, 1) := by decide +kernel
theorem dL_law_1144 : decode cL_law 1144 = .ok (.aload_n 0, 1) := by decide +kernel
theorem dL_law_1145 : decode cL_law 1145 = .ok (.iload_n 3, 1) := by decide +kernel
theorem dL_law_1146 : decode cL_law 1146 = .ok (.iconst 3, 1) := by decide +kernel
theorem dL_law_1147 : decode cL_law 1147 = .ok (.iadd, 1) := by decide +kernel
theorem dL_law_1148 : decode cL_law 1148 = .ok (.iaload, 1) := by decide +kernel
theorem dL_law_1149 : decode cL_law 1149 = .ok (.i2l, 1) := by decide +kernel
theorem dL_law_1150 : decode cL_law 1150 = .ok (.bipush 32, 2) := by decide +kernel
theorem dL_law_1152 : decode cL_law 1152 = .ok (.lshl, 1) := by decide +kernel
theorem dL_law_1153 : decode cL_law 1153 = .ok (.aload_n 0, 1) := by decide +kernel
theorem dL_law_1154 : decode cL_law 1154 = .ok (.iload_n 3, 1) := by decide +kernel
theorem dL_law_1155 : decode cL_law 1155 = .ok (.iconst 4, 1) := by decide +kernel
theorem dL_law_1156 : decode cL_law 1156 = .ok (.iadd, 1) := by decide +kernel
theorem dL_law_1157 : decode cL_law 1157 = .ok (.iaload, 1) := by decide +kernel
theorem dL_law_1158 : decode cL_law 1158 = .ok (.i2l, 1) := by decide +kernel
theorem dL_law_1159 : decode cL_law 1159 = .ok (.ldc2_w 148, 3) := by decide +kernel
theorem dL_law_1162 : decode cL_law 1162 = .ok (.land, 1) := by decide +kernel
theorem dL_law_1163 : decode cL_law 1163 = .ok (.lor, 1) := by decide +kernel
theorem dL_law_1164 : decode cL_law 1164 = .ok (.invokevirtual 150, 3) := by decide +kernel
theorem dL_law_1167 : decode cL_law 1167 = .ok (.aload_n 2, 1) := by decide +kernel
theorem dL_law_1168 : decode cL_law 1168 = .ok (.aload_n 0, 1) := by decide +kernel
theorem dL_law_1169 : decode cL_law 1169 = .ok (.iload_n 3, 1) := by decide +kernel
theorem dL_law_1170 : decode cL_law 1170 = .ok (.iconst 1, 1) := by decide +kernel
theorem dL_law_1171 : decode cL_law 1171 = .ok (.iadd, 1) := by decide +kernel
theorem dL_law_1172 : decode cL_law 1172 = .ok (.iaload, 1) := by decide +kernel
theorem dL_law_1173 : decode cL_law 1173 = .ok (.aload_n 0, 1) := by decide +kernel
theorem dL_law_1174 : decode cL_law 1174 = .ok (.iload_n 3, 1) := by decide +kernel
theorem dL_law_1175 : decode cL_law 1175 = .ok (.iconst 2, 1) := by decide +kernel
theorem dL_law_1176 : decode cL_law 1176 = .ok (.iadd, 1) := by decide +kernel
theorem dL_law_1177 : decode cL_law 1177 = .ok (.iaload, 1) := by decide +kernel
theorem dL_law_1178 : decode cL_law 1178 = .ok (.aload_n 0, 1) := by decide +kernel
theorem dL_law_1179 : decode cL_law 1179 = .ok (.iload_n 3, 1) := by decide +kernel
theorem dL_law_1180 : decode cL_law 1180 = .ok (.iconst 3, 1) := by decide +kernel
theorem dL_law_1181 : decode cL_law 1181 = .ok (.iadd, 1) := by decide +kernel
theorem dL_law_1182 : decode cL_law 1182 = .ok (.iaload, 1) := by decide +kernel
theorem dL_law_1183 : decode cL_law 1183 = .ok (.i2l, 1) := by decide +kernel
theorem dL_law_1184 : decode cL_law 1184 = .ok (.bipush 32, 2) := by decide +kernel
theorem dL_law_1186 : decode cL_law 1186 = .ok (.lshl, 1) := by decide +kernel
theorem dL_law_1187 : decode cL_law 1187 = .ok (.aload_n 0, 1) := by decide +kernel
theorem dL_law_1188 : decode cL_law 1188 = .ok (.iload_n 3, 1) := by decide +kernel
theorem dL_law_1189 : decode cL_law 1189 = .ok (.iconst 4, 1) := by decide +kernel
theorem dL_law_1190 : decode cL_law 1190 = .ok (.iadd, 1) := by decide +kernel
theorem dL_law_1191 : decode cL_law 1191 = .ok (.iaload, 1) := by decide +kernel
theorem dL_law_1192 : decode cL_law 1192 = .ok (.i2l, 1) := by decide +kernel
theorem dL_law_1193 : decode cL_law 1193 = .ok (.ldc2_w 148, 3) := by decide +kernel
theorem dL_law_1196 : decode cL_law 1196 = .ok (.land, 1) := by decide +kernel
theorem dL_law_1197 : decode cL_law 1197 = .ok (.lor, 1) := by decide +kernel
theorem dL_law_1198 : decode cL_law 1198 = .ok (.invokevirtual 154, 3) := by decide +kernel
theorem dL_law_1201 : decode cL_law 1201 = .ok (.if_icmp .eq 102, 3) := by decide +kernel
theorem dL_law_1204 : decode cL_law 1204 = .ok (.iconst 0, 1) := by decide +kernel
theorem dL_law_1205 : decode cL_law 1205 = .ok (.ireturn, 1) := by decide +kernel
theorem dL_law_1206 : decode cL_law 1206 = .ok (.aload_n 1, 1) := by decide +kernel
theorem dL_law_1207 : decode cL_law 1207 = .ok (.aload_n 0, 1) := by decide +kernel
theorem dL_law_1208 : decode cL_law 1208 = .ok (.iload_n 3, 1) := by decide +kernel
theorem dL_law_1209 : decode cL_law 1209 = .ok (.iconst 1, 1) := by decide +kernel
theorem dL_law_1210 : decode cL_law 1210 = .ok (.iadd, 1) := by decide +kernel
theorem dL_law_1211 : decode cL_law 1211 = .ok (.iaload, 1) := by decide +kernel
theorem dL_law_1212 : decode cL_law 1212 = .ok (.aload_n 0, 1) := by decide +kernel
theorem dL_law_1213 : decode cL_law 1213 = .ok (.iload_n 3, 1) := by decide +kernel
theorem dL_law_1214 : decode cL_law 1214 = .ok (.iconst 2, 1) := by decide +kernel
theorem dL_law_1215 : decode cL_law 1215 = .ok (.iadd, 1) := by decide +kernel
theorem dL_law_1216 : decode cL_law 1216 = .ok (.iaload, 1) := by decide +kernel
theorem dL_law_1217 : decode cL_law 1217 = .ok (.invokevirtual 155, 3) := by decide +kernel
theorem dL_law_1220 : decode cL_law 1220 = .ok (.aload_n 2, 1) := by decide +kernel
theorem dL_law_1221 : decode cL_law 1221 = .ok (.aload_n 0, 1) := by decide +kernel
theorem dL_law_1222 : decode cL_law 1222 = .ok (.iload_n 3, 1) := by decide +kernel
theorem dL_law_1223 : decode cL_law 1223 = .ok (.iconst 1, 1) := by decide +kernel
theorem dL_law_1224 : decode cL_law 1224 = .ok (.iadd, 1) := by decide +kernel
theorem dL_law_1225 : decode cL_law 1225 = .ok (.iaload, 1) := by decide +kernel
theorem dL_law_1226 : decode cL_law 1226 = .ok (.aload_n 0, 1) := by decide +kernel
theorem dL_law_1227 : decode cL_law 1227 = .ok (.iload_n 3, 1) := by decide +kernel
theorem dL_law_1228 : decode cL_law 1228 = .ok (.iconst 2, 1) := by decide +kernel
theorem dL_law_1229 : decode cL_law 1229 = .ok (.iadd, 1) := by decide +kernel
theorem dL_law_1230 : decode cL_law 1230 = .ok (.iaload, 1) := by decide +kernel
theorem dL_law_1231 : decode cL_law 1231 = .ok (.invokevirtual 159, 3) := by decide +kernel
theorem dL_law_1234 : decode cL_law 1234 = .ok (.lcmp, 1) := by decide +kernel
theorem dL_law_1235 : decode cL_law 1235 = .ok (.ifCond .eq 68, 3) := by decide +kernel
theorem dL_law_1238 : decode cL_law 1238 = .ok (.iconst 0, 1) := by decide +kernel
theorem dL_law_1239 : decode cL_law 1239 = .ok (.ireturn, 1) := by decide +kernel
theorem dL_law_1240 : decode cL_law 1240 = .ok (.aload_n 1, 1) := by decide +kernel
theorem dL_law_1241 : decode cL_law 1241 = .ok (.aload_n 0, 1) := by decide +kernel
theorem dL_law_1242 : decode cL_law 1242 = .ok (.iload_n 3, 1) := by decide +kernel
theorem dL_law_1243 : decode cL_law 1243 = .ok (.iconst 1, 1) := by decide +kernel
theorem dL_law_1244 : decode cL_law 1244 = .ok (.iadd, 1) := by decide +kernel
theorem dL_law_1245 : decode cL_law 1245 = .ok (.iaload, 1) := by decide +kernel
theorem dL_law_1246 : decode cL_law 1246 = .ok (.aload_n 0, 1) := by decide +kernel
theorem dL_law_1247 : decode cL_law 1247 = .ok (.iload_n 3, 1) := by decide +kernel
theorem dL_law_1248 : decode cL_law 1248 = .ok (.iconst 2, 1) := by decide +kernel
theorem dL_law_1249 : decode cL_law 1249 = .ok (.iadd, 1) := by decide +kernel
theorem dL_law_1250 : decode cL_law 1250 = .ok (.iaload, 1) := by decide +kernel
theorem dL_law_1251 : decode cL_law 1251 = .ok (.aload_n 0, 1) := by decide +kernel
theorem dL_law_1252 : decode cL_law 1252 = .ok (.iload_n 3, 1) := by decide +kernel
theorem dL_law_1253 : decode cL_law 1253 = .ok (.iconst 3, 1) := by decide +kernel
theorem dL_law_1254 : decode cL_law 1254 = .ok (.iadd, 1) := by decide +kernel
theorem dL_law_1255 : decode cL_law 1255 = .ok (.iaload, 1) := by decide +kernel
theorem dL_law_1256 : decode cL_law 1256 = .ok (.aload_n 0, 1) := by decide +kernel
theorem dL_law_1257 : decode cL_law 1257 = .ok (.iload_n 3, 1) := by decide +kernel
theorem dL_law_1258 : decode cL_law 1258 = .ok (.iconst 4, 1) := by decide +kernel
theorem dL_law_1259 : decode cL_law 1259 = .ok (.iadd, 1) := by decide +kernel
theorem dL_law_1260 : decode cL_law 1260 = .ok (.iaload, 1) := by decide +kernel
theorem dL_law_1261 : decode cL_law 1261 = .ok (.aload_n 0, 1) := by decide +kernel
theorem dL_law_1262 : decode cL_law 1262 = .ok (.iload_n 3, 1) := by decide +kernel
theorem dL_law_1263 : decode cL_law 1263 = .ok (.iconst 5, 1) := by decide +kernel
theorem dL_law_1264 : decode cL_law 1264 = .ok (.iadd, 1) := by decide +kernel
theorem dL_law_1265 : decode cL_law 1265 = .ok (.iaload, 1) := by decide +kernel
theorem dL_law_1266 : decode cL_law 1266 = .ok (.invokevirtual 160, 3) := by decide +kernel
theorem dL_law_1269 : decode cL_law 1269 = .ok (.aload_n 2, 1) := by decide +kernel
theorem dL_law_1270 : decode cL_law 1270 = .ok (.aload_n 0, 1) := by decide +kernel
theorem dL_law_1271 : decode cL_law 1271 = .ok (.iload_n 3, 1) := by decide +kernel
theorem dL_law_1272 : decode cL_law 1272 = .ok (.iconst 1, 1) := by decide +kernel
theorem dL_law_1273 : decode cL_law 1273 = .ok (.iadd, 1) := by decide +kernel
theorem dL_law_1274 : decode cL_law 1274 = .ok (.iaload, 1) := by decide +kernel
theorem dL_law_1275 : decode cL_law 1275 = .ok (.aload_n 0, 1) := by decide +kernel
theorem dL_law_1276 : decode cL_law 1276 = .ok (.iload_n 3, 1) := by decide +kernel
theorem dL_law_1277 : decode cL_law 1277 = .ok (.iconst 2, 1) := by decide +kernel
theorem dL_law_1278 : decode cL_law 1278 = .ok (.iadd, 1) := by decide +kernel
theorem dL_law_1279 : decode cL_law 1279 = .ok (.iaload, 1) := by decide +kernel
theorem dL_law_1280 : decode cL_law 1280 = .ok (.aload_n 0, 1) := by decide +kernel
theorem dL_law_1281 : decode cL_law 1281 = .ok (.iload_n 3, 1) := by decide +kernel
theorem dL_law_1282 : decode cL_law 1282 = .ok (.iconst 3, 1) := by decide +kernel
theorem dL_law_1283 : decode cL_law 1283 = .ok (.iadd, 1) := by decide +kernel
theorem dL_law_1284 : decode cL_law 1284 = .ok (.iaload, 1) := by decide +kernel
theorem dL_law_1285 : decode cL_law 1285 = .ok (.aload_n 0, 1) := by decide +kernel
theorem dL_law_1286 : decode cL_law 1286 = .ok (.iload_n 3, 1) := by decide +kernel
theorem dL_law_1287 : decode cL_law 1287 = .ok (.iconst 4, 1) := by decide +kernel
theorem dL_law_1288 : decode cL_law 1288 = .ok (.iadd, 1) := by decide +kernel
theorem dL_law_1289 : decode cL_law 1289 = .ok (.iaload, 1) := by decide +kernel
theorem dL_law_1290 : decode cL_law 1290 = .ok (.aload_n 0, 1) := by decide +kernel
theorem dL_law_1291 : decode cL_law 1291 = .ok (.iload_n 3, 1) := by decide +kernel
theorem dL_law_1292 : decode cL_law 1292 = .ok (.iconst 5, 1) := by decide +kernel
theorem dL_law_1293 : decode cL_law 1293 = .ok (.iadd, 1) := by decide +kernel
theorem dL_law_1294 : decode cL_law 1294 = .ok (.iaload, 1) := by decide +kernel
theorem dL_law_1295 : decode cL_law 1295 = .ok (.invokevirtual 164, 3) := by decide +kernel
theorem dL_law_1298 : decode cL_law 1298 = .ok (.if_icmp .eq 5, 3) := by decide +kernel
theorem dL_law_1301 : decode cL_law 1301 = .ok (.iconst 0, 1) := by decide +kernel
theorem dL_law_1302 : decode cL_law 1302 = .ok (.ireturn, 1) := by decide +kernel
theorem dL_law_1303 : decode cL_law 1303 = .ok (.iinc 3 6, 3) := by decide +kernel
theorem dL_law_1306 : decode cL_law 1306 = .ok (.goto (-1288), 3) := by decide +kernel
theorem dL_law_1309 : decode cL_law 1309 = .ok (.iconst 1, 1) := by decide +kernel
theorem dL_law_1310 : decode cL_law 1310 = .ok (.ireturn, 1) := by decide +kernel
