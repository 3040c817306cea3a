/-! ===== the law's world by its cells' numbers ===== -/
section LawW
def Wd (f : Nat → Nat × va_E) : va_W := (List.range 81).map f
def put : List Nat → va_W → (Nat → Nat × va_E) → Nat → Nat × va_E
  | [], _, f, k => f k
  | _ :: _, [], f, k => f k
  | i :: is, c :: cs, f, k => cond (Nat.beq k i) c (put is cs f k)
def ixo : List Nat → Nat → Nat
  | [], _ => 0
  | i :: is, k => cond (Nat.beq k i) 0 (ixo is k + 1)
def hasN : List Nat → Nat → Bool
  | [], _ => false
  | i :: is, k => cond (Nat.beq k i) true (hasN is k)
def resid (is : List Nat) : List Nat := (List.range 81).filter (fun i => !hasN is i)
def pmO (is : List Nat) : List Nat := (List.range 81).map (fun k => cond (hasN is k) ((resid is).length + ixo is k) (ixo (resid is) k))
def okS (is : List Nat) : Bool := (va_nd is && va_nd (resid is) && va_nd (pmO is) && (resid is).all (fun i => !(is.contains i))) && is.all (fun i => Nat.blt i 81)
theorem hasN_iff : ∀ (is : List Nat) (k : Nat), hasN is k = true ↔ k ∈ is
  | [], k => by simp [hasN]
  | i :: is, k => by
    have ih := hasN_iff is k
    unfold hasN
    cases e : Nat.beq k i with
    | true => have := Nat.eq_of_beq_eq_true e; simp [this]
    | false => have := Nat.ne_of_beq_eq_false e; simp [this, ih]
theorem ixo_get {α : Type} (g : Nat → α) : ∀ (is : List Nat) (k : Nat), hasN is k = true → (is.map g)[ixo is k]? = some (g k)
  | [], k, h => by cases h
  | i :: is, k, h => by
    unfold hasN at h
    unfold ixo
    cases e : Nat.beq k i with
    | true => have := Nat.eq_of_beq_eq_true e; subst this; rfl
    | false =>
      rw [e] at h
      exact ixo_get g is k h
theorem put_get : ∀ (is : List Nat) (cs : va_W) (f : Nat → Nat × va_E) (k : Nat), cs.length = is.length → hasN is k = true → cs[ixo is k]? = some (put is cs f k)
  | [], _, _, k, _, h => by cases h
  | i :: is, [], f, k, hl, h => by cases hl
  | i :: is, c :: cs, f, k, hl, h => by
    unfold hasN at h
    unfold ixo put
    cases e : Nat.beq k i with
    | true => rfl
    | false =>
      rw [e] at h
      exact put_get is cs f k (Nat.succ.inj hl) h
theorem put_ne : ∀ (is : List Nat) (cs : va_W) (f : Nat → Nat × va_E) (k : Nat), hasN is k = false → put is cs f k = f k
  | [], _, _, k, _ => rfl
  | i :: is, [], f, k, _ => rfl
  | i :: is, c :: cs, f, k, h => by
    unfold hasN at h
    unfold put
    cases e : Nat.beq k i with
    | true => rw [e] at h; cases h
    | false =>
      rw [e] at h
      exact put_ne is cs f k h
/-- the value put at a place -/
theorem put_pos : ∀ (n : Nat) (is : List Nat) (cs : va_W) (f : Nat → Nat × va_E) (k : Nat) (c : Nat × va_E), is[n]? = some k → cs[n]? = some c → hasN (is.take n) k = false → put is cs f k = c
  | _, [], _, _, k, c, h, _, _ => by simp at h
  | _, i :: is, [], _, k, c, _, h, _ => by simp at h
  | 0, i :: is, c' :: cs, f, k, c, h, h2, _ => by
    have e : i = k := by simpa using h
    have e2 : c' = c := by simpa using h2
    subst e; subst e2
    unfold put
    rw [Nat.beq_refl]; rfl
  | n + 1, i :: is, c' :: cs, f, k, c, h, h2, h3 => by
    have h' : is[n]? = some k := by simpa using h
    have h2' : cs[n]? = some c := by simpa using h2
    simp only [List.take_succ_cons] at h3
    unfold hasN at h3
    unfold put
    cases e : Nat.beq k i with
    | true => rw [e] at h3; cases h3
    | false =>
      rw [e] at h3
      exact put_pos n is cs f k c h' h2' h3
theorem Wd_get (f : Nat → Nat × va_E) {i : Nat} (h : i < 81) : (Wd f)[i]? = some (f i) := by
  unfold Wd
  rw [List.getElem?_map, List.getElem?_range h]; rfl
theorem Wd_map (f : Nat → Nat × va_E) : ∀ (is : List Nat), (∀ i ∈ is, i < 81) → is.map (fun i => (Wd f)[i]?) = (is.map f).map some
  | [], _ => rfl
  | i :: is, h => by
    show (Wd f)[i]? :: is.map (fun i => (Wd f)[i]?) = some (f i) :: (is.map f).map some
    rw [Wd_get f (h i (List.mem_cons_self ..)), Wd_map f is (fun j hj => h j (List.mem_cons_of_mem _ hj))]
theorem resid_mem {is : List Nat} {k : Nat} : k ∈ resid is ↔ k < 81 ∧ hasN is k = false := by
  unfold resid
  rw [List.mem_filter, List.mem_range, Bool.not_eq_true']
theorem pm_put (is : List Nat) (w1 : va_W) (f : Nat → Nat × va_E) (hl : w1.length = is.length) : (pmO is).map (fun i => ((resid is).map f ++ w1)[i]?) = (Wd (put is w1 f)).map some := by
  unfold pmO Wd
  rw [List.map_map, List.map_map]
  apply List.map_congr_left
  intro k hk
  have hk := List.mem_range.mp hk
  show ((resid is).map f ++ w1)[cond (hasN is k) ((resid is).length + ixo is k) (ixo (resid is) k)]? = some (put is w1 f k)
  cases e : hasN is k with
  | true =>
    show ((resid is).map f ++ w1)[(resid is).length + ixo is k]? = _
    rw [List.getElem?_append_right (by rw [List.length_map]; omega), List.length_map, Nat.add_sub_cancel_left]
    exact put_get is w1 f k hl e
  | false =>
    have h1 := ixo_get f (resid is) k ((hasN_iff _ _).mpr (resid_mem.mpr ⟨hk, e⟩))
    show ((resid is).map f ++ w1)[ixo (resid is) k]? = _
    rw [List.getElem?_append_left (List.getElem?_eq_some_iff.mp h1).1, h1, put_ne is w1 f k e]
theorem ce {α : Type} {a b : α} {as bs : List α} (h : a = b) (h2 : as = bs) : a :: as = b :: bs := by rw [h, h2]
theorem cVL2 {p : Program} {l : Launch} {e : Env} {R : Room} {s : State} {m : MethodId} {args : Array Value} {below : List Frame} {meth : Method} {c : Code} {H : Heap} {locs : List Loc} {Q : State → Prop} {D : va_G} {C : Nat → ClassId} {A : Nat → Prop} {own : String} {cc : ByteArray} {nL d pc : Nat} {ls : Array Slot} {rest : List Value} {f : Nat → Nat × va_E} {cells slots : Nat}
    {y : MethodName} {bytes : ByteArray} {nL' d' index ci : Nat} {ret : Option FieldType} {b : Addr} {As st0 : List Value} (st2 : List Value) {wc w1 : va_W} {ov : Option Value} {T : u_T} {N : Nat} {fs : List Value} (cx : CX p m c s args own cc nL D C A R d) (hc : Ct l y bytes nL' ret d' D C (.ref b :: As) wc w1 ov)
    (hlk : Cond.methodLink own index y ∈ gdt) (hy : (y.cls ≠ "java/lang/invoke/MethodHandle" ∧ y.cls ≠ "java/lang/invoke/VarHandle") ∧ Cond.instanceMethod y ∈ gdt ∧ Cond.selects y.cls y y ∈ gdt ∧ Cond.initialized y.cls ∈ gdt ∧ Cond.code y bytes nL' ret ∈ gdt) (hlen : (parseMethodDescriptor y.desc).map (fun d => d.parameters.length) = some As.length)
    (hd : d' + 1 ≤ d ∧ nL' ≤ 21) (hw : HW D A s.heap H locs (Wd f)) (is : List Nat) (hC : is.map f = wc) (hq : okS is = true) (hl1 : w1.length = is.length)
    (hb : wc[0]? = some (b, .inr (ci, fs))) (hci : vwCl[ci]? = some (y.cls, T, N)) (hst : st0 = As.reverse ++ .ref b :: rest) (hcat : (rest.map fun v => v.category).sum ≤ 8) (hdg : decode cc pc = .ok (.invokevirtual index, 3)) (hs2 : ov.toList ++ rest = st2)
    (kk : ∀ (H1 : Heap) (locs1 : List Loc), HW D A s.heap H1 locs1 (Wd (put is w1 f)) → W p l e R s m args below meth c H1 locs1 cells slots Q (F0 m (pc + 3) ls st2)) (hls : ls.size = nL) (hf : cells ≤ R.cells ∧ slots ≤ R.slots) : W p l e R s m args below meth c H locs cells slots Q (F0 m pc ls st0) := by
  unfold okS at hq
  rw [Bool.and_eq_true] at hq
  have h81 : ∀ i ∈ is, i < 81 := fun i hi => by
    have := List.all_eq_true.mp hq.2 i hi
    exact Nat.le_of_ble_eq_true this
  exact cVL (wr := (resid is).map f) (w2 := Wd (put is w1 f)) cx hc hlk hy hlen hd hw is (resid is) (pmO is) (by rw [Wd_map f is h81, hC]) (Wd_map f _ (fun i hi => (resid_mem.mp hi).1)) hq.1 (pm_put is w1 f hl1) hb hci hst hcat hdg hs2 kk hls hf
/-- the law's cells -/
def LF (C : Nat → ClassId) (ad : Nat → Nat) (tp : Nat → Option Nat) (f : Nat → Nat × va_E) (u_isKept : Int32) (u_now_people : Int32) (u_now_debts_size : Int32) (u_now_debts_owed : (Nat → Int32)) (u_now_debts_order : (Nat → Int32)) (u_now_consents_refused : (Nat → Int32)) (u_now_trail_size : Int32) (u_now_trail_numbers : (Nat → Int32)) (u_now_seen_size : Int32) (u_now_seen_numbers : (Nat → Int32)) (u_now_events_size : Int32) (u_now_events_numbers : (Nat → Int32)) (u_now_book_size : Int32) (u_now_book_numbers : (Nat → Int32)) (u_kept_people : Int32) (u_kept_debts_size : Int32) (u_kept_debts_owed : (Nat → Int32)) (u_kept_debts_order : (Nat → Int32)) (u_kept_consents_refused : (Nat → Int32)) (u_kept_trail_size : Int32) (u_kept_trail_numbers : (Nat → Int32)) (u_kept_seen_size : Int32) (u_kept_seen_numbers : (Nat → Int32)) (u_kept_events_size : Int32) (u_kept_events_numbers : (Nat → Int32)) (u_kept_book_size : Int32) (u_kept_book_numbers : (Nat → Int32)) (u_supposed_size : Int32) (u_supposed_owed : (Nat → Int32)) (u_supposed_order : (Nat → Int32)) (u_rings_rule : Int32) (u_rings_found : Int32) (u_rings_size : Int32) (u_rings_least : Int32) (u_rings_steps : (Nat → Int32)) (u_rings_path : (Nat → Int32)) (u_rings_taken : (Nat → Int32)) (u_netting_groupCount : Int32) (u_netting_balances : (Nat → Int32)) (u_netting_left : (Nat → Int32)) (u_netting_sums : (Nat → Int32)) (u_netting_most : (Nat → Int32)) (u_netting_groups : (Nat → Int32)) (u_netting_payments_size : Int32) (u_netting_payments_numbers : (Nat → Int32)) (u_text_size : Int32) (u_text_signs : (Nat → Int32)) (uM_people : Int32) (uM_debts : Int32) (uM_cuts : Int32) (uM_seen : Int32) (uM_events : Int32) (uM_inBook : Int32) (uM_texted : Int32) (uM_rule : Int32) (uM_rings : Int32) (uM_size : Int32) (uM_least : Int32) (uM_worth : Int64) (uM_groups : Int32) (uM_paid : Int32) (uM_imaged : Int32) (uM_owes : (Nat → Int32)) (uM_denies : (Nat → Int32)) (uM_debt : (Nat → Int32)) (uM_cut : (Nat → Int32)) (uM_sight : (Nat → Int32)) (uM_event : (Nat → Int32)) (uM_book : (Nat → Int32)) (uM_text : (Nat → Int32)) (uM_path : (Nat → Int32)) (uM_ring : (Nat → Int32)) (uM_balance : (Nat → Int32)) (uM_left : (Nat → Int32)) (uM_sum : (Nat → Int32)) (uM_parts : (Nat → Int32)) (uM_group : (Nat → Int32)) (uM_payment : (Nat → Int32)) (uM_then : (Nat → Int32)) (uM_image : (Nat → Int32)) (uM_tapeSort : (Nat → Int32)) (uM_tapeSize : (Nat → Int32)) (uM_items : (Nat → Int64)) (ts : (Nat → Int32)) (tl : (Nat → Int32)) (ti : (Nat → Nat → Int64)) : Prop :=
  f 0 = ((ad 0), .inr (8, [.ref (ad 1), .ref (ad 15), .int u_isKept, .ref (ad 29), .ref (ad 32), .ref (ad 36), .ref (ad 44), .ref (ad 46)])) ∧ f 1 = ((ad 1), .inr (0, [.int u_now_people, .ref (ad 2), .ref (ad 5), .ref (ad 7), .ref (ad 9), .ref (ad 11), .ref (ad 13)])) ∧ f 2 = ((ad 2), .inr (2, [.ref (ad 3), .ref (ad 4), .int u_now_debts_size])) ∧ f 3 = ((ad 3), .inl (C 0, 36, .inl u_now_debts_owed)) ∧ f 4 = ((ad 4), .inl (C 0, 36, .inl u_now_debts_order)) ∧ f 5 = ((ad 5), .inr (1, [.ref (ad 6)])) ∧ f 6 = ((ad 6), .inl (C 2, 36, .inl u_now_consents_refused)) ∧ f 7 = ((ad 7), .inr (5, [.ref (ad 8), .int 40, .int u_now_trail_size])) ∧ f 8 = ((ad 8), .inl (C 0, 120, .inl u_now_trail_numbers)) ∧ f 9 = ((ad 9), .inr (5, [.ref (ad 10), .int 5, .int u_now_seen_size])) ∧ f 10 = ((ad 10), .inl (C 0, 15, .inl u_now_seen_numbers)) ∧ f 11 = ((ad 11), .inr (5, [.ref (ad 12), .int 8, .int u_now_events_size])) ∧ f 12 = ((ad 12), .inl (C 0, 24, .inl u_now_events_numbers)) ∧ f 13 = ((ad 13), .inr (5, [.ref (ad 14), .int 8, .int u_now_book_size])) ∧ f 14 = ((ad 14), .inl (C 0, 24, .inl u_now_book_numbers)) ∧ f 15 = ((ad 15), .inr (0, [.int u_kept_people, .ref (ad 16), .ref (ad 19), .ref (ad 21), .ref (ad 23), .ref (ad 25), .ref (ad 27)])) ∧ f 16 = ((ad 16), .inr (2, [.ref (ad 17), .ref (ad 18), .int u_kept_debts_size])) ∧ f 17 = ((ad 17), .inl (C 0, 36, .inl u_kept_debts_owed)) ∧ f 18 = ((ad 18), .inl (C 0, 36, .inl u_kept_debts_order)) ∧ f 19 = ((ad 19), .inr (1, [.ref (ad 20)])) ∧ f 20 = ((ad 20), .inl (C 2, 36, .inl u_kept_consents_refused)) ∧ f 21 = ((ad 21), .inr (5, [.ref (ad 22), .int 40, .int u_kept_trail_size])) ∧ f 22 = ((ad 22), .inl (C 0, 120, .inl u_kept_trail_numbers)) ∧ f 23 = ((ad 23), .inr (5, [.ref (ad 24), .int 5, .int u_kept_seen_size])) ∧ f 24 = ((ad 24), .inl (C 0, 15, .inl u_kept_seen_numbers)) ∧ f 25 = ((ad 25), .inr (5, [.ref (ad 26), .int 8, .int u_kept_events_size])) ∧ f 26 = ((ad 26), .inl (C 0, 24, .inl u_kept_events_numbers)) ∧ f 27 = ((ad 27), .inr (5, [.ref (ad 28), .int 8, .int u_kept_book_size])) ∧ f 28 = ((ad 28), .inl (C 0, 24, .inl u_kept_book_numbers)) ∧ f 29 = ((ad 29), .inr (2, [.ref (ad 30), .ref (ad 31), .int u_supposed_size])) ∧ f 30 = ((ad 30), .inl (C 0, 36, .inl u_supposed_owed)) ∧ f 31 = ((ad 31), .inl (C 0, 36, .inl u_supposed_order)) ∧ f 32 = ((ad 32), .inr (4, [.ref (ad 33), .ref (ad 34), .ref (ad 35), .int u_rings_rule, .int u_rings_found, .int u_rings_size, .int u_rings_least])) ∧ f 33 = ((ad 33), .inl (C 0, 36, .inl u_rings_steps)) ∧ f 34 = ((ad 34), .inl (C 0, 6, .inl u_rings_path)) ∧ f 35 = ((ad 35), .inl (C 0, 6, .inl u_rings_taken)) ∧ f 36 = ((ad 36), .inr (3, [.ref (ad 37), .ref (ad 38), .ref (ad 39), .ref (ad 40), .ref (ad 41), .int u_netting_groupCount, .ref (ad 42)])) ∧ f 37 = ((ad 37), .inl (C 0, 6, .inl u_netting_balances)) ∧ f 38 = ((ad 38), .inl (C 0, 6, .inl u_netting_left)) ∧ f 39 = ((ad 39), .inl (C 0, 64, .inl u_netting_sums)) ∧ f 40 = ((ad 40), .inl (C 0, 64, .inl u_netting_most)) ∧ f 41 = ((ad 41), .inl (C 0, 6, .inl u_netting_groups)) ∧ f 42 = ((ad 42), .inr (5, [.ref (ad 43), .int 6, .int u_netting_payments_size])) ∧ f 43 = ((ad 43), .inl (C 0, 18, .inl u_netting_payments_numbers)) ∧ f 44 = ((ad 44), .inr (7, [.ref (ad 45), .int u_text_size])) ∧ f 45 = ((ad 45), .inl (C 3, 100, .inl u_text_signs)) ∧ f 46 = ((ad 46), .inl (C 4, 6, .inr (.inr (.inr (.inr tp))))) ∧ (∀ k, k < 6 → f (47 + 2 * k) = (ad (47 + 2 * k), .inr (6, [.int (ts k), .int (tl k), .ref (ad (48 + 2 * k))])) ∧ f (48 + 2 * k) = (ad (48 + 2 * k), .inl (C 1, 60, .inr (.inl (ti k))))) ∧ f 59 = ((ad 59), .inr (9, [.int uM_people, .ref (ad 60), .ref (ad 61), .int uM_debts, .ref (ad 62), .int uM_cuts, .ref (ad 63), .int uM_seen, .ref (ad 64), .int uM_events, .ref (ad 65), .int uM_inBook, .ref (ad 66), .int uM_texted, .ref (ad 67), .ref (ad 68), .int uM_rule, .int uM_rings, .int uM_size, .int uM_least, .long uM_worth, .ref (ad 69), .ref (ad 70), .ref (ad 71), .ref (ad 72), .ref (ad 73), .int uM_groups, .ref (ad 74), .int uM_paid, .ref (ad 75), .ref (ad 76), .int uM_imaged, .ref (ad 77), .ref (ad 78), .ref (ad 79), .ref (ad 80)])) ∧ f 60 = ((ad 60), .inl (C 0, 36, .inl uM_owes)) ∧ f 61 = ((ad 61), .inl (C 0, 36, .inl uM_denies)) ∧ f 62 = ((ad 62), .inl (C 0, 30, .inl uM_debt)) ∧ f 63 = ((ad 63), .inl (C 0, 120, .inl uM_cut)) ∧ f 64 = ((ad 64), .inl (C 0, 15, .inl uM_sight)) ∧ f 65 = ((ad 65), .inl (C 0, 16, .inl uM_event)) ∧ f 66 = ((ad 66), .inl (C 0, 24, .inl uM_book)) ∧ f 67 = ((ad 67), .inl (C 0, 100, .inl uM_text)) ∧ f 68 = ((ad 68), .inl (C 0, 6, .inl uM_path)) ∧ f 69 = ((ad 69), .inl (C 0, 6, .inl uM_ring)) ∧ f 70 = ((ad 70), .inl (C 0, 6, .inl uM_balance)) ∧ f 71 = ((ad 71), .inl (C 0, 6, .inl uM_left)) ∧ f 72 = ((ad 72), .inl (C 0, 64, .inl uM_sum)) ∧ f 73 = ((ad 73), .inl (C 0, 64, .inl uM_parts)) ∧ f 74 = ((ad 74), .inl (C 0, 3, .inl uM_group)) ∧ f 75 = ((ad 75), .inl (C 0, 30, .inl uM_payment)) ∧ f 76 = ((ad 76), .inl (C 0, 67, .inl uM_then)) ∧ f 77 = ((ad 77), .inl (C 0, 284, .inl uM_image)) ∧ f 78 = ((ad 78), .inl (C 0, 6, .inl uM_tapeSort)) ∧ f 79 = ((ad 79), .inl (C 0, 6, .inl uM_tapeSize)) ∧ f 80 = ((ad 80), .inl (C 1, 360, .inr (.inl uM_items)))
def LI (C : Nat → ClassId) (ad : Nat → Nat) (tp : Nat → Option Nat) (w : va_W) : Prop :=
  ∃ (u_isKept : Int32) (u_now_people : Int32) (u_now_debts_size : Int32) (u_now_debts_owed : (Nat → Int32)) (u_now_debts_order : (Nat → Int32)) (u_now_consents_refused : (Nat → Int32)) (u_now_trail_size : Int32) (u_now_trail_numbers : (Nat → Int32)) (u_now_seen_size : Int32) (u_now_seen_numbers : (Nat → Int32)) (u_now_events_size : Int32) (u_now_events_numbers : (Nat → Int32)) (u_now_book_size : Int32) (u_now_book_numbers : (Nat → Int32)) (u_kept_people : Int32) (u_kept_debts_size : Int32) (u_kept_debts_owed : (Nat → Int32)) (u_kept_debts_order : (Nat → Int32)) (u_kept_consents_refused : (Nat → Int32)) (u_kept_trail_size : Int32) (u_kept_trail_numbers : (Nat → Int32)) (u_kept_seen_size : Int32) (u_kept_seen_numbers : (Nat → Int32)) (u_kept_events_size : Int32) (u_kept_events_numbers : (Nat → Int32)) (u_kept_book_size : Int32) (u_kept_book_numbers : (Nat → Int32)) (u_supposed_size : Int32) (u_supposed_owed : (Nat → Int32)) (u_supposed_order : (Nat → Int32)) (u_rings_rule : Int32) (u_rings_found : Int32) (u_rings_size : Int32) (u_rings_least : Int32) (u_rings_steps : (Nat → Int32)) (u_rings_path : (Nat → Int32)) (u_rings_taken : (Nat → Int32)) (u_netting_groupCount : Int32) (u_netting_balances : (Nat → Int32)) (u_netting_left : (Nat → Int32)) (u_netting_sums : (Nat → Int32)) (u_netting_most : (Nat → Int32)) (u_netting_groups : (Nat → Int32)) (u_netting_payments_size : Int32) (u_netting_payments_numbers : (Nat → Int32)) (u_text_size : Int32) (u_text_signs : (Nat → Int32)) (uM_people : Int32) (uM_debts : Int32) (uM_cuts : Int32) (uM_seen : Int32) (uM_events : Int32) (uM_inBook : Int32) (uM_texted : Int32) (uM_rule : Int32) (uM_rings : Int32) (uM_size : Int32) (uM_least : Int32) (uM_worth : Int64) (uM_groups : Int32) (uM_paid : Int32) (uM_imaged : Int32) (uM_owes : (Nat → Int32)) (uM_denies : (Nat → Int32)) (uM_debt : (Nat → Int32)) (uM_cut : (Nat → Int32)) (uM_sight : (Nat → Int32)) (uM_event : (Nat → Int32)) (uM_book : (Nat → Int32)) (uM_text : (Nat → Int32)) (uM_path : (Nat → Int32)) (uM_ring : (Nat → Int32)) (uM_balance : (Nat → Int32)) (uM_left : (Nat → Int32)) (uM_sum : (Nat → Int32)) (uM_parts : (Nat → Int32)) (uM_group : (Nat → Int32)) (uM_payment : (Nat → Int32)) (uM_then : (Nat → Int32)) (uM_image : (Nat → Int32)) (uM_tapeSort : (Nat → Int32)) (uM_tapeSize : (Nat → Int32)) (uM_items : (Nat → Int64)) (ts : (Nat → Int32)) (tl : (Nat → Int32)) (ti : (Nat → Nat → Int64)) (f : Nat → Nat × va_E), Rel u_now_people u_now_debts_size u_now_debts_owed u_now_debts_order u_now_consents_refused u_now_trail_size u_now_trail_numbers u_now_seen_size u_now_seen_numbers u_now_events_size u_now_events_numbers u_now_book_size u_now_book_numbers u_isKept u_kept_people u_kept_debts_size u_kept_debts_owed u_kept_debts_order u_kept_consents_refused u_kept_trail_size u_kept_trail_numbers u_kept_seen_size u_kept_seen_numbers u_kept_events_size u_kept_events_numbers u_kept_book_size u_kept_book_numbers u_text_size u_text_signs ts tl ti uM_people uM_owes uM_denies uM_debts uM_debt uM_cuts uM_cut uM_seen uM_sight uM_events uM_event uM_inBook uM_book uM_texted uM_text uM_imaged uM_image uM_tapeSort uM_tapeSize uM_items ∧ w = Wd f ∧ LF C ad tp f u_isKept u_now_people u_now_debts_size u_now_debts_owed u_now_debts_order u_now_consents_refused u_now_trail_size u_now_trail_numbers u_now_seen_size u_now_seen_numbers u_now_events_size u_now_events_numbers u_now_book_size u_now_book_numbers u_kept_people u_kept_debts_size u_kept_debts_owed u_kept_debts_order u_kept_consents_refused u_kept_trail_size u_kept_trail_numbers u_kept_seen_size u_kept_seen_numbers u_kept_events_size u_kept_events_numbers u_kept_book_size u_kept_book_numbers u_supposed_size u_supposed_owed u_supposed_order u_rings_rule u_rings_found u_rings_size u_rings_least u_rings_steps u_rings_path u_rings_taken u_netting_groupCount u_netting_balances u_netting_left u_netting_sums u_netting_most u_netting_groups u_netting_payments_size u_netting_payments_numbers u_text_size u_text_signs uM_people uM_debts uM_cuts uM_seen uM_events uM_inBook uM_texted uM_rule uM_rings uM_size uM_least uM_worth uM_groups uM_paid uM_imaged uM_owes uM_denies uM_debt uM_cut uM_sight uM_event uM_book uM_text uM_path uM_ring uM_balance uM_left uM_sum uM_parts uM_group uM_payment uM_then uM_image uM_tapeSort uM_tapeSize uM_items ts tl ti
theorem k6 {k : Nat} {P : Nat → Prop} (h : k < 6) (h0 : P 0) (h1 : P 1) (h2 : P 2) (h3 : P 3) (h4 : P 4) (h5 : P 5) : P k := by
  rcases (show k = 0 ∨ k = 1 ∨ k = 2 ∨ k = 3 ∨ k = 4 ∨ k = 5 by omega) with rfl | rfl | rfl | rfl | rfl | rfl <;> assumption
theorem tput {isC isM : List Nat} {w1 w2 : va_W} {f : Nat → Nat × va_E} {j : Nat} (h1 : isC.all (fun i => Nat.blt i 47 || Nat.blt 58 i) = true) (h2 : isM.all (fun i => Nat.blt i 47 || Nat.blt 58 i) = true) (hj : 47 ≤ j ∧ j ≤ 58) : put isM w2 (put isC w1 f) j = f j := by
  have key : ∀ (is : List Nat), is.all (fun i => Nat.blt i 47 || Nat.blt 58 i) = true → hasN is j = false := by
    intro is
    induction is with
    | nil => intro _; rfl
    | cons i is ih =>
      intro h
      simp only [List.all_cons, Bool.and_eq_true, Bool.or_eq_true] at h
      unfold hasN
      have hne : Nat.beq j i = false := by
        cases e : Nat.beq j i with
        | false => rfl
        | true =>
          have := Nat.eq_of_beq_eq_true e
          rcases h.1 with h | h
          · have := Nat.le_of_ble_eq_true h; omega
          · have := Nat.le_of_ble_eq_true h; omega
      rw [hne]
      exact ih h.2
  rw [put_ne _ _ _ _ (key _ h2), put_ne _ _ _ _ (key _ h1)]
theorem tput1 {isM : List Nat} {w2 : va_W} {f : Nat → Nat × va_E} {j : Nat} (h2 : isM.all (fun i => Nat.blt i 47 || Nat.blt 58 i) = true) (hj : 47 ≤ j ∧ j ≤ 58) : put isM w2 f j = f j := tput (isC := []) (w1 := []) rfl h2 hj
end LawW
