/-! ===== the law's world by its cells' numbers ===== -/
section LawW
def Wd (f : Nat → Nat × va_E) : va_W := (List.range 81).map f
def put : List Nat → va_W → (Nat → Nat × va_E) → Nat → Nat × va_E
  | [], _, f, k => f k
  | _ :: _, [], f, k => f k
  | i :: is, c :: cs, f, k => cond (Nat.beq k i) c (put is cs f k)
def ixo : List Nat → Nat → Nat
  | [], _ => 0
  | i :: is, k => cond (Nat.beq k i) 0 (ixo is k + 1)
def hasN : List Nat → Nat → Bool
  | [], _ => false
  | i :: is, k => cond (Nat.beq k i) true (hasN is k)
def resid (is : List Nat) : List Nat := (List.range 81).filter (fun i => !hasN is i)
def pmO (is : List Nat) : List Nat := (List.range 81).map (fun k => cond (hasN is k) ((resid is).length + ixo is k) (ixo (resid is) k))
def okS (is : List Nat) : Bool := (va_nd is && va_nd (resid is) && va_nd (pmO is) && (resid is).all (fun i => !(is.contains i))) && is.all (fun i => Nat.blt i 81)
theorem hasN_iff : ∀ (is : List Nat) (k : Nat), hasN is k = true ↔ k ∈ is
  | [], k => by simp [hasN]
  | i :: is, k => by
    have ih := hasN_iff is k
    unfold hasN
    cases e : Nat.beq k i with
    | true => have := Nat.eq_of_beq_eq_true e; simp [this]
    | false => have := Nat.ne_of_beq_eq_false e; simp [this, ih]
theorem ixo_get {α : Type} (g : Nat → α) : ∀ (is : List Nat) (k : Nat), hasN is k = true → (is.map g)[ixo is k]? = some (g k)
  | [], k, h => by cases h
  | i :: is, k, h => by
    unfold hasN at h
    unfold ixo
    cases e : Nat.beq k i with
    | true => have := Nat.eq_of_beq_eq_true e; subst this; rfl
    | false =>
      rw [e] at h
      exact ixo_get g is k h
theorem put_get : ∀ (is : List Nat) (cs : va_W) (f : Nat → Nat × va_E) (k : Nat), cs.length = is.length → hasN is k = true → cs[ixo is k]? = some (put is cs f k)
  | [], _, _, k, _, h => by cases h
  | i :: is, [], f, k, hl, h => by cases hl
  | i :: is, c :: cs, f, k, hl, h => by
    unfold hasN at h
    unfold ixo put
    cases e : Nat.beq k i with
    | true => rfl
    | false =>
      rw [e] at h
      exact put_get is cs f k (Nat.succ.inj hl) h
theorem put_ne : ∀ (is : List Nat) (cs : va_W) (f : Nat → Nat × va_E) (k : Nat), hasN is k = false → put is cs f k = f k
  | [], _, _, k, _ => rfl
  | i :: is, [], f, k, _ => rfl
  | i :: is, c :: cs, f, k, h => by
    unfold hasN at h
    unfold put
    cases e : Nat.beq k i with
    | true => rw [e] at h; cases h
    | false =>
      rw [e] at h
      exact put_ne is cs f k h
/-- the value put at a place -/
theorem put_pos : ∀ (n : Nat) (is : List Nat) (cs : va_W) (f : Nat → Nat × va_E) (k : Nat) (c : Nat × va_E), is[n]? = some k → cs[n]? = some c → hasN (is.take n) k = false → put is cs f k = c
  | _, [], _, _, k, c, h, _, _ => by simp at h
  | _, i :: is, [], _, k, c, _, h, _ => by simp at h
  | 0, i :: is, c' :: cs, f, k, c, h, h2, _ => by
    have e : i = k := by simpa using h
    have e2 : c' = c := by simpa using h2
    subst e; subst e2
    unfold put
    rw [Nat.beq_refl]; rfl
  | n + 1, i :: is, c' :: cs, f, k, c, h, h2, h3 => by
    have h' : is[n]? = some k := by simpa using h
    have h2' : cs[n]? = some c := by simpa using h2
    simp only [List.take_succ_cons] at h3
    unfold hasN at h3
    unfold put
    cases e : Nat.beq k i with
    | true => rw [e] at h3; cases h3
    | false =>
      rw [e] at h3
      exact put_pos n is cs f k c h' h2' h3
theorem Wd_get (f : Nat → Nat × va_E) {i : Nat} (h : i < 81) : (Wd f)[i]? = some (f i) := by
  unfold Wd
  rw [List.getElem?_map, List.getElem?_range h]; rfl
theorem Wd_map (f : Nat → Nat × va_E) : ∀ (is : List Nat), (∀ i ∈ is, i < 81) → is.map (fun i => (Wd f)[i]?) = (is.map f).map some
  | [], _ => rfl
  | i :: is, h => by
    show (Wd f)[i]? :: is.map (fun i => (Wd f)[i]?) = some (f i) :: (is.map f).map some
    rw [Wd_get f (h i (List.mem_cons_self ..)), Wd_map f is (fun j hj => h j (List.mem_cons_of_mem _ hj))]
theorem resid_mem {is : List Nat} {k : Nat} : k ∈ resid is ↔ k < 81 ∧ hasN is k = false := by
  unfold resid
  rw [List.mem_filter, List.mem_range, Bool.not_eq_true']
theorem pm_put (is : List Nat) (w1 : va_W) (f : Nat → Nat × va_E) (hl : w1.length = is.length) : (pmO is).map (fun i => ((resid is).map f ++ w1)[i]?) = (Wd (put is w1 f)).map some := by
  unfold pmO Wd
  rw [List.map_map, List.map_map]
  apply List.map_congr_left
  intro k hk
  have hk := List.mem_range.mp hk
  show ((resid is).map f ++ w1)[cond (hasN is k) ((resid is).length + ixo is k) (ixo (resid is) k)]? = some (put is w1 f k)
  cases e : hasN is k with
  | true =>
    show ((resid is).map f ++ w1)[(resid is).length + ixo is k]? = _
    rw [List.getElem?_append_right (by rw [List.length_map]; omega), List.length_map, Nat.add_sub_cancel_left]
    exact put_get is w1 f k hl e
  | false =>
    have h1 := ixo_get f (resid is) k ((hasN_iff _ _).mpr (resid_mem.mpr ⟨hk, e⟩))
    show ((resid is).map f ++ w1)[ixo (resid is) k]? = _
    rw [List.getElem?_append_left (List.getElem?_eq_some_iff.mp h1).1, h1, put_ne is w1 f k e]
theorem ce {α : Type} {a b : α} {as bs : List α} (h : a = b) (h2 : as = bs) : a :: as = b :: bs := by rw [h, h2]
theorem cVL2 {p : Program} {l : Launch} {e : Env} {R : Room} {s : State} {m : MethodId} {args : Array Value} {below : List Frame} {meth : Method} {c : Code} {H : Heap} {locs : List Loc} {Q : State → Prop} {D : va_G} {C : Nat → ClassId} {A : Nat → Prop} {own : String} {cc : ByteArray} {nL d pc : Nat} {ls : Array Slot} {rest : List Value} {f : Nat → Nat × va_E} {cells slots : Nat}
    {y : MethodName} {bytes : ByteArray} {nL' d' index ci : Nat} {ret : Option FieldType} {b : Addr} {As st0 : List Value} (st2 : List Value) {wc w1 : va_W} {ov : Option Value} {T : u_T} {N : Nat} {fs : List Value} (cx : CX p m c s args own cc nL D C A R d) (hc : Ct l y bytes nL' ret d' D C (.ref b :: As) wc w1 ov)
    (hlk : Cond.methodLink own index y ∈ gdt) (hy : (y.cls ≠ "java/lang/invoke/MethodHandle" ∧ y.cls ≠ "java/lang/invoke/VarHandle") ∧ Cond.instanceMethod y ∈ gdt ∧ Cond.selects y.cls y y ∈ gdt ∧ Cond.initialized y.cls ∈ gdt ∧ Cond.code y bytes nL' ret ∈ gdt) (hlen : (parseMethodDescriptor y.desc).map (fun d => d.parameters.length) = some As.length)
    (hd : d' + 1 ≤ d ∧ nL' ≤ 21) (hw : HW D A s.heap H locs (Wd f)) (is : List Nat) (hC : is.map f = wc) (hq : okS is = true) (hl1 : w1.length = is.length)
    (hb : wc[0]? = some (b, .inr (ci, fs))) (hci : vwCl[ci]? = some (y.cls, T, N)) (hst : st0 = As.reverse ++ .ref b :: rest) (hcat : (rest.map fun v => v.category).sum ≤ 8) (hdg : decode cc pc = .ok (.invokevirtual index, 3)) (hs2 : ov.toList ++ rest = st2)
    (kk : ∀ (H1 : Heap) (locs1 : List Loc), HW D A s.heap H1 locs1 (Wd (put is w1 f)) → W p l e R s m args below meth c H1 locs1 cells slots Q (F0 m (pc + 3) ls st2)) (hls : ls.size = nL) (hf : cells ≤ R.cells ∧ slots ≤ R.slots) : W p l e R s m args below meth c H locs cells slots Q (F0 m pc ls st0) := by
  unfold okS at hq
  rw [Bool.and_eq_true] at hq
  have h81 : ∀ i ∈ is, i < 81 := fun i hi => by
    have := List.all_eq_true.mp hq.2 i hi
    exact Nat.le_of_ble_eq_true this
  exact cVL (wr := (resid is).map f) (w2 := Wd (put is w1 f)) cx hc hlk hy hlen hd hw is (resid is) (pmO is) (by rw [Wd_map f is h81, hC]) (Wd_map f _ (fun i hi => (resid_mem.mp hi).1)) hq.1 (pm_put is w1 f hl1) hb hci hst hcat hdg hs2 kk hls hf
/-- the law's cells -/
def LF (C : Nat → ClassId) (ad : Nat → Nat) (tp : Nat → Option Nat) (f : Nat → Nat × va_E) (vi : Nat → Int32) (va : Nat → Nat → Int32) (vl : Int64) (vj : Nat → Int64) (ti : Nat → Nat → Int64) : Prop :=
  f 0 = ((ad 0), .inr (8, [.ref (ad 1), .ref (ad 15), .int (vi 0), .ref (ad 29), .ref (ad 32), .ref (ad 36), .ref (ad 44), .ref (ad 46)])) ∧ f 1 = ((ad 1), .inr (0, [.int (vi 1), .ref (ad 2), .ref (ad 5), .ref (ad 7), .ref (ad 9), .ref (ad 11), .ref (ad 13)])) ∧ f 2 = ((ad 2), .inr (2, [.ref (ad 3), .ref (ad 4), .int (vi 2)])) ∧ f 3 = ((ad 3), .inl (C 0, 36, .inl (va 0))) ∧ f 4 = ((ad 4), .inl (C 0, 36, .inl (va 1))) ∧ f 5 = ((ad 5), .inr (1, [.ref (ad 6)])) ∧ f 6 = ((ad 6), .inl (C 2, 36, .inl (va 2))) ∧ f 7 = ((ad 7), .inr (5, [.ref (ad 8), .int 40, .int (vi 3)])) ∧ f 8 = ((ad 8), .inl (C 0, 120, .inl (va 3))) ∧ f 9 = ((ad 9), .inr (5, [.ref (ad 10), .int 5, .int (vi 4)])) ∧ f 10 = ((ad 10), .inl (C 0, 15, .inl (va 4))) ∧ f 11 = ((ad 11), .inr (5, [.ref (ad 12), .int 8, .int (vi 5)])) ∧ f 12 = ((ad 12), .inl (C 0, 24, .inl (va 5))) ∧ f 13 = ((ad 13), .inr (5, [.ref (ad 14), .int 8, .int (vi 6)])) ∧ f 14 = ((ad 14), .inl (C 0, 24, .inl (va 6))) ∧ f 15 = ((ad 15), .inr (0, [.int (vi 7), .ref (ad 16), .ref (ad 19), .ref (ad 21), .ref (ad 23), .ref (ad 25), .ref (ad 27)])) ∧ f 16 = ((ad 16), .inr (2, [.ref (ad 17), .ref (ad 18), .int (vi 8)])) ∧ f 17 = ((ad 17), .inl (C 0, 36, .inl (va 7))) ∧ f 18 = ((ad 18), .inl (C 0, 36, .inl (va 8))) ∧ f 19 = ((ad 19), .inr (1, [.ref (ad 20)])) ∧ f 20 = ((ad 20), .inl (C 2, 36, .inl (va 9))) ∧ f 21 = ((ad 21), .inr (5, [.ref (ad 22), .int 40, .int (vi 9)])) ∧ f 22 = ((ad 22), .inl (C 0, 120, .inl (va 10))) ∧ f 23 = ((ad 23), .inr (5, [.ref (ad 24), .int 5, .int (vi 10)])) ∧ f 24 = ((ad 24), .inl (C 0, 15, .inl (va 11))) ∧ f 25 = ((ad 25), .inr (5, [.ref (ad 26), .int 8, .int (vi 11)])) ∧ f 26 = ((ad 26), .inl (C 0, 24, .inl (va 12))) ∧ f 27 = ((ad 27), .inr (5, [.ref (ad 28), .int 8, .int (vi 12)])) ∧ f 28 = ((ad 28), .inl (C 0, 24, .inl (va 13))) ∧ f 29 = ((ad 29), .inr (2, [.ref (ad 30), .ref (ad 31), .int (vi 13)])) ∧ f 30 = ((ad 30), .inl (C 0, 36, .inl (va 14))) ∧ f 31 = ((ad 31), .inl (C 0, 36, .inl (va 15))) ∧ f 32 = ((ad 32), .inr (4, [.ref (ad 33), .ref (ad 34), .ref (ad 35), .int (vi 14), .int (vi 15), .int (vi 16), .int (vi 17)])) ∧ f 33 = ((ad 33), .inl (C 0, 36, .inl (va 16))) ∧ f 34 = ((ad 34), .inl (C 0, 6, .inl (va 17))) ∧ f 35 = ((ad 35), .inl (C 0, 6, .inl (va 18))) ∧ f 36 = ((ad 36), .inr (3, [.ref (ad 37), .ref (ad 38), .ref (ad 39), .ref (ad 40), .ref (ad 41), .int (vi 18), .ref (ad 42)])) ∧ f 37 = ((ad 37), .inl (C 0, 6, .inl (va 19))) ∧ f 38 = ((ad 38), .inl (C 0, 6, .inl (va 20))) ∧ f 39 = ((ad 39), .inl (C 0, 64, .inl (va 21))) ∧ f 40 = ((ad 40), .inl (C 0, 64, .inl (va 22))) ∧ f 41 = ((ad 41), .inl (C 0, 6, .inl (va 23))) ∧ f 42 = ((ad 42), .inr (5, [.ref (ad 43), .int 6, .int (vi 19)])) ∧ f 43 = ((ad 43), .inl (C 0, 18, .inl (va 24))) ∧ f 44 = ((ad 44), .inr (7, [.ref (ad 45), .int (vi 20)])) ∧ f 45 = ((ad 45), .inl (C 3, 100, .inl (va 25))) ∧ f 46 = ((ad 46), .inl (C 4, 6, .inr (.inr (.inr (.inr tp))))) ∧ (∀ k, k < 6 → f (47 + 2 * k) = (ad (47 + 2 * k), .inr (6, [.int ((va 46) k), .int ((va 47) k), .ref (ad (48 + 2 * k))])) ∧ f (48 + 2 * k) = (ad (48 + 2 * k), .inl (C 1, 60, .inr (.inl (ti k))))) ∧ f 59 = ((ad 59), .inr (9, [.int (vi 21), .ref (ad 60), .ref (ad 61), .int (vi 22), .ref (ad 62), .int (vi 23), .ref (ad 63), .int (vi 24), .ref (ad 64), .int (vi 25), .ref (ad 65), .int (vi 26), .ref (ad 66), .int (vi 27), .ref (ad 67), .ref (ad 68), .int (vi 28), .int (vi 29), .int (vi 30), .int (vi 31), .long vl, .ref (ad 69), .ref (ad 70), .ref (ad 71), .ref (ad 72), .ref (ad 73), .int (vi 32), .ref (ad 74), .int (vi 33), .ref (ad 75), .ref (ad 76), .int (vi 34), .ref (ad 77), .ref (ad 78), .ref (ad 79), .ref (ad 80)])) ∧ f 60 = ((ad 60), .inl (C 0, 36, .inl (va 26))) ∧ f 61 = ((ad 61), .inl (C 0, 36, .inl (va 27))) ∧ f 62 = ((ad 62), .inl (C 0, 30, .inl (va 28))) ∧ f 63 = ((ad 63), .inl (C 0, 120, .inl (va 29))) ∧ f 64 = ((ad 64), .inl (C 0, 15, .inl (va 30))) ∧ f 65 = ((ad 65), .inl (C 0, 16, .inl (va 31))) ∧ f 66 = ((ad 66), .inl (C 0, 24, .inl (va 32))) ∧ f 67 = ((ad 67), .inl (C 0, 100, .inl (va 33))) ∧ f 68 = ((ad 68), .inl (C 0, 6, .inl (va 34))) ∧ f 69 = ((ad 69), .inl (C 0, 6, .inl (va 35))) ∧ f 70 = ((ad 70), .inl (C 0, 6, .inl (va 36))) ∧ f 71 = ((ad 71), .inl (C 0, 6, .inl (va 37))) ∧ f 72 = ((ad 72), .inl (C 0, 64, .inl (va 38))) ∧ f 73 = ((ad 73), .inl (C 0, 64, .inl (va 39))) ∧ f 74 = ((ad 74), .inl (C 0, 3, .inl (va 40))) ∧ f 75 = ((ad 75), .inl (C 0, 30, .inl (va 41))) ∧ f 76 = ((ad 76), .inl (C 0, 67, .inl (va 42))) ∧ f 77 = ((ad 77), .inl (C 0, 284, .inl (va 43))) ∧ f 78 = ((ad 78), .inl (C 0, 6, .inl (va 44))) ∧ f 79 = ((ad 79), .inl (C 0, 6, .inl (va 45))) ∧ f 80 = ((ad 80), .inl (C 1, 360, .inr (.inl vj)))
theorem lf_h0 {C : Nat → ClassId} {ad : Nat → Nat} {tp : Nat → Option Nat} {f : Nat → Nat × va_E} {vi : Nat → Int32} {va : Nat → Nat → Int32} {vl : Int64} {vj : Nat → Int64} {ti : Nat → Nat → Int64} (F : LF C ad tp f vi va vl vj ti) : f 0 = ((ad 0), .inr (8, [.ref (ad 1), .ref (ad 15), .int (vi 0), .ref (ad 29), .ref (ad 32), .ref (ad 36), .ref (ad 44), .ref (ad 46)])) := F.1
theorem lf_h1 {C : Nat → ClassId} {ad : Nat → Nat} {tp : Nat → Option Nat} {f : Nat → Nat × va_E} {vi : Nat → Int32} {va : Nat → Nat → Int32} {vl : Int64} {vj : Nat → Int64} {ti : Nat → Nat → Int64} (F : LF C ad tp f vi va vl vj ti) : f 1 = ((ad 1), .inr (0, [.int (vi 1), .ref (ad 2), .ref (ad 5), .ref (ad 7), .ref (ad 9), .ref (ad 11), .ref (ad 13)])) := F.2.1
theorem lf_h2 {C : Nat → ClassId} {ad : Nat → Nat} {tp : Nat → Option Nat} {f : Nat → Nat × va_E} {vi : Nat → Int32} {va : Nat → Nat → Int32} {vl : Int64} {vj : Nat → Int64} {ti : Nat → Nat → Int64} (F : LF C ad tp f vi va vl vj ti) : f 2 = ((ad 2), .inr (2, [.ref (ad 3), .ref (ad 4), .int (vi 2)])) := F.2.2.1
theorem lf_h3 {C : Nat → ClassId} {ad : Nat → Nat} {tp : Nat → Option Nat} {f : Nat → Nat × va_E} {vi : Nat → Int32} {va : Nat → Nat → Int32} {vl : Int64} {vj : Nat → Int64} {ti : Nat → Nat → Int64} (F : LF C ad tp f vi va vl vj ti) : f 3 = ((ad 3), .inl (C 0, 36, .inl (va 0))) := F.2.2.2.1
theorem lf_h4 {C : Nat → ClassId} {ad : Nat → Nat} {tp : Nat → Option Nat} {f : Nat → Nat × va_E} {vi : Nat → Int32} {va : Nat → Nat → Int32} {vl : Int64} {vj : Nat → Int64} {ti : Nat → Nat → Int64} (F : LF C ad tp f vi va vl vj ti) : f 4 = ((ad 4), .inl (C 0, 36, .inl (va 1))) := F.2.2.2.2.1
theorem lf_h5 {C : Nat → ClassId} {ad : Nat → Nat} {tp : Nat → Option Nat} {f : Nat → Nat × va_E} {vi : Nat → Int32} {va : Nat → Nat → Int32} {vl : Int64} {vj : Nat → Int64} {ti : Nat → Nat → Int64} (F : LF C ad tp f vi va vl vj ti) : f 5 = ((ad 5), .inr (1, [.ref (ad 6)])) := F.2.2.2.2.2.1
theorem lf_h6 {C : Nat → ClassId} {ad : Nat → Nat} {tp : Nat → Option Nat} {f : Nat → Nat × va_E} {vi : Nat → Int32} {va : Nat → Nat → Int32} {vl : Int64} {vj : Nat → Int64} {ti : Nat → Nat → Int64} (F : LF C ad tp f vi va vl vj ti) : f 6 = ((ad 6), .inl (C 2, 36, .inl (va 2))) := F.2.2.2.2.2.2.1
theorem lf_h7 {C : Nat → ClassId} {ad : Nat → Nat} {tp : Nat → Option Nat} {f : Nat → Nat × va_E} {vi : Nat → Int32} {va : Nat → Nat → Int32} {vl : Int64} {vj : Nat → Int64} {ti : Nat → Nat → Int64} (F : LF C ad tp f vi va vl vj ti) : f 7 = ((ad 7), .inr (5, [.ref (ad 8), .int 40, .int (vi 3)])) := F.2.2.2.2.2.2.2.1
theorem lf_h8 {C : Nat → ClassId} {ad : Nat → Nat} {tp : Nat → Option Nat} {f : Nat → Nat × va_E} {vi : Nat → Int32} {va : Nat → Nat → Int32} {vl : Int64} {vj : Nat → Int64} {ti : Nat → Nat → Int64} (F : LF C ad tp f vi va vl vj ti) : f 8 = ((ad 8), .inl (C 0, 120, .inl (va 3))) := F.2.2.2.2.2.2.2.2.1
theorem lf_h9 {C : Nat → ClassId} {ad : Nat → Nat} {tp : Nat → Option Nat} {f : Nat → Nat × va_E} {vi : Nat → Int32} {va : Nat → Nat → Int32} {vl : Int64} {vj : Nat → Int64} {ti : Nat → Nat → Int64} (F : LF C ad tp f vi va vl vj ti) : f 9 = ((ad 9), .inr (5, [.ref (ad 10), .int 5, .int (vi 4)])) := F.2.2.2.2.2.2.2.2.2.1
theorem lf_h10 {C : Nat → ClassId} {ad : Nat → Nat} {tp : Nat → Option Nat} {f : Nat → Nat × va_E} {vi : Nat → Int32} {va : Nat → Nat → Int32} {vl : Int64} {vj : Nat → Int64} {ti : Nat → Nat → Int64} (F : LF C ad tp f vi va vl vj ti) : f 10 = ((ad 10), .inl (C 0, 15, .inl (va 4))) := F.2.2.2.2.2.2.2.2.2.2.1
theorem lf_h11 {C : Nat → ClassId} {ad : Nat → Nat} {tp : Nat → Option Nat} {f : Nat → Nat × va_E} {vi : Nat → Int32} {va : Nat → Nat → Int32} {vl : Int64} {vj : Nat → Int64} {ti : Nat → Nat → Int64} (F : LF C ad tp f vi va vl vj ti) : f 11 = ((ad 11), .inr (5, [.ref (ad 12), .int 8, .int (vi 5)])) := F.2.2.2.2.2.2.2.2.2.2.2.1
theorem lf_h12 {C : Nat → ClassId} {ad : Nat → Nat} {tp : Nat → Option Nat} {f : Nat → Nat × va_E} {vi : Nat → Int32} {va : Nat → Nat → Int32} {vl : Int64} {vj : Nat → Int64} {ti : Nat → Nat → Int64} (F : LF C ad tp f vi va vl vj ti) : f 12 = ((ad 12), .inl (C 0, 24, .inl (va 5))) := F.2.2.2.2.2.2.2.2.2.2.2.2.1
theorem lf_h13 {C : Nat → ClassId} {ad : Nat → Nat} {tp : Nat → Option Nat} {f : Nat → Nat × va_E} {vi : Nat → Int32} {va : Nat → Nat → Int32} {vl : Int64} {vj : Nat → Int64} {ti : Nat → Nat → Int64} (F : LF C ad tp f vi va vl vj ti) : f 13 = ((ad 13), .inr (5, [.ref (ad 14), .int 8, .int (vi 6)])) := F.2.2.2.2.2.2.2.2.2.2.2.2.2.1
theorem lf_h14 {C : Nat → ClassId} {ad : Nat → Nat} {tp : Nat → Option Nat} {f : Nat → Nat × va_E} {vi : Nat → Int32} {va : Nat → Nat → Int32} {vl : Int64} {vj : Nat → Int64} {ti : Nat → Nat → Int64} (F : LF C ad tp f vi va vl vj ti) : f 14 = ((ad 14), .inl (C 0, 24, .inl (va 6))) := F.2.2.2.2.2.2.2.2.2.2.2.2.2.2.1
theorem lf_h15 {C : Nat → ClassId} {ad : Nat → Nat} {tp : Nat → Option Nat} {f : Nat → Nat × va_E} {vi : Nat → Int32} {va : Nat → Nat → Int32} {vl : Int64} {vj : Nat → Int64} {ti : Nat → Nat → Int64} (F : LF C ad tp f vi va vl vj ti) : f 15 = ((ad 15), .inr (0, [.int (vi 7), .ref (ad 16), .ref (ad 19), .ref (ad 21), .ref (ad 23), .ref (ad 25), .ref (ad 27)])) := F.2.2.2.2.2.2.2.2.2.2.2.2.2.2.2.1
theorem lf_h16 {C : Nat → ClassId} {ad : Nat → Nat} {tp : Nat → Option Nat} {f : Nat → Nat × va_E} {vi : Nat → Int32} {va : Nat → Nat → Int32} {vl : Int64} {vj : Nat → Int64} {ti : Nat → Nat → Int64} (F : LF C ad tp f vi va vl vj ti) : f 16 = ((ad 16), .inr (2, [.ref (ad 17), .ref (ad 18), .int (vi 8)])) := F.2.2.2.2.2.2.2.2.2.2.2.2.2.2.2.2.1
theorem lf_h17 {C : Nat → ClassId} {ad : Nat → Nat} {tp : Nat → Option Nat} {f : Nat → Nat × va_E} {vi : Nat → Int32} {va : Nat → Nat → Int32} {vl : Int64} {vj : Nat → Int64} {ti : Nat → Nat → Int64} (F : LF C ad tp f vi va vl vj ti) : f 17 = ((ad 17), .inl (C 0, 36, .inl (va 7))) := F.2.2.2.2.2.2.2.2.2.2.2.2.2.2.2.2.2.1
theorem lf_h18 {C : Nat → ClassId} {ad : Nat → Nat} {tp : Nat → Option Nat} {f : Nat → Nat × va_E} {vi : Nat → Int32} {va : Nat → Nat → Int32} {vl : Int64} {vj : Nat → Int64} {ti : Nat → Nat → Int64} (F : LF C ad tp f vi va vl vj ti) : f 18 = ((ad 18), .inl (C 0, 36, .inl (va 8))) := F.2.2.2.2.2.2.2.2.2.2.2.2.2.2.2.2.2.2.1
theorem lf_h19 {C : Nat → ClassId} {ad : Nat → Nat} {tp : Nat → Option Nat} {f : Nat → Nat × va_E} {vi : Nat → Int32} {va : Nat → Nat → Int32} {vl : Int64} {vj : Nat → Int64} {ti : Nat → Nat → Int64} (F : LF C ad tp f vi va vl vj ti) : f 19 = ((ad 19), .inr (1, [.ref (ad 20)])) := F.2.2.2.2.2.2.2.2.2.2.2.2.2.2.2.2.2.2.2.1
theorem lf_h20 {C : Nat → ClassId} {ad : Nat → Nat} {tp : Nat → Option Nat} {f : Nat → Nat × va_E} {vi : Nat → Int32} {va : Nat → Nat → Int32} {vl : Int64} {vj : Nat → Int64} {ti : Nat → Nat → Int64} (F : LF C ad tp f vi va vl vj ti) : f 20 = ((ad 20), .inl (C 2, 36, .inl (va 9))) := F.2.2.2.2.2.2.2.2.2.2.2.2.2.2.2.2.2.2.2.2.1
theorem lf_h21 {C : Nat → ClassId} {ad : Nat → Nat} {tp : Nat → Option Nat} {f : Nat → Nat × va_E} {vi : Nat → Int32} {va : Nat → Nat → Int32} {vl : Int64} {vj : Nat → Int64} {ti : Nat → Nat → Int64} (F : LF C ad tp f vi va vl vj ti) : f 21 = ((ad 21), .inr (5, [.ref (ad 22), .int 40, .int (vi 9)])) := F.2.2.2.2.2.2.2.2.2.2.2.2.2.2.2.2.2.2.2.2.2.1
theorem lf_h22 {C : Nat → ClassId} {ad : Nat → Nat} {tp : Nat → Option Nat} {f : Nat → Nat × va_E} {vi : Nat → Int32} {va : Nat → Nat → Int32} {vl : Int64} {vj : Nat → Int64} {ti : Nat → Nat → Int64} (F : LF C ad tp f vi va vl vj ti) : f 22 = ((ad 22), .inl (C 0, 120, .inl (va 10))) := F.2.2.2.2.2.2.2.2.2.2.2.2.2.2.2.2.2.2.2.2.2.2.1
theorem lf_h23 {C : Nat → ClassId} {ad : Nat → Nat} {tp : Nat → Option Nat} {f : Nat → Nat × va_E} {vi : Nat → Int32} {va : Nat → Nat → Int32} {vl : Int64} {vj : Nat → Int64} {ti : Nat → Nat → Int64} (F : LF C ad tp f vi va vl vj ti) : f 23 = ((ad 23), .inr (5, [.ref (ad 24), .int 5, .int (vi 10)])) := F.2.2.2.2.2.2.2.2.2.2.2.2.2.2.2.2.2.2.2.2.2.2.2.1
theorem lf_h24 {C : Nat → ClassId} {ad : Nat → Nat} {tp : Nat → Option Nat} {f : Nat → Nat × va_E} {vi : Nat → Int32} {va : Nat → Nat → Int32} {vl : Int64} {vj : Nat → Int64} {ti : Nat → Nat → Int64} (F : LF C ad tp f vi va vl vj ti) : f 24 = ((ad 24), .inl (C 0, 15, .inl (va 11))) := F.2.2.2.2.2.2.2.2.2.2.2.2.2.2.2.2.2.2.2.2.2.2.2.2.1
theorem lf_h25 {C : Nat → ClassId} {ad : Nat → Nat} {tp : Nat → Option Nat} {f : Nat → Nat × va_E} {vi : Nat → Int32} {va : Nat → Nat → Int32} {vl : Int64} {vj : Nat → Int64} {ti : Nat → Nat → Int64} (F : LF C ad tp f vi va vl vj ti) : f 25 = ((ad 25), .inr (5, [.ref (ad 26), .int 8, .int (vi 11)])) := F.2.2.2.2.2.2.2.2.2.2.2.2.2.2.2.2.2.2.2.2.2.2.2.2.2.1
theorem lf_h26 {C : Nat → ClassId} {ad : Nat → Nat} {tp : Nat → Option Nat} {f : Nat → Nat × va_E} {vi : Nat → Int32} {va : Nat → Nat → Int32} {vl : Int64} {vj : Nat → Int64} {ti : Nat → Nat → Int64} (F : LF C ad tp f vi va vl vj ti) : f 26 = ((ad 26), .inl (C 0, 24, .inl (va 12))) := F.2.2.2.2.2.2.2.2.2.2.2.2.2.2.2.2.2.2.2.2.2.2.2.2.2.2.1
theorem lf_h27 {C : Nat → ClassId} {ad : Nat → Nat} {tp : Nat → Option Nat} {f : Nat → Nat × va_E} {vi : Nat → Int32} {va : Nat → Nat → Int32} {vl : Int64} {vj : Nat → Int64} {ti : Nat → Nat → Int64} (F : LF C ad tp f vi va vl vj ti) : f 27 = ((ad 27), .inr (5, [.ref (ad 28), .int 8, .int (vi 12)])) := F.2.2.2.2.2.2.2.2.2.2.2.2.2.2.2.2.2.2.2.2.2.2.2.2.2.2.2.1
theorem lf_h28 {C : Nat → ClassId} {ad : Nat → Nat} {tp : Nat → Option Nat} {f : Nat → Nat × va_E} {vi : Nat → Int32} {va : Nat → Nat → Int32} {vl : Int64} {vj : Nat → Int64} {ti : Nat → Nat → Int64} (F : LF C ad tp f vi va vl vj ti) : f 28 = ((ad 28), .inl (C 0, 24, .inl (va 13))) := F.2.2.2.2.2.2.2.2.2.2.2.2.2.2.2.2.2.2.2.2.2.2.2.2.2.2.2.2.1
theorem lf_h29 {C : Nat → ClassId} {ad : Nat → Nat} {tp : Nat → Option Nat} {f : Nat → Nat × va_E} {vi : Nat → Int32} {va : Nat → Nat → Int32} {vl : Int64} {vj : Nat → Int64} {ti : Nat → Nat → Int64} (F : LF C ad tp f vi va vl vj ti) : f 29 = ((ad 29), .inr (2, [.ref (ad 30), .ref (ad 31), .int (vi 13)])) := F.2.2.2.2.2.2.2.2.2.2.2.2.2.2.2.2.2.2.2.2.2.2.2.2.2.2.2.2.2.1
theorem lf_h30 {C : Nat → ClassId} {ad : Nat → Nat} {tp : Nat → Option Nat} {f : Nat → Nat × va_E} {vi : Nat → Int32} {va : Nat → Nat → Int32} {vl : Int64} {vj : Nat → Int64} {ti : Nat → Nat → Int64} (F : LF C ad tp f vi va vl vj ti) : f 30 = ((ad 30), .inl (C 0, 36, .inl (va 14))) := F.2.2.2.2.2.2.2.2.2.2.2.2.2.2.2.2.2.2.2.2.2.2.2.2.2.2.2.2.2.2.1
theorem lf_h31 {C : Nat → ClassId} {ad : Nat → Nat} {tp : Nat → Option Nat} {f : Nat → Nat × va_E} {vi : Nat → Int32} {va : Nat → Nat → Int32} {vl : Int64} {vj : Nat → Int64} {ti : Nat → Nat → Int64} (F : LF C ad tp f vi va vl vj ti) : f 31 = ((ad 31), .inl (C 0, 36, .inl (va 15))) := F.2.2.2.2.2.2.2.2.2.2.2.2.2.2.2.2.2.2.2.2.2.2.2.2.2.2.2.2.2.2.2.1
theorem lf_h32 {C : Nat → ClassId} {ad : Nat → Nat} {tp : Nat → Option Nat} {f : Nat → Nat × va_E} {vi : Nat → Int32} {va : Nat → Nat → Int32} {vl : Int64} {vj : Nat → Int64} {ti : Nat → Nat → Int64} (F : LF C ad tp f vi va vl vj ti) : f 32 = ((ad 32), .inr (4, [.ref (ad 33), .ref (ad 34), .ref (ad 35), .int (vi 14), .int (vi 15), .int (vi 16), .int (vi 17)])) := F.2.2.2.2.2.2.2.2.2.2.2.2.2.2.2.2.2.2.2.2.2.2.2.2.2.2.2.2.2.2.2.2.1
theorem lf_h33 {C : Nat → ClassId} {ad : Nat → Nat} {tp : Nat → Option Nat} {f : Nat → Nat × va_E} {vi : Nat → Int32} {va : Nat → Nat → Int32} {vl : Int64} {vj : Nat → Int64} {ti : Nat → Nat → Int64} (F : LF C ad tp f vi va vl vj ti) : f 33 = ((ad 33), .inl (C 0, 36, .inl (va 16))) := F.2.2.2.2.2.2.2.2.2.2.2.2.2.2.2.2.2.2.2.2.2.2.2.2.2.2.2.2.2.2.2.2.2.1
theorem lf_h34 {C : Nat → ClassId} {ad : Nat → Nat} {tp : Nat → Option Nat} {f : Nat → Nat × va_E} {vi : Nat → Int32} {va : Nat → Nat → Int32} {vl : Int64} {vj : Nat → Int64} {ti : Nat → Nat → Int64} (F : LF C ad tp f vi va vl vj ti) : f 34 = ((ad 34), .inl (C 0, 6, .inl (va 17))) := F.2.2.2.2.2.2.2.2.2.2.2.2.2.2.2.2.2.2.2.2.2.2.2.2.2.2.2.2.2.2.2.2.2.2.1
theorem lf_h35 {C : Nat → ClassId} {ad : Nat → Nat} {tp : Nat → Option Nat} {f : Nat → Nat × va_E} {vi : Nat → Int32} {va : Nat → Nat → Int32} {vl : Int64} {vj : Nat → Int64} {ti : Nat → Nat → Int64} (F : LF C ad tp f vi va vl vj ti) : f 35 = ((ad 35), .inl (C 0, 6, .inl (va 18))) := F.2.2.2.2.2.2.2.2.2.2.2.2.2.2.2.2.2.2.2.2.2.2.2.2.2.2.2.2.2.2.2.2.2.2.2.1
theorem lf_h36 {C : Nat → ClassId} {ad : Nat → Nat} {tp : Nat → Option Nat} {f : Nat → Nat × va_E} {vi : Nat → Int32} {va : Nat → Nat → Int32} {vl : Int64} {vj : Nat → Int64} {ti : Nat → Nat → Int64} (F : LF C ad tp f vi va vl vj ti) : f 36 = ((ad 36), .inr (3, [.ref (ad 37), .ref (ad 38), .ref (ad 39), .ref (ad 40), .ref (ad 41), .int (vi 18), .ref (ad 42)])) := F.2.2.2.2.2.2.2.2.2.2.2.2.2.2.2.2.2.2.2.2.2.2.2.2.2.2.2.2.2.2.2.2.2.2.2.2.1
theorem lf_h37 {C : Nat → ClassId} {ad : Nat → Nat} {tp : Nat → Option Nat} {f : Nat → Nat × va_E} {vi : Nat → Int32} {va : Nat → Nat → Int32} {vl : Int64} {vj : Nat → Int64} {ti : Nat → Nat → Int64} (F : LF C ad tp f vi va vl vj ti) : f 37 = ((ad 37), .inl (C 0, 6, .inl (va 19))) := F.2.2.2.2.2.2.2.2.2.2.2.2.2.2.2.2.2.2.2.2.2.2.2.2.2.2.2.2.2.2.2.2.2.2.2.2.2.1
theorem lf_h38 {C : Nat → ClassId} {ad : Nat → Nat} {tp : Nat → Option Nat} {f : Nat → Nat × va_E} {vi : Nat → Int32} {va : Nat → Nat → Int32} {vl : Int64} {vj : Nat → Int64} {ti : Nat → Nat → Int64} (F : LF C ad tp f vi va vl vj ti) : f 38 = ((ad 38), .inl (C 0, 6, .inl (va 20))) := F.2.2.2.2.2.2.2.2.2.2.2.2.2.2.2.2.2.2.2.2.2.2.2.2.2.2.2.2.2.2.2.2.2.2.2.2.2.2.1
theorem lf_h39 {C : Nat → ClassId} {ad : Nat → Nat} {tp : Nat → Option Nat} {f : Nat → Nat × va_E} {vi : Nat → Int32} {va : Nat → Nat → Int32} {vl : Int64} {vj : Nat → Int64} {ti : Nat → Nat → Int64} (F : LF C ad tp f vi va vl vj ti) : f 39 = ((ad 39), .inl (C 0, 64, .inl (va 21))) := F.2.2.2.2.2.2.2.2.2.2.2.2.2.2.2.2.2.2.2.2.2.2.2.2.2.2.2.2.2.2.2.2.2.2.2.2.2.2.2.1
theorem lf_h40 {C : Nat → ClassId} {ad : Nat → Nat} {tp : Nat → Option Nat} {f : Nat → Nat × va_E} {vi : Nat → Int32} {va : Nat → Nat → Int32} {vl : Int64} {vj : Nat → Int64} {ti : Nat → Nat → Int64} (F : LF C ad tp f vi va vl vj ti) : f 40 = ((ad 40), .inl (C 0, 64, .inl (va 22))) := F.2.2.2.2.2.2.2.2.2.2.2.2.2.2.2.2.2.2.2.2.2.2.2.2.2.2.2.2.2.2.2.2.2.2.2.2.2.2.2.2.1
theorem lf_h41 {C : Nat → ClassId} {ad : Nat → Nat} {tp : Nat → Option Nat} {f : Nat → Nat × va_E} {vi : Nat → Int32} {va : Nat → Nat → Int32} {vl : Int64} {vj : Nat → Int64} {ti : Nat → Nat → Int64} (F : LF C ad tp f vi va vl vj ti) : f 41 = ((ad 41), .inl (C 0, 6, .inl (va 23))) := F.2.2.2.2.2.2.2.2.2.2.2.2.2.2.2.2.2.2.2.2.2.2.2.2.2.2.2.2.2.2.2.2.2.2.2.2.2.2.2.2.2.1
theorem lf_h42 {C : Nat → ClassId} {ad : Nat → Nat} {tp : Nat → Option Nat} {f : Nat → Nat × va_E} {vi : Nat → Int32} {va : Nat → Nat → Int32} {vl : Int64} {vj : Nat → Int64} {ti : Nat → Nat → Int64} (F : LF C ad tp f vi va vl vj ti) : f 42 = ((ad 42), .inr (5, [.ref (ad 43), .int 6, .int (vi 19)])) := F.2.2.2.2.2.2.2.2.2.2.2.2.2.2.2.2.2.2.2.2.2.2.2.2.2.2.2.2.2.2.2.2.2.2.2.2.2.2.2.2.2.2.1
theorem lf_h43 {C : Nat → ClassId} {ad : Nat → Nat} {tp : Nat → Option Nat} {f : Nat → Nat × va_E} {vi : Nat → Int32} {va : Nat → Nat → Int32} {vl : Int64} {vj : Nat → Int64} {ti : Nat → Nat → Int64} (F : LF C ad tp f vi va vl vj ti) : f 43 = ((ad 43), .inl (C 0, 18, .inl (va 24))) := F.2.2.2.2.2.2.2.2.2.2.2.2.2.2.2.2.2.2.2.2.2.2.2.2.2.2.2.2.2.2.2.2.2.2.2.2.2.2.2.2.2.2.2.1
theorem lf_h44 {C : Nat → ClassId} {ad : Nat → Nat} {tp : Nat → Option Nat} {f : Nat → Nat × va_E} {vi : Nat → Int32} {va : Nat → Nat → Int32} {vl : Int64} {vj : Nat → Int64} {ti : Nat → Nat → Int64} (F : LF C ad tp f vi va vl vj ti) : f 44 = ((ad 44), .inr (7, [.ref (ad 45), .int (vi 20)])) := F.2.2.2.2.2.2.2.2.2.2.2.2.2.2.2.2.2.2.2.2.2.2.2.2.2.2.2.2.2.2.2.2.2.2.2.2.2.2.2.2.2.2.2.2.1
theorem lf_h45 {C : Nat → ClassId} {ad : Nat → Nat} {tp : Nat → Option Nat} {f : Nat → Nat × va_E} {vi : Nat → Int32} {va : Nat → Nat → Int32} {vl : Int64} {vj : Nat → Int64} {ti : Nat → Nat → Int64} (F : LF C ad tp f vi va vl vj ti) : f 45 = ((ad 45), .inl (C 3, 100, .inl (va 25))) := F.2.2.2.2.2.2.2.2.2.2.2.2.2.2.2.2.2.2.2.2.2.2.2.2.2.2.2.2.2.2.2.2.2.2.2.2.2.2.2.2.2.2.2.2.2.1
theorem lf_h46 {C : Nat → ClassId} {ad : Nat → Nat} {tp : Nat → Option Nat} {f : Nat → Nat × va_E} {vi : Nat → Int32} {va : Nat → Nat → Int32} {vl : Int64} {vj : Nat → Int64} {ti : Nat → Nat → Int64} (F : LF C ad tp f vi va vl vj ti) : f 46 = ((ad 46), .inl (C 4, 6, .inr (.inr (.inr (.inr tp))))) := F.2.2.2.2.2.2.2.2.2.2.2.2.2.2.2.2.2.2.2.2.2.2.2.2.2.2.2.2.2.2.2.2.2.2.2.2.2.2.2.2.2.2.2.2.2.2.1
theorem lf_hT {C : Nat → ClassId} {ad : Nat → Nat} {tp : Nat → Option Nat} {f : Nat → Nat × va_E} {vi : Nat → Int32} {va : Nat → Nat → Int32} {vl : Int64} {vj : Nat → Int64} {ti : Nat → Nat → Int64} (F : LF C ad tp f vi va vl vj ti) : (∀ k, k < 6 → f (47 + 2 * k) = (ad (47 + 2 * k), .inr (6, [.int ((va 46) k), .int ((va 47) k), .ref (ad (48 + 2 * k))])) ∧ f (48 + 2 * k) = (ad (48 + 2 * k), .inl (C 1, 60, .inr (.inl (ti k))))) := F.2.2.2.2.2.2.2.2.2.2.2.2.2.2.2.2.2.2.2.2.2.2.2.2.2.2.2.2.2.2.2.2.2.2.2.2.2.2.2.2.2.2.2.2.2.2.2.1
theorem lf_h59 {C : Nat → ClassId} {ad : Nat → Nat} {tp : Nat → Option Nat} {f : Nat → Nat × va_E} {vi : Nat → Int32} {va : Nat → Nat → Int32} {vl : Int64} {vj : Nat → Int64} {ti : Nat → Nat → Int64} (F : LF C ad tp f vi va vl vj ti) : f 59 = ((ad 59), .inr (9, [.int (vi 21), .ref (ad 60), .ref (ad 61), .int (vi 22), .ref (ad 62), .int (vi 23), .ref (ad 63), .int (vi 24), .ref (ad 64), .int (vi 25), .ref (ad 65), .int (vi 26), .ref (ad 66), .int (vi 27), .ref (ad 67), .ref (ad 68), .int (vi 28), .int (vi 29), .int (vi 30), .int (vi 31), .long vl, .ref (ad 69), .ref (ad 70), .ref (ad 71), .ref (ad 72), .ref (ad 73), .int (vi 32), .ref (ad 74), .int (vi 33), .ref (ad 75), .ref (ad 76), .int (vi 34), .ref (ad 77), .ref (ad 78), .ref (ad 79), .ref (ad 80)])) := F.2.2.2.2.2.2.2.2.2.2.2.2.2.2.2.2.2.2.2.2.2.2.2.2.2.2.2.2.2.2.2.2.2.2.2.2.2.2.2.2.2.2.2.2.2.2.2.2.1
theorem lf_h60 {C : Nat → ClassId} {ad : Nat → Nat} {tp : Nat → Option Nat} {f : Nat → Nat × va_E} {vi : Nat → Int32} {va : Nat → Nat → Int32} {vl : Int64} {vj : Nat → Int64} {ti : Nat → Nat → Int64} (F : LF C ad tp f vi va vl vj ti) : f 60 = ((ad 60), .inl (C 0, 36, .inl (va 26))) := F.2.2.2.2.2.2.2.2.2.2.2.2.2.2.2.2.2.2.2.2.2.2.2.2.2.2.2.2.2.2.2.2.2.2.2.2.2.2.2.2.2.2.2.2.2.2.2.2.2.1
theorem lf_h61 {C : Nat → ClassId} {ad : Nat → Nat} {tp : Nat → Option Nat} {f : Nat → Nat × va_E} {vi : Nat → Int32} {va : Nat → Nat → Int32} {vl : Int64} {vj : Nat → Int64} {ti : Nat → Nat → Int64} (F : LF C ad tp f vi va vl vj ti) : f 61 = ((ad 61), .inl (C 0, 36, .inl (va 27))) := F.2.2.2.2.2.2.2.2.2.2.2.2.2.2.2.2.2.2.2.2.2.2.2.2.2.2.2.2.2.2.2.2.2.2.2.2.2.2.2.2.2.2.2.2.2.2.2.2.2.2.1
theorem lf_h62 {C : Nat → ClassId} {ad : Nat → Nat} {tp : Nat → Option Nat} {f : Nat → Nat × va_E} {vi : Nat → Int32} {va : Nat → Nat → Int32} {vl : Int64} {vj : Nat → Int64} {ti : Nat → Nat → Int64} (F : LF C ad tp f vi va vl vj ti) : f 62 = ((ad 62), .inl (C 0, 30, .inl (va 28))) := F.2.2.2.2.2.2.2.2.2.2.2.2.2.2.2.2.2.2.2.2.2.2.2.2.2.2.2.2.2.2.2.2.2.2.2.2.2.2.2.2.2.2.2.2.2.2.2.2.2.2.2.1
theorem lf_h63 {C : Nat → ClassId} {ad : Nat → Nat} {tp : Nat → Option Nat} {f : Nat → Nat × va_E} {vi : Nat → Int32} {va : Nat → Nat → Int32} {vl : Int64} {vj : Nat → Int64} {ti : Nat → Nat → Int64} (F : LF C ad tp f vi va vl vj ti) : f 63 = ((ad 63), .inl (C 0, 120, .inl (va 29))) := F.2.2.2.2.2.2.2.2.2.2.2.2.2.2.2.2.2.2.2.2.2.2.2.2.2.2.2.2.2.2.2.2.2.2.2.2.2.2.2.2.2.2.2.2.2.2.2.2.2.2.2.2.1
theorem lf_h64 {C : Nat → ClassId} {ad : Nat → Nat} {tp : Nat → Option Nat} {f : Nat → Nat × va_E} {vi : Nat → Int32} {va : Nat → Nat → Int32} {vl : Int64} {vj : Nat → Int64} {ti : Nat → Nat → Int64} (F : LF C ad tp f vi va vl vj ti) : f 64 = ((ad 64), .inl (C 0, 15, .inl (va 30))) := F.2.2.2.2.2.2.2.2.2.2.2.2.2.2.2.2.2.2.2.2.2.2.2.2.2.2.2.2.2.2.2.2.2.2.2.2.2.2.2.2.2.2.2.2.2.2.2.2.2.2.2.2.2.1
theorem lf_h65 {C : Nat → ClassId} {ad : Nat → Nat} {tp : Nat → Option Nat} {f : Nat → Nat × va_E} {vi : Nat → Int32} {va : Nat → Nat → Int32} {vl : Int64} {vj : Nat → Int64} {ti : Nat → Nat → Int64} (F : LF C ad tp f vi va vl vj ti) : f 65 = ((ad 65), .inl (C 0, 16, .inl (va 31))) := F.2.2.2.2.2.2.2.2.2.2.2.2.2.2.2.2.2.2.2.2.2.2.2.2.2.2.2.2.2.2.2.2.2.2.2.2.2.2.2.2.2.2.2.2.2.2.2.2.2.2.2.2.2.2.1
theorem lf_h66 {C : Nat → ClassId} {ad : Nat → Nat} {tp : Nat → Option Nat} {f : Nat → Nat × va_E} {vi : Nat → Int32} {va : Nat → Nat → Int32} {vl : Int64} {vj : Nat → Int64} {ti : Nat → Nat → Int64} (F : LF C ad tp f vi va vl vj ti) : f 66 = ((ad 66), .inl (C 0, 24, .inl (va 32))) := F.2.2.2.2.2.2.2.2.2.2.2.2.2.2.2.2.2.2.2.2.2.2.2.2.2.2.2.2.2.2.2.2.2.2.2.2.2.2.2.2.2.2.2.2.2.2.2.2.2.2.2.2.2.2.2.1
theorem lf_h67 {C : Nat → ClassId} {ad : Nat → Nat} {tp : Nat → Option Nat} {f : Nat → Nat × va_E} {vi : Nat → Int32} {va : Nat → Nat → Int32} {vl : Int64} {vj : Nat → Int64} {ti : Nat → Nat → Int64} (F : LF C ad tp f vi va vl vj ti) : f 67 = ((ad 67), .inl (C 0, 100, .inl (va 33))) := F.2.2.2.2.2.2.2.2.2.2.2.2.2.2.2.2.2.2.2.2.2.2.2.2.2.2.2.2.2.2.2.2.2.2.2.2.2.2.2.2.2.2.2.2.2.2.2.2.2.2.2.2.2.2.2.2.1
theorem lf_h68 {C : Nat → ClassId} {ad : Nat → Nat} {tp : Nat → Option Nat} {f : Nat → Nat × va_E} {vi : Nat → Int32} {va : Nat → Nat → Int32} {vl : Int64} {vj : Nat → Int64} {ti : Nat → Nat → Int64} (F : LF C ad tp f vi va vl vj ti) : f 68 = ((ad 68), .inl (C 0, 6, .inl (va 34))) := F.2.2.2.2.2.2.2.2.2.2.2.2.2.2.2.2.2.2.2.2.2.2.2.2.2.2.2.2.2.2.2.2.2.2.2.2.2.2.2.2.2.2.2.2.2.2.2.2.2.2.2.2.2.2.2.2.2.1
theorem lf_h69 {C : Nat → ClassId} {ad : Nat → Nat} {tp : Nat → Option Nat} {f : Nat → Nat × va_E} {vi : Nat → Int32} {va : Nat → Nat → Int32} {vl : Int64} {vj : Nat → Int64} {ti : Nat → Nat → Int64} (F : LF C ad tp f vi va vl vj ti) : f 69 = ((ad 69), .inl (C 0, 6, .inl (va 35))) := F.2.2.2.2.2.2.2.2.2.2.2.2.2.2.2.2.2.2.2.2.2.2.2.2.2.2.2.2.2.2.2.2.2.2.2.2.2.2.2.2.2.2.2.2.2.2.2.2.2.2.2.2.2.2.2.2.2.2.1
theorem lf_h70 {C : Nat → ClassId} {ad : Nat → Nat} {tp : Nat → Option Nat} {f : Nat → Nat × va_E} {vi : Nat → Int32} {va : Nat → Nat → Int32} {vl : Int64} {vj : Nat → Int64} {ti : Nat → Nat → Int64} (F : LF C ad tp f vi va vl vj ti) : f 70 = ((ad 70), .inl (C 0, 6, .inl (va 36))) := F.2.2.2.2.2.2.2.2.2.2.2.2.2.2.2.2.2.2.2.2.2.2.2.2.2.2.2.2.2.2.2.2.2.2.2.2.2.2.2.2.2.2.2.2.2.2.2.2.2.2.2.2.2.2.2.2.2.2.2.1
theorem lf_h71 {C : Nat → ClassId} {ad : Nat → Nat} {tp : Nat → Option Nat} {f : Nat → Nat × va_E} {vi : Nat → Int32} {va : Nat → Nat → Int32} {vl : Int64} {vj : Nat → Int64} {ti : Nat → Nat → Int64} (F : LF C ad tp f vi va vl vj ti) : f 71 = ((ad 71), .inl (C 0, 6, .inl (va 37))) := F.2.2.2.2.2.2.2.2.2.2.2.2.2.2.2.2.2.2.2.2.2.2.2.2.2.2.2.2.2.2.2.2.2.2.2.2.2.2.2.2.2.2.2.2.2.2.2.2.2.2.2.2.2.2.2.2.2.2.2.2.1
theorem lf_h72 {C : Nat → ClassId} {ad : Nat → Nat} {tp : Nat → Option Nat} {f : Nat → Nat × va_E} {vi : Nat → Int32} {va : Nat → Nat → Int32} {vl : Int64} {vj : Nat → Int64} {ti : Nat → Nat → Int64} (F : LF C ad tp f vi va vl vj ti) : f 72 = ((ad 72), .inl (C 0, 64, .inl (va 38))) := F.2.2.2.2.2.2.2.2.2.2.2.2.2.2.2.2.2.2.2.2.2.2.2.2.2.2.2.2.2.2.2.2.2.2.2.2.2.2.2.2.2.2.2.2.2.2.2.2.2.2.2.2.2.2.2.2.2.2.2.2.2.1
theorem lf_h73 {C : Nat → ClassId} {ad : Nat → Nat} {tp : Nat → Option Nat} {f : Nat → Nat × va_E} {vi : Nat → Int32} {va : Nat → Nat → Int32} {vl : Int64} {vj : Nat → Int64} {ti : Nat → Nat → Int64} (F : LF C ad tp f vi va vl vj ti) : f 73 = ((ad 73), .inl (C 0, 64, .inl (va 39))) := F.2.2.2.2.2.2.2.2.2.2.2.2.2.2.2.2.2.2.2.2.2.2.2.2.2.2.2.2.2.2.2.2.2.2.2.2.2.2.2.2.2.2.2.2.2.2.2.2.2.2.2.2.2.2.2.2.2.2.2.2.2.2.1
theorem lf_h74 {C : Nat → ClassId} {ad : Nat → Nat} {tp : Nat → Option Nat} {f : Nat → Nat × va_E} {vi : Nat → Int32} {va : Nat → Nat → Int32} {vl : Int64} {vj : Nat → Int64} {ti : Nat → Nat → Int64} (F : LF C ad tp f vi va vl vj ti) : f 74 = ((ad 74), .inl (C 0, 3, .inl (va 40))) := F.2.2.2.2.2.2.2.2.2.2.2.2.2.2.2.2.2.2.2.2.2.2.2.2.2.2.2.2.2.2.2.2.2.2.2.2.2.2.2.2.2.2.2.2.2.2.2.2.2.2.2.2.2.2.2.2.2.2.2.2.2.2.2.1
theorem lf_h75 {C : Nat → ClassId} {ad : Nat → Nat} {tp : Nat → Option Nat} {f : Nat → Nat × va_E} {vi : Nat → Int32} {va : Nat → Nat → Int32} {vl : Int64} {vj : Nat → Int64} {ti : Nat → Nat → Int64} (F : LF C ad tp f vi va vl vj ti) : f 75 = ((ad 75), .inl (C 0, 30, .inl (va 41))) := F.2.2.2.2.2.2.2.2.2.2.2.2.2.2.2.2.2.2.2.2.2.2.2.2.2.2.2.2.2.2.2.2.2.2.2.2.2.2.2.2.2.2.2.2.2.2.2.2.2.2.2.2.2.2.2.2.2.2.2.2.2.2.2.2.1
theorem lf_h76 {C : Nat → ClassId} {ad : Nat → Nat} {tp : Nat → Option Nat} {f : Nat → Nat × va_E} {vi : Nat → Int32} {va : Nat → Nat → Int32} {vl : Int64} {vj : Nat → Int64} {ti : Nat → Nat → Int64} (F : LF C ad tp f vi va vl vj ti) : f 76 = ((ad 76), .inl (C 0, 67, .inl (va 42))) := F.2.2.2.2.2.2.2.2.2.2.2.2.2.2.2.2.2.2.2.2.2.2.2.2.2.2.2.2.2.2.2.2.2.2.2.2.2.2.2.2.2.2.2.2.2.2.2.2.2.2.2.2.2.2.2.2.2.2.2.2.2.2.2.2.2.1
theorem lf_h77 {C : Nat → ClassId} {ad : Nat → Nat} {tp : Nat → Option Nat} {f : Nat → Nat × va_E} {vi : Nat → Int32} {va : Nat → Nat → Int32} {vl : Int64} {vj : Nat → Int64} {ti : Nat → Nat → Int64} (F : LF C ad tp f vi va vl vj ti) : f 77 = ((ad 77), .inl (C 0, 284, .inl (va 43))) := F.2.2.2.2.2.2.2.2.2.2.2.2.2.2.2.2.2.2.2.2.2.2.2.2.2.2.2.2.2.2.2.2.2.2.2.2.2.2.2.2.2.2.2.2.2.2.2.2.2.2.2.2.2.2.2.2.2.2.2.2.2.2.2.2.2.2.1
theorem lf_h78 {C : Nat → ClassId} {ad : Nat → Nat} {tp : Nat → Option Nat} {f : Nat → Nat × va_E} {vi : Nat → Int32} {va : Nat → Nat → Int32} {vl : Int64} {vj : Nat → Int64} {ti : Nat → Nat → Int64} (F : LF C ad tp f vi va vl vj ti) : f 78 = ((ad 78), .inl (C 0, 6, .inl (va 44))) := F.2.2.2.2.2.2.2.2.2.2.2.2.2.2.2.2.2.2.2.2.2.2.2.2.2.2.2.2.2.2.2.2.2.2.2.2.2.2.2.2.2.2.2.2.2.2.2.2.2.2.2.2.2.2.2.2.2.2.2.2.2.2.2.2.2.2.2.1
theorem lf_h79 {C : Nat → ClassId} {ad : Nat → Nat} {tp : Nat → Option Nat} {f : Nat → Nat × va_E} {vi : Nat → Int32} {va : Nat → Nat → Int32} {vl : Int64} {vj : Nat → Int64} {ti : Nat → Nat → Int64} (F : LF C ad tp f vi va vl vj ti) : f 79 = ((ad 79), .inl (C 0, 6, .inl (va 45))) := F.2.2.2.2.2.2.2.2.2.2.2.2.2.2.2.2.2.2.2.2.2.2.2.2.2.2.2.2.2.2.2.2.2.2.2.2.2.2.2.2.2.2.2.2.2.2.2.2.2.2.2.2.2.2.2.2.2.2.2.2.2.2.2.2.2.2.2.2.1
theorem lf_h80 {C : Nat → ClassId} {ad : Nat → Nat} {tp : Nat → Option Nat} {f : Nat → Nat × va_E} {vi : Nat → Int32} {va : Nat → Nat → Int32} {vl : Int64} {vj : Nat → Int64} {ti : Nat → Nat → Int64} (F : LF C ad tp f vi va vl vj ti) : f 80 = ((ad 80), .inl (C 1, 360, .inr (.inl vj))) := F.2.2.2.2.2.2.2.2.2.2.2.2.2.2.2.2.2.2.2.2.2.2.2.2.2.2.2.2.2.2.2.2.2.2.2.2.2.2.2.2.2.2.2.2.2.2.2.2.2.2.2.2.2.2.2.2.2.2.2.2.2.2.2.2.2.2.2.2.2
def ups {α : Type} (v : Nat → α) (i : Nat) (x : α) : Nat → α := fun k => cond (Nat.beq k i) x (v k)
def LI (C : Nat → ClassId) (ad : Nat → Nat) (tp : Nat → Option Nat) (w : va_W) : Prop :=
  ∃ (vi : Nat → Int32) (va : Nat → Nat → Int32) (vl : Int64) (vj : Nat → Int64) (ti : Nat → Nat → Int64) (f : Nat → Nat × va_E), Rel (vi 1) (vi 2) (va 0) (va 1) (va 2) (vi 3) (va 3) (vi 4) (va 4) (vi 5) (va 5) (vi 6) (va 6) (vi 0) (vi 7) (vi 8) (va 7) (va 8) (va 9) (vi 9) (va 10) (vi 10) (va 11) (vi 11) (va 12) (vi 12) (va 13) (vi 20) (va 25) (va 46) (va 47) ti (vi 21) (va 26) (va 27) (vi 22) (va 28) (vi 23) (va 29) (vi 24) (va 30) (vi 25) (va 31) (vi 26) (va 32) (vi 27) (va 33) (vi 34) (va 43) (va 44) (va 45) vj ∧ w = Wd f ∧ LF C ad tp f vi va vl vj ti
theorem k6 {k : Nat} {P : Nat → Prop} (h : k < 6) (h0 : P 0) (h1 : P 1) (h2 : P 2) (h3 : P 3) (h4 : P 4) (h5 : P 5) : P k := by
  rcases (show k = 0 ∨ k = 1 ∨ k = 2 ∨ k = 3 ∨ k = 4 ∨ k = 5 by omega) with rfl | rfl | rfl | rfl | rfl | rfl <;> assumption
theorem tput {isC isM : List Nat} {w1 w2 : va_W} {f : Nat → Nat × va_E} {j : Nat} (h1 : isC.all (fun i => Nat.blt i 47 || Nat.blt 58 i) = true) (h2 : isM.all (fun i => Nat.blt i 47 || Nat.blt 58 i) = true) (hj : 47 ≤ j ∧ j ≤ 58) : put isM w2 (put isC w1 f) j = f j := by
  have key : ∀ (is : List Nat), is.all (fun i => Nat.blt i 47 || Nat.blt 58 i) = true → hasN is j = false := by
    intro is
    induction is with
    | nil => intro _; rfl
    | cons i is ih =>
      intro h
      simp only [List.all_cons, Bool.and_eq_true, Bool.or_eq_true] at h
      unfold hasN
      have hne : Nat.beq j i = false := by
        cases e : Nat.beq j i with
        | false => rfl
        | true =>
          have := Nat.eq_of_beq_eq_true e
          rcases h.1 with h | h
          · have := Nat.le_of_ble_eq_true h; omega
          · have := Nat.le_of_ble_eq_true h; omega
      rw [hne]
      exact ih h.2
  rw [put_ne _ _ _ _ (key _ h2), put_ne _ _ _ _ (key _ h1)]
theorem tput1 {isM : List Nat} {w2 : va_W} {f : Nat → Nat × va_E} {j : Nat} (h2 : isM.all (fun i => Nat.blt i 47 || Nat.blt 58 i) = true) (hj : 47 ≤ j ∧ j ≤ 58) : put isM w2 f j = f j := tput (isC := []) (w1 := []) rfl h2 hj
end LawW
