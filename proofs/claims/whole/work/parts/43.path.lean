/-! ===== paths and rings: the mathematics ===== -/
section
def gp : List Nat → Nat → Nat
  | [], _ => 0
  | a :: _, 0 => a
  | _ :: t, k + 1 => gp t k
theorem gp_a1 : ∀ (A B : List Nat) (k : Nat), k < A.length → gp (A ++ B) k = gp A k
  | [], _, _, h => absurd h (Nat.not_lt_zero _)
  | a :: A, B, 0, _ => rfl
  | a :: A, B, k + 1, h => gp_a1 A B k (by simpa using h)
theorem gp_a2 : ∀ (A B : List Nat) (q : Nat), gp (A ++ q :: B) A.length = q
  | [], _, _ => rfl
  | a :: A, B, q => gp_a2 A B q
theorem gp_mem : ∀ (p : List Nat) (k : Nat), k < p.length → gp p k ∈ p
  | [], _, h => absurd h (Nat.not_lt_zero _)
  | a :: t, 0, _ => List.mem_cons_self ..
  | a :: t, k + 1, h => List.mem_cons_of_mem _ (gp_mem t k (by simpa using h))
theorem gp_of : ∀ (p : List Nat) (q : Nat), q ∈ p → ∃ k, k < p.length ∧ gp p k = q
  | [], _, h => absurd h List.not_mem_nil
  | a :: t, q, h => by
    rcases List.mem_cons.mp h with rfl | h
    · exact ⟨0, by simp, rfl⟩
    · obtain ⟨k, h1, h2⟩ := gp_of t q h
      exact ⟨k + 1, by simpa using h1, h2⟩
theorem gp_ne : ∀ (p : List Nat), p.Nodup → ∀ (k l : Nat), k < l → l < p.length → gp p k ≠ gp p l
  | [], _, _, _, _, h => absurd h (Nat.not_lt_zero _)
  | a :: t, hn, 0, l + 1, _, h => by
    have := gp_mem t l (by simpa using h)
    intro e
    exact (List.nodup_cons.mp hn).1 (by rw [show a = gp t l from e]; exact this)
  | a :: t, hn, k + 1, l + 1, hk, h => gp_ne t (List.nodup_cons.mp hn).2 k l (by omega) (by simpa using h)
theorem LR_gp {f : Nat → Int32} : ∀ (p : List Nat) (o : Nat), LR f o p → ∀ k, k < p.length → f (o + k) = nI (gp p k)
  | [], _, _, _, h => absurd h (Nat.not_lt_zero _)
  | a :: t, o, h, 0, _ => h.1
  | a :: t, o, h, k + 1, hk => by
    have := LR_gp t (o + 1) h.2 k (by simpa using hk)
    rw [show o + (k + 1) = o + 1 + k from by omega, this]; rfl
theorem LR_gp0 {f : Nat → Int32} {p : List Nat} (h : LR f 0 p) {k : Nat} (hk : k < p.length) : f k = nI (gp p k) := by
  have := LR_gp p 0 h k hk; rwa [Nat.zero_add] at this
def lowP (v : Nat → Nat) (p : List Nat) : Nat → Nat
  | 0 => 999
  | k + 1 => min (lowP v p k) (v (6 * gp p k + gp p (k + 1)))
def lastE (p : List Nat) (q : Nat) : Nat := 6 * gp p (p.length - 1) + q
def lowC (v : Nat → Nat) (p : List Nat) : Nat := min (lowP v p (p.length - 1)) (v (lastE p (gp p 0)))
def rlx (g : Nat → List (List Nat)) : Nat → Nat → List (List Nat)
  | 0, _ => []
  | k + 1, q => g q ++ rlx g k (q + 1)
def rl (v : Nat → Nat) : Nat → List Nat → List (List Nat)
  | 0, p => if v (lastE p (gp p 0)) = 0 then [] else [p]
  | r + 1, p => rlx (fun q => if q ∈ p ∨ v (lastE p q) = 0 then [] else rl v r (p ++ [q])) (6 - (gp p 0 + 1)) (gp p 0 + 1)
def rlA (v : Nat → Nat) : List (List Nat) := rlx (fun m => rlx (fun f => rl v (m - 1) [f]) 6 0) 5 2
theorem lowP_snoc (v : Nat → Nat) (p : List Nat) (q : Nat) : ∀ k, k < p.length → lowP v (p ++ [q]) k = lowP v p k
  | 0, _ => rfl
  | k + 1, h => by
    simp only [lowP]
    rw [lowP_snoc v p q k (by omega), gp_a1 p [q] k (by omega), gp_a1 p [q] (k + 1) h]
theorem lowP_ext (v : Nat → Nat) (p : List Nat) (q : Nat) (h : 0 < p.length) : lowP v (p ++ [q]) p.length = min (lowP v p (p.length - 1)) (v (lastE p q)) := by
  obtain ⟨d, hd⟩ : ∃ d, p.length = d + 1 := ⟨p.length - 1, by omega⟩
  have e : lowP v (p ++ [q]) (d + 1) = min (lowP v (p ++ [q]) d) (v (6 * gp (p ++ [q]) d + gp (p ++ [q]) (d + 1))) := rfl
  rw [hd, e, lowP_snoc v p q d (by omega), gp_a1 p [q] d (by omega), ← hd, gp_a2 p [] q]
  unfold lastE
  rw [hd]; rfl
theorem lowP_le (v : Nat → Nat) (p : List Nat) : ∀ k, lowP v p k ≤ 999
  | 0 => Nat.le_refl _
  | k + 1 => Nat.le_trans (Nat.min_le_left _ _) (lowP_le v p k)
theorem lowC_le (v : Nat → Nat) (p : List Nat) : lowC v p ≤ 999 := Nat.le_trans (Nat.min_le_left _ _) (lowP_le v p _)
theorem rlx_mem {g : Nat → List (List Nat)} {x : List Nat} : ∀ (k q : Nat), x ∈ rlx g k q → ∃ i, q ≤ i ∧ i < q + k ∧ x ∈ g i
  | 0, _, h => absurd h List.not_mem_nil
  | k + 1, q, h => by
    rcases List.mem_append.mp h with h | h
    · exact ⟨q, by omega, by omega, h⟩
    · obtain ⟨i, h1, h2, h3⟩ := rlx_mem k (q + 1) h
      exact ⟨i, by omega, by omega, h3⟩
theorem rlx_nil {g : Nat → List (List Nat)} : ∀ (k q : Nat), (∀ i, q ≤ i → i < q + k → g i = []) → rlx g k q = []
  | 0, _, _ => rfl
  | k + 1, q, h => by
    simp only [rlx]
    rw [h q (by omega) (by omega), rlx_nil k (q + 1) (fun i h1 h2 => h i (by omega) (by omega))]; rfl
theorem rlx_cut {g : Nat → List (List Nat)} : ∀ (a b q : Nat), (∀ i, q + a ≤ i → i < q + a + b → g i = []) → rlx g (a + b) q = rlx g a q
  | 0, b, q, h => by
    rw [Nat.zero_add]; exact rlx_nil b q (fun i h1 h2 => h i (by omega) (by omega))
  | a + 1, b, q, h => by
    rw [show a + 1 + b = (a + b) + 1 from by omega]
    simp only [rlx]
    rw [rlx_cut a b (q + 1) (fun i h1 h2 => h i (by omega) (by omega))]
theorem rlx_cong {g h : Nat → List (List Nat)} : ∀ (k q : Nat), (∀ i, q ≤ i → i < q + k → g i = h i) → rlx g k q = rlx h k q
  | 0, _, _ => rfl
  | k + 1, q, e => by
    simp only [rlx]
    rw [e q (by omega) (by omega), rlx_cong k (q + 1) (fun i h1 h2 => e i (by omega) (by omega))]
theorem rlx_filter {g h : Nat → List (List Nat)} {f : List Nat → Bool} : ∀ (k q : Nat), (∀ i, q ≤ i → i < q + k → h i = (g i).filter f) → rlx h k q = (rlx g k q).filter f
  | 0, _, _ => rfl
  | k + 1, q, e => by
    simp only [rlx]
    rw [e q (by omega) (by omega), rlx_filter k (q + 1) (fun i h1 h2 => e i (by omega) (by omega)), List.filter_append]
/-- an open path on which each one owes the next one -/
def PW (v : Nat → Nat) (p : List Nat) : Prop := 0 < p.length ∧ p.Nodup ∧ (∀ q ∈ p, q < 6) ∧ ∀ k, k + 1 < p.length → 0 < v (6 * gp p k + gp p (k + 1))
theorem PW.snoc {v : Nat → Nat} {p : List Nat} {q : Nat} (h : PW v p) (hq : q < 6) (hm : q ∉ p) (hv : 0 < v (lastE p q)) : PW v (p ++ [q]) := by
  obtain ⟨h0, h1, h2, h3⟩ := h
  refine ⟨by simp, ?_, ?_, ?_⟩
  · rw [List.nodup_append]
    refine ⟨h1, by simp, fun x hx y hy => ?_⟩
    rw [List.mem_singleton] at hy
    subst hy
    exact fun e => hm (e ▸ hx)
  · intro x hx
    rw [List.mem_append, List.mem_singleton] at hx
    rcases hx with hx | rfl
    · exact h2 x hx
    · exact hq
  · intro k hk
    rw [List.length_append, List.length_singleton] at hk
    by_cases e : k + 1 < p.length
    · rw [gp_a1 _ _ _ (by omega), gp_a1 _ _ _ e]; exact h3 k e
    · have e1 : k + 1 = p.length := by omega
      rw [gp_a1 _ _ _ (by omega), e1, gp_a2]
      unfold lastE at hv
      rw [show k = p.length - 1 from by omega]; exact hv
theorem PW.pos {v : Nat → Nat} {p : List Nat} (h : PW v p) : ∀ k, k < p.length → 0 < lowP v p k
  | 0, _ => by simp [lowP]
  | k + 1, hk => by
    have h1 := PW.pos h k (by omega)
    have h2 := h.2.2.2 k hk
    simp only [lowP]; omega
theorem PW.one {v : Nat → Nat} {q : Nat} (h : q < 6) : PW v [q] := by
  refine ⟨by simp, by simp, by simpa using h, fun k hk => ?_⟩
  simp at hk
theorem PW.len {v : Nat → Nat} {p : List Nat} (h : PW v p) : p.length ≤ 6 := by
  have := nd_len p (List.range 6) h.2.1 (fun k hk => List.mem_range.mpr (h.2.2.1 k hk))
  simpa using this
/-- what a ring of the list is -/
def RG (v : Nat → Nat) (p : List Nat) : Prop := PW v p ∧ 2 ≤ p.length ∧ 0 < v (lastE p (gp p 0))
theorem rl_mem {v : Nat → Nat} : ∀ (r : Nat) (p x : List Nat), PW v p → x ∈ rl v r p → PW v x ∧ x.length = p.length + r ∧ 0 < v (lastE x (gp x 0)) ∧ lowC v x ≤ lowP v p (p.length - 1)
  | 0, p, x, h, hx => by
    unfold rl at hx
    by_cases e : v (lastE p (gp p 0)) = 0
    · rw [if_pos e] at hx; exact absurd hx List.not_mem_nil
    · rw [if_neg e, List.mem_singleton] at hx
      subst hx
      exact ⟨h, rfl, by omega, Nat.min_le_left _ _⟩
  | r + 1, p, x, h, hx => by
    unfold rl at hx
    obtain ⟨q, h1, h2, h3⟩ := rlx_mem _ _ hx
    by_cases e : q ∈ p ∨ v (lastE p q) = 0
    · rw [if_pos e] at h3; exact absurd h3 List.not_mem_nil
    · rw [if_neg e] at h3
      rw [not_or] at e
      have hp := PW.snoc h (q := q) (by omega) e.1 (by omega)
      obtain ⟨a1, a2, a3, a4⟩ := rl_mem r (p ++ [q]) x hp h3
      rw [List.length_append, List.length_singleton] at a2 a4
      refine ⟨a1, by omega, a3, Nat.le_trans a4 ?_⟩
      rw [Nat.add_sub_cancel, lowP_ext v p q h.1]
      exact Nat.min_le_left _ _
theorem rl_pre {v : Nat → Nat} : ∀ (r : Nat) (p x : List Nat), x ∈ rl v r p → ∃ B, x = p ++ B
  | 0, p, x, hx => by
    unfold rl at hx
    by_cases e : v (lastE p (gp p 0)) = 0
    · rw [if_pos e] at hx; exact absurd hx List.not_mem_nil
    · rw [if_neg e, List.mem_singleton] at hx
      exact ⟨[], by rw [hx, List.append_nil]⟩
  | r + 1, p, x, hx => by
    unfold rl at hx
    obtain ⟨q, h1, h2, h3⟩ := rlx_mem _ _ hx
    by_cases e : q ∈ p ∨ v (lastE p q) = 0
    · rw [if_pos e] at h3; exact absurd h3 List.not_mem_nil
    · rw [if_neg e] at h3
      obtain ⟨B, hB⟩ := rl_pre r (p ++ [q]) x h3
      exact ⟨q :: B, by rw [hB, List.append_assoc]; rfl⟩
theorem rlA_mem {v : Nat → Nat} {x : List Nat} (hx : x ∈ rlA v) : RG v x ∧ x.length ≤ 6 := by
  unfold rlA at hx
  obtain ⟨m, h1, h2, h3⟩ := rlx_mem _ _ hx
  obtain ⟨f, g1, g2, g3⟩ := rlx_mem _ _ h3
  obtain ⟨a1, a2, a3, a4⟩ := rl_mem (m - 1) [f] x (PW.one (by omega)) g3
  simp only [List.length_singleton] at a2
  exact ⟨⟨a1, by omega, a3⟩, a1.len⟩
-- folding
def wl (rule low m : Nat) : Nat := if rule = 1 then low else if rule = 2 then low * m else 1
def wo (rule : Nat) (v : Nat → Nat) (r : List Nat) : Nat := if r = [] then 0 else wl rule (lowC v r) r.length
def stC (rule : Nat) (v : Nat → Nat) (S : Nat × List Nat) (p : List Nat) : Nat × List Nat := if rule = 4 ∨ wo rule v S.2 < wl rule (lowC v p) p.length then (S.1 + 1, p) else S
def stR (rule : Nat) (v : Nat → Nat) (ag : List Nat → Bool) (S : Nat × List Nat) (p : List Nat) : Nat × List Nat := (S.1 + 1, if wo rule v S.2 < wl rule (lowC v p) p.length ∧ (rule = 3 → ag p = true) then p else S.2)
theorem wl_mono {rule a b m : Nat} (h : a ≤ b) : wl rule a m ≤ wl rule b m := by
  unfold wl
  by_cases e1 : rule = 1
  · rw [if_pos e1, if_pos e1]; exact h
  · rw [if_neg e1, if_neg e1]
    by_cases e2 : rule = 2
    · rw [if_pos e2, if_pos e2]; exact Nat.mul_le_mul_right m h
    · rw [if_neg e2, if_neg e2]; exact Nat.le_refl _
theorem fold_id {rule : Nat} {v : Nat → Nat} {S : Nat × List Nat} : ∀ (l : List (List Nat)), (∀ p ∈ l, ¬ (rule = 4 ∨ wo rule v S.2 < wl rule (lowC v p) p.length)) → l.foldl (stC rule v) S = S
  | [], _ => rfl
  | p :: l, h => by
    rw [List.foldl_cons]
    have : stC rule v S p = S := if_neg (h p (List.mem_cons_self ..))
    rw [this]
    exact fold_id l (fun q hq => h q (List.mem_cons_of_mem _ hq))
theorem prune {rule : Nat} {v : Nat → Nat} {S : Nat × List Nat} {r : Nat} {p : List Nat} (h : PW v p) (hb : ¬ (rule = 4 ∨ wo rule v S.2 < wl rule (lowP v p (p.length - 1)) (p.length + r))) : (rl v r p).foldl (stC rule v) S = S := by
  refine fold_id _ (fun x hx => ?_)
  obtain ⟨a1, a2, a3, a4⟩ := rl_mem r p x h hx
  rw [not_or] at hb ⊢
  refine ⟨hb.1, ?_⟩
  rw [a2]
  have := wl_mono (rule := rule) (m := p.length + r) a4
  omega
theorem foldR_1 {rule : Nat} {v : Nat → Nat} {ag : List Nat → Bool} : ∀ (l : List (List Nat)) (S : Nat × List Nat), (l.foldl (stR rule v ag) S).1 = S.1 + l.length
  | [], _ => rfl
  | p :: l, S => by
    rw [List.foldl_cons, foldR_1 l, List.length_cons]
    show S.1 + 1 + l.length = _
    omega
theorem foldC_1 {v : Nat → Nat} : ∀ (l : List (List Nat)) (S : Nat × List Nat), (l.foldl (stC 4 v) S).1 = S.1 + l.length
  | [], _ => rfl
  | p :: l, S => by
    rw [List.foldl_cons, foldC_1 l, List.length_cons]
    have : stC 4 v S p = (S.1 + 1, p) := if_pos (Or.inl rfl)
    rw [this]
    show S.1 + 1 + l.length = _
    omega
theorem foldCR {rule : Nat} {v : Nat → Nat} {ag : List Nat → Bool} (h3 : rule ≠ 3) (h4 : rule ≠ 4) : ∀ (l : List (List Nat)) (S T : Nat × List Nat), S.2 = T.2 → (l.foldl (stC rule v) S).2 = (l.foldl (stR rule v ag) T).2
  | [], _, _, h => h
  | p :: l, S, T, h => by
    rw [List.foldl_cons, List.foldl_cons]
    refine foldCR h3 h4 l _ _ ?_
    unfold stC stR
    rw [h]
    by_cases e : wo rule v T.2 < wl rule (lowC v p) p.length
    · rw [if_pos (Or.inr e), if_pos ⟨e, fun x => absurd x h3⟩]
    · rw [if_neg (fun x => x.elim h4 e), if_neg (fun x => e x.1)]; exact h
theorem wl3 (a m : Nat) : wl 3 a m = 1 := rfl
theorem wo3 (v : Nat → Nat) (r : List Nat) : wo 3 v r = if r = [] then 0 else 1 := rfl
theorem foldCR3 {v w : Nat → Nat} {ag : List Nat → Bool} : ∀ (l : List (List Nat)) (S T : Nat × List Nat), S.2 = T.2 → ((l.filter ag).foldl (stC 3 w) S).2 = (l.foldl (stR 3 v ag) T).2
  | [], _, _, h => h
  | p :: l, S, T, h => by
    rw [List.foldl_cons]
    by_cases ea : ag p = true
    · rw [List.filter_cons_of_pos ea, List.foldl_cons]
      refine foldCR3 l _ _ ?_
      unfold stC stR
      rw [h, wl3, wl3, wo3, wo3]
      by_cases e : (if T.2 = [] then 0 else 1) < 1
      · rw [if_pos (Or.inr e), if_pos ⟨e, fun _ => ea⟩]
      · rw [if_neg (fun x => x.elim (by decide) e), if_neg (fun x => e x.1)]; exact h
    · rw [List.filter_cons_of_neg ea]
      refine foldCR3 l _ _ ?_
      unfold stR
      rw [if_neg (fun x => ea (x.2 rfl))]; exact h
end
