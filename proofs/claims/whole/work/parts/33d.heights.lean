/-! how high the stack is behind terms -/
def hOk (f : Bool) (t : Nat × Nat × Nat) (k : Nat) : Prop :=
  (t.1 = 1 ∧ t.2.1 ≤ 2 ^ 20 ∧ t.2.2 ≤ 2) ∨ (t.1 = 2 ∧ t.2.1 < 8) ∨ (t.1 = 3 ∧ f = true ∧ t.2.1 < 3) ∨ ((t.1 = 6 ∨ t.1 = 7 ∨ t.1 = 8 ∨ t.1 = 9) ∧ 2 ≤ k) ∨ (t.1 = 10 ∧ 1 ≤ k) ∨ ((t.1 = 11 ∨ t.1 = 12 ∨ t.1 = 13) ∧ 2 ≤ k)
def hgt (f : Bool) : List (Nat × Nat × Nat) → Nat → Nat → Prop
  | [], k, k' => k = k'
  | t :: l, k, k' => hOk f t k ∧ hgt f l (tmH t.1 k) k'
section HGT
variable {ts : List aTk} {L dp : Nat} {ps : List (List Nat)} {f : Bool} {sm : xSt → Except Nat xSt}
theorem hgt_app : ∀ {l l' : List (Nat × Nat × Nat)} {k m k' : Nat}, hgt f l k m → hgt f l' m k' → hgt f (l ++ l') k k'
  | [], l', k, m, k', h, h' => by
    have h : k = m := h
    rw [h]; exact h'
  | t :: l, l', k, m, k', h, h' => ⟨h.1, hgt_app h.2 h'⟩
/-- puts as many values there as c says -/
def xHg (ts : List aTk) (f : Bool) (g : xSt → Except Nat xSt) : Prop := ∀ x y, xOk ts x → g x = .ok y → ∃ l, y.2.2 = x.2.2 ++ l ∧ ∀ k, hgt f l k (k + 1)
theorem inrA_hg (hN : tsN ts) (hD : ∀ t, kA ts t = 1 → dgA ts t ≤ 2 ^ 20 ∧ bhA ts t ≤ 2) (h3 : ps.length ≤ 3) (hf : ps ≠ [] → f = true) (hs : dp < 3 → xHg ts f sm) : xHg ts f (inrA ts L ps sm dp) := by
  intro x y hx h
  unfold inrA at h
  by_cases c1 : kA ts x.1 = 1
  · rw [if_pos c1] at h
    cases h
    exact ⟨_, rfl, fun k => ⟨Or.inl ⟨rfl, hD _ c1⟩, rfl⟩⟩
  rw [if_neg c1] at h
  by_cases c2 : kA ts x.1 = 30
  · rw [if_pos c2] at h
    cases e : slA ps x.2.1 (nmA ts x.1) with
    | none => rw [e] at h; cases h
    | some r =>
      obtain ⟨p, i, vs'⟩ := r
      rw [e] at h
      cases h
      obtain ⟨-, -, -, s⟩ := slA_ok hx.2.2.1 hx.2.2.2 (nmA_ok hN c2) e
      refine ⟨_, rfl, fun k => ⟨?_, ?_⟩⟩
      · rcases s with ⟨rfl, s⟩ | ⟨rfl, s⟩
        · exact Or.inr (Or.inr (Or.inl ⟨rfl, hf (fun z => by rw [z] at s; exact absurd s (Nat.not_lt_zero _)), by show i < 3; omega⟩))
        · exact Or.inr (Or.inl ⟨rfl, s⟩)
      · rcases s with ⟨rfl, s⟩ | ⟨rfl, s⟩ <;> rfl
  rw [if_neg c2] at h
  by_cases c3 : kA ts x.1 = 40
  · rw [if_pos c3] at h
    by_cases c4 : 3 ≤ dp
    · rw [if_pos c4] at h; cases h
    · rw [if_neg c4] at h
      cases e : sm (x.1 + 1, x.2) with
      | error z => rw [e] at h; cases h
      | ok z =>
        rw [e] at h
        dsimp only at h
        by_cases c5 : kA ts z.1 = 41
        · rw [if_pos c5] at h
          cases h
          exact hs (by omega) (x.1 + 1, x.2) z (xTick hx c3 (by decide)) e
        · rw [if_neg c5] at h; cases h
  · rw [if_neg c3] at h; cases h
theorem fctA_hg (hN : tsN ts) (hD : ∀ t, kA ts t = 1 → dgA ts t ≤ 2 ^ 20 ∧ bhA ts t ≤ 2) (h3 : ps.length ≤ 3) (hf : ps ≠ [] → f = true) (hs : dp < 3 → xHg ts f sm) : xHg ts f (fctA ts L ps sm dp) := by
  intro x y hx h
  unfold fctA at h
  by_cases c : kA ts x.1 = 45
  · rw [if_pos c] at h
    cases e : inrA ts L ps sm dp (x.1 + 1, x.2) with
    | error z => rw [e] at h; cases h
    | ok z =>
      rw [e] at h
      cases h
      obtain ⟨l, e1, e2⟩ := inrA_hg hN hD h3 hf hs _ z (xTick hx c (by decide)) e
      have e1 : z.2.2 = x.2.2 ++ l := e1
      refine ⟨l ++ [(10, 0, 0)], by show z.2.2 ++ _ = _; rw [e1, List.append_assoc], fun k => hgt_app (e2 k) ⟨Or.inr (Or.inr (Or.inr (Or.inr (Or.inl ⟨rfl, by omega⟩)))), rfl⟩⟩
  · rw [if_neg c] at h
    exact inrA_hg hN hD h3 hf hs x y hx h
theorem lopA_hg {a b oa ob : Nat} (ha : a ≠ 34) (hb : b ≠ 34) (hoa : oa = 6 ∨ oa = 7 ∨ oa = 8 ∨ oa = 9) (hob : ob = 6 ∨ ob = 7 ∨ ob = 8 ∨ ob = 9) {one : xSt → Except Nat xSt} (h1 : xRd ts one) (hh : xHg ts f one) : ∀ (m : Nat) (x y : xSt), xOk ts x → lopA ts a b oa ob one m x = .ok y → ∃ l, y.2.2 = x.2.2 ++ l ∧ ∀ k, hgt f l (k + 1) (k + 1)
  | 0, x, y, hx, h => by cases h; exact ⟨[], (List.append_nil _).symm, fun k => rfl⟩
  | m + 1, x, y, hx, h => by
    rw [lopA] at h
    by_cases c : kA ts x.1 = a ∨ kA ts x.1 = b
    · rw [if_pos c] at h
      have o1 : xOk ts (x.1 + 1, x.2) := c.elim (fun z => xTick hx z ha) (fun z => xTick hx z hb)
      cases e : one (x.1 + 1, x.2) with
      | error z => rw [e] at h; cases h
      | ok z =>
        rw [e] at h
        obtain ⟨l, e1, e2⟩ := hh _ z o1 e
        have e1 : z.2.2 = x.2.2 ++ l := e1
        obtain ⟨⟨z1, z2, z3, z4⟩, g1, g2, -, -⟩ := h1 _ z o1 e
        have g1 : x.1 + 1 < z.1 := g1
        have g2 : z.2.2.length + (x.1 + 1) ≤ x.2.2.length + z.1 := g2
        have hx2 := hx.2.1
        obtain ⟨l', e3, e4⟩ := lopA_hg ha hb hoa hob h1 hh m (z.1, z.2.1, z.2.2 ++ [(if kA ts x.1 = a then oa else ob, 0, 0)]) y ⟨z1, by rw [List.length_append, List.length_singleton]; show _ ≤ z.1; omega, z3, z4⟩ h
        have e3 : y.2.2 = (z.2.2 ++ _) ++ l' := e3
        have ho : ∀ op, (op = 6 ∨ op = 7 ∨ op = 8 ∨ op = 9) → ∀ k, hgt f [(op, 0, 0)] (k + 1 + 1) (k + 1) := fun op ho k => by
          refine ⟨Or.inr (Or.inr (Or.inr (Or.inl ⟨ho, by omega⟩))), ?_⟩
          rcases ho with rfl | rfl | rfl | rfl <;> rfl
        refine ⟨l ++ ([(if kA ts x.1 = a then oa else ob, 0, 0)] ++ l'), by rw [e3, e1]; simp only [List.append_assoc], fun k => hgt_app (e2 (k + 1)) (hgt_app (ho _ ?_ k) (e4 k))⟩
        split
        · exact hoa
        · exact hob
    · rw [if_neg c] at h
      cases h
      exact ⟨[], (List.append_nil _).symm, fun k => rfl⟩
theorem seq_hg {a b oa ob : Nat} (ha : a ≠ 34) (hb : b ≠ 34) (hoa : oa = 6 ∨ oa = 7 ∨ oa = 8 ∨ oa = 9) (hob : ob = 6 ∨ ob = 7 ∨ ob = 8 ∨ ob = 9) {one : xSt → Except Nat xSt} (h1 : xRd ts one) (hh : xHg ts f one) {m : Nat} : xHg ts f (fun x => match one x with | .error e => .error e | .ok y => lopA ts a b oa ob one m y) := by
  intro x y hx h
  dsimp only at h
  cases e : one x with
  | error z => rw [e] at h; cases h
  | ok z =>
    rw [e] at h
    obtain ⟨l, e1, e2⟩ := hh x z hx e
    obtain ⟨l', e3, e4⟩ := lopA_hg ha hb hoa hob h1 hh m z y (h1 x z hx e).1 h
    exact ⟨l ++ l', by rw [e3, e1, List.append_assoc], fun k => hgt_app (e2 k) (e4 k)⟩
theorem sumA_hg (hN : tsN ts) (hD : ∀ t, kA ts t = 1 → dgA ts t ≤ 2 ^ 20 ∧ bhA ts t ≤ 2) (h3 : ps.length ≤ 3) (hf : ps ≠ [] → f = true) : ∀ (g dp : Nat), xHg ts f (sumA ts L ps g dp)
  | 0, dp => fun x y hx h => by cases h
  | g + 1, dp => seq_hg (by decide) (by decide) (by decide) (by decide) (prdA_rd hN (fun _ => sumA_rd hN g (dp + 1))) (seq_hg (by decide) (by decide) (by decide) (by decide) (fctA_rd hN (fun _ => sumA_rd hN g (dp + 1))) (fctA_hg hN hD h3 hf (fun _ => sumA_hg hN hD h3 hf g (dp + 1))))
theorem cndA_hg (hN : tsN ts) (hD : ∀ t, kA ts t = 1 → dgA ts t ≤ 2 ^ 20 ∧ bhA ts t ≤ 2) (h3 : ps.length ≤ 3) (hf : ps ≠ [] → f = true) : xHg ts f (cndA ts L ps) := by
  intro x y hx h
  unfold cndA at h
  cases e : sumA ts L ps 4 0 x with
  | error z => rw [e] at h; cases h
  | ok z =>
    rw [e] at h
    dsimp only at h
    obtain ⟨l, e1, e2⟩ := sumA_hg hN hD h3 hf 4 0 x z hx e
    have o1 := (sumA_rd hN 4 0 x z hx e).1
    by_cases c : kA ts z.1 = 60 ∨ kA ts z.1 = 62 ∨ kA ts z.1 = 61
    · rw [if_pos c] at h
      have o2 : xOk ts (z.1 + 1, z.2) := by
        rcases c with c | c | c <;> exact xTick o1 c (by decide)
      cases e' : sumA ts L ps 4 0 (z.1 + 1, z.2) with
      | error w => rw [e'] at h; cases h
      | ok w =>
        rw [e'] at h
        cases h
        obtain ⟨l', e3, e4⟩ := sumA_hg hN hD h3 hf 4 0 _ w o2 e'
        have e3 : w.2.2 = z.2.2 ++ l' := e3
        have hr : relV (kA ts z.1) = 11 ∨ relV (kA ts z.1) = 12 ∨ relV (kA ts z.1) = 13 := by
          unfold relV
          split
          · exact Or.inl rfl
          · split
            · exact Or.inr (Or.inl rfl)
            · exact Or.inr (Or.inr rfl)
        refine ⟨l ++ (l' ++ [(relV (kA ts z.1), 0, 0)]), by show w.2.2 ++ _ = _; rw [e3, e1]; simp only [List.append_assoc], fun k => hgt_app (e2 k) (hgt_app (e4 (k + 1)) ⟨Or.inr (Or.inr (Or.inr (Or.inr (Or.inr ⟨hr, by omega⟩)))), ?_⟩)⟩
        show tmH (relV (kA ts z.1)) (k + 1 + 1) = k + 1
        rcases hr with hr | hr | hr <;> rw [hr] <;> rfl
    · rw [if_neg c] at h; cases h
theorem argA_hg (hN : tsN ts) (hD : ∀ t, kA ts t = 1 → dgA ts t ≤ 2 ^ 20 ∧ bhA ts t ≤ 2) (h3 : ps.length ≤ 3) (hf : ps ≠ [] → f = true) : ∀ (m : Nat) (x : xSt) (n : Nat) (y : xSt × Nat), xOk ts x → argA ts L ps m x n = .ok y → ∃ l c, y.1.2.2 = x.2.2 ++ l ∧ y.2 = n + c ∧ ∀ k, hgt f l k (k + c)
  | 0, x, n, y, hx, h => by cases h; exact ⟨[], 0, (List.append_nil _).symm, rfl, fun k => rfl⟩
  | m + 1, x, n, y, hx, h => by
    rw [argA] at h
    cases e : sumA ts L ps 4 0 x with
    | error z => rw [e] at h; cases h
    | ok z =>
      rw [e] at h
      dsimp only at h
      obtain ⟨l, e1, e2⟩ := sumA_hg hN hD h3 hf 4 0 x z hx e
      have o1 := (sumA_rd hN 4 0 x z hx e).1
      by_cases c : kA ts z.1 = 44 ∧ m ≠ 0
      · rw [if_pos c] at h
        obtain ⟨l', c', e3, e4, e5⟩ := argA_hg hN hD h3 hf m _ _ y (xTick o1 c.1 (by decide)) h
        have e3 : y.1.2.2 = z.2.2 ++ l' := e3
        refine ⟨l ++ l', c' + 1, by rw [e3, e1, List.append_assoc], by omega, fun k => hgt_app (e2 k) ?_⟩
        have := e5 (k + 1)
        rw [show k + 1 + c' = k + (c' + 1) by omega] at this
        exact this
      · rw [if_neg c] at h
        cases h
        exact ⟨l, 1, e1, rfl, e2⟩
theorem argsA_hg (hN : tsN ts) (hD : ∀ t, kA ts t = 1 → dgA ts t ≤ 2 ^ 20 ∧ bhA ts t ≤ 2) (h3 : ps.length ≤ 3) (hf : ps ≠ [] → f = true) (x : xSt) (y : xSt × Nat) (hx : xOk ts x) (h : argsA ts L ps x = .ok y) : ∃ l, y.1.2.2 = x.2.2 ++ l ∧ ∀ k, hgt f l k (k + y.2) := by
  unfold argsA at h
  by_cases c : kA ts x.1 = 40
  · rw [if_pos c] at h
    have o1 := xTick hx c (by decide)
    cases e : arg0 ts L ps (x.1 + 1, x.2) with
    | error z => rw [e] at h; cases h
    | ok z =>
      rw [e] at h
      dsimp only at h
      by_cases c2 : kA ts z.1.1 = 41
      · rw [if_pos c2] at h
        cases h
        unfold arg0 at e
        by_cases c3 : kA ts (x.1 + 1) = 41
        · rw [if_pos c3] at e
          cases e
          exact ⟨[], (List.append_nil _).symm, fun k => rfl⟩
        · rw [if_neg c3] at e
          obtain ⟨l, c', e1, e2, e3⟩ := argA_hg hN hD h3 hf 3 _ _ z o1 e
          refine ⟨l, e1, fun k => ?_⟩
          show hgt f l k (k + z.2)
          rw [e2, Nat.zero_add]
          exact e3 k
      · rw [if_neg c2] at h; cases h
  · rw [if_neg c] at h; cases h
end HGT
