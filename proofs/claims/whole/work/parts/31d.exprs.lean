/-! expressions, read: token, variables, terms -/
abbrev xSt : Type := Nat × List (List Nat) × List (Nat × Nat × Nat)
section XRD
variable (ts : List aTk) (L : Nat) (ps : List (List Nat))
/-- what stands in a factor behind its sign -/
def inrA (sm : xSt → Except Nat xSt) (dp : Nat) (x : xSt) : Except Nat xSt :=
  if kA ts x.1 = 1 then .ok (x.1 + 1, x.2.1, x.2.2 ++ [(1, dgA ts x.1, bhA ts x.1)])
  else if kA ts x.1 = 30 then
    match slA ps x.2.1 (nmA ts x.1) with
    | some (p, k, vs') => .ok (x.1 + 1, vs', x.2.2 ++ [(p, k, 0)])
    | none => .error (plA ts L x.1)
  else if kA ts x.1 = 40 then
    if 3 ≤ dp then .error (plA ts L x.1)
    else match sm (x.1 + 1, x.2) with
      | .error e => .error e
      | .ok y => if kA ts y.1 = 41 then .ok (y.1 + 1, y.2) else .error (plA ts L y.1)
  else .error (plA ts L x.1)
def fctA (sm : xSt → Except Nat xSt) (dp : Nat) (x : xSt) : Except Nat xSt :=
  if kA ts x.1 = 45 then
    match inrA ts L ps sm dp (x.1 + 1, x.2) with
    | .error e => .error e
    | .ok y => .ok (y.1, y.2.1, y.2.2 ++ [(10, 0, 0)])
  else inrA ts L ps sm dp x
/-- what follows the first of several, parted by two signs -/
def lopA (a b oa ob : Nat) (one : xSt → Except Nat xSt) : Nat → xSt → Except Nat xSt
  | 0, x => .ok x
  | k + 1, x => if kA ts x.1 = a ∨ kA ts x.1 = b then
      match one (x.1 + 1, x.2) with
      | .error e => .error e
      | .ok y => lopA a b oa ob one k (y.1, y.2.1, y.2.2 ++ [(if kA ts x.1 = a then oa else ob, 0, 0)])
    else .ok x
def prdA (sm : xSt → Except Nat xSt) (dp : Nat) (x : xSt) : Except Nat xSt :=
  match fctA ts L ps sm dp x with
  | .error e => .error e
  | .ok y => lopA ts 42 47 8 9 (fctA ts L ps sm dp) 160 y
def sumA : Nat → Nat → xSt → Except Nat xSt
  | 0, _, x => .error (plA ts L x.1)
  | f + 1, dp, x =>
    match prdA ts L ps (sumA f (dp + 1)) dp x with
    | .error e => .error e
    | .ok y => lopA ts 43 45 6 7 (prdA ts L ps (sumA f (dp + 1)) dp) 160 y
end XRD
section XPR
variable {ts : List aTk} {L dp : Nat} {ps : List (List Nat)} {sm : xSt → Except Nat xSt}
/-- sound: tokens left, terms and names in bounds -/
def xOk (ts : List aTk) (x : xSt) : Prop := x.1 ≤ ts.length ∧ x.2.2.length ≤ x.1 ∧ x.2.1.length ≤ 8 ∧ ∀ y ∈ x.2.1, nmOk y
def xGr (x y : xSt) : Prop := x.1 < y.1 ∧ y.2.2.length + x.1 ≤ x.2.2.length + y.1 ∧ (∃ l, y.2.2 = x.2.2 ++ l) ∧ ∃ l, y.2.1 = x.2.1 ++ l
/-- reads soundly -/
def xRd (ts : List aTk) (f : xSt → Except Nat xSt) : Prop := ∀ x y, xOk ts x → f x = .ok y → xOk ts y ∧ xGr x y
def tsN (ts : List aTk) : Prop := ∀ (i : Nat) (tk : aTk), ts[i]? = some tk → tk.1 = 30 → nmOk tk.2.2.1
theorem kA_lt {t k : Nat} (h : kA ts t = k) (hk : k ≠ 34) : t < ts.length := by
  obtain ⟨tk, e, -⟩ := kA_in h hk
  exact ts_lt e
theorem nmA_ok (hN : tsN ts) {t : Nat} (h : kA ts t = 30) : nmOk (nmA ts t) := by
  obtain ⟨tk, e, e1⟩ := kA_in h (by decide)
  rw [show nmA ts t = tk.2.2.1 by unfold nmA; rw [e]]
  exact hN t tk e e1
theorem slA_ok {vs vs' : List (List Nat)} {x : List Nat} {p k : Nat} (h8 : vs.length ≤ 8) (hv : ∀ y ∈ vs, nmOk y) (hx : nmOk x) (h : slA ps vs x = some (p, k, vs')) : vs'.length ≤ 8 ∧ (∀ y ∈ vs', nmOk y) ∧ (∃ l, vs' = vs ++ l) ∧ ((p = 3 ∧ k < ps.length) ∨ (p = 2 ∧ k < 8)) := by
  unfold slA at h
  cases e1 : ps.findIdx? (fun y => y == x) with
  | some j =>
    rw [e1] at h
    cases h
    exact ⟨h8, hv, ⟨[], (List.append_nil _).symm⟩, Or.inl ⟨rfl, fnd_lt e1⟩⟩
  | none =>
    rw [e1] at h
    dsimp only at h
    cases e2 : vs.findIdx? (fun y => y == x) with
    | some j =>
      rw [e2] at h
      cases h
      have := fnd_lt e2
      exact ⟨h8, hv, ⟨[], (List.append_nil _).symm⟩, Or.inr ⟨rfl, by omega⟩⟩
    | none =>
      rw [e2] at h
      dsimp only at h
      by_cases lt : vs.length < 8
      · rw [if_pos lt] at h
        cases h
        refine ⟨by rw [List.length_append, List.length_singleton]; omega, fun y hy => ?_, ⟨_, rfl⟩, Or.inr ⟨rfl, lt⟩⟩
        rcases List.mem_append.mp hy with hy | hy
        · exact hv y hy
        · rw [List.mem_singleton.mp hy]; exact hx
      · rw [if_neg lt] at h
        cases h
theorem inrA_rd (hN : tsN ts) (hs : dp < 3 → xRd ts sm) : xRd ts (inrA ts L ps sm dp) := by
  intro x y hx h
  obtain ⟨x1, x2, x3, x4⟩ := hx
  unfold inrA at h
  by_cases c1 : kA ts x.1 = 1
  · rw [if_pos c1] at h
    cases h
    have := kA_lt c1 (by decide)
    refine ⟨⟨by omega, by rw [List.length_append, List.length_singleton]; show _ ≤ x.1 + 1; omega, x3, x4⟩, by show x.1 < x.1 + 1; omega, ?_, ⟨_, rfl⟩, ⟨[], (List.append_nil _).symm⟩⟩
    rw [List.length_append, List.length_singleton]
    show _ ≤ _ + (x.1 + 1)
    omega
  rw [if_neg c1] at h
  by_cases c2 : kA ts x.1 = 30
  · rw [if_pos c2] at h
    have := kA_lt c2 (by decide)
    cases e : slA ps x.2.1 (nmA ts x.1) with
    | none => rw [e] at h; cases h
    | some r =>
      obtain ⟨p, k, vs'⟩ := r
      rw [e] at h
      cases h
      have s := slA_ok x3 x4 (nmA_ok hN c2) e
      refine ⟨⟨by omega, by rw [List.length_append, List.length_singleton]; show _ ≤ x.1 + 1; omega, s.1, s.2.1⟩, by show x.1 < x.1 + 1; omega, ?_, ⟨_, rfl⟩, s.2.2.1⟩
      rw [List.length_append, List.length_singleton]
      show _ ≤ _ + (x.1 + 1)
      omega
  rw [if_neg c2] at h
  by_cases c3 : kA ts x.1 = 40
  · rw [if_pos c3] at h
    have := kA_lt c3 (by decide)
    by_cases c4 : 3 ≤ dp
    · rw [if_pos c4] at h; cases h
    · rw [if_neg c4] at h
      cases e : sm (x.1 + 1, x.2) with
      | error z => rw [e] at h; cases h
      | ok z =>
        rw [e] at h
        dsimp only at h
        obtain ⟨⟨z1, z2, z3, z4⟩, g1, g2, g3, g4⟩ := hs (by omega) (x.1 + 1, x.2) z ⟨by omega, by show x.2.2.length ≤ x.1 + 1; omega, x3, x4⟩ e
        have g1 : x.1 + 1 < z.1 := g1
        have g2 : z.2.2.length + (x.1 + 1) ≤ x.2.2.length + z.1 := g2
        by_cases c5 : kA ts z.1 = 41
        · rw [if_pos c5] at h
          cases h
          have := kA_lt c5 (by decide)
          exact ⟨⟨by omega, by show z.2.2.length ≤ z.1 + 1; omega, z3, z4⟩, by show x.1 < z.1 + 1; omega, by show z.2.2.length + x.1 ≤ x.2.2.length + (z.1 + 1); omega, g3, g4⟩
        · rw [if_neg c5] at h; cases h
  · rw [if_neg c3] at h; cases h
theorem fctA_rd (hN : tsN ts) (hs : dp < 3 → xRd ts sm) : xRd ts (fctA ts L ps sm dp) := by
  intro x y hx h
  unfold fctA at h
  by_cases c : kA ts x.1 = 45
  · rw [if_pos c] at h
    have := kA_lt c (by decide)
    cases e : inrA ts L ps sm dp (x.1 + 1, x.2) with
    | error z => rw [e] at h; cases h
    | ok z =>
      rw [e] at h
      cases h
      obtain ⟨x1, x2, x3, x4⟩ := hx
      obtain ⟨⟨z1, z2, z3, z4⟩, g1, g2, ⟨l, g3⟩, g4⟩ := inrA_rd hN hs (x.1 + 1, x.2) z ⟨by omega, by show x.2.2.length ≤ x.1 + 1; omega, x3, x4⟩ e
      have g1 : x.1 + 1 < z.1 := g1
      have g2 : z.2.2.length + (x.1 + 1) ≤ x.2.2.length + z.1 := g2
      have g3 : z.2.2 = x.2.2 ++ l := g3
      refine ⟨⟨z1, by rw [List.length_append, List.length_singleton]; show _ ≤ z.1; omega, z3, z4⟩, by show x.1 < z.1; omega, ?_, ⟨l ++ [(10, 0, 0)], ?_⟩, g4⟩
      · rw [List.length_append, List.length_singleton]
        show _ ≤ _ + z.1
        omega
      · show z.2.2 ++ _ = _
        rw [g3, List.append_assoc]
  · rw [if_neg c] at h
    exact inrA_rd hN hs x y hx h
theorem lopA_rd {a b oa ob : Nat} (ha : a ≠ 34) (hb : b ≠ 34) {one : xSt → Except Nat xSt} (h1 : xRd ts one) : ∀ (k : Nat) (x y : xSt), xOk ts x → lopA ts a b oa ob one k x = .ok y → xOk ts y ∧ x.1 ≤ y.1 ∧ y.2.2.length + x.1 ≤ x.2.2.length + y.1 ∧ (∃ l, y.2.2 = x.2.2 ++ l) ∧ ∃ l, y.2.1 = x.2.1 ++ l
  | 0, x, y, hx, h => by
    cases h
    exact ⟨hx, Nat.le_refl _, Nat.le_refl _, ⟨[], (List.append_nil _).symm⟩, ⟨[], (List.append_nil _).symm⟩⟩
  | k + 1, x, y, hx, h => by
    rw [lopA] at h
    by_cases c : kA ts x.1 = a ∨ kA ts x.1 = b
    · rw [if_pos c] at h
      have hlt : x.1 < ts.length := c.elim (fun z => kA_lt z ha) (fun z => kA_lt z hb)
      cases e : one (x.1 + 1, x.2) with
      | error z => rw [e] at h; cases h
      | ok z =>
        rw [e] at h
        obtain ⟨x1, x2, x3, x4⟩ := hx
        obtain ⟨⟨z1, z2, z3, z4⟩, g1, g2, ⟨l, g3⟩, ⟨l', g4⟩⟩ := h1 (x.1 + 1, x.2) z ⟨by omega, by show x.2.2.length ≤ x.1 + 1; omega, x3, x4⟩ e
        have g1 : x.1 + 1 < z.1 := g1
        have g2 : z.2.2.length + (x.1 + 1) ≤ x.2.2.length + z.1 := g2
        have g3 : z.2.2 = x.2.2 ++ l := g3
        have g4 : z.2.1 = x.2.1 ++ l' := g4
        obtain ⟨r1, r2, r3, ⟨m, r4⟩, ⟨m', r5⟩⟩ := lopA_rd ha hb h1 k (z.1, z.2.1, z.2.2 ++ [(if kA ts x.1 = a then oa else ob, 0, 0)]) y ⟨z1, by rw [List.length_append, List.length_singleton]; show _ ≤ z.1; omega, z3, z4⟩ h
        have r2 : z.1 ≤ y.1 := r2
        rw [List.length_append, List.length_singleton] at r3
        have r3 : y.2.2.length + z.1 ≤ z.2.2.length + 1 + y.1 := r3
        have r4 : y.2.2 = (z.2.2 ++ _) ++ m := r4
        have r5 : y.2.1 = z.2.1 ++ m' := r5
        exact ⟨r1, by omega, by omega, ⟨_, by rw [r4, g3, List.append_assoc, List.append_assoc]⟩, ⟨_, by rw [r5, g4, List.append_assoc]⟩⟩
    · rw [if_neg c] at h
      cases h
      exact ⟨hx, Nat.le_refl _, Nat.le_refl _, ⟨[], (List.append_nil _).symm⟩, ⟨[], (List.append_nil _).symm⟩⟩
theorem seq_rd {a b oa ob : Nat} (ha : a ≠ 34) (hb : b ≠ 34) {one : xSt → Except Nat xSt} (h1 : xRd ts one) {k : Nat} : xRd ts (fun x => match one x with | .error e => .error e | .ok y => lopA ts a b oa ob one k y) := by
  intro x y hx h
  dsimp only at h
  cases e : one x with
  | error z => rw [e] at h; cases h
  | ok z =>
    rw [e] at h
    obtain ⟨o1, g1, g2, ⟨l, g3⟩, ⟨l', g4⟩⟩ := h1 x z hx e
    obtain ⟨r1, r2, r3, ⟨m, r4⟩, ⟨m', r5⟩⟩ := lopA_rd ha hb h1 k z y o1 h
    exact ⟨r1, by omega, by omega, ⟨_, by rw [r4, g3, List.append_assoc]⟩, ⟨_, by rw [r5, g4, List.append_assoc]⟩⟩
theorem prdA_rd (hN : tsN ts) (hs : dp < 3 → xRd ts sm) : xRd ts (prdA ts L ps sm dp) := seq_rd (by decide) (by decide) (fctA_rd hN hs)
theorem sumA_rd (hN : tsN ts) : ∀ (f dp : Nat), xRd ts (sumA ts L ps f dp)
  | 0, dp => fun x y hx h => by cases h
  | f + 1, dp => seq_rd (by decide) (by decide) (prdA_rd hN (fun _ => sumA_rd hN f (dp + 1)))
end XPR
