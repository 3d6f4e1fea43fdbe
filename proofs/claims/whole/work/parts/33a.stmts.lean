/-! statements, read: words, calls, definitions -/
abbrev cAl : Type := List Nat × Nat × Nat × Nat
abbrev dEf : Type := List Nat × Nat × Nat
abbrev sRes : Type := xSt × List Nat × List cAl
abbrev gSt : Type := xSt × List dEf
/-- the words of the terms that came on -/
def nwW (x y : xSt) : List Nat := wdL (y.2.2.drop x.2.2.length)
def lsA {σ : Type} (kx : σ → Nat) (st : Nat → σ → Except Nat (σ × List Nat × List cAl)) (ek : Nat) : Nat → Nat → σ → Except Nat (σ × List Nat × List cAl)
  | 0, _, x => .ok (x, [], [])
  | k + 1, a, x => if kx x = ek then .ok (x, [], []) else
    match st a x with
    | .error e => .error e
    | .ok y => match lsA kx st ek k (a + y.2.1.length) y.1 with
      | .error e => .error e
      | .ok z => .ok (z.1, y.2.1 ++ z.2.1, y.2.2 ++ z.2.2)
section STA
variable (ts : List aTk) (L : Nat) (ps : List (List Nat))
/-- a call's expressions -/
def argA : Nat → xSt → Nat → Except Nat (xSt × Nat)
  | 0, x, n => .ok (x, n)
  | k + 1, x, n => match sumA ts L ps 4 0 x with
    | .error e => .error e
    | .ok y => if kA ts y.1 = 44 ∧ k ≠ 0 then argA k (y.1 + 1, y.2) (n + 1) else .ok (y, n + 1)
def arg0 (x : xSt) : Except Nat (xSt × Nat) := if kA ts x.1 = 41 then .ok (x, 0) else argA ts L ps 3 x 0
def argsA (x : xSt) : Except Nat (xSt × Nat) :=
  if kA ts x.1 = 40 then
    match arg0 ts L ps (x.1 + 1, x.2) with
    | .error e => .error e
    | .ok y => if kA ts y.1.1 = 41 then .ok ((y.1.1 + 1, y.1.2), y.2) else .error (plA ts L y.1.1)
  else .error (plA ts L x.1)
def callA (a : Nat) (x : xSt) : Except Nat sRes :=
  match argsA ts L ps (x.1 + 1, x.2) with
  | .error e => .error e
  | .ok y => .ok (y.1, 0 :: (nwW x y.1 ++ [16, 0, y.2]), [(nmA ts x.1, y.2, a + 1 + (nwW x y.1).length + 1, x.1)])
def letA (x : xSt) : Except Nat sRes :=
  if kA ts (x.1 + 1) = 30 then
    match slA ps x.2.1 (nmA ts (x.1 + 1)) with
    | none => .error (plA ts L (x.1 + 1))
    | some (p, i, vs') => if kA ts (x.1 + 2) = 61 then
        match sumA ts L ps 4 0 (x.1 + 3, vs', x.2.2) with
        | .error e => .error e
        | .ok y => .ok (y, 0 :: (nwW x y ++ [p + 2, i]), [])
      else .error (plA ts L (x.1 + 2))
  else .error (plA ts L (x.1 + 1))
/-- a loop: how its count or test is read, its word, where its end goes back to -/
def loopA (bl : Nat → xSt → Except Nat sRes) (rd : xSt → Except Nat xSt) (w : Nat) (a : Nat) (x : xSt) : Except Nat sRes :=
  match rd (x.1 + 1, x.2) with
  | .error e => .error e
  | .ok y => match bl (a + 1 + (nwW x y).length + 2) y with
    | .error e => .error e
    | .ok z => .ok (z.1, 0 :: (nwW x y ++ (w :: (a + 1 + (nwW x y).length + 2 + z.2.1.length + 2) :: (z.2.1 ++ [14, if w = 28 then a + 1 + (nwW x y).length else a + 1]))), z.2.2)
def ifA (bl : Nat → xSt → Except Nat sRes) (a : Nat) (x : xSt) : Except Nat sRes :=
  match cndA ts L ps (x.1 + 1, x.2) with
  | .error e => .error e
  | .ok y => match bl (a + 1 + (nwW x y).length + 2) y with
    | .error e => .error e
    | .ok z => if kA ts z.1.1 = 33 then
        match bl (a + 1 + (nwW x y).length + 2 + z.2.1.length + 2) (z.1.1 + 1, z.1.2) with
        | .error e => .error e
        | .ok u => .ok (u.1, 0 :: (nwW x y ++ (15 :: (a + 1 + (nwW x y).length + 2 + z.2.1.length + 2) :: (z.2.1 ++ (14 :: (a + 1 + (nwW x y).length + 2 + z.2.1.length + 2 + u.2.1.length) :: u.2.1)))), z.2.2 ++ u.2.2)
      else .ok (z.1, 0 :: (nwW x y ++ (15 :: (a + 1 + (nwW x y).length + 2 + z.2.1.length) :: z.2.1)), z.2.2)
def sglA (x : xSt) : Except Nat sRes :=
  match sumA ts L ps 4 0 (x.1 + 1, x.2) with
  | .error e => .error e
  | .ok y => .ok (y, 0 :: (nwW x y ++ [kA ts x.1]), [])
/-- a statement that is no definition -/
def stA (bl : Nat → xSt → Except Nat sRes) (a : Nat) (x : xSt) : Except Nat sRes :=
  if 18 ≤ kA ts x.1 ∧ kA ts x.1 ≤ 22 then sglA ts L ps x
  else if kA ts x.1 = 17 ∨ (23 ≤ kA ts x.1 ∧ kA ts x.1 ≤ 26) then .ok ((x.1 + 1, x.2), [0, kA ts x.1], [])
  else if kA ts x.1 = 32 then letA ts L ps x
  else if kA ts x.1 = 28 then loopA bl (sumA ts L ps 4 0) 28 a x
  else if kA ts x.1 = 29 then loopA bl (cndA ts L ps) 29 a x
  else if kA ts x.1 = 15 then ifA ts L ps bl a x
  else if kA ts x.1 = 30 then callA ts L ps a x
  else .error (plA ts L x.1)
def kxA (x : xSt) : Nat := kA ts x.1
/-- a block; so many may lie in one another from here on -/
def bkA : Nat → Nat → xSt → Except Nat sRes
  | 0, _, x => .error (plA ts L x.1)
  | f + 1, a, x => if kA ts x.1 = 123 then
      match lsA (kxA ts) (stA ts L ps (bkA f)) 125 160 a (x.1 + 1, x.2) with
      | .error e => .error e
      | .ok y => if kA ts y.1.1 = 125 then .ok ((y.1.1 + 1, y.1.2), y.2) else .error (plA ts L y.1.1)
    else .error (plA ts L x.1)
def prA : Nat → Nat → List (List Nat) → Except Nat (Nat × List (List Nat))
  | 0, t, qs => .ok (t, qs)
  | k + 1, t, qs => if kA ts t = 30 then (if nmA ts t ∈ qs then .error (plA ts L t) else prA k (t + 1) (qs ++ [nmA ts t])) else .ok (t, qs)
def hasD (ds : List dEf) (x : List Nat) : Bool := ds.any (fun d => d.1 == x)
def dfA (a : Nat) (x : gSt) : Except Nat (gSt × List Nat × List cAl) :=
  if kA ts (x.1.1 + 1) = 30 ∧ hasD x.2 (nmA ts (x.1.1 + 1)) = false then
    match prA ts L 3 (x.1.1 + 2) [] with
    | .error e => .error e
    | .ok q => match bkA ts L q.2 3 (a + 2) (q.1, x.1.2) with
      | .error e => .error e
      | .ok y => .ok ((y.1, x.2 ++ [(nmA ts (x.1.1 + 1), q.2.length, a + 2)]), 14 :: (a + 2 + y.2.1.length + 1) :: (y.2.1 ++ [17]), y.2.2)
  else .error (plA ts L (x.1.1 + 1))
def tsA (a : Nat) (x : gSt) : Except Nat (gSt × List Nat × List cAl) :=
  if kA ts x.1.1 = 31 then dfA ts L a x else
    match stA ts L [] (bkA ts L [] 3) a x.1 with
    | .error e => .error e
    | .ok y => .ok ((y.1, x.2), y.2)
def gxA (x : gSt) : Nat := kA ts x.1.1
def tpA : Except Nat (gSt × List Nat × List cAl) := lsA (gxA ts) (tsA ts L) 34 160 0 ((0, [], []), [])
/-- the calls get their places -/
def lnkA (ds : List dEf) : List cAl → List Nat → Except Nat (List Nat)
  | [], ws => .ok ws
  | c :: cs, ws => match ds.find? (fun d => d.1 == c.1) with
    | none => .error (plA ts L c.2.2.2)
    | some d => if d.2.1 = c.2.1 then lnkA ds cs (ws.set c.2.2.1 d.2.2) else .error (plA ts L c.2.2.2)
def cplA : Except Nat (gSt × List Nat × List cAl × List Nat) :=
  match tpA ts L with
  | .error e => .error e
  | .ok r => match lnkA ts L r.1.2 r.2.2 (r.2.1 ++ [27]) with
    | .error e => .error e
    | .ok ws => .ok (r.1, r.2.1, r.2.2, ws)
end STA
section STR
variable {ts : List aTk} {L : Nat} {ps : List (List Nat)}
/-- sound: s tokens at least, w of them without words -/
def sRd (ts : List aTk) (s w : Nat) (f : Nat → xSt → Except Nat sRes) : Prop := ∀ a x r, xOk ts x → f a x = .ok r → xOk ts r.1 ∧ x.1 + s ≤ r.1.1 ∧ (∃ l, r.1.2.2 = x.2.2 ++ l) ∧ (∃ l, r.1.2.1 = x.2.1 ++ l) ∧ r.2.1.length + 3 * (x.1 + w) ≤ 3 * r.1.1 ∧ 3 * r.2.2.length + x.1 ≤ r.1.1
theorem nwW_len {x x' y : xSt} (h : xGr x' y) (e : x.2.2 = x'.2.2) : (nwW x y).length + 3 * x'.1 ≤ 3 * y.1 ∧ y.2.2 = x.2.2 ++ y.2.2.drop x.2.2.length := by
  obtain ⟨g1, g2, ⟨l, g3⟩, -⟩ := h
  have hd : y.2.2.drop x.2.2.length = l := by rw [e, g3, List.drop_left]
  refine ⟨?_, by rw [hd, e, g3]⟩
  unfold nwW
  rw [hd]
  have := wdL_len l
  rw [g3, List.length_append] at g2
  omega
theorem xTick {x : xSt} {k : Nat} (hx : xOk ts x) (h : kA ts x.1 = k) (hk : k ≠ 34) : xOk ts (x.1 + 1, x.2) := by
  have := kA_lt h hk
  exact ⟨by show x.1 + 1 ≤ _; omega, by show x.2.2.length ≤ x.1 + 1; have := hx.2.1; omega, hx.2.2.1, hx.2.2.2⟩
theorem argA_rd (hN : tsN ts) : ∀ (k : Nat) (x : xSt) (n : Nat) (y : xSt × Nat), xOk ts x → argA ts L ps k x n = .ok y → xOk ts y.1 ∧ x.1 ≤ y.1.1 ∧ y.1.2.2.length + x.1 ≤ x.2.2.length + y.1.1 ∧ (∃ l, y.1.2.2 = x.2.2 ++ l) ∧ (∃ l, y.1.2.1 = x.2.1 ++ l) ∧ y.2 ≤ n + k
  | 0, x, n, y, hx, h => by
    cases h
    exact ⟨hx, Nat.le_refl _, Nat.le_refl _, ⟨[], (List.append_nil _).symm⟩, ⟨[], (List.append_nil _).symm⟩, Nat.le_refl _⟩
  | k + 1, x, n, y, hx, h => by
    rw [argA] at h
    cases e : sumA ts L ps 4 0 x with
    | error z => rw [e] at h; cases h
    | ok z =>
      rw [e] at h
      dsimp only at h
      obtain ⟨o1, g1, g2, ⟨l, g3⟩, ⟨l', g4⟩⟩ := sumA_rd hN 4 0 x z hx e
      by_cases c : kA ts z.1 = 44 ∧ k ≠ 0
      · rw [if_pos c] at h
        obtain ⟨r1, r2, r3, ⟨m, r4⟩, ⟨m', r5⟩, r6⟩ := argA_rd hN k _ _ y (xTick o1 c.1 (by decide)) h
        have r2 : z.1 + 1 ≤ y.1.1 := r2
        have r3 : y.1.2.2.length + (z.1 + 1) ≤ z.2.2.length + y.1.1 := r3
        have r4 : y.1.2.2 = z.2.2 ++ m := r4
        have r5 : y.1.2.1 = z.2.1 ++ m' := r5
        exact ⟨r1, by omega, by omega, ⟨_, by rw [r4, g3, List.append_assoc]⟩, ⟨_, by rw [r5, g4, List.append_assoc]⟩, by omega⟩
      · rw [if_neg c] at h
        cases h
        exact ⟨o1, by show x.1 ≤ z.1; omega, by show z.2.2.length + x.1 ≤ x.2.2.length + z.1; omega, ⟨l, g3⟩, ⟨l', g4⟩, by show n + 1 ≤ n + (k + 1); omega⟩
theorem argsA_rd (hN : tsN ts) (x : xSt) (y : xSt × Nat) (hx : xOk ts x) (h : argsA ts L ps x = .ok y) : xOk ts y.1 ∧ x.1 + 2 ≤ y.1.1 ∧ y.1.2.2.length + (x.1 + 2) ≤ x.2.2.length + y.1.1 ∧ (∃ l, y.1.2.2 = x.2.2 ++ l) ∧ (∃ l, y.1.2.1 = x.2.1 ++ l) ∧ y.2 ≤ 3 := by
  unfold argsA at h
  by_cases c : kA ts x.1 = 40
  · rw [if_pos c] at h
    have o1 := xTick hx c (by decide)
    cases e : arg0 ts L ps (x.1 + 1, x.2) with
    | error z => rw [e] at h; cases h
    | ok z =>
      rw [e] at h
      dsimp only at h
      by_cases c2 : kA ts z.1.1 = 41
      · rw [if_pos c2] at h
        cases h
        unfold arg0 at e
        by_cases c3 : kA ts (x.1 + 1) = 41
        · rw [if_pos c3] at e
          cases e
          exact ⟨xTick o1 c2 (by decide), Nat.le_refl _, Nat.le_refl _, ⟨[], (List.append_nil _).symm⟩, ⟨[], (List.append_nil _).symm⟩, Nat.zero_le _⟩
        · rw [if_neg c3] at e
          obtain ⟨r1, r2, r3, r4, r5, r6⟩ := argA_rd hN 3 _ _ z o1 e
          have r2 : x.1 + 1 ≤ z.1.1 := r2
          have r3 : z.1.2.2.length + (x.1 + 1) ≤ x.2.2.length + z.1.1 := r3
          exact ⟨xTick r1 c2 (by decide), by show x.1 + 2 ≤ z.1.1 + 1; omega, by show z.1.2.2.length + (x.1 + 2) ≤ x.2.2.length + (z.1.1 + 1); omega, r4, r5, by show z.2 ≤ 3; omega⟩
      · rw [if_neg c2] at h; cases h
  · rw [if_neg c] at h; cases h
theorem callA_rd (hN : tsN ts) {a : Nat} {x : xSt} {r : sRes} (hx : xOk ts x) (h : callA ts L ps a x = .ok r) (hk : kA ts x.1 = 30) : xOk ts r.1 ∧ x.1 + 1 ≤ r.1.1 ∧ (∃ l, r.1.2.2 = x.2.2 ++ l) ∧ (∃ l, r.1.2.1 = x.2.1 ++ l) ∧ r.2.1.length + 3 * (x.1 + 0) ≤ 3 * r.1.1 ∧ 3 * r.2.2.length + x.1 ≤ r.1.1 := by
  unfold callA at h
  cases e : argsA ts L ps (x.1 + 1, x.2) with
  | error z => rw [e] at h; cases h
  | ok z =>
    rw [e] at h
    cases h
    obtain ⟨r1, r2, r3, ⟨l, r4⟩, r5, r6⟩ := argsA_rd hN _ z (xTick hx hk (by decide)) e
    have r2 : x.1 + 1 + 2 ≤ z.1.1 := r2
    have r3 : z.1.2.2.length + (x.1 + 1 + 2) ≤ x.2.2.length + z.1.1 := r3
    have r4 : z.1.2.2 = x.2.2 ++ l := r4
    have hw : nwW x z.1 = wdL l := by unfold nwW; rw [r4, List.drop_left]
    have := wdL_len l
    rw [r4, List.length_append] at r3
    refine ⟨r1, by show x.1 + 1 ≤ z.1.1; omega, ⟨l, r4⟩, r5, ?_, ?_⟩
    · show (0 :: (nwW x z.1 ++ [16, 0, z.2])).length + _ ≤ 3 * z.1.1
      rw [hw, List.length_cons, List.length_append]
      simp only [List.length_cons, List.length_nil]
      omega
    · show 3 * 1 + x.1 ≤ z.1.1
      omega
theorem letA_rd (hN : tsN ts) {x : xSt} {r : sRes} (hx : xOk ts x) (h : letA ts L ps x = .ok r) : xOk ts r.1 ∧ x.1 + 1 ≤ r.1.1 ∧ (∃ l, r.1.2.2 = x.2.2 ++ l) ∧ (∃ l, r.1.2.1 = x.2.1 ++ l) ∧ r.2.1.length + 3 * (x.1 + 0) ≤ 3 * r.1.1 ∧ 3 * r.2.2.length + x.1 ≤ r.1.1 := by
  unfold letA at h
  by_cases c : kA ts (x.1 + 1) = 30
  · rw [if_pos c] at h
    have l1 := kA_lt c (by decide)
    cases es : slA ps x.2.1 (nmA ts (x.1 + 1)) with
    | none => rw [es] at h; cases h
    | some q =>
      obtain ⟨p, i, vs'⟩ := q
      rw [es] at h
      dsimp only at h
      obtain ⟨s1, s2, ⟨m, s3⟩, s4⟩ := slA_ok hx.2.2.1 hx.2.2.2 (nmA_ok hN c) es
      by_cases c2 : kA ts (x.1 + 2) = 61
      · rw [if_pos c2] at h
        have l2 := kA_lt c2 (by decide)
        cases e : sumA ts L ps 4 0 (x.1 + 3, vs', x.2.2) with
        | error z => rw [e] at h; cases h
        | ok z =>
          rw [e] at h
          cases h
          obtain ⟨o1, g⟩ := sumA_rd hN 4 0 _ z ⟨by show x.1 + 3 ≤ _; omega, by show x.2.2.length ≤ x.1 + 3; have := hx.2.1; omega, s1, s2⟩ e
          have hw := nwW_len (x := x) g rfl
          obtain ⟨g1, g2, g3, ⟨l', g4⟩⟩ := g
          have g1 : x.1 + 3 < z.1 := g1
          have g4 : z.2.1 = vs' ++ l' := g4
          have hw1 : (nwW x z).length + 3 * (x.1 + 3) ≤ 3 * z.1 := hw.1
          refine ⟨o1, by show x.1 + 1 ≤ z.1; omega, g3, ⟨_, by rw [g4, s3, List.append_assoc]⟩, ?_, by show 3 * 0 + x.1 ≤ z.1; omega⟩
          show (0 :: (nwW x z ++ [p + 2, i])).length + _ ≤ 3 * z.1
          rw [List.length_cons, List.length_append]
          simp only [List.length_cons, List.length_nil]
          omega
      · rw [if_neg c2] at h; cases h
  · rw [if_neg c] at h; cases h
theorem loopA_rd {rd : xSt → Except Nat xSt} {bl : Nat → xSt → Except Nat sRes} (hr : xRd ts rd) (hb : sRd ts 2 2 bl) {w a k : Nat} {x : xSt} {r : sRes} (hx : xOk ts x) (h : loopA bl rd w a x = .ok r) (hk : kA ts x.1 = k) (hk' : k ≠ 34) : xOk ts r.1 ∧ x.1 + 1 ≤ r.1.1 ∧ (∃ l, r.1.2.2 = x.2.2 ++ l) ∧ (∃ l, r.1.2.1 = x.2.1 ++ l) ∧ r.2.1.length + 3 * (x.1 + 0) ≤ 3 * r.1.1 ∧ 3 * r.2.2.length + x.1 ≤ r.1.1 := by
  unfold loopA at h
  cases e : rd (x.1 + 1, x.2) with
  | error z => rw [e] at h; cases h
  | ok y =>
    rw [e] at h
    dsimp only at h
    obtain ⟨o1, g⟩ := hr _ y (xTick hx hk hk') e
    have hw := nwW_len (x := x) g rfl
    obtain ⟨g1, g2, ⟨l, g3⟩, ⟨l', g4⟩⟩ := g
    have g1 : x.1 + 1 < y.1 := g1
    have g3 : y.2.2 = x.2.2 ++ l := g3
    have g4 : y.2.1 = x.2.1 ++ l' := g4
    have hw1 : (nwW x y).length + 3 * (x.1 + 1) ≤ 3 * y.1 := hw.1
    cases e2 : bl (a + 1 + (nwW x y).length + 2) y with
    | error z => rw [e2] at h; cases h
    | ok z =>
      rw [e2] at h
      cases h
      obtain ⟨b1, b2, ⟨m, b3⟩, ⟨m', b4⟩, b5, b6⟩ := hb _ y z o1 e2
      refine ⟨b1, by show x.1 + 1 ≤ z.1.1; omega, ⟨_, by show z.1.2.2 = _; rw [b3, g3, List.append_assoc]⟩, ⟨_, by show z.1.2.1 = _; rw [b4, g4, List.append_assoc]⟩, ?_, by show 3 * z.2.2.length + x.1 ≤ z.1.1; omega⟩
      show (0 :: (nwW x y ++ (w :: _ :: (z.2.1 ++ [14, _])))).length + _ ≤ 3 * z.1.1
      simp only [List.length_cons, List.length_append, List.length_nil]
      omega
theorem ifA_rd (hN : tsN ts) {bl : Nat → xSt → Except Nat sRes} (hb : sRd ts 2 2 bl) {a : Nat} {x : xSt} {r : sRes} (hx : xOk ts x) (h : ifA ts L ps bl a x = .ok r) (hk : kA ts x.1 = 15) : xOk ts r.1 ∧ x.1 + 1 ≤ r.1.1 ∧ (∃ l, r.1.2.2 = x.2.2 ++ l) ∧ (∃ l, r.1.2.1 = x.2.1 ++ l) ∧ r.2.1.length + 3 * (x.1 + 0) ≤ 3 * r.1.1 ∧ 3 * r.2.2.length + x.1 ≤ r.1.1 := by
  unfold ifA at h
  cases e : cndA ts L ps (x.1 + 1, x.2) with
  | error z => rw [e] at h; cases h
  | ok y =>
    rw [e] at h
    dsimp only at h
    obtain ⟨o1, g⟩ := cndA_rd hN _ y (xTick hx hk (by decide)) e
    have hw := nwW_len (x := x) g rfl
    obtain ⟨g1, g2, ⟨l, g3⟩, ⟨l', g4⟩⟩ := g
    have g1 : x.1 + 1 < y.1 := g1
    have g3 : y.2.2 = x.2.2 ++ l := g3
    have g4 : y.2.1 = x.2.1 ++ l' := g4
    have hw1 : (nwW x y).length + 3 * (x.1 + 1) ≤ 3 * y.1 := hw.1
    cases e2 : bl (a + 1 + (nwW x y).length + 2) y with
    | error z => rw [e2] at h; cases h
    | ok z =>
      rw [e2] at h
      dsimp only at h
      obtain ⟨b1, b2, ⟨m, b3⟩, ⟨m', b4⟩, b5, b6⟩ := hb _ y z o1 e2
      by_cases c : kA ts z.1.1 = 33
      · rw [if_pos c] at h
        cases e3 : bl (a + 1 + (nwW x y).length + 2 + z.2.1.length + 2) (z.1.1 + 1, z.1.2) with
        | error u => rw [e3] at h; cases h
        | ok u =>
          rw [e3] at h
          cases h
          obtain ⟨c1, c2, ⟨v, c3⟩, ⟨v', c4⟩, c5, c6⟩ := hb _ _ u (xTick b1 c (by decide)) e3
          have c2 : z.1.1 + 1 + 2 ≤ u.1.1 := c2
          have c3 : u.1.2.2 = z.1.2.2 ++ v := c3
          have c4 : u.1.2.1 = z.1.2.1 ++ v' := c4
          have c5 : u.2.1.length + 3 * (z.1.1 + 1 + 2) ≤ 3 * u.1.1 := c5
          have c6 : 3 * u.2.2.length + (z.1.1 + 1) ≤ u.1.1 := c6
          refine ⟨c1, by show x.1 + 1 ≤ u.1.1; omega, ⟨_, by show u.1.2.2 = _; rw [c3, b3, g3, List.append_assoc, List.append_assoc]⟩, ⟨_, by show u.1.2.1 = _; rw [c4, b4, g4, List.append_assoc, List.append_assoc]⟩, ?_, ?_⟩
          · show (0 :: (nwW x y ++ (15 :: _ :: (z.2.1 ++ (14 :: _ :: u.2.1))))).length + _ ≤ 3 * u.1.1
            simp only [List.length_cons, List.length_append]
            omega
          · show 3 * (z.2.2 ++ u.2.2).length + x.1 ≤ u.1.1
            rw [List.length_append]
            omega
      · rw [if_neg c] at h
        cases h
        refine ⟨b1, by show x.1 + 1 ≤ z.1.1; omega, ⟨_, by show z.1.2.2 = _; rw [b3, g3, List.append_assoc]⟩, ⟨_, by show z.1.2.1 = _; rw [b4, g4, List.append_assoc]⟩, ?_, by show 3 * z.2.2.length + x.1 ≤ z.1.1; omega⟩
        show (0 :: (nwW x y ++ (15 :: _ :: z.2.1))).length + _ ≤ 3 * z.1.1
        simp only [List.length_cons, List.length_append]
        omega
theorem stA_rd (hN : tsN ts) {bl : Nat → xSt → Except Nat sRes} (hb : sRd ts 2 2 bl) : sRd ts 1 0 (stA ts L ps bl) := by
  intro a x r hx h
  unfold stA at h
  by_cases c1 : 18 ≤ kA ts x.1 ∧ kA ts x.1 ≤ 22
  · rw [if_pos c1] at h
    unfold sglA at h
    cases e : sumA ts L ps 4 0 (x.1 + 1, x.2) with
    | error z => rw [e] at h; cases h
    | ok y =>
      rw [e] at h
      cases h
      obtain ⟨o1, g⟩ := sumA_rd hN 4 0 _ y (xTick hx rfl (by omega)) e
      have hw := nwW_len (x := x) g rfl
      obtain ⟨g1, g2, g3, g4⟩ := g
      have g1 : x.1 + 1 < y.1 := g1
      have hw1 : (nwW x y).length + 3 * (x.1 + 1) ≤ 3 * y.1 := hw.1
      refine ⟨o1, by show x.1 + 1 ≤ y.1; omega, g3, g4, ?_, by show 3 * 0 + x.1 ≤ y.1; omega⟩
      show (0 :: (nwW x y ++ [kA ts x.1])).length + _ ≤ 3 * y.1
      simp only [List.length_cons, List.length_append, List.length_nil]
      omega
  rw [if_neg c1] at h
  by_cases c2 : kA ts x.1 = 17 ∨ (23 ≤ kA ts x.1 ∧ kA ts x.1 ≤ 26)
  · rw [if_pos c2] at h
    cases h
    exact ⟨xTick hx rfl (by omega), Nat.le_refl _, ⟨[], (List.append_nil _).symm⟩, ⟨[], (List.append_nil _).symm⟩, by show 2 + 3 * (x.1 + 0) ≤ 3 * (x.1 + 1); omega, by show 3 * 0 + x.1 ≤ x.1 + 1; omega⟩
  rw [if_neg c2] at h
  by_cases c3 : kA ts x.1 = 32
  · rw [if_pos c3] at h
    exact letA_rd hN hx h
  rw [if_neg c3] at h
  by_cases c4 : kA ts x.1 = 28
  · rw [if_pos c4] at h
    exact loopA_rd (sumA_rd hN 4 0) hb hx h c4 (by decide)
  rw [if_neg c4] at h
  by_cases c5 : kA ts x.1 = 29
  · rw [if_pos c5] at h
    exact loopA_rd (cndA_rd hN) hb hx h c5 (by decide)
  rw [if_neg c5] at h
  by_cases c6 : kA ts x.1 = 15
  · rw [if_pos c6] at h
    exact ifA_rd hN hb hx h c6
  rw [if_neg c6] at h
  by_cases c7 : kA ts x.1 = 30
  · rw [if_pos c7] at h
    exact callA_rd hN hx h c7
  rw [if_neg c7] at h
  cases h
theorem lsA_rd {kx : xSt → Nat} {st : Nat → xSt → Except Nat sRes} {ek : Nat} (hs : sRd ts 1 0 st) : ∀ (k : Nat), sRd ts 0 0 (lsA kx st ek k)
  | 0 => fun a x r hx h => by
    cases h
    exact ⟨hx, Nat.le_refl _, ⟨[], (List.append_nil _).symm⟩, ⟨[], (List.append_nil _).symm⟩, by show 0 + 3 * (x.1 + 0) ≤ 3 * x.1; omega, by show 3 * 0 + x.1 ≤ x.1; omega⟩
  | k + 1 => fun a x r hx h => by
    rw [lsA] at h
    by_cases c : kx x = ek
    · rw [if_pos c] at h
      cases h
      exact ⟨hx, Nat.le_refl _, ⟨[], (List.append_nil _).symm⟩, ⟨[], (List.append_nil _).symm⟩, by show 0 + 3 * (x.1 + 0) ≤ 3 * x.1; omega, by show 3 * 0 + x.1 ≤ x.1; omega⟩
    · rw [if_neg c] at h
      cases e : st a x with
      | error z => rw [e] at h; cases h
      | ok y =>
        rw [e] at h
        dsimp only at h
        cases e2 : lsA kx st ek k (a + y.2.1.length) y.1 with
        | error z => rw [e2] at h; cases h
        | ok z =>
          rw [e2] at h
          cases h
          obtain ⟨b1, b2, ⟨m, b3⟩, ⟨m', b4⟩, b5, b6⟩ := hs _ x y hx e
          obtain ⟨c1, c2, ⟨v, c3⟩, ⟨v', c4⟩, c5, c6⟩ := lsA_rd hs k _ y.1 z b1 e2
          refine ⟨c1, by show x.1 + 0 ≤ z.1.1; omega, ⟨_, by show z.1.2.2 = _; rw [c3, b3, List.append_assoc]⟩, ⟨_, by show z.1.2.1 = _; rw [c4, b4, List.append_assoc]⟩, ?_, ?_⟩
          · show (y.2.1 ++ z.2.1).length + 3 * (x.1 + 0) ≤ 3 * z.1.1
            rw [List.length_append]
            omega
          · show 3 * (y.2.2 ++ z.2.2).length + x.1 ≤ z.1.1
            rw [List.length_append]
            omega
theorem bkA_rd (hN : tsN ts) : ∀ (f : Nat), sRd ts 2 2 (bkA ts L ps f)
  | 0 => fun a x r hx h => by cases h
  | f + 1 => fun a x r hx h => by
    rw [bkA] at h
    by_cases c : kA ts x.1 = 123
    · rw [if_pos c] at h
      cases e : lsA (kxA ts) (stA ts L ps (bkA ts L ps f)) 125 160 a (x.1 + 1, x.2) with
      | error z => rw [e] at h; cases h
      | ok y =>
        rw [e] at h
        dsimp only at h
        by_cases c2 : kA ts y.1.1 = 125
        · rw [if_pos c2] at h
          cases h
          obtain ⟨c1, c2', c3, c4, c5, c6⟩ := lsA_rd (stA_rd hN (bkA_rd hN f)) 160 a _ y (xTick hx c (by decide)) e
          have c2' : x.1 + 1 + 0 ≤ y.1.1 := c2'
          have c5 : y.2.1.length + 3 * (x.1 + 1 + 0) ≤ 3 * y.1.1 := c5
          have c6 : 3 * y.2.2.length + (x.1 + 1) ≤ y.1.1 := c6
          exact ⟨xTick c1 c2 (by decide), by show x.1 + 2 ≤ y.1.1 + 1; omega, c3, c4, by show y.2.1.length + 3 * (x.1 + 2) ≤ 3 * (y.1.1 + 1); omega, by show 3 * y.2.2.length + x.1 ≤ y.1.1 + 1; omega⟩
        · rw [if_neg c2] at h; cases h
    · rw [if_neg c] at h; cases h
theorem prA_rd (hN : tsN ts) : ∀ (k t : Nat) (qs : List (List Nat)) (q : Nat × List (List Nat)), t ≤ ts.length → (∀ y ∈ qs, nmOk y) → prA ts L k t qs = .ok q → q.1 ≤ ts.length ∧ t ≤ q.1 ∧ (∀ y ∈ q.2, nmOk y) ∧ q.2.length ≤ qs.length + k
  | 0, t, qs, q, ht, hq, h => by cases h; exact ⟨ht, Nat.le_refl _, hq, Nat.le_refl _⟩
  | k + 1, t, qs, q, ht, hq, h => by
    rw [prA] at h
    by_cases c : kA ts t = 30
    · rw [if_pos c] at h
      by_cases c2 : nmA ts t ∈ qs
      · rw [if_pos c2] at h; cases h
      · rw [if_neg c2] at h
        have := kA_lt c (by decide)
        obtain ⟨r1, r2, r3, r4⟩ := prA_rd hN k (t + 1) _ q (by omega) (fun y hy => by
          rcases List.mem_append.mp hy with hy | hy
          · exact hq y hy
          · rw [List.mem_singleton.mp hy]; exact nmA_ok hN c) h
        rw [List.length_append, List.length_singleton] at r4
        exact ⟨r1, by omega, r3, by omega⟩
    · rw [if_neg c] at h
      cases h
      exact ⟨ht, Nat.le_refl _, hq, Nat.le_add_right _ _⟩
end STR
