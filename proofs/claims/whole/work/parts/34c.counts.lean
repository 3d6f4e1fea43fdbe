/-! calls and definitions of a text: how many, where -/
def cGd (ts : List aTk) (a b : Nat) (c : cAl) : Prop := c.2.1 ≤ 3 ∧ c.2.2.2 < ts.length ∧ nmOk c.1 ∧ a ≤ c.2.2.1 ∧ c.2.2.1 < b
def sCl (ts : List aTk) (f : Nat → xSt → Except Nat sRes) : Prop := ∀ a x r, xOk ts x → f a x = .ok r → ∀ c ∈ r.2.2, cGd ts a (a + r.2.1.length) c
section CLS
variable {ts : List aTk} {L : Nat} {ps : List (List Nat)}
theorem cGd_mono {a b a' b' : Nat} {c : cAl} (h : cGd ts a b c) (ha : a' ≤ a) (hb : b ≤ b') : cGd ts a' b' c := ⟨h.1, h.2.1, h.2.2.1, Nat.le_trans ha h.2.2.2.1, Nat.lt_of_lt_of_le h.2.2.2.2 hb⟩
theorem stA_cl (hN : tsN ts) {bl : Nat → xSt → Except Nat sRes} (hb : sRd ts 2 2 bl) (hc : sCl ts bl) : sCl ts (stA ts L ps bl) := by
  intro a x r hx h
  unfold stA at h
  by_cases c1 : 18 ≤ kA ts x.1 ∧ kA ts x.1 ≤ 22
  · rw [if_pos c1] at h
    unfold sglA at h
    split at h
    · cases h
    · cases h
      exact fun c hc => by cases hc
  rw [if_neg c1] at h
  by_cases c2 : kA ts x.1 = 17 ∨ (23 ≤ kA ts x.1 ∧ kA ts x.1 ≤ 26)
  · rw [if_pos c2] at h
    cases h
    exact fun c hc => by cases hc
  rw [if_neg c2] at h
  by_cases c3 : kA ts x.1 = 32
  · rw [if_pos c3] at h
    unfold letA at h
    split at h
    · split at h
      · cases h
      · split at h
        · split at h
          · cases h
          · cases h
            exact fun c hc => by cases hc
        · cases h
    · cases h
  rw [if_neg c3] at h
  have loop : ∀ (rd : xSt → Except Nat xSt) (w k : Nat), xRd ts rd → kA ts x.1 = k → k ≠ 34 → loopA bl rd w a x = .ok r → ∀ c ∈ r.2.2, cGd ts a (a + r.2.1.length) c := by
    intro rd w k hr hk hk' h
    unfold loopA at h
    cases e : rd (x.1 + 1, x.2) with
    | error z => rw [e] at h; cases h
    | ok y =>
      rw [e] at h
      dsimp only at h
      cases e2 : bl (a + 1 + (nwW x y).length + 2) y with
      | error z => rw [e2] at h; cases h
      | ok z =>
        rw [e2] at h
        cases h
        have := hc _ y z (hr _ y (xTick hx hk hk') e).1 e2
        intro c hc
        refine cGd_mono (this c hc) (by omega) ?_
        simp only [List.length_cons, List.length_append, List.length_nil]
        omega
  by_cases c4 : kA ts x.1 = 28
  · rw [if_pos c4] at h
    exact loop _ _ _ (sumA_rd hN 4 0) c4 (by decide) h
  rw [if_neg c4] at h
  by_cases c5 : kA ts x.1 = 29
  · rw [if_pos c5] at h
    exact loop _ _ _ (cndA_rd hN) c5 (by decide) h
  rw [if_neg c5] at h
  by_cases c6 : kA ts x.1 = 15
  · rw [if_pos c6] at h
    unfold ifA at h
    cases e : cndA ts L ps (x.1 + 1, x.2) with
    | error z => rw [e] at h; cases h
    | ok y =>
      rw [e] at h
      dsimp only at h
      have o1 := (cndA_rd hN _ y (xTick hx c6 (by decide)) e).1
      cases e2 : bl (a + 1 + (nwW x y).length + 2) y with
      | error z => rw [e2] at h; cases h
      | ok z =>
        rw [e2] at h
        dsimp only at h
        have d1 := hc _ y z o1 e2
        have o2 := (hb _ y z o1 e2).1
        by_cases c : kA ts z.1.1 = 33
        · rw [if_pos c] at h
          cases e3 : bl (a + 1 + (nwW x y).length + 2 + z.2.1.length + 2) (z.1.1 + 1, z.1.2) with
          | error u => rw [e3] at h; cases h
          | ok u =>
            rw [e3] at h
            cases h
            have d2 := hc _ _ u (xTick o2 c (by decide)) e3
            intro c hc
            rcases List.mem_append.mp hc with hc | hc
            · refine cGd_mono (d1 c hc) (by omega) ?_
              simp only [List.length_cons, List.length_append]
              omega
            · refine cGd_mono (d2 c hc) (by omega) ?_
              simp only [List.length_cons, List.length_append]
              omega
        · rw [if_neg c] at h
          cases h
          intro c hc
          refine cGd_mono (d1 c hc) (by omega) ?_
          simp only [List.length_cons, List.length_append]
          omega
  rw [if_neg c6] at h
  by_cases c7 : kA ts x.1 = 30
  · rw [if_pos c7] at h
    unfold callA at h
    cases e : argsA ts L ps (x.1 + 1, x.2) with
    | error z => rw [e] at h; cases h
    | ok z =>
      rw [e] at h
      cases h
      obtain ⟨r1, r2, r3, r4, r5, r6⟩ := argsA_rd hN _ z (xTick hx c7 (by decide)) e
      intro c hc
      rw [List.mem_singleton.mp hc]
      refine ⟨r6, kA_lt c7 (by decide), nmA_ok hN c7, by show a ≤ a + 1 + _ + 1; omega, ?_⟩
      show a + 1 + (nwW x z.1).length + 1 < a + (0 :: (nwW x z.1 ++ [16, 0, z.2])).length
      simp only [List.length_cons, List.length_append, List.length_nil]
      omega
  rw [if_neg c7] at h
  cases h
theorem lsA_cl {kx : xSt → Nat} {st : Nat → xSt → Except Nat sRes} {ek : Nat} (hs : sRd ts 1 0 st) (hc : sCl ts st) : ∀ (k : Nat), sCl ts (lsA kx st ek k)
  | 0 => fun a x r hx h => by
    cases h
    exact fun c hc => by cases hc
  | k + 1 => fun a x r hx h => by
    rw [lsA] at h
    by_cases c : kx x = ek
    · rw [if_pos c] at h
      cases h
      exact fun c hc => by cases hc
    · rw [if_neg c] at h
      cases e : st a x with
      | error z => rw [e] at h; cases h
      | ok y =>
        rw [e] at h
        dsimp only at h
        cases e2 : lsA kx st ek k (a + y.2.1.length) y.1 with
        | error z => rw [e2] at h; cases h
        | ok z =>
          rw [e2] at h
          cases h
          intro c hc'
          rcases List.mem_append.mp hc' with h1 | h1
          · exact cGd_mono (hc _ x y hx e c h1) (Nat.le_refl _) (by rw [List.length_append]; omega)
          · exact cGd_mono (lsA_cl hs hc k _ y.1 z (hs _ x y hx e).1 e2 c h1) (by omega) (by rw [List.length_append]; omega)
theorem bkA_cl (hN : tsN ts) : ∀ (f : Nat), sCl ts (bkA ts L ps f)
  | 0 => fun a x r hx h => by cases h
  | f + 1 => fun a x r hx h => by
    rw [bkA] at h
    by_cases c : kA ts x.1 = 123
    · rw [if_pos c] at h
      cases e : lsA (kxA ts) (stA ts L ps (bkA ts L ps f)) 125 160 a (x.1 + 1, x.2) with
      | error z => rw [e] at h; cases h
      | ok y =>
        rw [e] at h
        dsimp only at h
        by_cases c2 : kA ts y.1.1 = 125
        · rw [if_pos c2] at h
          cases h
          exact lsA_cl (stA_rd hN (bkA_rd hN f)) (stA_cl hN (bkA_rd hN f) (bkA_cl hN f)) 160 a _ y (xTick hx c (by decide)) e
        · rw [if_neg c2] at h; cases h
    · rw [if_neg c] at h; cases h
/-- how tokens lie -/
def plO (ts : List aTk) (L : Nat) : Prop := (∀ t, t < ts.length → plA ts L t + 1 ≤ plA ts L (t + 1)) ∧ ∀ t, kA ts t = 31 → kA ts (t + 1) = 30 → plA ts L t + 3 ≤ plA ts L (t + 1)
theorem plO_add (hP : plO ts L) : ∀ (k t : Nat), t + k ≤ ts.length → plA ts L t + k ≤ plA ts L (t + k)
  | 0, t, h => Nat.le_refl _
  | k + 1, t, h => by
    have h1 := plO_add hP k t (by omega)
    have h2 := hP.1 (t + k) (by omega)
    rw [show t + (k + 1) = t + k + 1 by omega]
    omega
/-- sound, with definitions -/
def gRd (ts : List aTk) (L s : Nat) (f : Nat → gSt → Except Nat (gSt × List Nat × List cAl)) : Prop := ∀ a x r, xOk ts x.1 → f a x = .ok r → xOk ts r.1.1 ∧ x.1.1 + s ≤ r.1.1.1 ∧ r.2.1.length + 3 * x.1.1 ≤ 3 * r.1.1.1 ∧ 3 * r.2.2.length + x.1.1 ≤ r.1.1.1 ∧ (∀ c ∈ r.2.2, cGd ts a (a + r.2.1.length) c) ∧
  ∃ l, r.1.2 = x.2 ++ l ∧ 6 * l.length + plA ts L x.1.1 ≤ plA ts L r.1.1.1 ∧ ∀ d ∈ l, d.2.1 ≤ 3 ∧ nmOk d.1 ∧ a ≤ d.2.2 ∧ d.2.2 ≤ a + r.2.1.length
theorem tsA_rd (hN : tsN ts) (hP : plO ts L) : gRd ts L 1 (tsA ts L) := by
  intro a x r hx h
  unfold tsA at h
  by_cases c : kA ts x.1.1 = 31
  · rw [if_pos c] at h
    unfold dfA at h
    by_cases c1 : kA ts (x.1.1 + 1) = 30 ∧ hasD x.2 (nmA ts (x.1.1 + 1)) = false
    · rw [if_pos c1] at h
      have l1 := kA_lt c1.1 (by decide)
      cases e : prA ts L 3 (x.1.1 + 2) [] with
      | error z => rw [e] at h; cases h
      | ok q =>
        rw [e] at h
        dsimp only at h
        obtain ⟨q1, q2, q3, q4⟩ := prA_rd hN 3 (x.1.1 + 2) [] q (by omega) (fun y hy => by cases hy) e
        have q4 : q.2.length ≤ 0 + 3 := q4
        have ox : xOk ts (q.1, x.1.2) := ⟨q1, by show x.1.2.2.length ≤ q.1; have := hx.2.1; omega, hx.2.2.1, hx.2.2.2⟩
        cases e2 : bkA ts L q.2 3 (a + 2) (q.1, x.1.2) with
        | error z => rw [e2] at h; cases h
        | ok y =>
          rw [e2] at h
          cases h
          obtain ⟨b1, b2, -, -, b5, b6⟩ := bkA_rd hN 3 _ _ y ox e2
          have b2 : q.1 + 2 ≤ y.1.1 := b2
          have b5 : y.2.1.length + 3 * (q.1 + 2) ≤ 3 * y.1.1 := b5
          have b6 : 3 * y.2.2.length + q.1 ≤ y.1.1 := b6
          have p1 := hP.2 _ c c1.1
          have p2 := plO_add hP (y.1.1 - (x.1.1 + 1)) (x.1.1 + 1) (by have := b1.1; omega)
          rw [show x.1.1 + 1 + (y.1.1 - (x.1.1 + 1)) = y.1.1 by omega] at p2
          refine ⟨b1, by show x.1.1 + 1 ≤ y.1.1; omega, ?_, by show 3 * y.2.2.length + x.1.1 ≤ y.1.1; omega, fun c hc => ?_, [(nmA ts (x.1.1 + 1), q.2.length, a + 2)], rfl, ?_, fun d hd => ?_⟩
          · show (14 :: (a + 2 + y.2.1.length + 1) :: (y.2.1 ++ [17])).length + 3 * x.1.1 ≤ 3 * y.1.1
            simp only [List.length_cons, List.length_append, List.length_nil]
            omega
          · refine cGd_mono (bkA_cl hN 3 _ _ y ox e2 c hc) (by omega) ?_
            show _ ≤ a + (14 :: (a + 2 + y.2.1.length + 1) :: (y.2.1 ++ [17])).length
            simp only [List.length_cons, List.length_append, List.length_nil]
            omega
          · show 6 * 1 + plA ts L x.1.1 ≤ plA ts L y.1.1
            omega
          · rw [List.mem_singleton.mp hd]
            refine ⟨by show q.2.length ≤ 3; omega, nmA_ok hN c1.1, by show a ≤ a + 2; omega, ?_⟩
            show a + 2 ≤ a + (14 :: (a + 2 + y.2.1.length + 1) :: (y.2.1 ++ [17])).length
            simp only [List.length_cons, List.length_append, List.length_nil]
            omega
    · rw [if_neg c1] at h; cases h
  · rw [if_neg c] at h
    cases e : stA ts L [] (bkA ts L [] 3) a x.1 with
    | error z => rw [e] at h; cases h
    | ok y =>
      rw [e] at h
      cases h
      obtain ⟨b1, b2, -, -, b5, b6⟩ := stA_rd hN (bkA_rd hN 3) a x.1 y hx e
      have p2 := plO_add hP (y.1.1 - x.1.1) x.1.1 (by have := b1.1; omega)
      rw [show x.1.1 + (y.1.1 - x.1.1) = y.1.1 by omega] at p2
      exact ⟨b1, b2, by show y.2.1.length + 3 * x.1.1 ≤ 3 * y.1.1; omega, b6, stA_cl hN (bkA_rd hN 3) (bkA_cl hN 3) a x.1 y hx e, [], (List.append_nil _).symm, by show 6 * 0 + plA ts L x.1.1 ≤ plA ts L y.1.1; omega, fun d hd => by cases hd⟩
theorem lsG_rd {kx : gSt → Nat} {st : Nat → gSt → Except Nat (gSt × List Nat × List cAl)} {ek : Nat} (hs : gRd ts L 1 st) : ∀ (k : Nat), gRd ts L 0 (lsA kx st ek k)
  | 0 => fun a x r hx h => by
    cases h
    exact ⟨hx, Nat.le_refl _, by show 0 + 3 * x.1.1 ≤ 3 * x.1.1; omega, by show 3 * 0 + x.1.1 ≤ x.1.1; omega, fun c hc => (by cases hc), [], (List.append_nil _).symm, by show 6 * 0 + _ ≤ plA ts L x.1.1; omega, fun d hd => by cases hd⟩
  | k + 1 => fun a x r hx h => by
    rw [lsA] at h
    by_cases c : kx x = ek
    · rw [if_pos c] at h
      cases h
      exact ⟨hx, Nat.le_refl _, by show 0 + 3 * x.1.1 ≤ 3 * x.1.1; omega, by show 3 * 0 + x.1.1 ≤ x.1.1; omega, fun c hc => (by cases hc), [], (List.append_nil _).symm, by show 6 * 0 + _ ≤ plA ts L x.1.1; omega, fun d hd => by cases hd⟩
    · rw [if_neg c] at h
      cases e : st a x with
      | error z => rw [e] at h; cases h
      | ok y =>
        rw [e] at h
        dsimp only at h
        cases e2 : lsA kx st ek k (a + y.2.1.length) y.1 with
        | error z => rw [e2] at h; cases h
        | ok z =>
          rw [e2] at h
          cases h
          obtain ⟨b1, b2, b3, b4, b5, l, b6, b7, b8⟩ := hs _ x y hx e
          obtain ⟨c1, c2, c3, c4, c5, l', c6, c7, c8⟩ := lsG_rd hs k _ y.1 z b1 e2
          refine ⟨c1, by show x.1.1 + 0 ≤ z.1.1.1; omega, ?_, ?_, fun c hc' => ?_, l ++ l', by show z.1.2 = _; rw [c6, b6, List.append_assoc], by rw [List.length_append]; show _ ≤ plA ts L z.1.1.1; omega, fun d hd => ?_⟩
          · show (y.2.1 ++ z.2.1).length + 3 * x.1.1 ≤ 3 * z.1.1.1
            rw [List.length_append]
            omega
          · show 3 * (y.2.2 ++ z.2.2).length + x.1.1 ≤ z.1.1.1
            rw [List.length_append]
            omega
          · rcases List.mem_append.mp hc' with h1 | h1
            · exact cGd_mono (b5 c h1) (Nat.le_refl _) (by rw [List.length_append]; omega)
            · exact cGd_mono (c5 c h1) (by omega) (by rw [List.length_append]; omega)
          · rcases List.mem_append.mp hd with h1 | h1
            · obtain ⟨d1, d2, d3, d4⟩ := b8 d h1
              exact ⟨d1, d2, d3, by rw [List.length_append]; omega⟩
            · obtain ⟨d1, d2, d3, d4⟩ := c8 d h1
              exact ⟨d1, d2, by omega, by rw [List.length_append]; omega⟩
theorem tpA_rd (hN : tsN ts) (hP : plO ts L) {r : gSt × List Nat × List cAl} (h : tpA ts L = .ok r) : xOk ts r.1.1 ∧ r.2.1.length ≤ 3 * r.1.1.1 ∧ 3 * r.2.2.length ≤ r.1.1.1 ∧ (∀ c ∈ r.2.2, cGd ts 0 r.2.1.length c) ∧ 6 * r.1.2.length ≤ plA ts L r.1.1.1 ∧ ∀ d ∈ r.1.2, d.2.1 ≤ 3 ∧ nmOk d.1 ∧ d.2.2 ≤ r.2.1.length := by
  obtain ⟨b1, b2, b3, b4, b5, l, b6, b7, b8⟩ := lsG_rd (tsA_rd hN hP) 160 0 ((0, [], []), []) r ⟨Nat.zero_le _, Nat.zero_le _, Nat.zero_le _, fun y hy => by cases hy⟩ h
  have b6 : r.1.2 = l := b6
  have b3 : r.2.1.length + 3 * 0 ≤ 3 * r.1.1.1 := b3
  have b4 : 3 * r.2.2.length + 0 ≤ r.1.1.1 := b4
  refine ⟨b1, by omega, by omega, fun c hc => ?_, by rw [b6]; omega, fun d hd => ?_⟩
  · have := b5 c hc
    rw [Nat.zero_add] at this
    exact this
  · rw [b6] at hd
    obtain ⟨d1, d2, d3, d4⟩ := b8 d hd
    exact ⟨d1, d2, by omega⟩
end CLS
