/-! statements one behind another: the class's loop, whatever a statement is -/
abbrev cInv (σ : Type) : Type := σ → List (Nat × cAl) → List (Nat × dEf) → (Nat → Nat) → Nat → (Nat → List Value) → (Nat → List Value) → Prop
abbrev cPst : Type := (Nat → List Value) → List (Nat × Nat × Nat) → Nat → Nat → List Nat → List (Nat × Nat) → Nat → Nat → Prop
/-- every place noted is a call's or a definition's -/
def mCv (K : List (Nat × cAl)) (D : List (Nat × dEf)) (M : List (Nat × Nat)) : Prop := ∀ e ∈ M, (∃ p ∈ K, p.1 = e.1) ∨ ∃ p ∈ D, p.1 = e.1
theorem mCv_nil {K : List (Nat × cAl)} {D : List (Nat × dEf)} : mCv K D [] := fun e he => by cases he
theorem mCv_app {K K' : List (Nat × cAl)} {D D' : List (Nat × dEf)} {M M' : List (Nat × Nat)} (h : mCv K D M) (h' : mCv K' D' M') : mCv (K ++ K') (D ++ D') (M ++ M') := fun e he => by
  rcases List.mem_append.mp he with he | he
  · rcases h e he with ⟨p, hp, z⟩ | ⟨p, hp, z⟩
    · exact Or.inl ⟨p, List.mem_append_left _ hp, z⟩
    · exact Or.inr ⟨p, List.mem_append_left _ hp, z⟩
  · rcases h' e he with ⟨p, hp, z⟩ | ⟨p, hp, z⟩
    · exact Or.inl ⟨p, List.mem_append_right _ hp, z⟩
    · exact Or.inr ⟨p, List.mem_append_right _ hp, z⟩
/-- what reading a statement ends with -/
def stO {σ : Type} (scr : List Value) (tx : σ → xSt) (I : cInv σ) (E : Nat → aOut → aH → Prop) (P : cPst) (kd : Nat → Nat) (n : Nat) (U : Nat → List Value) (x : σ) (K : List (Nat × cAl)) (D : List (Nat × dEf)) (a : Nat) : Except Nat (σ × List Nat × List cAl) → aOut → aH → Prop
  | .error e => E e
  | .ok r => fun o h => ∃ (kd' : Nat → Nat) (n' : Nat) (U' S' : Nat → List Value) (K' : List (Nat × cAl)) (D' : List (Nat × dEf)) (M : List (Nat × Nat)), o = .inl (some (.ref (n + 20))) ∧ h = gH scr kd' n' S' ∧ I r.1 (K ++ K') (D ++ D') kd' n' U' S' ∧ K'.map (fun p => p.2) = r.2.2 ∧ (∀ p ∈ K', (p.1, p.2.2.2.1) ∈ M) ∧ ((∀ p ∈ D', (p.1, p.2.2.2) ∈ M) ∧ mCv K' D' M) ∧ n < n' ∧ n' + (tx x).1 ≤ n + (tx r.1).1 ∧ (∃ l, (tx r.1).2.2 = (tx x).2.2 ++ l) ∧
      (U' (n + 20))[7]? = some .null ∧ P U' (tx r.1).2.2 (n + 20) a r.2.1 M (n + 20 + 1) (n' + 20) ∧ ∀ p, p < n + 20 → kd' p = kd p ∧ fr9 (U p) (U' p)
/-- what reading a list of them ends with -/
def lsO {σ : Type} (scr : List Value) (tx : σ → xSt) (I : cInv σ) (E : Nat → aOut → aH → Prop) (P : cPst) (kd : Nat → Nat) (n : Nat) (U : Nat → List Value) (x : σ) (K : List (Nat × cAl)) (D : List (Nat × dEf)) (a : Nat) : Except Nat (σ × List Nat × List cAl) → aOut → aH → Prop
  | .error e => E e
  | .ok r => fun o h => ∃ (kd' : Nat → Nat) (n' : Nat) (U' S' : Nat → List Value) (K' : List (Nat × cAl)) (D' : List (Nat × dEf)) (M : List (Nat × Nat)) (v : Value) (kk : Nat), o = .inl (some v) ∧ h = gH scr kd' n' S' ∧ I r.1 (K ++ K') (D ++ D') kd' n' U' S' ∧ K'.map (fun p => p.2) = r.2.2 ∧ (∀ p ∈ K', (p.1, p.2.2.2.1) ∈ M) ∧ ((∀ p ∈ D', (p.1, p.2.2.2) ∈ M) ∧ mCv K' D' M) ∧ n ≤ n' ∧ n' + (tx x).1 ≤ n + (tx r.1).1 ∧ (∃ l, (tx r.1).2.2 = (tx x).2.2 ++ l) ∧
      hLs U' (P U' (tx r.1).2.2) kk v a r.2.1 M (n + 20) (n' + 20) ∧ ∀ p, p < n + 20 → kd' p = kd p ∧ fr9 (U p) (U' p)
/-- .. of the rest, behind the object q -/
def lpO {σ : Type} (scr : List Value) (tx : σ → xSt) (I : cInv σ) (E : Nat → aOut → aH → Prop) (P : cPst) (kd : Nat → Nat) (n : Nat) (U : Nat → List Value) (x : σ) (K : List (Nat × cAl)) (D : List (Nat × dEf)) (a q f0 : Nat) : Except Nat (σ × List Nat × List cAl) → aOut → aH → Prop
  | .error e => E e
  | .ok r => fun o h => ∃ (kd' : Nat → Nat) (n' : Nat) (U' S' : Nat → List Value) (K' : List (Nat × cAl)) (D' : List (Nat × dEf)) (M : List (Nat × Nat)) (v : Value) (kk : Nat), o = .inl (some (.ref f0)) ∧ h = gH scr kd' n' S' ∧ I r.1 (K ++ K') (D ++ D') kd' n' U' S' ∧ K'.map (fun p => p.2) = r.2.2 ∧ (∀ p ∈ K', (p.1, p.2.2.2.1) ∈ M) ∧ ((∀ p ∈ D', (p.1, p.2.2.2) ∈ M) ∧ mCv K' D' M) ∧ n ≤ n' ∧ n' + (tx x).1 ≤ n + (tx r.1).1 ∧ (∃ l, (tx r.1).2.2 = (tx x).2.2 ++ l) ∧
      hLs U' (P U' (tx r.1).2.2) kk v a r.2.1 M (n + 20) (n' + 20) ∧ (∀ p, p < n + 20 → kd' p = kd p ∧ (p ≠ q → fr9 (U p) (U' p))) ∧ fr9 ((U q).set 7 v) (U' q)
def lsL (f l : Value) (k : Nat) (dp : Int32) (ek : Nat) : aLc := [(3, f), (4, l), (5, .int (Int32.ofNat k)), (0, .ref 22), (1, .int dp), (2, .int (Int32.ofNat ek))]
/-- what the loop asks of the invariant, of a statement's claim -/
def iOk {σ : Type} (scr : List Value) (n0 d : Nat) (tx : σ → xSt) (I : cInv σ) (kx : σ → Nat) : Prop := (∀ x K D kd n U S, I x K D kd n U S → 67 ≤ n0 ∧ n0 ≤ n ∧ kx x < 2 ^ 20 ∧ (∀ p, 87 ≤ p → S p = U p) ∧ (∀ p, n0 + 20 ≤ p → p < n + 20 → kd p = 30 ∧ (U p).length = 13) ∧ aE aM69 (d + 1) 0 [(0, .ref 22)] [] (gH scr kd n S) (aIs (some (.int (Int32.ofNat (kx x)))) (gH scr kd n S))) ∧
  ∀ x K D kd n U S q v, I x K D kd n U S → n0 + 20 ≤ q → q < n + 20 → I x K D kd n (aUp U q ((U q).set 7 v)) (aUp S q ((S q).set 7 v))
def pOk (P : cPst) : Prop := ∀ U U' tm l q a ws M hi, P U tm q a ws M (q + 1) hi → (∀ p, q < p → p < hi → fr9 (U p) (U' p)) → (fr9 (U q) (U' q) ∨ ∃ v, fr9 ((U q).set 7 v) (U' q)) → P U' (tm ++ l) q a ws M (q + 1) hi
theorem lset_id {l : List Value} {i : Nat} {v : Value} (h : l[i]? = some v) : l.set i v = l := by
  apply List.ext_getElem?
  intro j
  by_cases e : i = j
  · subst e
    rw [List.getElem?_set_self (List.getElem?_eq_some_iff.mp h).1, h]
  · rw [List.getElem?_set_ne e]
section RLP
variable {σ : Type} {scr : List Value} {n0 d ek : Nat} {dp : Int32} {tx : σ → xSt} {I : cInv σ} {E : Nat → aOut → aH → Prop} {P : cPst} {kx : σ → Nat} {st : Nat → σ → Except Nat (σ × List Nat × List cAl)}
theorem c_lsLoop (hek : ek < 2 ^ 20) (hI : iOk scr n0 d tx I kx) (hP : pOk P) (hE : ∀ e v h, ¬ E e (.inl v) h) (hst : ∀ a x K D kd n U S, I x K D kd n U S → n ≤ n0 + (tx x).1 → kx x ≠ ek → aE aM71 (d + 1) 0 [(0, .ref 22), (1, .int dp)] [] (gH scr kd n S) (stO scr tx I E P kd n U x K D a (st a x))) : ∀ (m k a : Nat) (x : σ) (K : List (Nat × cAl)) (D : List (Nat × dEf)) (kd : Nat → Nat) (n : Nat) (U S : Nat → List Value) (q f0 : Nat), k + m = 160 → I x K D kd n U S → n ≤ n0 + (tx x).1 → n0 + 20 ≤ q → q < n + 20 → (U q)[7]? = some .null → aE aM68 (d + 2) 8 (lsL (.ref f0) (.ref q) k dp ek) [] (gH scr kd n S) (lpO scr tx I E P kd n U x K D a q f0 (lsA kx st ek m a x))
  | m, k, a, x, K, D, kd, n, U, S, q, f0, hm, hx, hb, q1, q2, q7 => by
    obtain ⟨i1, i2, i3, i4, i5, i6⟩ := hI.1 x K D kd n U S hx
    have hn : 67 ≤ n := by omega
    have e7 : (U q).set 7 .null = U q := lset_id q7
    have fin : lpO scr tx I E P kd n U x K D a q f0 (.ok (x, [], [])) (.inl (some (.ref f0))) (gH scr kd n S) := ⟨kd, n, U, S, [], [], [], .null, 1, rfl, rfl, by rw [List.append_nil, List.append_nil]; exact hx, rfl, fun p hp => (by cases hp), ⟨fun p hp => (by cases hp), mCv_nil⟩, Nat.le_refl _, Nat.le_refl _, ⟨[], (List.append_nil _).symm⟩, Or.inl ⟨rfl, rfl, rfl, Nat.le_refl _⟩, fun p hp => ⟨rfl, fun _ => fr9_id⟩, by rw [e7]; exact fr9_id⟩
    match m, hm with
    | 0, hm =>
      rw [lsA]
      obtain rfl : k = 160 := by omega
      refine eS rfl rfl ?_
      refine eS rfl rfl ?_
      refine eIGe rfl rfl (fun _ => ?_) (fun z => absurd ((i32_le (a := 160) (b := 160) (by omega) (by omega)).mpr (Nat.le_refl _)) z)
      refine eS rfl rfl ?_
      exact eR rfl rfl fin
    | m + 1, hm =>
      rw [lsA]
      by_cases c : kx x = ek
      · rw [if_pos c]
        refine eS rfl rfl ?_
        refine eS rfl rfl ?_
        refine eIGe rfl rfl (fun z => absurd ((i32_le (a := 160) (b := k) (by omega) (by omega)).mp z) (by omega)) (fun _ => ?_)
        refine eS rfl rfl ?_
        refine gV1 hn rfl rfl rfl rfl rfl ⟨catOk rfl, catOk rfl⟩ (i6) ?_
        refine eS rfl rfl ?_
        refine eIEq rfl rfl (fun _ => ?_) (fun z => absurd ((i32_eq (by omega) (by omega)).mpr c) z)
        refine eS rfl rfl ?_
        exact eR rfl rfl fin
      · rw [if_neg c]
        have key := hst a x K D kd n U S hx hb c
        cases e : st a x with
        | error z =>
          rw [e] at key
          refine eS rfl rfl ?_
          refine eS rfl rfl ?_
          refine eIGe rfl rfl (fun z => absurd ((i32_le (a := 160) (b := k) (by omega) (by omega)).mp z) (by omega)) (fun _ => ?_)
          refine eS rfl rfl ?_
          refine gV1 hn rfl rfl rfl rfl rfl ⟨catOk rfl, catOk rfl⟩ (i6) ?_
          refine eS rfl rfl ?_
          refine eIEq rfl rfl (fun z => absurd ((i32_eq (by omega) (by omega)).mp z) c) (fun _ => ?_)
          refine eS rfl rfl ?_
          refine eS rfl rfl ?_
          exact gVo hn rfl rfl rfl rfl rfl ⟨catOk rfl, catOk rfl⟩ rfl key (fun v h' z => (hE _ _ _ z).elim) (fun q h' z => z)
        | ok y =>
          rw [e] at key
          dsimp only
          refine eS rfl rfl ?_
          refine eS rfl rfl ?_
          refine eIGe rfl rfl (fun z => absurd ((i32_le (a := 160) (b := k) (by omega) (by omega)).mp z) (by omega)) (fun _ => ?_)
          refine eS rfl rfl ?_
          refine gV1 hn rfl rfl rfl rfl rfl ⟨catOk rfl, catOk rfl⟩ (i6) ?_
          refine eS rfl rfl ?_
          refine eIEq rfl rfl (fun z => absurd ((i32_eq (by omega) (by omega)).mp z) c) (fun _ => ?_)
          refine eS rfl rfl ?_
          refine eS rfl rfl ?_
          refine gVo hn rfl rfl rfl rfl rfl ⟨catOk rfl, catOk rfl⟩ rfl key (fun v h' z => ?_) (fun q h' z => ?_)
          · obtain ⟨kd1, n1, U1, S1, K1, D1, M1, e1, rfl, y1, y2, y3, y4, y5, y6, ⟨l, y7⟩, y8, y9, y10⟩ := z
            cases e1
            obtain ⟨j1, j2, j3, j4, j5, j6⟩ := hI.1 _ _ _ _ _ _ _ y1
            have hn1 : 67 ≤ n1 := by omega
            have sq : S1 q = U1 q := j4 q (by omega)
            have kq := j5 q q1 (by omega)
            have I2 := hI.2 _ _ _ _ _ _ _ q (.ref (n + 20)) y1 q1 (by omega)
            refine eS rfl rfl ?_
            refine eS rfl rfl ?_
            refine eS rfl rfl ?_
            refine eS rfl rfl ?_
            refine eS rfl rfl ?_
            refine gPutO rfl (by omega) (by omega) rfl kq.1 (by rw [sq]; exact kq.2) rfl rfl rfl ?_
            refine eS rfl rfl ?_
            refine eS rfl rfl ?_
            refine eS rfl rfl ?_
            refine eS rfl rfl ?_
            rw [i32_succ]
            refine eLoc (l' := lsL (.ref f0) (.ref (n + 20)) (k + 1) dp ek) rfl ⟨rfl, rfl, rfl, rfl, rfl, rfl, trivial⟩ ?_
            have ne : n + 20 ≠ q := by omega
            have IH := c_lsLoop hek hI hP hE hst m (k + 1) (a + y.2.1.length) y.1 (K ++ K1) (D ++ D1) kd1 n1 _ _ (n + 20) f0 (by omega) I2 (by omega) (by omega) (by omega) (by rw [aUp_ne ne]; exact y8)
            refine aE.mono ?_ IH
            intro o h
            cases e2 : lsA kx st ek m (a + y.2.1.length) y.1 with
            | error z => exact fun z => z
            | ok r =>
              rintro ⟨kd2, n2, U2, S2, K2, D2, M2, v, kk, e3, e4, z1, z2, z3, z4, z5, z6, ⟨l', z7⟩, z8, z9, z10⟩
              rw [aUp_ne ne] at z10
              have fq : fr9 (U q) (U1 q) := (y10 q q2).2
              have f2 : fr9 ((U1 q).set 7 (.ref (n + 20))) (U2 q) := by
                have := (z9 q (by omega)).2 (fun z => ne z.symm)
                rw [aUp_same] at this
                exact this
              have f3 : ∀ p, p ≠ q → p ≠ n + 20 → p < n1 + 20 → fr9 (U1 p) (U2 p) := fun p p1 p2 p3 => by
                have := (z9 p p3).2 p2
                rw [aUp_ne p1] at this
                exact this
              refine ⟨kd2, n2, U2, S2, K1 ++ K2, D1 ++ D2, M1 ++ M2, .ref (n + 20), kk + 1, e3, e4, by rw [← List.append_assoc, ← List.append_assoc]; exact z1, by rw [List.map_append, y2, z2], fun p hp => ?_, ⟨fun p hp => ?_, mCv_app y4.2 z4.2⟩, by omega, by show n2 + _ ≤ n + (tx r.1).1; omega, ⟨l ++ l', by show (tx r.1).2.2 = _; rw [z7, y7, List.append_assoc]⟩, ?_, fun p hp => ⟨((z9 p (by omega)).1).trans (y10 p hp).1, fun hq => fr9_trans (y10 p hp).2 (f3 p hq (by omega) (by omega))⟩, fr9_trans (fr9_set7 fq) f2⟩
              · rcases List.mem_append.mp hp with hp | hp
                · exact List.mem_append_left _ (y3 p hp)
                · exact List.mem_append_right _ (z3 p hp)
              · rcases List.mem_append.mp hp with hp | hp
                · exact List.mem_append_left _ (y4.1 p hp)
                · exact List.mem_append_right _ (z4.1 p hp)
              · refine Or.inr ⟨n + 20, v, n1 + 20, y.2.1, r.2.1, M1, M2, rfl, Nat.le_refl _, by omega, by omega, ?_, ?_, rfl, rfl, z8⟩
                · rw [fr9_at z10 (by decide), List.getElem?_set_self (by rw [(j5 (n + 20) (by omega) (by omega)).2]; decide)]
                · show P U2 (tx r.1).2.2 (n + 20) a y.2.1 M1 (n + 20 + 1) (n1 + 20)
                  rw [z7]
                  exact hP U1 U2 _ l' _ _ _ _ _ y9 (fun p p1 p2 => f3 p (by omega) (by omega) p2) (Or.inr ⟨v, z10⟩)
          · obtain ⟨kd1, n1, U1, S1, K1, D1, M1, e1, -⟩ := z
            cases e1
theorem c_readAll (hek : ek < 2 ^ 20) (hI : iOk scr n0 d tx I kx) (hP : pOk P) (hE : ∀ e v h, ¬ E e (.inl v) h) (hst : ∀ a x K D kd n U S, I x K D kd n U S → n ≤ n0 + (tx x).1 → kx x ≠ ek → aE aM71 (d + 1) 0 [(0, .ref 22), (1, .int dp)] [] (gH scr kd n S) (stO scr tx I E P kd n U x K D a (st a x))) (a : Nat) (x : σ) (K : List (Nat × cAl)) (D : List (Nat × dEf)) (kd : Nat → Nat) (n : Nat) (U S : Nat → List Value) (hx : I x K D kd n U S) (hb : n ≤ n0 + (tx x).1) : aE aM68 (d + 2) 0 [(0, .ref 22), (1, .int dp), (2, .int (Int32.ofNat ek))] [] (gH scr kd n S) (lsO scr tx I E P kd n U x K D a (lsA kx st ek 160 a x)) := by
  obtain ⟨i1, i2, i3, i4, i5, i6⟩ := hI.1 x K D kd n U S hx
  have hn : 67 ≤ n := by omega
  show aE aM68 (d + 2) 0 [(0, .ref 22), (1, .int dp), (2, .int (Int32.ofNat ek))] [] (gH scr kd n S) (lsO scr tx I E P kd n U x K D a (lsA kx st ek (159 + 1) a x))
  rw [lsA]
  by_cases c : kx x = ek
  · rw [if_pos c]
    refine eS rfl rfl ?_
    refine eS rfl rfl ?_
    refine eS rfl rfl ?_
    refine eS rfl rfl ?_
    refine eS rfl rfl ?_
    refine eS rfl rfl ?_
    refine eS rfl rfl ?_
    refine eS rfl rfl ?_
    refine eIGe rfl rfl (fun z => absurd ((i32_le (a := 160) (b := 0) (by omega) (by omega)).mp z) (by omega)) (fun _ => ?_)
    refine eS rfl rfl ?_
    refine gV1 hn rfl rfl rfl rfl rfl ⟨catOk rfl, catOk rfl⟩ (i6) ?_
    refine eS rfl rfl ?_
    refine eIEq rfl rfl (fun _ => ?_) (fun z => absurd ((i32_eq (by omega) (by omega)).mpr c) z)
    refine eS rfl rfl ?_
    exact eR rfl rfl ⟨kd, n, U, S, [], [], [], .null, 1, rfl, rfl, by rw [List.append_nil, List.append_nil]; exact hx, rfl, fun p hp => (by cases hp), ⟨fun p hp => (by cases hp), mCv_nil⟩, Nat.le_refl _, Nat.le_refl _, ⟨[], (List.append_nil _).symm⟩, Or.inl ⟨rfl, rfl, rfl, Nat.le_refl _⟩, fun p hp => ⟨rfl, fr9_id⟩⟩
  · rw [if_neg c]
    have key := hst a x K D kd n U S hx hb c
    cases e : st a x with
    | error z =>
      rw [e] at key
      refine eS rfl rfl ?_
      refine eS rfl rfl ?_
      refine eS rfl rfl ?_
      refine eS rfl rfl ?_
      refine eS rfl rfl ?_
      refine eS rfl rfl ?_
      refine eS rfl rfl ?_
      refine eS rfl rfl ?_
      refine eIGe rfl rfl (fun z => absurd ((i32_le (a := 160) (b := 0) (by omega) (by omega)).mp z) (by omega)) (fun _ => ?_)
      refine eS rfl rfl ?_
      refine gV1 hn rfl rfl rfl rfl rfl ⟨catOk rfl, catOk rfl⟩ (i6) ?_
      refine eS rfl rfl ?_
      refine eIEq rfl rfl (fun z => absurd ((i32_eq (by omega) (by omega)).mp z) c) (fun _ => ?_)
      refine eS rfl rfl ?_
      refine eS rfl rfl ?_
      exact gVo hn rfl rfl rfl rfl rfl ⟨catOk rfl, catOk rfl⟩ rfl key (fun v h' z => (hE _ _ _ z).elim) (fun q h' z => z)
    | ok y =>
      rw [e] at key
      dsimp only
      refine eS rfl rfl ?_
      refine eS rfl rfl ?_
      refine eS rfl rfl ?_
      refine eS rfl rfl ?_
      refine eS rfl rfl ?_
      refine eS rfl rfl ?_
      refine eS rfl rfl ?_
      refine eS rfl rfl ?_
      refine eIGe rfl rfl (fun z => absurd ((i32_le (a := 160) (b := 0) (by omega) (by omega)).mp z) (by omega)) (fun _ => ?_)
      refine eS rfl rfl ?_
      refine gV1 hn rfl rfl rfl rfl rfl ⟨catOk rfl, catOk rfl⟩ (i6) ?_
      refine eS rfl rfl ?_
      refine eIEq rfl rfl (fun z => absurd ((i32_eq (by omega) (by omega)).mp z) c) (fun _ => ?_)
      refine eS rfl rfl ?_
      refine eS rfl rfl ?_
      refine gVo hn rfl rfl rfl rfl rfl ⟨catOk rfl, catOk rfl⟩ rfl key (fun v h' z => ?_) (fun q h' z => ?_)
      · obtain ⟨kd1, n1, U1, S1, K1, D1, M1, e1, rfl, y1, y2, y3, y4, y5, y6, ⟨l, y7⟩, y8, y9, y10⟩ := z
        cases e1
        obtain ⟨j1, j2, j3, j4, j5, j6⟩ := hI.1 _ _ _ _ _ _ _ y1
        refine eS rfl rfl ?_
        refine eS rfl rfl ?_
        refine eS rfl rfl ?_
        refine eS rfl rfl ?_
        refine eS rfl rfl ?_
        refine eS rfl rfl ?_
        refine eS rfl rfl ?_
        refine eS rfl rfl ?_
        refine eS rfl rfl ?_
        refine eS rfl rfl ?_
        rw [show Int32.ofInt 0 + Int32.ofInt 1 = Int32.ofNat 1 from rfl]
        refine eLoc (l' := lsL (.ref (n + 20)) (.ref (n + 20)) 1 dp ek) rfl ⟨rfl, rfl, rfl, rfl, rfl, rfl, trivial⟩ ?_
        have IH := c_lsLoop hek hI hP hE hst 159 1 (a + y.2.1.length) y.1 (K ++ K1) (D ++ D1) kd1 n1 _ _ (n + 20) (n + 20) (by omega) y1 (by omega) (by omega) (by omega) y8
        refine aE.mono ?_ IH
        intro o h
        cases e2 : lsA kx st ek 159 (a + y.2.1.length) y.1 with
        | error z => exact fun z => z
        | ok r =>
          rintro ⟨kd2, n2, U2, S2, K2, D2, M2, v, kk, e3, e4, z1, z2, z3, z4, z5, z6, ⟨l', z7⟩, z8, z9, z10⟩
          have f3 : ∀ p, p ≠ n + 20 → p < n1 + 20 → fr9 (U1 p) (U2 p) := fun p p2 p3 => (z9 p p3).2 p2
          refine ⟨kd2, n2, U2, S2, K1 ++ K2, D1 ++ D2, M1 ++ M2, .ref (n + 20), kk + 1, e3, e4, by rw [← List.append_assoc, ← List.append_assoc]; exact z1, by rw [List.map_append, y2, z2], fun p hp => ?_, ⟨fun p hp => ?_, mCv_app y4.2 z4.2⟩, by omega, by show n2 + _ ≤ n + (tx r.1).1; omega, ⟨l ++ l', by show (tx r.1).2.2 = _; rw [z7, y7, List.append_assoc]⟩, ?_, fun p hp => ⟨((z9 p (by omega)).1).trans (y10 p hp).1, fr9_trans (y10 p hp).2 (f3 p (by omega) (by omega))⟩⟩
          · rcases List.mem_append.mp hp with hp | hp
            · exact List.mem_append_left _ (y3 p hp)
            · exact List.mem_append_right _ (z3 p hp)
          · rcases List.mem_append.mp hp with hp | hp
            · exact List.mem_append_left _ (y4.1 p hp)
            · exact List.mem_append_right _ (z4.1 p hp)
          · refine Or.inr ⟨n + 20, v, n1 + 20, y.2.1, r.2.1, M1, M2, rfl, Nat.le_refl _, by omega, by omega, ?_, ?_, rfl, rfl, z8⟩
            · rw [fr9_at z10 (by decide), List.getElem?_set_self (by rw [(j5 (n + 20) (by omega) (by omega)).2]; decide)]
            · show P U2 (tx r.1).2.2 (n + 20) a y.2.1 M1 (n + 20 + 1) (n1 + 20)
              rw [z7]
              exact hP U1 U2 _ l' _ _ _ _ _ y9 (fun p p1 p2 => f3 p (by omega) p2) (Or.inr ⟨v, z10⟩)
      · obtain ⟨kd1, n1, U1, S1, K1, D1, M1, e1, -⟩ := z
        cases e1
end RLP
