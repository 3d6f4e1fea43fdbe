/-! the small machine's run, forward: some fuel is enough; a rule for each sort of instruction -/
def aE (M : aMt) (d pc : Nat) (ls : aLc) (st : List Value) (h : aH) (Q : aOut → aH → Prop) : Prop := ∃ n r h', aRun aCls aKn aP n M d pc ls st h = some (r, h') ∧ Q r h'
theorem aRun_fuel : ∀ (n m : Nat), n ≤ m → ∀ (M : aMt) (d pc : Nat) (ls : aLc) (st : List Value) (h : aH) (res : aOut × aH), aRun aCls aKn aP n M d pc ls st h = some res → aRun aCls aKn aP m M d pc ls st h = some res
  | 0, _, _, _, _, _, _, _, _, _, e => by simp [aRun] at e
  | n + 1, 0, hm, _, _, _, _, _, _, _, _ => absurd hm (by omega)
  | n + 1, m + 1, hm, M, d, pc, ls, st, h, res, e => by
    have IH := aRun_fuel n m (by omega)
    unfold aRun at e ⊢
    cases hf : aFind M.cd pc with
    | none => rw [hf] at e; cases e
    | some q =>
      obtain ⟨I, lk⟩ := q
      rw [hf] at e
      dsimp only at e ⊢
      cases hs : aStep aCls aKn M I lk pc ls st h with
      | none => rw [hs] at e; cases e
      | some z =>
        rw [hs] at e
        match z, e with
        | .inl (pc', ls', st', h'), e => exact IH _ _ _ _ _ _ _ e
        | .inr (.inl r), e => exact e
        | .inr (.inr (k, as, rest)), e =>
          dsimp only at e ⊢
          match d, aP[k]?, e with
          | 0, _, e => cases e
          | d' + 1, none, e => cases e
          | d' + 1, some M', e =>
            dsimp only at e ⊢
            by_cases hc : aCat rest + M'.nl ≤ 80 ∧ aCat as ≤ M'.nl
            · rw [if_pos hc] at e ⊢
              cases hr : aRun aCls aKn aP n M' d' 0 (lv_args 0 as) [] h with
              | none => rw [hr] at e; cases e
              | some w =>
                rw [hr] at e
                rw [IH _ _ _ _ _ _ _ hr]
                match w, e with
                | (.inl v, h'), e => exact IH _ _ _ _ _ _ _ e
                | (.inr q, h'), e =>
                  dsimp only at e ⊢
                  split at e
                  · exact e
                  · split at e
                    · split at e
                      · exact IH _ _ _ _ _ _ _ e
                      · cases e
                    · cases e
            · rw [if_neg hc] at e
              cases e
section AE
variable {M : aMt} {d pc : Nat} {ls ls' : aLc} {st st' r : List Value} {h h' : aH} {res Q' : aOut → aH → Prop} {I : Instr} {lk : aLk}
theorem aE.mono {Q : aOut → aH → Prop} (hQ : ∀ r h, res r h → Q r h) (k : aE M d pc ls st h res) : aE M d pc ls st h Q := by
  obtain ⟨n, r, h', hn, hq⟩ := k
  exact ⟨n, r, h', hn, hQ r h' hq⟩
theorem eS {pc' : Nat} (hf : aFind M.cd pc = some (I, lk)) (hs : aStep aCls aKn M I lk pc ls st h = some (.inl (pc', ls', st', h'))) (k : aE M d pc' ls' st' h' res) : aE M d pc ls st h res := by
  obtain ⟨n, r, h', hn, hq⟩ := k
  refine ⟨n + 1, r, h', ?_, hq⟩
  rw [aRun, hf]
  dsimp only
  rw [hs]
  exact hn
theorem eR {o : aOut} (hf : aFind M.cd pc = some (I, lk)) (hs : aStep aCls aKn M I lk pc ls st h = some (.inr (.inl (o, h')))) (hq : res o h') : aE M d pc ls st h res := by
  refine ⟨1, _, _, ?_, hq⟩
  rw [aRun, hf]
  dsimp only
  rw [hs]
/-- a call whose callee may return or, in a method without handlers, throw -/
theorem eC {k : Nat} {M' : aMt} {as rest : List Value} (hf : aFind M.cd pc = some (I, lk)) (hs : aStep aCls aKn M I lk pc ls st h = some (.inr (.inr (k, as, rest)))) (hM : aP[k]? = some M')
    (hc : aCat rest + M'.nl ≤ 80 ∧ aCat as ≤ M'.nl) (hh : M.hd = []) (hb : aE M' d 0 (lv_args 0 as) [] h Q') (kk : ∀ v h', Q' (.inl v) h' → aE M (d + 1) (pc + 3) ls (v.toList ++ rest) h' res) (kx : ∀ q h', Q' (.inr q) h' → res (.inr q) h') : aE M (d + 1) pc ls st h res := by
  obtain ⟨n1, r1, h1, e1, q1⟩ := hb
  match r1, e1, q1 with
  | .inl v, e1, q1 =>
    obtain ⟨n2, r2, h2, e2, q2⟩ := kk v h1 q1
    refine ⟨max n1 n2 + 1, r2, h2, ?_, q2⟩
    rw [aRun, hf]
    dsimp only
    rw [hs]
    dsimp only
    rw [hM]
    dsimp only
    rw [if_pos hc, aRun_fuel _ _ (Nat.le_max_left n1 n2) _ _ _ _ _ _ _ e1]
    exact aRun_fuel _ _ (Nat.le_max_right n1 n2) _ _ _ _ _ _ _ e2
  | .inr q, e1, q1 =>
    refine ⟨n1 + 1, .inr q, h1, ?_, kx q h1 q1⟩
    rw [aRun, hf]
    dsimp only
    rw [hs]
    dsimp only
    rw [hM]
    dsimp only
    rw [if_pos hc, e1]
    dsimp only
    rw [hh]
/-- a call whose callee may return or throw into one of the method's handlers -/
theorem eCH {k : Nat} {M' : aMt} {as rest : List Value} (hf : aFind M.cd pc = some (I, lk)) (hs : aStep aCls aKn M I lk pc ls st h = some (.inr (.inr (k, as, rest)))) (hM : aP[k]? = some M')
    (hc : aCat rest + M'.nl ≤ 80 ∧ aCat as ≤ M'.nl) (hb : aE M' d 0 (lv_args 0 as) [] h Q') (kk : ∀ v h', Q' (.inl v) h' → aE M (d + 1) (pc + 3) ls (v.toList ++ rest) h' res)
    (kx : ∀ q h', Q' (.inr q) h' → ∃ kd vs t, h'[q]? = some (kd, vs) ∧ aHand M.hd pc kd = some t ∧ aE M (d + 1) t ls [.ref q] h' res) : aE M (d + 1) pc ls st h res := by
  obtain ⟨n1, r1, h1, e1, q1⟩ := hb
  match r1, e1, q1 with
  | .inl v, e1, q1 =>
    obtain ⟨n2, r2, h2, e2, q2⟩ := kk v h1 q1
    refine ⟨max n1 n2 + 1, r2, h2, ?_, q2⟩
    rw [aRun, hf]
    dsimp only
    rw [hs]
    dsimp only
    rw [hM]
    dsimp only
    rw [if_pos hc, aRun_fuel _ _ (Nat.le_max_left n1 n2) _ _ _ _ _ _ _ e1]
    exact aRun_fuel _ _ (Nat.le_max_right n1 n2) _ _ _ _ _ _ _ e2
  | .inr q, e1, q1 =>
    obtain ⟨kd, vs, t, hq, hh, n2, r2, h2, e2, q2⟩ := kx q h1 q1
    refine ⟨max n1 n2 + 1, r2, h2, ?_, q2⟩
    rw [aRun, hf]
    dsimp only
    rw [hs]
    dsimp only
    rw [hM]
    dsimp only
    rw [if_pos hc, aRun_fuel _ _ (Nat.le_max_left n1 n2) _ _ _ _ _ _ _ e1]
    dsimp only
    split
    · rename_i h0
      rw [h0] at hh
      cases hh
    · rw [hq]
      dsimp only
      rw [hh]
      exact aRun_fuel _ _ (Nat.le_max_right n1 n2) _ _ _ _ _ _ _ e2
/-- a jump -/
theorem eB {pc' : Nat} (hf : aFind M.cd pc = some (I, lk)) (hp : aPure I lk.2.2.2 st = none) (hl : aLoc M.nl I ls st = none) (hb : aBr I pc st = some (pc', st')) (k : aE M d pc' ls st' h res) : aE M d pc ls st h res := by
  refine eS hf ?_ k
  unfold aStep
  rw [hp]
  dsimp only
  rw [hl]
  dsimp only
  rw [hb]
/-- a step on the heap -/
theorem eH (hf : aFind M.cd pc = some (I, lk)) (hp : aPure I lk.2.2.2 st = none) (hl : aLoc M.nl I ls st = none) (hb : aBr I pc st = none) (hh : aHp aCls aKn M.nm I lk st h = some (st', h')) (k : aE M d (pc + aLen I) ls st' h' res) : aE M d pc ls st h res := by
  refine eS hf ?_ k
  unfold aStep
  rw [hp]
  dsimp only
  rw [hl]
  dsimp only
  rw [hb]
  dsimp only
  rw [hh]
variable {o : Int} {t : Nat} {x y : Int32}
theorem eEq (hf : aFind M.cd pc = some (.ifCond .eq o, lk)) (ht : aTgt pc o = some t) (h1 : x = 0 → aE M d t ls r h res) (h2 : ¬ x = 0 → aE M d (pc + 3) ls r h res) : aE M d pc ls (.int x :: r) h res := by
  by_cases hx : x = 0
  · exact eB hf rfl rfl (by show (aTgt pc o).map _ = _; rw [ht]; exact congrArg some (if_pos hx)) (h1 hx)
  · exact eB hf rfl rfl (by show (aTgt pc o).map _ = _; rw [ht]; exact congrArg some (if_neg hx)) (h2 hx)
theorem eNe (hf : aFind M.cd pc = some (.ifCond .ne o, lk)) (ht : aTgt pc o = some t) (h1 : ¬ x = 0 → aE M d t ls r h res) (h2 : x = 0 → aE M d (pc + 3) ls r h res) : aE M d pc ls (.int x :: r) h res := by
  by_cases hx : x = 0
  · exact eB hf rfl rfl (by show (aTgt pc o).map _ = _; rw [ht]; exact congrArg some (if_pos hx)) (h2 hx)
  · exact eB hf rfl rfl (by show (aTgt pc o).map _ = _; rw [ht]; exact congrArg some (if_neg hx)) (h1 hx)
theorem eLt (hf : aFind M.cd pc = some (.ifCond .lt o, lk)) (ht : aTgt pc o = some t) (h1 : x < 0 → aE M d t ls r h res) (h2 : ¬ x < 0 → aE M d (pc + 3) ls r h res) : aE M d pc ls (.int x :: r) h res := by
  by_cases hx : x < 0
  · exact eB hf rfl rfl (by show (aTgt pc o).map _ = _; rw [ht]; exact congrArg some (if_pos hx)) (h1 hx)
  · exact eB hf rfl rfl (by show (aTgt pc o).map _ = _; rw [ht]; exact congrArg some (if_neg hx)) (h2 hx)
theorem eGe (hf : aFind M.cd pc = some (.ifCond .ge o, lk)) (ht : aTgt pc o = some t) (h1 : 0 ≤ x → aE M d t ls r h res) (h2 : ¬ 0 ≤ x → aE M d (pc + 3) ls r h res) : aE M d pc ls (.int x :: r) h res := by
  by_cases hx : 0 ≤ x
  · exact eB hf rfl rfl (by show (aTgt pc o).map _ = _; rw [ht]; exact congrArg some (if_pos hx)) (h1 hx)
  · exact eB hf rfl rfl (by show (aTgt pc o).map _ = _; rw [ht]; exact congrArg some (if_neg hx)) (h2 hx)
theorem eGt (hf : aFind M.cd pc = some (.ifCond .gt o, lk)) (ht : aTgt pc o = some t) (h1 : 0 < x → aE M d t ls r h res) (h2 : ¬ 0 < x → aE M d (pc + 3) ls r h res) : aE M d pc ls (.int x :: r) h res := by
  by_cases hx : 0 < x
  · exact eB hf rfl rfl (by show (aTgt pc o).map _ = _; rw [ht]; exact congrArg some (if_pos hx)) (h1 hx)
  · exact eB hf rfl rfl (by show (aTgt pc o).map _ = _; rw [ht]; exact congrArg some (if_neg hx)) (h2 hx)
theorem eLe (hf : aFind M.cd pc = some (.ifCond .le o, lk)) (ht : aTgt pc o = some t) (h1 : x ≤ 0 → aE M d t ls r h res) (h2 : ¬ x ≤ 0 → aE M d (pc + 3) ls r h res) : aE M d pc ls (.int x :: r) h res := by
  by_cases hx : x ≤ 0
  · exact eB hf rfl rfl (by show (aTgt pc o).map _ = _; rw [ht]; exact congrArg some (if_pos hx)) (h1 hx)
  · exact eB hf rfl rfl (by show (aTgt pc o).map _ = _; rw [ht]; exact congrArg some (if_neg hx)) (h2 hx)
theorem eIEq (hf : aFind M.cd pc = some (.if_icmp .eq o, lk)) (ht : aTgt pc o = some t) (h1 : x = y → aE M d t ls r h res) (h2 : ¬ x = y → aE M d (pc + 3) ls r h res) : aE M d pc ls (.int y :: .int x :: r) h res := by
  by_cases hx : x = y
  · exact eB hf rfl rfl (by show (aTgt pc o).map _ = _; rw [ht]; exact congrArg some (if_pos hx)) (h1 hx)
  · exact eB hf rfl rfl (by show (aTgt pc o).map _ = _; rw [ht]; exact congrArg some (if_neg hx)) (h2 hx)
theorem eINe (hf : aFind M.cd pc = some (.if_icmp .ne o, lk)) (ht : aTgt pc o = some t) (h1 : ¬ x = y → aE M d t ls r h res) (h2 : x = y → aE M d (pc + 3) ls r h res) : aE M d pc ls (.int y :: .int x :: r) h res := by
  by_cases hx : x = y
  · exact eB hf rfl rfl (by show (aTgt pc o).map _ = _; rw [ht]; exact congrArg some (if_pos hx)) (h2 hx)
  · exact eB hf rfl rfl (by show (aTgt pc o).map _ = _; rw [ht]; exact congrArg some (if_neg hx)) (h1 hx)
theorem eILt (hf : aFind M.cd pc = some (.if_icmp .lt o, lk)) (ht : aTgt pc o = some t) (h1 : x < y → aE M d t ls r h res) (h2 : ¬ x < y → aE M d (pc + 3) ls r h res) : aE M d pc ls (.int y :: .int x :: r) h res := by
  by_cases hx : x < y
  · exact eB hf rfl rfl (by show (aTgt pc o).map _ = _; rw [ht]; exact congrArg some (if_pos hx)) (h1 hx)
  · exact eB hf rfl rfl (by show (aTgt pc o).map _ = _; rw [ht]; exact congrArg some (if_neg hx)) (h2 hx)
theorem eIGe (hf : aFind M.cd pc = some (.if_icmp .ge o, lk)) (ht : aTgt pc o = some t) (h1 : y ≤ x → aE M d t ls r h res) (h2 : ¬ y ≤ x → aE M d (pc + 3) ls r h res) : aE M d pc ls (.int y :: .int x :: r) h res := by
  by_cases hx : y ≤ x
  · exact eB hf rfl rfl (by show (aTgt pc o).map _ = _; rw [ht]; exact congrArg some (if_pos hx)) (h1 hx)
  · exact eB hf rfl rfl (by show (aTgt pc o).map _ = _; rw [ht]; exact congrArg some (if_neg hx)) (h2 hx)
theorem eIGt (hf : aFind M.cd pc = some (.if_icmp .gt o, lk)) (ht : aTgt pc o = some t) (h1 : y < x → aE M d t ls r h res) (h2 : ¬ y < x → aE M d (pc + 3) ls r h res) : aE M d pc ls (.int y :: .int x :: r) h res := by
  by_cases hx : y < x
  · exact eB hf rfl rfl (by show (aTgt pc o).map _ = _; rw [ht]; exact congrArg some (if_pos hx)) (h1 hx)
  · exact eB hf rfl rfl (by show (aTgt pc o).map _ = _; rw [ht]; exact congrArg some (if_neg hx)) (h2 hx)
theorem eILe (hf : aFind M.cd pc = some (.if_icmp .le o, lk)) (ht : aTgt pc o = some t) (h1 : x ≤ y → aE M d t ls r h res) (h2 : ¬ x ≤ y → aE M d (pc + 3) ls r h res) : aE M d pc ls (.int y :: .int x :: r) h res := by
  by_cases hx : x ≤ y
  · exact eB hf rfl rfl (by show (aTgt pc o).map _ = _; rw [ht]; exact congrArg some (if_pos hx)) (h1 hx)
  · exact eB hf rfl rfl (by show (aTgt pc o).map _ = _; rw [ht]; exact congrArg some (if_neg hx)) (h2 hx)
/-- a field is read; kd, vs, v as the heap has them -/
theorem eGet {i p kd : Nat} {vs : List Value} {v : Value} (hf : aFind M.cd pc = some (.getfield i, lk)) (hh : h[p]? = some (kd, vs)) (hk : kd = 2 * lk.1 + 8) (hv : vs[lk.2.1]? = some v) (k : aE M d (pc + 3) ls (v :: r) h res) : aE M d pc ls (.ref p :: r) h res := by
  refine eH hf rfl rfl rfl ?_ k
  show (match h[p]? with
      | some (kd, vs) => if kd = 2 * lk.1 + 8 then (match vs[lk.2.1]? with | some v => some (v :: r, h) | none => none) else none
      | none => none) = _
  rw [hh]
  dsimp only
  rw [if_pos hk, hv]
/-- a field is written -/
theorem ePut {i p kd : Nat} {vs : List Value} {v : Value} {c : vw_C × List FieldType} {ty : FieldType} (hf : aFind M.cd pc = some (.putfield i, lk)) (hh : h[p]? = some (kd, vs)) (hc : aCls[lk.1]? = some c) (hk : kd = 2 * lk.1 + 8) (hp : 20 ≤ p) (hl : lk.2.1 < vs.length)
    (ht : c.2[lk.2.1]? = some ty) (hv : aFit ty v = true) (k : aE M d (pc + 3) ls r (h.set p (kd, vs.set lk.2.1 v)) res) : aE M d pc ls (v :: .ref p :: r) h res := by
  refine eH hf rfl rfl rfl ?_ k
  show (match h[p]?, aCls[lk.1]? with
      | some (kd, vs), some c => if kd = 2 * lk.1 + 8 ∧ aKn ≤ p ∧ lk.2.1 < vs.length then (match c.2[lk.2.1]? with | some ty => if aFit ty v = true then some (r, h.set p (kd, vs.set lk.2.1 v)) else none | none => none) else none
      | _, _ => none) = _
  rw [hh, hc]
  dsimp only
  rw [if_pos ⟨hk, hp, hl⟩, ht]
  dsimp only
  rw [if_pos hv]
theorem aRd_at {kd p : Nat} {vs : List Value} {v : Value} {i : Int32} {j : Nat} (hh : h[p]? = some (kd, vs)) (hj : i = Int32.ofNat j) (hb : j < 2 ^ 31) (hv : vs[j]? = some v) : aRd kd (.int i :: .ref p :: r) h = some (v :: r, h) := by
  have h0 : ¬ i < 0 := by
    rw [hj, Int32.lt_iff_toInt_lt, Int32.toInt_ofNat_small hb]
    show ¬ ((j : Int) < 0)
    omega
  have h1 : i.toNatClampNeg = j := by
    rw [hj, Int32.toNatClampNeg, Int32.toInt_ofNat_small hb]
    rfl
  show (match h[p]? with
    | some (k, vs) => if k = kd then (if i < 0 then none else match vs[i.toNatClampNeg]? with | some v => some (v :: r, h) | none => none) else none
    | none => none) = _
  rw [hh]
  dsimp only
  rw [if_pos rfl, if_neg h0, h1, hv]
theorem aWr_at {kd p : Nat} {vs : List Value} {v : Value} {i : Int32} {j : Nat} (hh : h[p]? = some (kd, vs)) (hp : 20 ≤ p) (hj : i = Int32.ofNat j) (hb : j < 2 ^ 31) (hl : j < vs.length) : aWr kd aKn v (.int i :: .ref p :: r) h = some (r, h.set p (kd, vs.set j v)) := by
  have h0 : ¬ i < 0 := by
    rw [hj, Int32.lt_iff_toInt_lt, Int32.toInt_ofNat_small hb]
    show ¬ ((j : Int) < 0)
    omega
  have h1 : i.toNatClampNeg = j := by
    rw [hj, Int32.toNatClampNeg, Int32.toInt_ofNat_small hb]
    rfl
  show (match h[p]? with
    | some (k, vs) => if k = kd ∧ aKn ≤ p ∧ ¬ i < 0 ∧ i.toNatClampNeg < vs.length then some (r, h.set p (k, vs.set i.toNatClampNeg v)) else none
    | none => none) = _
  rw [hh]
  dsimp only
  rw [if_pos ⟨rfl, hp, h0, by rw [h1]; exact hl⟩, h1]
/-- an array's length -/
theorem eLen {p kd : Nat} {vs : List Value} (hf : aFind M.cd pc = some (.arraylength, lk)) (hh : h[p]? = some (kd, vs)) (hk : kd < 6) (k : aE M d (pc + 1) ls (.int (Int32.ofNat vs.length) :: r) h res) : aE M d pc ls (.ref p :: r) h res := by
  refine eH hf rfl rfl rfl ?_ k
  show (match h[p]? with
      | some (kd, vs) => if kd < 6 then some (Value.int (Int32.ofNat vs.length) :: r, h) else none
      | none => none) = _
  rw [hh]
  dsimp only
  rw [if_pos hk]
end AE
