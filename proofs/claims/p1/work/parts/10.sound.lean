section AENTER
variable {p : Program} {l : Launch} {e : Env} {R : Room} {s : State} {m : MethodId} {args : Array Value} {below : List Frame} {meth : Method} {c : Code} {H : Heap} {locs : List Loc} {cells slots : Nat} {T : State}
variable {ad : Nat → Nat} {unk : Nat → Value} {own : MethodName} {s0 : State} {D : va_G} {cl : aCl} {K : Nat} {P : List aMt}
/-- through the callee's door and back -/
theorem aEnter {U : State} (X : Stand p l e R s m args below meth c U locs cells slots) {g : JFrame} (hg : g.method = m) (hsize : g.locals.size = c.maxLocals) {ig : Instr} (hdg : decode c.code g.pc = .ok (ig, 3))
    {M' : aMt} {mk : MethodId} (hn : U.methodNamed? M'.nm = some mk) (hM : aMeth U M') {as : List Value} {R' : Room}
    (hframes : R'.frames + 1 ≤ R.frames) (hlocals : 2 * g.monitorRoom + (g.stack.map fun v => v.category).sum + (M'.nl + 11) + R'.locals ≤ R.locals) (hcells : cells + R'.cells ≤ R.cells) (hslots : slots + R'.slots ≤ R.slots) {k n : Nat} {res : aOut × aH}
    (hW : ∀ (methk : Method) (ck : Code), ck.code = M'.by → ck.maxLocals = M'.nl → methk.sig.returnType = M'.rt → methk.locks = false → (M'.hd = [] → ck.exceptionTable.toList = []) → methk.name = M'.nm.name → (U.calling g mk as.toArray).vm.findClass M'.nm.cls = some mk.cls →
      W p l e R' (U.calling g mk as.toArray) mk as.toArray (.java g :: below) methk ck U.heap [] 0 0 (aEnd (.java g :: below) (U.calling g mk as.toArray) s0 D cl ad unk K k n res) (entryFrame mk as.toArray M'.nl)) :
    ∃ (T' : State) (L : List Loc), Stand p l e R s m args below meth c T' (locs ++ L) (cells + k) (slots + n) ∧ (∀ q ∈ L, ad K ≤ q.base) ∧ aRel s0 D cl ad unk K res.2 T'.heap ∧
      (∀ v, res.1 = .inl v → ∀ target, Steps p.tables e below (T'.setTop { g with pc := g.pc + 3, stack := (v.map (aV ad unk)).toList ++ g.stack }) target → ∀ acts, Steps p.tables e below (doInvoke e (U.setTop g) acts mk as.toArray).1 target) ∧
      (∀ q, res.1 = .inr q → ∀ target, Steps p.tables e below ((T'.setTop g).pushFrame (.throwing (ad q))) target → ∀ acts, Steps p.tables e below (doInvoke e (U.setTop g) acts mk as.toArray).1 target) := by
  obtain ⟨hpn, mk', methk, ck, hn', hmk, hck, h1, h2, h3, h4, h5, -⟩ := hM
  cases hn.symm.trans hn'
  have hpk : U.plainMethod mk := State.plainMethod.of_named hpn hn hmk
  obtain ⟨Y, hin⟩ := X.into hg hsize hdg as.toArray (R' := R') hmk hck h4 hpk hframes (by rw [h2]; exact hlocals) hcells hslots
  have hfc : (U.calling g mk as.toArray).vm.findClass M'.nm.cls = some mk.cls := findClass_of_methodNamed (s := U) hn
  have hname : methk.name = M'.nm.name := (name_of_methodNamed hn hmk).1
  have hheap : ((U.setTop g).pushFrame (.java (entryFrame mk as.toArray ck.maxLocals))).heap = U.heap := by simp [State.pushFrame, State.setFrames, State.setTop, State.modifyTopJava]
  obtain ⟨t, hst, o, L, e1, e2, e3, e4, e5, e6, e7⟩ := hW methk ck h1 h2 h3 h4 h5 hname hfc _ hheap Y
  rw [h2] at hst hin
  cases hres : res.1 with
  | inl v =>
    rw [hres] at e7
    subst e7
    obtain ⟨T', X', w1, w2, w3⟩ := X.outOf hg hdg (mk := mk) (a := as.toArray) e2 e3 e4
    refine ⟨T', L, X', e5, ?_, fun v' hv' => ?_, fun q hq => by cases hq⟩
    · have : t.heap = T'.heap := by rw [w3]; simp [State.setTop, State.modifyTopJava, State.setFrames]
      rw [← this]
      exact e6
    · cases hv'
      intro target htg acts
      rw [hin acts]
      have hst' := Steps.weaken (mid := [.java g]) hst
      rw [w3] at hst'
      exact hst'.trans htg
  | inr q =>
    rw [hres] at e7
    subst e7
    obtain ⟨T', X', w1, w2, w3⟩ := X.outOfThrown hg (mk := mk) (a := as.toArray) e2 e3 e4
    refine ⟨T', L, X', e5, ?_, (fun v' hv' => by cases hv'), fun q' hq' => ?_⟩
    · have : t.heap = T'.heap := by rw [w3]; simp [State.pushFrame, State.setTop, State.modifyTopJava, State.setFrames]
      rw [← this]
      exact e6
    · cases hq'
      intro target htg acts
      rw [hin acts]
      have hst' := Steps.weaken (mid := [.java g]) hst
      rw [w3] at hst'
      exact hst'.trans htg
/-- what is known of all methods at a state -/
def aAll (s0 : State) (D : va_G) (cl : aCl) (ad : Nat → Nat) (unk : Nat → Value) (K : Nat) (P : List aMt) (U : State) : Prop :=
  aClOK cl U ∧ aK D cl U ∧ ∀ M ∈ P, aMeth U M ∧ ∀ (pc : Nat) (I : Instr) (lk : aLk), aFind M.cd pc = some (I, lk) →
    (∃ n, decode M.by pc = .ok (I, n) ∧ (n = aLen I ∨ (∃ d ps, I = .lookupswitch d ps) ∨ (∃ d lo hi os, I = .tableswitch d lo hi os))) ∧ ∀ args : Array Value, aLd ad M.nm.cls I lk.2.2.2 args U ∧ aHk s0 cl ad unk K M.nm I lk args U ∧ aIk cl P M.nm I lk args U
/-- a catch in a method with handlers -/
def aThr (s0 : State) (D : va_G) (M : aMt) : Prop := ∀ {p : Program} {l : Launch} {e : Env} {R : Room} {s : State} {m : MethodId} {args : Array Value} {below : List Frame} {meth : Method} {c : Code} {locs : List Loc} {cells slots : Nat} {T : State}
    (_ : Stand p l e R s m args below meth c T locs cells slots) (_ : p.tables.exec = Jvm.exec) (_ : s0.WarmedH s.vm) (_ : s.methodNamed? M.nm = some m) {g : JFrame} (_ : g.method = m) {a : Addr} {k t : Nat} {cell : Cell} (_ : T.heap[a]? = some cell) (_ : cell.cls = D.1 k) (_ : cell.vm.isStatics = false) (_ : aHand M.hd g.pc (2 * k + 8) = some t),
    ∃ vm₁, Stand p l e R s m args below meth c (T.setVm vm₁) locs cells slots ∧ ∀ target, Steps p.tables e below ((T.setVm vm₁).setTop { g with pc := t, stack := [.ref a] }) target → Steps p.tables e below ((T.setTop g).pushFrame (.throwing a)) target
theorem aFind_sw {I : Instr} {n : Nat} (h : n = aLen I ∨ (∃ d ps, I = .lookupswitch d ps) ∨ (∃ d lo hi os, I = .tableswitch d lo hi os)) (h1 : ∀ d ps, I ≠ .lookupswitch d ps) (h2 : ∀ d lo hi os, I ≠ .tableswitch d lo hi os) : n = aLen I := by
  rcases h with h | ⟨d, ps, h⟩ | ⟨d, lo, hi, os, h⟩
  · exact h
  · exact absurd h (h1 d ps)
  · exact absurd h (h2 d lo hi os)
theorem aRet_len {I : Instr} {rt : Option FieldType} {st : List Value} {v : Option Value} (h : aRet I rt st = some v) : aLen I = 1 ∧ (∀ d ps, I ≠ .lookupswitch d ps) ∧ ∀ d lo hi os, I ≠ .tableswitch d lo hi os := by
  cases I <;> first | (exfalso; simp [aRet] at h; done) | exact ⟨rfl, (fun _ _ z => by cases z), (fun _ _ _ _ z => by cases z)⟩
theorem aPure_len {I : Instr} {v : Value} {st st' : List Value} (h : aPure I v st = some st') : (∀ d ps, I ≠ .lookupswitch d ps) ∧ ∀ d lo hi os, I ≠ .tableswitch d lo hi os := by
  cases I <;> first | (exfalso; simp [aPure] at h; done) | exact ⟨(fun _ _ z => by cases z), (fun _ _ _ _ z => by cases z)⟩
theorem aLoc_len {I : Instr} {nl : Nat} {ls ls' : aLc} {st st' : List Value} (h : aLoc nl I ls st = some (ls', st')) : (∀ d ps, I ≠ .lookupswitch d ps) ∧ ∀ d lo hi os, I ≠ .tableswitch d lo hi os := by
  cases I <;> first | (exfalso; simp [aLoc] at h; done) | exact ⟨(fun _ _ z => by cases z), (fun _ _ _ _ z => by cases z)⟩
theorem aHp_len {cl : aCl} {K : Nat} {own : MethodName} {I : Instr} {lk : aLk} {st st' : List Value} {h h' : aH} (e : aHp cl K own I lk st h = some (st', h')) : (∀ d ps, I ≠ .lookupswitch d ps) ∧ ∀ d lo hi os, I ≠ .tableswitch d lo hi os := by
  cases I <;> first | (exfalso; simp [aHp] at e; done) | exact ⟨(fun _ _ z => by cases z), (fun _ _ _ _ z => by cases z)⟩
theorem aCat_vs (hu : ∀ i, (unk i).category = 1) (st : List Value) : ((aVs ad unk st).map fun v => v.category).sum = aCat st := by
  unfold aCat aVs
  rw [List.map_map]
  congr 2
  funext v
  exact aV_cat hu v
theorem aStep_call {cl : aCl} {K : Nat} {M : aMt} {I : Instr} {lk : aLk} {pc : Nat} {ls : aLc} {st : List Value} {h : aH} {k : Nat} {as rest : List Value} (e : aStep cl K M I lk pc ls st h = some (.inr (.inr (k, as, rest)))) :
    (∃ i, I = .invokestatic i ∧ aArgs lk.2.1 st = some (as, rest) ∧ k = lk.1) ∨
    (∃ i q as' vs, I = .invokevirtual i ∧ as = .ref q :: as' ∧ aArgs lk.2.1 st = some (as, rest) ∧ k = lk.1 ∧ h[q]? = some (2 * lk.2.2.1 + 8, vs)) ∨
    (∃ i q as', I = .invokespecial i ∧ as = .ref q :: as' ∧ aArgs lk.2.1 st = some (as, rest) ∧ lk.1 = k + 1) := by
  unfold aStep at e
  split at e
  · cases e
  split at e
  · cases e
  split at e
  · cases e
  split at e
  · cases e
  split at e
  · cases e
  split at e
  · split at e
    · rename_i ha
      cases e
      exact Or.inl ⟨_, rfl, ha, rfl⟩
    · cases e
  · split at e
    · rename_i ha
      split at e
      · rename_i h0
        split at e
        · rename_i hk
          subst hk
          cases e
          exact Or.inr (Or.inl ⟨_, _, _, _, rfl, rfl, ha, rfl, h0⟩)
        · cases e
      · cases e
    · cases e
  · split at e
    · split at e
      · split at e <;> cases e
      · split at e
        · split at e
          · split at e <;> cases e
          · cases e
        · cases e
    · rename_i hk _ _ _ _ _
      split at e
      · rename_i ha
        cases e
        exact Or.inr (Or.inr ⟨_, _, _, rfl, rfl, ha, hk⟩)
      · cases e
    · cases e
  · split at e
    · split at e <;> cases e
    · cases e
  · cases e
theorem a_slN (hu : ∀ i, (unk i).category = 1) (as : List Value) : (lg_sl (aVs ad unk as)).length = aCat as := by
  rw [← aCat_vs (ad := ad) hu as]
  generalize aVs ad unk as = vs
  induction vs with
  | nil => rfl
  | cons v l ih =>
    simp only [lg_sl, List.flatMap_cons, List.length_append, List.map_cons, List.sum_cons] at ih ⊢
    rw [ih]
    rcases lv_cat v with hc | hc <;> simp [hc]
theorem aHand_kd : ∀ {hd : List (Nat × Nat × Nat × Nat)} {pc kd t : Nat}, aHand hd pc kd = some t → ∃ k, kd = 2 * k + 8
  | [], _, _, _, h => by simp [aHand] at h
  | (a, b, t0, k) :: l, pc, kd, t, h => by
    unfold aHand at h
    split at h
    · rename_i hc
      exact ⟨k, hc.2.2⟩
    · exact aHand_kd h
end AENTER
