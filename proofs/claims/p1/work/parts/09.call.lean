section AHPALL
variable {p : Program} {l : Launch} {e : Env} {R : Room} {s : State} {m : MethodId} {args : Array Value} {below : List Frame} {meth : Method} {c : Code} {H : Heap} {locs : List Loc} {cells slots : Nat} {Q : State → Prop}
variable {cc : ByteArray} {pc : Nat} {ls : Array Slot} {ad : Nat → Nat} {unk : Nat → Value} {own : MethodName} {s0 : State} {D : va_G} {cl : aCl} {K : Nat}
set_option maxHeartbeats 4000000 in
theorem aHp_ok (hA : aAd ad K) (hx : p.tables.exec = Jvm.exec) (hb : c.code = cc) (hWs : s0.WarmedH s.vm) (hown : s.vm.findClass own.cls = some m.cls) (hname : meth.name = own.name) (hcl : aClOK cl s) (hK : aK D cl s) (hsz : s0.heap.size = ad K)
    {I : Instr} {lk : aLk} {hp hp' : aH} {st st' : List Value} (h : aHp cl K own I lk st hp = some (st', hp')) (hdg : decode cc pc = .ok (I, aLen I)) (hR : aRel s0 D cl ad unk K hp H) (hlk : aHk s0 cl ad unk K own I lk args s) (hlocs : ∀ q ∈ locs, ad K ≤ q.base)
    (hcells : cells + (hp'.length - hp.length) ≤ R.cells) (hslots : slots + (aSzs cl hp' - aSzs cl hp) ≤ R.slots)
    (k : ∀ (H' : Heap) (locs' : List Loc), aRel s0 D cl ad unk K hp' H' → (∀ q ∈ locs', ad K ≤ q.base) → W p l e R s m args below meth c H' locs' (cells + (hp'.length - hp.length)) (slots + (aSzs cl hp' - aSzs cl hp)) Q (F0 m (pc + aLen I) ls (aVs ad unk st'))) :
    W p l e R s m args below meth c H locs cells slots Q (F0 m pc ls (aVs ad unk st)) := by
  have hal : s0.vm.Alike s.vm := hWs.alike
  have k0 : hp' = hp → W p l e R s m args below meth c H locs cells slots Q (F0 m (pc + aLen I) ls (aVs ad unk st')) := by
    intro e0
    subst e0
    have := k H locs hR hlocs
    rw [Nat.sub_self, Nat.sub_self] at this
    exact this
  have k1 : ∀ (H' : Heap) (locs' : List Loc), aRel s0 D cl ad unk K hp' H' → (∀ q ∈ locs', ad K ≤ q.base) → hp'.length = hp.length → aSzs cl hp' = aSzs cl hp → W p l e R s m args below meth c H' locs' cells slots Q (F0 m (pc + aLen I) ls (aVs ad unk st')) := by
    intro H' locs' a1 a2 a3 a4
    have := k H' locs' a1 a2
    rw [a3, a4, Nat.sub_self, Nat.sub_self] at this
    exact this
  cases I with
  | getfield i => exact aGetf_ok hx hb hown hcl hK h hdg hR hlk k0
  | putfield i => exact aPutf_ok hA hx hb hown hname hcl hK h hdg hR hlk hlocs k1
  | iaload => exact aRd_ok hx hb hal (Or.inl ⟨rfl, rfl⟩) h hdg hR k0
  | caload => exact aRd_ok hx hb hal (Or.inr (Or.inl ⟨rfl, rfl⟩)) h hdg hR k0
  | laload => exact aRd_ok hx hb hal (Or.inr (Or.inr (Or.inl ⟨rfl, rfl⟩))) h hdg hR k0
  | faload => exact aRd_ok hx hb hal (Or.inr (Or.inr (Or.inr (Or.inl ⟨rfl, rfl⟩)))) h hdg hR k0
  | daload => exact aRd_ok hx hb hal (Or.inr (Or.inr (Or.inr (Or.inr (Or.inl ⟨rfl, rfl⟩))))) h hdg hR k0
  | baload => exact aRd_ok hx hb hal (Or.inr (Or.inr (Or.inr (Or.inr (Or.inr ⟨rfl, rfl⟩))))) h hdg hR k0
  | iastore =>
    simp only [aHp] at h
    split at h
    · exact aWr_ok hA hx hb hal (Or.inl ⟨_, rfl, rfl, rfl, rfl⟩) h hdg hR hlocs k1
    · cases h
  | lastore =>
    simp only [aHp] at h
    split at h
    · exact aWr_ok hA hx hb hal (Or.inr (Or.inl ⟨_, rfl, rfl, rfl, rfl⟩)) h hdg hR hlocs k1
    · cases h
  | fastore =>
    simp only [aHp] at h
    split at h
    · exact aWr_ok hA hx hb hal (Or.inr (Or.inr (Or.inl ⟨_, rfl, rfl, rfl, rfl⟩))) h hdg hR hlocs k1
    · cases h
  | dastore =>
    simp only [aHp] at h
    split at h
    · exact aWr_ok hA hx hb hal (Or.inr (Or.inr (Or.inr (Or.inl ⟨_, rfl, rfl, rfl, rfl⟩)))) h hdg hR hlocs k1
    · cases h
  | castore =>
    simp only [aHp] at h
    split at h
    · exact aWr_ok hA hx hb hal (Or.inr (Or.inr (Or.inr (Or.inr ⟨_, rfl, rfl, rfl, rfl⟩)))) h hdg hR hlocs k1
    · cases h
  | arraylength =>
    simp only [aHp] at h
    split at h
    · split at h
      · rename_i h0
        split at h
        · rename_i hk
          cases h
          obtain ⟨cell, g1, g2, g3, g4, g5⟩ := aArr_of hal hR h0 (by omega)
          exact W.alen hx hb g1 g3 g4.2 rfl rfl hdg (k0 rfl)
        · cases h
      · cases h
    · cases h
  | newarray t =>
    cases t with
    | int => exact aNewA_ok hA hx hb hal (by decide) rfl (by decide) h hdg hR hlk hcells hslots (fun H' a => k H' locs a hlocs)
    | char => exact aNewA_ok hA hx hb hal (by decide) rfl (by decide) h hdg hR hlk hcells hslots (fun H' a => k H' locs a hlocs)
    | long => exact aNewA_ok hA hx hb hal (by decide) rfl (by decide) h hdg hR hlk hcells hslots (fun H' a => k H' locs a hlocs)
    | float => exact aNewA_ok hA hx hb hal (by decide) rfl (by decide) h hdg hR hlk hcells hslots (fun H' a => k H' locs a hlocs)
    | double => exact aNewA_ok hA hx hb hal (by decide) rfl (by decide) h hdg hR hlk hcells hslots (fun H' a => k H' locs a hlocs)
    | _ => simp [aHp] at h
  | new i => exact aNew_ok hA hx hb hWs hown hcl hK h hdg hR hlk hcells hslots (fun H' a => k H' locs a hlocs)
  | getstatic i =>
    simp only [aHp] at h
    cases h
    exact aGets_ok hal hx hb hown hsz hdg hR hlk (k0 rfl)
  | _ => simp [aHp] at h
end AHPALL
/-! calls -/
theorem aArgs_ok : ∀ (n : Nat) {st as r : List Value}, aArgs n st = some (as, r) → as.length = n ∧ st = as.reverse ++ r
  | 0, st, as, r, h => by
    simp only [aArgs] at h
    cases h
    exact ⟨rfl, rfl⟩
  | n + 1, [], as, r, h => by simp [aArgs] at h
  | n + 1, v :: st, as, r, h => by
    simp only [aArgs] at h
    split at h
    · rename_i as' r' e
      cases h
      obtain ⟨h1, h2⟩ := aArgs_ok n e
      exact ⟨by simp [h1], by rw [List.reverse_append, h2]; rfl⟩
    · cases h
def aSig (y : MethodName) (n : Nat) : Prop := y.cls ≠ "java/lang/invoke/MethodHandle" ∧ y.cls ≠ "java/lang/invoke/VarHandle" ∧ (parseMethodDescriptor y.desc).map (fun d => d.parameters.length) = some n
/-- a method as it stands in the tables of a state -/
def aMeth (U : State) (M : aMt) : Prop := plainFor M.nm = true ∧ ∃ (mk : MethodId) (methk : Method) (ck : Code), U.methodNamed? M.nm = some mk ∧ U.vm.method? mk = some methk ∧ methk.code = some ck ∧ ck.code = M.by ∧ ck.maxLocals = M.nl ∧ methk.sig.returnType = M.rt ∧ methk.locks = false ∧
  (M.hd = [] → ck.exceptionTable.toList = []) ∧ parseMethodDescriptor M.nm.desc = some methk.sig
/-- a word on the heap: a static of the JDK's that holds a reference or null -/
def aRefW : Jvm.Cond → Bool
  | .isRef _ => true
  | .laysStatic _ _ _ => true
  | _ => false
/-- what a call needs of the tables -/
def aIk (cl : aCl) (P : List aMt) (own : MethodName) (I : Instr) (lk : aLk) (args : Array Value) (s : State) : Prop := match I with
  | .invokestatic i => ∃ M', P[lk.1]? = some M' ∧ aSig M'.nm lk.2.1 ∧ (Jvm.Cond.methodLink own.cls i M'.nm).before args s = true ∧ (Jvm.Cond.static M'.nm).before args s = true ∧ (Jvm.Cond.initialized M'.nm.cls).before args s = true
  | .invokevirtual i => ∃ M' r n, P[lk.1]? = some M' ∧ cl[lk.2.2.1]? = some r ∧ lk.2.1 = n + 1 ∧ aSig M'.nm n ∧ (Jvm.Cond.methodLink own.cls i M'.nm).before args s = true ∧ (Jvm.Cond.instanceMethod M'.nm).before args s = true ∧ (Jvm.Cond.selects r.1.1 M'.nm M'.nm).before args s = true
  | .invokespecial i => (lk.1 = 0 ∧ lk.2.2.1 = 0 ∧ (Jvm.Cond.methodLink own.cls i Lib.objectInit).before args s = true ∧ (Jvm.Cond.instanceMethod Lib.objectInit).before args s = true ∧ (Jvm.Cond.code Lib.objectInit ⟨#[0xb1]⟩ 1 none).before args s = true) ∨
    (lk.1 = 0 ∧ ∃ x r, lk.2.2.1 = x + 1 ∧ cl[x]? = some r ∧ aOwn r ∧ Bundle.fit r.1.1 = true ∧ ∀ w ∈ Bundle.ownAtoms own.cls i r.1.1 ["java/lang/RuntimeException", "java/lang/Exception"], aRefW w = false → w.before args s = true) ∨
    ∃ k M' n, lk.1 = k + 1 ∧ P[k]? = some M' ∧ lk.2.1 = n + 1 ∧ aSig M'.nm n ∧ M'.nm.name = "<init>" ∧ ((Jvm.Cond.methodLink own.cls i M'.nm).before args s = true ∨ ∃ host, (Jvm.Cond.methodLinkNest own.cls i M'.nm host).before args s = true) ∧
      (Jvm.Cond.instanceMethod M'.nm).before args s = true ∧ (Jvm.Cond.code M'.nm M'.by M'.nl none).before args s = true
  | _ => True
section ACALL
variable {p : Program} {l : Launch} {e : Env} {R : Room} {s : State} {m : MethodId} {args : Array Value} {below : List Frame} {meth : Method} {c : Code} {H : Heap} {locs : List Loc} {cells slots : Nat} {T : State}
variable {ad : Nat → Nat} {unk : Nat → Value} {own : MethodName} {s0 : State} {D : va_G} {cl : aCl} {K : Nat} {P : List aMt}
/-- the call has come to the callee's door -/
def aDoor (p : Program) (l : Launch) (e : Env) (R : Room) (s : State) (m : MethodId) (args : Array Value) (below : List Frame) (meth : Method) (c : Code) (T : State) (locs : List Loc) (cells slots : Nat) (g : JFrame) (rest as : List Value) (y : MethodName) : Prop :=
  ∃ (vm₁ : Vm) (mk : MethodId), Stand p l e R s m args below meth c (T.setVm vm₁) locs cells slots ∧ s.methodNamed? y = some mk ∧
    ∀ target, (∀ acts, Steps p.tables e below (doInvoke e ((T.setVm vm₁).setTop { g with stack := rest }) acts mk as.toArray).1 target) → Steps p.tables e below (T.setTop g) target
theorem aDoor_S (X : Stand p l e R s m args below meth c T locs cells slots) (hexec : p.tables.exec = Jvm.exec) (hown : s.vm.findClass own.cls = some m.cls) {i : Nat} {M' : aMt} (hM : aMeth s M') {as rest : List Value} (hs : aSig M'.nm as.length)
    (hl : (Jvm.Cond.methodLink own.cls i M'.nm).before args s = true) (hst : (Jvm.Cond.static M'.nm).before args s = true) (hini : (Jvm.Cond.initialized M'.nm.cls).before args s = true)
    {g : JFrame} (hg : g.method = m) (hstack : g.stack = as.reverse ++ rest) (hdg : decode c.code g.pc = .ok (.invokestatic i, 3)) : aDoor p l e R s m args below meth c T locs cells slots g rest as M'.nm := by
  obtain ⟨-, mk, methM, cM, hnamed, hmethM, -, -, -, -, -, -, hsigM⟩ := hM
  have hstatic : methM.isStatic = true := Cond.static_spec hnamed hmethM hst
  obtain ⟨kP, hkP, -⟩ := className_of_methodNamed hnamed
  have hinitP : kP.init = .initialized := Cond.initialized_spec (findClass_of_methodNamed hnamed) hkP hini
  have hlen : as.length = methM.sig.parameters.length := by
    have := hs.2.2
    rw [hsigM] at this
    exact (Option.some.inj this).symm
  obtain ⟨vm₁, X₁, hstep₁⟩ := X.invokestatic hexec hown hl hnamed hmethM hstatic hkP hinitP ⟨hs.1, hs.2.1⟩ (g := g) hg (argsL := as) (rest := rest) hlen hstack hdg
  exact ⟨vm₁, mk, X₁, hnamed, hstep₁⟩
theorem aDoor_V (X : Stand p l e R s m args below meth c T locs cells slots) (hexec : p.tables.exec = Jvm.exec) (hown : s.vm.findClass own.cls = some m.cls) {i : Nat} {M' : aMt} (hM : aMeth s M') {as rest : List Value} {b : Addr} {C : String} (hs : aSig M'.nm as.length)
    (hl : (Jvm.Cond.methodLink own.cls i M'.nm).before args s = true) (hinst : (Jvm.Cond.instanceMethod M'.nm).before args s = true) (hsel : (Jvm.Cond.selects C M'.nm M'.nm).before args s = true)
    {cellB : Cell} (hcell : T.heap[b]? = some cellB) (hobj : cellB.vm.isStatics = false) (hcls : s.vm.findClass C = some cellB.cls)
    {g : JFrame} (hg : g.method = m) (hstack : g.stack = as.reverse ++ .ref b :: rest) (hdg : decode c.code g.pc = .ok (.invokevirtual i, 3)) : aDoor p l e R s m args below meth c T locs cells slots g rest (.ref b :: as) M'.nm := by
  obtain ⟨mk, methM, hnamed, hmethM, hstM, habM⟩ := Cond.instanceMethod_spec hinst
  obtain ⟨-, mk', methM', cM, hnamed', hmethM', -, -, -, -, -, -, hsigM⟩ := hM
  cases hnamed.symm.trans hnamed'
  cases hmethM.symm.trans hmethM'
  have hlen : as.length = methM.sig.parameters.length := by
    have := hs.2.2
    rw [hsigM] at this
    exact (Option.some.inj this).symm
  obtain ⟨c2, r2, m2, q1, q2, q3, q4, kP, hkP, hkPi⟩ := Cond.selects_spec hsel
  cases hcls.symm.trans q1
  cases (State.methodFound?_of_named hnamed ⟨hs.1, hs.2.1⟩).symm.trans q2
  cases hnamed.symm.trans q3
  have hselP : selectMethod e.platform s.vm cellB.cls mk = .method mk := by rw [Launch.admits_selectMethod X.admits]; exact q4
  obtain ⟨vm₁, X₁, hstep₁⟩ := X.invokevirtual hexec hown hl hnamed hmethM hstM hkP hkPi ⟨hs.1, hs.2.1⟩ (a := b) (cell := cellB) hcell
    (fun z h => by rw [h] at hobj; cases hobj) hselP hmethM habM hkP hkPi (g := g) hg (argsL := as) (rest := rest) hlen hstack hdg
  exact ⟨vm₁, mk, X₁, hnamed, hstep₁⟩
theorem aDoor_I (X : Stand p l e R s m args below meth c T locs cells slots) (hexec : p.tables.exec = Jvm.exec) (hown : s.vm.findClass own.cls = some m.cls) {i : Nat} {M' : aMt} {as rest : List Value} {b : Addr} (hs : aSig M'.nm as.length) (hy1 : M'.nm.name = "<init>")
    (hl : (Jvm.Cond.methodLink own.cls i M'.nm).before args s = true ∨ ∃ host, (Jvm.Cond.methodLinkNest own.cls i M'.nm host).before args s = true) (hinst : (Jvm.Cond.instanceMethod M'.nm).before args s = true) (hcode : (Jvm.Cond.code M'.nm M'.by M'.nl none).before args s = true)
    {g : JFrame} (hg : g.method = m) (hstack : g.stack = as.reverse ++ .ref b :: rest) (hdg : decode c.code g.pc = .ok (.invokespecial i, 3)) : aDoor p l e R s m args below meth c T locs cells slots g rest (.ref b :: as) M'.nm := by
  subst hg
  have hpl : e.platform.magicAccessors = ({} : Platform).magicAccessors := by rw [X.admits.platform]
  have hlen : ∀ sig, parseMethodDescriptor M'.nm.desc = some sig → as.length = sig.parameters.length := by
    intro sig h
    have := hs.2.2
    rw [h] at this
    exact (Option.some.inj this).symm
  rcases hl with hl | ⟨host, hl⟩
  · obtain ⟨mk, methM, cM, kP, vm₁, hnamed, -, -, -, -, -, -, -, hW₁, hstep₁⟩ := Steps.initColdArgs (e := e) X.here hexec X.warmed hpl hown hy1 ⟨hs.1, hs.2.1⟩ hl hinst hcode (f := g) rfl hlen hstack hdg
    exact ⟨vm₁, mk, X.noted hW₁, hnamed, hstep₁⟩
  · obtain ⟨mk, methM, cM, kP, vm₁, hnamed, -, -, -, -, -, -, -, hW₁, hstep₁⟩ := Steps.initColdArgsNest (e := e) X.here hexec X.warmed hpl hown hy1 ⟨hs.1, hs.2.1⟩ hl hinst hcode (f := g) rfl hlen hstack hdg
    exact ⟨vm₁, mk, X.noted hW₁, hnamed, hstep₁⟩
end ACALL
