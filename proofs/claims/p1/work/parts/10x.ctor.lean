section ACTOR
set_option maxHeartbeats 4000000 in
/-- the constructor, with a message, of an exception of the JDK's that was just made: it is an object of its class; nothing else is written -/
theorem aCtor_ok {p : Program} {l : Launch} {e : Env} {R : Room} {s : State} {m : MethodId} {args : Array Value} {below : List Frame} {meth : Method} {c : Code} {T : State} {locs : List Loc} {cells slots : Nat}
    (X : Stand p l e R s m args below meth c T locs cells slots) (hexec : p.tables.exec = Jvm.exec) (htr : e.platform.stackTraces = false) {own cls : String} {ic : Nat} (hown : s.vm.findClass own = some m.cls) (hcls : Bundle.fit cls = true)
    (h : ∀ w ∈ Bundle.ownAtoms own ic cls ["java/lang/RuntimeException", "java/lang/Exception"], w.before args s = true) (hlocs : ∀ x ∈ locs, ∀ cell, s.heap[x.base]? = some cell → cell.vm.isStatics = false)
    {a : Addr} {cX : ClassId} {kX : Class} (hfX : s.vm.findClass cls = some cX) (hkX : s.vm.classes[cX]? = some kX) (hcell : T.heap[a]? = some (blank cX kX)) {msg : Value} (hmsg : msg.isRef = true)
    {g : JFrame} (hg : g.method = m) (hsize : g.locals.size = c.maxLocals) {rest : List Value} (hstack : g.stack = msg :: .ref a :: rest) (hdg : decode c.code g.pc = .ok (.invokespecial ic, 3))
    (hRf : 5 < R.frames) (hRl : 2 * g.monitorRoom + (rest.map fun v => v.category).sum + 81 ≤ R.locals) :
    ∃ (vm' : Vm) (cell' : Cell) (L : List Loc), Stand p l e R s m args below meth c ((T.setVm vm').setCell a cell') (locs ++ L) cells slots ∧ (∀ x ∈ L, x.base = a) ∧ cell'.cls = cX ∧ cell'.vm = .none ∧ cell'.monitor = {} ∧
      ∀ target, Steps p.tables e below (((T.setVm vm').setCell a cell').setTop { g with pc := g.pc + 3, stack := rest }) target → Steps p.tables e below (T.setTop g) target := by
  have hn2 : ∀ n ∈ ["java/lang/RuntimeException", "java/lang/Exception"], Bundle.fit n = true := by decide +kernel
  have pf1 : e.platform.frameOwnsMonitors = true := by rw [X.admits.platform]
  have pf2 : e.platform.finalization = false := by rw [X.admits.platform]
  have pf3 : e.platform.magicAccessors = ({} : Platform).magicAccessors := by rw [X.admits.platform]
  have w : ∀ x, x ∈ Bundle.ownAtoms own ic cls ["java/lang/RuntimeException", "java/lang/Exception"] → x.holds args s none s [] = true := fun x hx => h x hx
  obtain ⟨Tc, Z0, hL, -, hY⟩ := ThrowableC.of_atoms (args := args) pf1 pf2 pf3 (fun x hx => h x (by simp [Bundle.ownAtoms, hx]))
  obtain ⟨Z, M, hZ, hM, hnZ⟩ := Init0T.ofS_atoms (args := args) pf3 hL hY (fun x hx => h x (by simp [Bundle.ownAtoms, hx]))
  obtain ⟨P1, Ps, hlen, hP1, hPs, hPm, hk1, hk2⟩ := Bundle.chainS (args := args) pf3 hnZ _ cls hcls hn2 (fun x hx => h x (by simp [Bundle.ownAtoms, hx]))
  have hf1 : s.vm.findClass cls = some P1.m.cls := findClass_of_methodNamed hPm
  cases Option.some.inj (hfX.symm.trans hf1)
  obtain ⟨c1, k1, e1, e2, hord, -, -, -⟩ := Cond.instantiable_spec (w (.instantiable cls 6) (by simp [Bundle.ownAtoms]))
  cases Option.some.inj (e1.symm.trans hf1)
  cases Option.some.inj (hkX.symm.trans e2)
  have sel : ∀ (y : MethodName) (k : MethodId), s.methodNamed? y = some k → (y.cls ≠ "java/lang/invoke/MethodHandle" ∧ y.cls ≠ "java/lang/invoke/VarHandle") → (Cond.selects cls y y).holds args s none s [] = true → selectMethod e.platform s.vm P1.m.cls k = .method k := by
    intro y k hk hy hs
    obtain ⟨c2, r2, m2, q1, q2, q3, q4, -⟩ := Cond.selects_spec hs
    cases Option.some.inj (q1.symm.trans hf1)
    cases Option.some.inj (q2.symm.trans (State.methodFound?_of_named hk hy))
    cases Option.some.inj (q3.symm.trans hk)
    rw [Launch.admits_selectMethod X.admits]
    exact q4
  have s1 := sel _ _ hY.fill0 (by decide) (w (.selects cls Bundle.tFill0 Bundle.tFill0) (by simp [Bundle.ownAtoms]))
  have s2 := sel _ _ hY.fill (by decide) (w (.selects cls Bundle.tFill Bundle.tFill) (by simp [Bundle.ownAtoms]))
  obtain ⟨cS, hcS, hst⟩ := hY.statics
  obtain ⟨u0, hu0⟩ := Cond.staticRefV hY.unassigned hL.unassignedStatic hL.statics hcS hst (w (.isRef (.static Bundle.tN "UNASSIGNED_STACK" Bundle.steD)) (by simp [Bundle.ownAtoms]))
  obtain ⟨sn, hsn⟩ := Cond.staticRefV hY.sentinel hL.sentinelStatic hL.statics hcS hst (w (.isRef (.static Bundle.tN "SUPPRESSED_SENTINEL" Bundle.listD)) (by simp [Bundle.ownAtoms]))
  obtain ⟨b1, b2, fB, b3, b4, b5, b6, -, b7, b8, b9⟩ := Cond.ownField (t := .object "java/lang/Object") hY.found hL.cls (by decide +kernel) (w (.fieldLink Bundle.tN 198 Bundle.tN "backtrace" "Ljava/lang/Object;") (by simp [Bundle.ownAtoms])) (w (.lays Bundle.tN Bundle.tN "backtrace" "Ljava/lang/Object;") (by simp [Bundle.ownAtoms])) e.platform pf3
  obtain ⟨cT, hcT, eT, -, hkeep⟩ := X.same.2.2.2.2.2 Tc.aS cS hcS
  have hcT' : T.heap[Tc.aS]? = some cT := hcT
  have hno : ∀ i, (⟨Tc.aS, i⟩ : Loc) ∉ locs := fun i hm => by
    have := hlocs _ hm cS hcS
    rw [hst] at this
    cases this
  have hvT : cT.vm.isStatics = true := by have := congrArg Cell.vm eT; rw [show cT.vm = cS.vm from this]; exact hst
  have hkn : cT.vm ≠ .unknown := fun z => by rw [z] at hvT; cases hvT
  have hne : Tc.aS ≠ a := by
    rintro rfl
    cases Option.some.inj (hcT'.symm.trans hcell)
    cases hvT
  obtain ⟨iM, fM⟩ := hY.msg
  obtain ⟨t1, d1, x1, y1⟩ := Cond.laysAt hf1 hkX hY.cause (w (.lays cls Bundle.tN "cause" "Ljava/lang/Throwable;") (by simp [Bundle.ownAtoms]))
  obtain ⟨t2, d2, x2, y2⟩ := Cond.laysAt hf1 hkX hY.stack (w (.lays cls Bundle.tN "stackTrace" Bundle.steD) (by simp [Bundle.ownAtoms]))
  obtain ⟨t3, d3, x3, y3⟩ := Cond.laysAt hf1 hkX hY.supp (w (.lays cls Bundle.tN "suppressedExceptions" Bundle.listD) (by simp [Bundle.ownAtoms]))
  obtain ⟨t4, d4, x4, y4⟩ := Cond.laysAt hf1 hkX fM (w (.lays cls Bundle.tN "detailMessage" "Ljava/lang/String;") (by simp [Bundle.ownAtoms]))
  obtain ⟨t5, d5, x5, y5⟩ := Cond.laysAt hf1 hkX b9 (w (.lays cls Bundle.tN "backtrace" "Ljava/lang/Object;") (by simp [Bundle.ownAtoms]))
  have z1 := Cond.laysApart x5 x1 y5 y1 (by rw [b7, hY.causeName]; decide)
  have z2 := Cond.laysApart x5 x2 y5 y2 (by rw [b7, hY.stackName]; decide)
  have z3 := Cond.laysApart x5 x3 y5 y3 (by rw [b7, hY.suppName]; decide)
  have hskip : SkipFacts Tc e.platform s (fun u => u) u0 ((preparedCellV Tc.toThrowableT (blank P1.m.cls kX) a u0 sn).withEntry T.cur) :=
    ⟨{ ci198 := b1, i198 := b2, fBack := fB }, ⟨b3, b4, b5, b6⟩, by
      have := fresh_default (c := P1.m.cls) t5
      rw [b8] at this
      have this : (blank P1.m.cls kX).slots[fB.slot]? = some .null := this
      simpa [preparedCellV, Cell.setSlot, Cell.withEntry, Array.getElem?_setIfInBounds, z1, z2, z3, z1.symm, z2.symm, z3.symm, defaultValue] using this, fun _ _ => rfl⟩
  obtain ⟨tm, mC, cC, kC, vm₁, hnC, -, -, -, -, -, -, -, hW₁, st1⟩ := Steps.initColdS (tb := p.tables) (e := e) (below := below) (s := s) (U := T) X.here hexec X.warmed pf3 hown (t := Bundle.initS cls) rfl rfl (Bundle.fit_spec hcls).2
    (w (.methodLink own ic (Bundle.initS cls)) (by simp [Bundle.ownAtoms])) (h (.instanceMethod (Bundle.initS cls)) (by simp [Bundle.ownAtoms, Bundle.chainSAtoms, Bundle.passSAtoms])) (bytes := Bundle.six) (maxL := 2) (h (.code (Bundle.initS cls) Bundle.six 2 none) (by simp [Bundle.ownAtoms, Bundle.chainSAtoms, Bundle.passSAtoms]))
    (f := g) hg (a := a) (msg := msg) (rest := rest) hstack hdg
  cases Option.some.inj (hnC.symm.trans hPm)
  obtain ⟨vm₂, X₂, st2⟩ := (X.noted hW₁).ctorMessageOffV hexec (g := { g with stack := rest }) hg hsize Tc hL Z hZ M hM (P1 :: Ps) (fun P hP => by rcases List.mem_cons.mp hP with rfl | hP; exact hP1; exact hPs P hP) ⟨hk1, hk2⟩ (u0 := u0) (sen := sn) (self := a) hmsg (cell := blank P1.m.cls kX) (cellS := cT)
    hcell (fun _ z => by cases z) (fun z => by cases z) rfl rfl s1 s2 hcT' hne hkn (by rw [hkeep _ (hno _)]; exact hu0) (by rw [hkeep _ (hno _)]; exact hsn)
    (Takes.of_laid hkX hord t1 (by rw [hY.causeType]; rfl)) (Takes.of_laid hkX hord t2 (by rw [hY.stackType]; exact fits_refV_array _ u0)) (Takes.of_laid hkX hord t3 (by rw [hY.suppType]; exact fits_refV_object _ sn))
    (Takes.of_laid hkX hord t4 (by rw [hY.msgType]; exact fits_refV_object _ ⟨msg, hmsg⟩)) hY.objLocals hskip htr [] hdg
    (by simp only [List.length_cons, hlen]; show 2 + 1 + 2 < R.frames; omega) (by simp only [List.length_cons, hlen]; show 2 * g.monitorRoom + _ + (13 * (2 + 1) + 42) ≤ R.locals; omega)
  refine ⟨vm₂, _, _, X₂, ?_, rfl, rfl, rfl, fun target htg => st1 target fun acts => ?_⟩
  · intro x hx
    simp only [List.mem_cons, List.not_mem_nil, or_false] at hx
    rcases hx with rfl | rfl | rfl | rfl | rfl <;> rfl
  · rw [doInvoke_state]
    exact st2 target htg
end ACTOR
