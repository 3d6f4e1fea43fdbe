/-! an exception caught by a handler whose class may not be resolved yet -/
theorem a_go_cold {E : CtlPost} {e : Env} {d : Bool} {acts : List Action} {s : State} {f : JFrame} {a : Addr} {Q : Handler → Pre} {x : ExceptionTableEntry} {t : List ExceptionTableEntry} {c : ClassId} {cell : Cell} {vm' : Vm} (hx : covers x f.pc = true) (h0 : x.catchType ≠ 0)
    (hg : (Jvm.resolveClass f.method.cls x.catchType).Gives e.toSetting s.vm (.ok c) vm') (hsz : vm'.classes.size ≤ s.vm.classes.size) (hcell : s.heap[a]? = some cell) (hobj : ∀ k, cell.vm ≠ .statics k)
    (hk : ∃ k, vm'.classes[cell.cls]? = some k) (hc : ∃ k, vm'.classes[c]? = some k) :
    wp (findHandler.go f a (x :: t)) Q E e d acts s ↔ if vm'.assignable cell.cls c = true then Q (.found x.handlerPc) d acts (s.setVm vm') else wp (findHandler.go f a t) Q E e d acts (s.setVm vm') := by
  simp only [covers] at hx
  obtain ⟨ha, ht⟩ := hg.op (op := VmOp.resolveClass f.method.cls x.catchType) rfl
  cases hfit : vm'.assignable cell.cls c <;>
    simp [findHandler.go, hx, h0, ha, ht, hsz, hcell, hobj, hk, hc, hfit, VmOp.dirties, VmOp.acts]
theorem a_go {e : Env} {s : State} {f : JFrame} {a : Addr} {cell : Cell} {D : va_G} {k tt : Nat} (hcls : cell.cls = D.1 k) (hst : cell.vm.isStatics = false) (hkc : ∃ kc, s.vm.classes[cell.cls]? = some kc) :
    ∀ (xs : List ExceptionTableEntry) (hs : List ((Nat × Nat × Nat × Nat) × Nat)) (U : State), xs.map (fun h => (h.startPc, h.endPc, h.handlerPc, h.catchType)) = hs.map (fun q => (q.1.1, q.1.2.1, q.1.2.2.1, q.2)) →
      (∀ q ∈ hs, q.2 ≠ 0 ∧ s.vm.ClassLinks e.platform f.method.cls q.2 (D.1 q.1.2.2.2) ∧ (q.1.2.2.2 ≠ k → s.vm.assignable (D.1 k) (D.1 q.1.2.2.2) = false)) → s.WarmedH U.vm → U.heap[a]? = some cell → aHand (hs.map (·.1)) f.pc (2 * k + 8) = some tt →
      ∃ vm', s.WarmedH vm' ∧ ∀ (Q : Handler → Pre) (E : CtlPost) (d : Bool) (acts : List Action), wp (findHandler.go f a xs) Q E e d acts U ↔ Q (.found tt) d acts (U.setVm vm')
  | [], [], _, _, _, _, _, h => by simp [aHand] at h
  | [], _ :: _, _, h, _, _, _, _ => by simp at h
  | _ :: _, [], _, h, _, _, _, _ => by simp at h
  | x :: xs, q :: hs, U, hm, hq, hW, hcell, hh => by
    obtain ⟨⟨p1, p2, p3, p4⟩, ct⟩ := q
    simp only [List.map_cons, List.cons.injEq, Prod.mk.injEq] at hm
    obtain ⟨⟨m1, m2, m3, m4⟩, hm⟩ := hm
    have hq' : ∀ q ∈ hs, q.2 ≠ 0 ∧ s.vm.ClassLinks e.platform f.method.cls q.2 (D.1 q.1.2.2.2) ∧ (q.1.2.2.2 ≠ k → s.vm.assignable (D.1 k) (D.1 q.1.2.2.2) = false) := fun q h => hq q (List.mem_cons_of_mem _ h)
    obtain ⟨w1, w2, w3⟩ := hq _ List.mem_cons_self
    simp only at w1 w2 w3
    simp only [List.map_cons, aHand] at hh
    by_cases hcov : covers x f.pc = true
    · have hcov' : p1 ≤ f.pc ∧ f.pc < p2 := by
        simp only [covers, Bool.and_eq_true, decide_eq_true_eq] at hcov
        omega
      obtain ⟨dk, _, _, kt, hd, _, _, _, _, hkt, _, hopen⟩ := w2.here
      have hcl0 := hW.classLinks w2
      have hW' : s.WarmedH (U.vm.noted f.method.cls ct (.cls (D.1 p4))) := hW.noted hd hopen (State.rightAt_cls w2)
      obtain ⟨kc, hkc⟩ := hkc
      obtain ⟨kc', hkc', -⟩ := hW'.alike.2.2 _ _ hkc
      obtain ⟨kt', hkt', -⟩ := hW'.alike.2.2 _ _ hkt
      have hsz : (U.vm.noted f.method.cls ct (.cls (D.1 p4))).classes.size ≤ U.vm.classes.size := by
        have h1 : s.vm.classes.size = U.vm.classes.size := hW.alike.2.1.symm
        have h2 : s.vm.classes.size = (U.vm.noted f.method.cls ct (.cls (D.1 p4))).classes.size := hW'.alike.2.1.symm
        omega
      have key := fun (Q : Handler → Pre) (E : CtlPost) (d : Bool) (acts : List Action) => a_go_cold (Q := Q) (E := E) (d := d) (acts := acts) (e := e) (s := U) (f := f) (a := a) (x := x) (t := xs) (c := D.1 p4) (cell := cell) (vm' := U.vm.noted f.method.cls ct (.cls (D.1 p4))) hcov (by rw [m4]; exact w1) (by rw [m4]; exact resolveClass_links e.toSetting hcl0) hsz hcell (VmData.noStatics_of hst) ⟨kc', hkc'⟩ ⟨kt', hkt'⟩
      by_cases hk : p4 = k
      · subst hk
        rw [if_pos ⟨hcov'.1, hcov'.2, rfl⟩] at hh
        cases hh
        refine ⟨_, hW', fun Q E d acts => ?_⟩
        rw [key, hcls, if_pos (va_asg _ _), m3]
      · rw [if_neg (fun z => hk (by omega))] at hh
        obtain ⟨vm2, g1, g2⟩ := a_go hcls hst ⟨kc, hkc⟩ xs hs (U.setVm (U.vm.noted f.method.cls ct (.cls (D.1 p4)))) hm hq' hW' hcell hh
        refine ⟨vm2, g1, fun Q E d acts => ?_⟩
        have hna : (U.vm.noted f.method.cls ct (.cls (D.1 p4))).assignable cell.cls (D.1 p4) = false := by
          rw [hW'.alike.assignable, hcls]
          exact w3 hk
        rw [key, if_neg (by rw [hna]; decide)]
        exact g2 Q E d acts
    · have hcov0 : covers x f.pc = false := by simpa using hcov
      rw [if_neg (fun z => by
        apply hcov
        simp only [covers, Bool.and_eq_true, decide_eq_true_eq]
        omega)] at hh
      obtain ⟨vm2, g1, g2⟩ := a_go hcls hst hkc xs hs U hm hq' hW hcell hh
      refine ⟨vm2, g1, fun Q E d acts => ?_⟩
      rw [W.findHandler_go_skip hcov0]
      exact g2 Q E d acts
theorem aThr_of {s0 : State} {D : va_G} {cl : aCl} {M : aMt} (hs : List ((Nat × Nat × Nat × Nat) × Nat)) (hhd : M.hd = hs.map (·.1)) (hK : ∀ U : State, s0.WarmedH U.vm → aK D cl U)
    (hcw : ∀ U : State, s0.WarmedH U.vm → (Cond.codeWith M.nm M.by M.nl M.rt (hs.map (fun q => (q.1.1, q.1.2.1, q.1.2.2.1, q.2)))).before #[] U = true)
    (hlk : ∀ q ∈ hs, q.2 ≠ 0 ∧ ∃ r, cl[q.1.2.2.2]? = some r ∧ aOwn r ∧ ∀ U : State, s0.WarmedH U.vm → (Cond.classLink M.nm.cls q.2 r.1.1).before #[] U = true)
    (hnc : ∀ q ∈ hs, ∀ q' ∈ hs, q.1.2.2.2 ≠ q'.1.2.2.2 → s0.vm.assignable (D.1 q.1.2.2.2) (D.1 q'.1.2.2.2) = false) : aThr s0 D M := by
  intro p l e R s m args below meth c locs cells slots T X hx hW hnm g hg a k tt cell hcell hcls hst hh
  subst hg
  have hpl : e.platform.magicAccessors = ({} : Platform).magicAccessors := by rw [X.admits.platform]
  obtain ⟨m', meth', c', hn', hm', hc', -, -, hrows, -, -, -⟩ := Cond.codeWith_spec (hcw s hW)
  cases hnm.symm.trans hn'
  have hown : s.vm.findClass M.nm.cls = some g.method.cls := findClass_of_methodNamed hnm
  rw [hhd] at hh
  obtain ⟨q0, hq0, hk0⟩ : ∃ q ∈ hs, q.1.2.2.2 = k := by
    clear hrows hlk hnc hcw hhd
    induction hs with
    | nil => simp [aHand] at hh
    | cons q l ih =>
      obtain ⟨⟨p1, p2, p3, p4⟩, ct⟩ := q
      simp only [List.map_cons, aHand] at hh
      split at hh
      · rename_i hc2
        exact ⟨_, List.mem_cons_self, by have := hc2.2.2; simp only; omega⟩
      · obtain ⟨q, h1, h2⟩ := ih hh
        exact ⟨q, List.mem_cons_of_mem _ h1, h2⟩
  have hTn : ((T.setTop g).pushFrame (.throwing a)).vm = T.vm := Stand.throwing_vm T g a
  have hTh : ((T.setTop g).pushFrame (.throwing a)).heap = T.heap := Stand.throwing_heap T g a
  have hfacts : ∀ q ∈ hs, q.2 ≠ 0 ∧ s.vm.ClassLinks e.platform g.method.cls q.2 (D.1 q.1.2.2.2) ∧ (q.1.2.2.2 ≠ k → s.vm.assignable (D.1 k) (D.1 q.1.2.2.2) = false) := by
    intro q hq
    obtain ⟨h1, r, hr, -, h2⟩ := hlk q hq
    refine ⟨h1, ?_, fun hne => ?_⟩
    · obtain ⟨cc, e1, e2⟩ := Cond.classLink_spec hown (h2 s hW) e.platform hpl
      cases ((hK s hW) _ _ hr).2.1.symm.trans e1
      exact e2
    · have := hnc q0 hq0 q hq (by rw [hk0]; exact Ne.symm hne)
      rw [hk0] at this
      rw [hW.alike.assignable]
      exact this
  have hkc : ∃ kc, s.vm.classes[cell.cls]? = some kc := by
    obtain ⟨-, r, hr, ho, -⟩ := hlk q0 hq0
    obtain ⟨kc, h1, -⟩ := ((hK s hW) _ _ hr).2.2 ho
    rw [hcls, ← hk0]
    exact ⟨kc, h1⟩
  obtain ⟨vm', w1, w2⟩ := a_go (e := e) (f := g) (a := a) hcls hst hkc c'.exceptionTable.toList hs ((T.setTop g).pushFrame (.throwing a)) hrows hfacts (by rw [hTn]; exact X.warmed) (by rw [hTh]; exact hcell) hh
  refine ⟨vm', X.noted w1, fun target htg => ?_⟩
  have hA : At T g.method c below := X.here
  obtain ⟨hgo, hwi⟩ := hA.throwing a
  refine Steps.head hgo hwi ?_
  have hmT : ((T.setTop g).pushFrame (.throwing a)).vm.method? g.method = some meth' := by
    rw [hTn, X.warmed.alike.method?]
    exact hm'
  have hfr : ((T.setTop g).pushFrame (.throwing a)).frames = .throwing a :: .java g :: T.frames.tail := frames_entered hA.top _
  have hstep : (stepThrowing e ((T.setTop g).pushFrame (.throwing a)) a (.java g :: T.frames.tail)).Is ((((T.setTop g).pushFrame (.throwing a)).setVm vm').setFrames (.java { g with pc := tt, stack := [.ref a] } :: T.frames.tail)) [] := by
    simp only [stepThrowing, searchFrame, vmDo]
    generalize hr : Sem.go _ e false [] _ = res
    obtain ⟨as, rfl, ha⟩ := Sem.eq_ok_of hr (a := Handler.found tt) (s' := ((T.setTop g).pushFrame (.throwing a)).setVm vm') (acts' := []) (by
      simp only [wp_bind']
      rw [W.findHandler_eq hmT hc', w2]
      simp)
    exact ⟨rfl, ha⟩
  rw [stepThread_throwing hfr, hstep.1]
  obtain ⟨g₀, hg0⟩ := Option.isSome_iff_exists.mp hA.top
  obtain ⟨r, hr⟩ := State.topJava?_eq_some.mp hg0
  have hr' : (T.setVm vm').frames = .java g₀ :: r := hr
  rw [State.setTop_of_frames _ hr'] at htg
  rw [State.pushFrame, State.setTop_of_frames _ hr, State.setFrames_setFrames, hr]
  show Steps p.tables e below (((T.setVm vm').setFrames _).setFrames _) target
  rw [State.setFrames_setFrames]
  exact htg
