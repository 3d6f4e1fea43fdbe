/-! the words on statics hold wherever the old part of the heap is as it was -/
theorem aLays_moved {s0 U : State} (hW : s0.WarmedH U.vm) (hh : ∀ q : Nat, q < s0.heap.size → U.heap[q]? = s0.heap[q]?) {C n d : String} {A0 A : Array Value} (h : (Cond.laysStatic C n d).before A0 s0 = true) : (Cond.laysStatic C n d).before A U = true := by
  obtain ⟨c, k, i, f, a, cell, h1, h2, h3, h4, h5, h6, h7, h8, h9⟩ := Cond.laysStatic_spec h
  obtain ⟨k', hi', he⟩ := State.fieldFound?_setVm hW.alike h2
  exact Cond.laysStatic_of (by rw [hW.alike.findClass]; exact h1) hi' h3 (by rw [he]; exact h4) (by rw [hh a (Array.getElem?_eq_some_iff.mp h5).1]; exact h5) h6 h7 h8 (by rw [he]; exact h9)
theorem aIsRef_moved {s0 U : State} (hW : s0.WarmedH U.vm) (hh : ∀ q : Nat, q < s0.heap.size → U.heap[q]? = s0.heap[q]?) {C n d : String} {A0 A : Array Value} (hl : (Cond.laysStatic C n d).before A0 s0 = true) (h : (Cond.isRef (.static C n d)).before A0 s0 = true) : (Cond.isRef (.static C n d)).before A U = true := by
  obtain ⟨c, k, i, f, a, cell, h1, h2, h3, h4, h5, h6, h7, h8, h9⟩ := Cond.laysStatic_spec hl
  obtain ⟨k', hi', he⟩ := State.fieldFound?_setVm hW.alike h2
  have e1 : (Term.static C n d).eval A0 s0 none [] s0 = cell.slots[f.slot]? := by
    simp [Term.eval, State.fieldNamed?, h2, h3, h4, h5, h6]
  have h5' : U.heap[a]? = some cell := by rw [hh a (Array.getElem?_eq_some_iff.mp h5).1]; exact h5
  have h4' : k'.statics = some a := by rw [he]; exact h4
  have hi'' : U.fieldFound? C n d = some (c, k', i, f) := hi'
  have e2 : (Term.static C n d).eval A U none [] U = cell.slots[f.slot]? := by
    simp [Term.eval, State.fieldNamed?, hi'', h3, h4', h5', h6]
  simp only [Cond.before, Cond.holds, Cond.value] at h ⊢
  rw [e1] at h
  rw [e2]
  exact h
theorem aHS_of {s0 : State} {A0 : Array Value} (h1 : (Cond.laysStatic "java/lang/Throwable" "UNASSIGNED_STACK" "[Ljava/lang/StackTraceElement;").before A0 s0 = true) (h2 : (Cond.laysStatic "java/lang/Throwable" "SUPPRESSED_SENTINEL" "Ljava/util/List;").before A0 s0 = true)
    (h3 : (Cond.isRef (.static "java/lang/Throwable" "UNASSIGNED_STACK" "[Ljava/lang/StackTraceElement;")).before A0 s0 = true) (h4 : (Cond.isRef (.static "java/lang/Throwable" "SUPPRESSED_SENTINEL" "Ljava/util/List;")).before A0 s0 = true) {ad : Nat → Nat} {K : Nat} (hsz : s0.heap.size = ad K) :
    ∀ U : State, s0.WarmedH U.vm → (∀ q : Nat, q < ad K → U.heap[q]? = s0.heap[q]?) → ∀ (args : Array Value) (own cls : String) (ic : Nat), ∀ w ∈ Bundle.ownAtoms own ic cls ["java/lang/RuntimeException", "java/lang/Exception"], aRefW w = true → w.before args U = true := by
  intro U hW hh args own cls ic w hw hr
  rw [← hsz] at hh
  simp only [Bundle.ownAtoms, Bundle.throwableAtoms, Bundle.throwableSAtoms, Bundle.chainSAtoms, Bundle.passSAtoms, List.mem_append, List.mem_cons, List.not_mem_nil, or_false, or_assoc] at hw
  rcases hw with rfl | rfl | rfl | rfl | rfl | rfl | rfl | rfl | rfl | rfl | rfl | rfl | rfl | rfl | rfl | rfl | rfl | rfl | rfl | rfl | rfl | rfl | rfl | rfl | rfl | rfl | rfl | rfl | rfl | rfl | rfl | rfl | rfl | rfl | rfl | rfl | rfl | rfl | rfl | rfl | rfl | rfl | rfl | rfl | rfl | rfl | rfl | rfl | rfl | rfl | rfl | rfl | rfl | rfl | rfl | rfl | rfl
  all_goals first | (cases hr; done) | exact aLays_moved hW hh h1 | exact aLays_moved hW hh h2 | exact aIsRef_moved hW hh h1 h3 | exact aIsRef_moved hW hh h2 h4
