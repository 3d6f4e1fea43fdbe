/-! the heap between calls, as contents by place: kinds, lengths and links never change -/
def aKd (p : Nat) : Nat := (hX.getD (p - 1) (0, [])).1
def aLn (p : Nat) : Nat := (hX.getD (p - 1) (0, [])).2.length
/-- what may stand behind place 86: statements and exceptions -/
def aTl (o : aO) : Bool := (o.1 == 30 && o.2.length == 13) || (o.1 == 28 || o.1 == 32 || o.1 == 34)
def aMem (scr : List Value) (S : Nat → List Value) (h : aH) : Prop :=
  87 ≤ h.length ∧ h[0]? = some (0, scr) ∧ (∀ p, 1 ≤ p → p < 20 → h[p]? = aH0t[p - 1]?) ∧ (∀ p, 20 ≤ p → p < 87 → h[p]? = some (aKd p, S p) ∧ (S p).length = aLn p) ∧ ∀ (p : Nat) (o : aO), 87 ≤ p → h[p]? = some o → aTl o = true
def aUp (S : Nat → List Value) (p : Nat) (b : List Value) : Nat → List Value := fun q => if q = p then b else S q
theorem aUp_same {S : Nat → List Value} {p : Nat} {b : List Value} : aUp S p b p = b := if_pos rfl
theorem aUp_ne {S : Nat → List Value} {p q : Nat} {b : List Value} (h : q ≠ p) : aUp S p b q = S q := if_neg h
section MEM
variable {scr : List Value} {S : Nat → List Value} {h : aH}
theorem aMem.at (hM : aMem scr S h) (p : Nat) (h1 : 20 ≤ p) (h2 : p < 87) : h[p]? = some (aKd p, S p) := (hM.2.2.2.1 p h1 h2).1
theorem aMem.ln (hM : aMem scr S h) (p : Nat) (h1 : 20 ≤ p) (h2 : p < 87) : (S p).length = aLn p := (hM.2.2.2.1 p h1 h2).2
theorem aMem.set (hM : aMem scr S h) {p : Nat} {b : List Value} (h1 : 20 ≤ p) (h2 : p < 87) (hb : b.length = aLn p) : aMem scr (aUp S p b) (h.set p (aKd p, b)) := by
  obtain ⟨m1, m2, m3, m4, m5⟩ := hM
  refine ⟨by rw [List.length_set]; exact m1, (gN (by omega)).trans m2, fun q q1 q2 => (gN (by omega)).trans (m3 q q1 q2), fun q q1 q2 => ?_, fun q o q1 hq => m5 q o q1 ((gN (by omega)).symm.trans hq)⟩
  by_cases e : q = p
  · subst e
    rw [aUp_same]
    exact ⟨gS (by omega), hb⟩
  · rw [aUp_ne e]
    exact ⟨(gN (fun z => e z.symm)).trans (m4 q q1 q2).1, (m4 q q1 q2).2⟩
theorem aMem.push (hM : aMem scr S h) {o : aO} (ho : aTl o = true) : aMem scr S (h ++ [o]) := by
  obtain ⟨m1, m2, m3, m4, m5⟩ := hM
  have e : ∀ q, q < 87 → (h ++ [o])[q]? = h[q]? := fun q hq => List.getElem?_append_left (by omega)
  refine ⟨by rw [List.length_append]; omega, (e 0 (by decide)).trans m2, fun q q1 q2 => (e q (by omega)).trans (m3 q q1 q2), fun q q1 q2 => ⟨(e q q2).trans (m4 q q1 q2).1, (m4 q q1 q2).2⟩, fun q x q1 hq => ?_⟩
  by_cases hl : q < h.length
  · rw [List.getElem?_append_left hl] at hq
    exact m5 q x q1 hq
  · rw [List.getElem?_append_right (by omega)] at hq
    have hz : q - h.length < 1 := (List.getElem?_eq_some_iff.mp hq).1
    rw [show q - h.length = 0 by omega] at hq
    cases hq
    exact ho
/-- the links that never change: place, index, value -/
def aCon : List (Nat × Nat × Value) := [(20, 0, .ref 21), (20, 2, .ref 22), (20, 3, .ref 34), (20, 4, .ref 35), (20, 5, .ref 45), (22, 0, .ref 23), (22, 1, .ref 30), (22, 2, .ref 32), (23, 0, .ref 24), (23, 1, .ref 25), (23, 2, .ref 26), (23, 3, .ref 27), (23, 4, .ref 28), (23, 5, .ref 29), (30, 0, .ref 31), (32, 0, .ref 33),
  (35, 0, .ref 36), (35, 2, .ref 37), (35, 4, .ref 38), (35, 5, .ref 39), (35, 6, .ref 40), (35, 7, .ref 41), (41, 0, .ref 42), (42, 0, .ref 43), (42, 1, .ref 44), (46, 2, .ref 47), (46, 3, .ref 48), (46, 4, .ref 49), (46, 6, .ref 50), (51, 2, .ref 52), (51, 3, .ref 53), (51, 4, .ref 54), (51, 6, .ref 55),
  (56, 1, .ref 57), (56, 5, .ref 58), (56, 6, .ref 59), (56, 7, .ref 60), (56, 8, .ref 61), (56, 10, .ref 62), (56, 13, .ref 63), (56, 15, .ref 64), (56, 16, .ref 65), (56, 18, .ref 66), (56, 19, .ref 67), (56, 20, .ref 68), (56, 22, .ref 69), (56, 23, .ref 70), (56, 24, .ref 71), (56, 26, .ref 72), (56, 27, .ref 73), (56, 28, .ref 74), (56, 29, .ref 75), (56, 31, .ref 76),
  (56, 35, .ref 77), (56, 37, .ref 78), (56, 38, .ref 79), (56, 39, .ref 80), (56, 40, .ref 81), (56, 46, .ref 82), (56, 47, .ref 83), (56, 48, .ref 84)]
def aLks (S : Nat → List Value) : Prop := ∀ q ∈ aCon, (S q.1)[q.2.1]? = some q.2.2
/-- a field's new value where no link stands -/
theorem aLks.up (hL : aLks S) {p k : Nat} {v : Value} (hk : (aCon.all (fun q => !(q.1 == p && q.2.1 == k))) = true) : aLks (aUp S p ((S p).set k v)) := by
  intro q hq
  by_cases e : q.1 = p
  · have := List.all_eq_true.mp hk q hq
    simp only [Bool.not_eq_true', Bool.and_eq_false_iff, beq_eq_false_iff_ne] at this
    have hk' : q.2.1 ≠ k := this.elim (fun z => absurd e z) id
    rw [e, aUp_same, List.getElem?_set_ne (fun z => hk' z.symm), ← e]
    exact hL q hq
  · rw [aUp_ne e]
    exact hL q hq
/-- a row's new contents, where no link stands in it -/
theorem aLks.row (hL : aLks S) {p : Nat} {b : List Value} (hk : (aCon.all (fun q => !(q.1 == p))) = true) : aLks (aUp S p b) := by
  intro q hq
  have := List.all_eq_true.mp hk q hq
  simp only [Bool.not_eq_true', beq_eq_false_iff_ne] at this
  rw [aUp_ne this]
  exact hL q hq
def aS0 (p : Nat) : List Value := (hX.getD (p - 1) (0, [])).2
theorem aS0_lks : aLks aS0 := by
  have : aCon.all (fun q => decide ((aS0 q.1)[q.2.1]? = some q.2.2)) = true := by decide +kernel
  exact fun q hq => of_decide_eq_true (List.all_eq_true.mp this q hq)
theorem aMem_0 : aMem scr aS0 (hA scr) := by
  have hl : hX.length = 86 := hX_sz.2.1
  refine ⟨by rw [hA_len]; decide, rfl, fun p p1 p2 => ?_, fun p p1 p2 => ?_, fun p o p1 hp => ?_⟩
  · obtain ⟨q, rfl⟩ : ∃ q, p = q + 1 := ⟨p - 1, by omega⟩
    show hX[q]? = aH0t[q]?
    rw [hX, List.getElem?_append_left (by show q < 19; omega)]
  · obtain ⟨q, rfl⟩ : ∃ q, p = q + 1 := ⟨p - 1, by omega⟩
    refine ⟨?_, rfl⟩
    show hX[q]? = some (aKd (q + 1), aS0 (q + 1))
    have hq : q < hX.length := by omega
    rw [List.getElem?_eq_getElem hq, aKd, aS0, Nat.add_sub_cancel, List.getD_eq_getElem?_getD, List.getElem?_eq_getElem hq]
    rfl
  · have := (List.getElem?_eq_some_iff.mp hp).1
    rw [hA_len] at this
    omega
/-- the slots of the heap between calls -/
theorem aTl_sz {o : aO} (h : aTl o = true) : aSz aCls o ≤ 13 := by
  obtain ⟨k, l⟩ := o
  simp only [aTl, Bool.or_eq_true, Bool.and_eq_true, beq_iff_eq] at h
  rcases h with ⟨rfl, -⟩ | (rfl | rfl) | rfl
  all_goals
    unfold aSz
    dsimp only
    rw [if_neg (by decide)]
    decide
end MEM
