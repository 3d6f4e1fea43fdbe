section RST
variable {scr : List Value} {S : Nat → List Value} {h : aH} {Q : aOut → aH → Prop} {i c : Nat} {w a b : Int32}
theorem sBg_all (h35 : (S 35).length = 10) (h41 : (S 41).length = 6) (h56 : (S 56).length = 49) (hA : iAll (aEn S)) : iAll (aEn (sBg S)) := by
  have m : ∀ k, (k == 32 || k == 33 || k == 34 || k == 36 || k == 41 || k == 42 || k == 43 || k == 44 || k == 45) = false → 0 ≠ k → aEn (sBg S) 56 k = aEn S 56 k := by
    intro k hk h0
    show (mBeg ((S 56).set 0 (.int 0)))[k]? = (S 56)[k]?
    rw [mBeg_ne hk, List.getElem?_set_ne h0]
  obtain ⟨⟨tl, t1, t2, t3, t4⟩, ⟨x, x1, x2⟩, ⟨pa, pb, n, p0, p1, p2, p3, p4, p5, p6⟩, -, -, -, -⟩ := hA
  refine ⟨⟨tl, t1, t2, (m 2 rfl (by decide)).trans t3, t4⟩, ⟨x, x1, (m 3 rfl (by decide)).trans x2⟩, ⟨pa, pb, n, p0, p1, p2, p3, ?_, (m 30 rfl (by decide)).trans p5, ?_⟩, fun j hj => ⟨0, ?_, ?_⟩,
    ⟨1098907648, 1094713344, 0, okF_0.2.1, okF_0.2.2, ?_, ?_, ?_, ?_, ?_, ?_⟩, fun j hj => ⟨0, okF_0.1, ?_, ?_⟩, ⟨0, ?_, ?_, fun _ => ⟨0, 0, 0, 1, 1, ?_, ?_, ?_, ?_, by decide, ?_, ?_, by decide, ?_, ?_, ?_, ?_, fun j hj => absurd hj (by omega), fun j hj => absurd hj (by omega), fun j hj => absurd hj (by omega)⟩⟩⟩
  · rcases p0 with ⟨rfl, -⟩ | ⟨rfl, -⟩ <;> exact p4
  · rcases p0 with ⟨rfl, -⟩ | ⟨rfl, -⟩ <;> exact p6
  · show (List.replicate 768 (Value.int 0))[j]? = _
    rw [List.getElem?_replicate, if_pos hj]
  · show (List.replicate 768 (Value.int 0))[j]? = _
    rw [List.getElem?_replicate, if_pos hj]
  · show (tuBeg (S 41))[1]? = _
    simp [tuBeg, List.getElem?_set, h41]
  · show (mBeg ((S 56).set 0 (.int 0)))[41]? = _
    simp [mBeg, List.getElem?_set, h56]
  · show (tuBeg (S 41))[2]? = _
    simp [tuBeg, List.getElem?_set, h41]
  · show (mBeg ((S 56).set 0 (.int 0)))[42]? = _
    simp [mBeg, List.getElem?_set, h56]
  · show (tuBeg (S 41))[3]? = _
    simp [tuBeg, List.getElem?_set, h41]
  · show (mBeg ((S 56).set 0 (.int 0)))[43]? = _
    simp [mBeg, List.getElem?_set, h56]
  · show (List.replicate 8 (Value.float 0))[j]? = _
    rw [List.getElem?_replicate, if_pos hj]
  · show (List.replicate 8 (Value.float 0))[j]? = _
    rw [List.getElem?_replicate, if_pos hj]
  · show (mcBeg (S 35))[9]? = _
    simp [mcBeg, List.getElem?_set, h35]
  · show (mBeg ((S 56).set 0 (.int 0)))[33]? = _
    simp [mBeg, List.getElem?_set, h56]
  · show (mcBeg (S 35))[8]? = _
    simp [mcBeg, List.getElem?_set, h35]
  · show (mBeg ((S 56).set 0 (.int 0)))[32]? = _
    simp [mBeg, List.getElem?_set, h56]
  · show (mcBeg (S 35))[1]? = _
    simp [mcBeg, List.getElem?_set, h35]
  · show (mBeg ((S 56).set 0 (.int 0)))[34]? = _
    simp [mBeg, List.getElem?_set, h56]
  · show (mcBeg (S 35))[3]? = _
    simp [mcBeg, List.getElem?_set, h35]
  · show (mBeg ((S 56).set 0 (.int 0)))[36]? = _
    simp [mBeg, List.getElem?_set, h56]
  · show (tuBeg (S 41))[4]? = _
    simp [tuBeg, List.getElem?_set, h41]
  · show (mBeg ((S 56).set 0 (.int 0)))[44]? = _
    simp [mBeg, List.getElem?_set, h56]
  · show (tuBeg (S 41))[5]? = _
    simp [tuBeg, List.getElem?_set, h41]
  · show (mBeg ((S 56).set 0 (.int 0)))[45]? = _
    simp [mBeg, List.getElem?_set, h56]
theorem sBg_lks (hL : aLks S) : aLks (sBg S) := by
  intro q hq
  have hc := List.all_eq_true.mp (show aCon.all (fun q => !(q.1 == 37) && !(q.1 == 43) && !(q.1 == 81) && !(q.1 == 82) && !(q.1 == 35 && (q.2.1 == 1 || q.2.1 == 3 || q.2.1 == 8 || q.2.1 == 9)) && !(q.1 == 41 && (q.2.1 == 1 || q.2.1 == 2 || q.2.1 == 3 || q.2.1 == 4 || q.2.1 == 5)) && !(q.1 == 56 && (q.2.1 == 0 || (q.2.1 == 32 || q.2.1 == 33 || q.2.1 == 34 || q.2.1 == 36 || q.2.1 == 41 || q.2.1 == 42 || q.2.1 == 43 || q.2.1 == 44 || q.2.1 == 45)))) = true by decide +kernel) q hq
  simp only [Bool.and_eq_true, Bool.not_eq_true', Bool.and_eq_false_iff, beq_eq_false_iff_ne] at hc
  obtain ⟨⟨⟨⟨⟨⟨c1, c2⟩, c3⟩, c4⟩, c5⟩, c6⟩, c7⟩ := hc
  unfold sBg
  by_cases e1 : q.1 = 35
  · have z := c5.elim (fun y => absurd e1 y) id
    simp only [Bool.or_eq_false_iff, beq_eq_false_iff_ne] at z
    obtain ⟨⟨⟨z1, z2⟩, z3⟩, z4⟩ := z
    rw [if_pos e1]
    unfold mcBeg
    rw [List.getElem?_set_ne (Ne.symm z4), List.getElem?_set_ne (Ne.symm z3), List.getElem?_set_ne (Ne.symm z2), List.getElem?_set_ne (Ne.symm z1), ← e1]
    exact hL q hq
  rw [if_neg e1, if_neg c1]
  by_cases e2 : q.1 = 41
  · have z := c6.elim (fun y => absurd e2 y) id
    simp only [Bool.or_eq_false_iff, beq_eq_false_iff_ne] at z
    obtain ⟨⟨⟨⟨z1, z2⟩, z3⟩, z4⟩, z5⟩ := z
    rw [if_pos e2]
    unfold tuBeg
    rw [List.getElem?_set_ne (Ne.symm z5), List.getElem?_set_ne (Ne.symm z4), List.getElem?_set_ne (Ne.symm z3), List.getElem?_set_ne (Ne.symm z2), List.getElem?_set_ne (Ne.symm z1), ← e2]
    exact hL q hq
  rw [if_neg e2, if_neg c2]
  by_cases e3 : q.1 = 56
  · have z := c7.elim (fun y => absurd e3 y) id
    rw [Bool.or_eq_false_iff] at z
    rw [if_pos e3, mBeg_ne z.2, List.getElem?_set_ne (by have := z.1; simp only [beq_eq_false_iff_ne] at this; exact Ne.symm this), ← e3]
    exact hL q hq
  rw [if_neg e3, if_neg c3, if_neg c4]
  exact hL q hq
end RST
