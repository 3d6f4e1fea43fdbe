/-! begin of both, and restart under the invariant -/
section RST
variable {scr : List Value} {S : Nat → List Value} {h : aH} {Q : aOut → aH → Prop} {i c : Nat} {w a b : Int32}
def sBg (S : Nat → List Value) : Nat → List Value := fun q => if q = 35 then mcBeg (S 35) else if q = 37 then List.replicate 8 (.float 0) else if q = 41 then tuBeg (S 41) else if q = 43 then List.replicate 768 (.int 0) else if q = 56 then mBeg ((S 56).set 0 (.int 0)) else if q = 81 then List.replicate 8 (.float 0) else if q = 82 then List.replicate 768 (.int 0) else S q
theorem mBeg_ne {vs : List Value} {k : Nat} (hk : (k == 32 || k == 33 || k == 34 || k == 36 || k == 41 || k == 42 || k == 43 || k == 44 || k == 45) = false) : (mBeg vs)[k]? = vs[k]? := by
  simp only [Bool.or_eq_false_iff, beq_eq_false_iff_ne] at hk
  obtain ⟨⟨⟨⟨⟨⟨⟨⟨k1, k2⟩, k3⟩, k4⟩, k5⟩, k6⟩, k7⟩, k8⟩, k9⟩ := hk
  unfold mBeg
  rw [List.getElem?_set_ne (Ne.symm k9), List.getElem?_set_ne (Ne.symm k8), List.getElem?_set_ne (Ne.symm k7), List.getElem?_set_ne (Ne.symm k6), List.getElem?_set_ne (Ne.symm k5), List.getElem?_set_ne (Ne.symm k4), List.getElem?_set_ne (Ne.symm k3), List.getElem?_set_ne (Ne.symm k2), List.getElem?_set_ne (Ne.symm k1)]
theorem mBeg_len {vs : List Value} : (mBeg vs).length = vs.length := by
  unfold mBeg
  simp only [List.length_set]
theorem sBg_mem (hM : aMem scr S h) : aMem scr (sBg S) (((((((h.set 35 (18, mcBeg (S 35))).set 37 (3, List.replicate 8 (.float 0))).set 41 (20, tuBeg (S 41))).set 43 (0, List.replicate 768 (.int 0))).set 56 (36, mBeg ((S 56).set 0 (.int 0)))).set 81 (3, List.replicate 8 (.float 0))).set 82 (0, List.replicate 768 (.int 0))) := by
  have m1 := hM.set (p := 35) (b := mcBeg (S 35)) (by decide) (by decide) (by unfold mcBeg; simp only [List.length_set]; exact hM.ln 35 (by decide) (by decide))
  have m2 := m1.set (p := 37) (b := List.replicate 8 (.float 0)) (by decide) (by decide) (by decide +kernel)
  have m3 := m2.set (p := 41) (b := tuBeg (S 41)) (by decide) (by decide) (by unfold tuBeg; simp only [List.length_set]; exact hM.ln 41 (by decide) (by decide))
  have m4 := m3.set (p := 43) (b := List.replicate 768 (.int 0)) (by decide) (by decide) (by decide +kernel)
  have m5 := m4.set (p := 56) (b := mBeg ((S 56).set 0 (.int 0))) (by decide) (by decide) (by rw [mBeg_len, List.length_set]; exact hM.ln 56 (by decide) (by decide))
  have m6 := m5.set (p := 81) (b := List.replicate 8 (.float 0)) (by decide) (by decide) (by decide +kernel)
  have m7 := m6.set (p := 82) (b := List.replicate 768 (.int 0)) (by decide) (by decide) (by decide +kernel)
  have e : aUp (aUp (aUp (aUp (aUp (aUp (aUp S 35 (mcBeg (S 35))) 37 (List.replicate 8 (.float 0))) 41 (tuBeg (S 41))) 43 (List.replicate 768 (.int 0))) 56 (mBeg ((S 56).set 0 (.int 0)))) 81 (List.replicate 8 (.float 0))) 82 (List.replicate 768 (.int 0)) = sBg S := by
    funext q
    unfold aUp sBg
    by_cases e1 : q = 35
    · subst e1; rfl
    by_cases e2 : q = 37
    · subst e2; rfl
    by_cases e3 : q = 41
    · subst e3; rfl
    by_cases e4 : q = 43
    · subst e4; rfl
    by_cases e5 : q = 56
    · subst e5; rfl
    by_cases e6 : q = 81
    · subst e6; rfl
    by_cases e7 : q = 82
    · subst e7; rfl
    simp [e1, e2, e3, e4, e5, e6, e7]
  rw [e] at m7
  exact m7
end RST
