/-! java/lang/Math: the class has native rows, these methods have none -/
theorem aNr1 : (NativeRow.find? Jvm.natives "java/lang/Math" "min" "(II)I").isNone = true := by decide +kernel
theorem aNr2 : (NativeRow.find? Jvm.natives "java/lang/Math" "max" "(II)I").isNone = true := by decide +kernel
theorem aNr3 : (NativeRow.find? Jvm.natives "java/lang/Math" "abs" "(I)I").isNone = true := by decide +kernel
theorem aNr4 : (NativeRow.find? Jvm.natives "java/lang/Math" "floorMod" "(II)I").isNone = true := by decide +kernel
def aMth : List MethodName := [⟨"java/lang/Math", "min", "(II)I"⟩, ⟨"java/lang/Math", "max", "(II)I"⟩, ⟨"java/lang/Math", "abs", "(I)I"⟩, ⟨"java/lang/Math", "floorMod", "(II)I"⟩]
def aPlB (y : MethodName) : Bool := plainName y.cls || decide (y ∈ aMth)
theorem aPlB_ok {y : MethodName} (h : aPlB y = true) : plainFor y = true := by
  unfold aPlB at h
  rw [Bool.or_eq_true, decide_eq_true_eq] at h
  rcases h with h | h
  · exact plainFor_of_name h
  · unfold plainFor
    rw [Bool.or_eq_true]
    right
    simp only [aMth, List.mem_cons, List.not_mem_nil, or_false] at h
    rcases h with rfl | rfl | rfl | rfl
    · exact aNr1
    · exact aNr2
    · exact aNr3
    · exact aNr4
