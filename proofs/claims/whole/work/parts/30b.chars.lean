section CHR
variable {d : Nat} {h : aH}
theorem c_isL {z : Nat} (hz : z < 2 ^ 31) : aE aM41 d 0 [(0, .int (Int32.ofNat z))] [] h (aIs (some (.int (if isL z = true then 1 else 0))) h) := by
  refine eS rfl rfl ?_
  refine eS rfl rfl ?_
  refine eILt rfl rfl (fun z3 => ?_) (fun z3 => ?_)
  · have y := (i32_lt (a := z) (b := 97) (by omega) (by omega)).mp z3
    rw [if_neg (show ¬ isL z = true by unfold isL; simp only [Bool.and_eq_true, decide_eq_true_eq]; omega)]
    refine eS rfl rfl ?_
    exact eR rfl rfl ⟨rfl, rfl⟩
  · have y : ¬ z < 97 := fun w => z3 ((i32_lt (a := z) (b := 97) (by omega) (by omega)).mpr w)
    refine eS rfl rfl ?_
    refine eS rfl rfl ?_
    refine eIGt rfl rfl (fun z9 => ?_) (fun z9 => ?_)
    · have y2 := (i32_lt (a := 122) (b := z) (by omega) (by omega)).mp z9
      rw [if_neg (show ¬ isL z = true by unfold isL; simp only [Bool.and_eq_true, decide_eq_true_eq]; omega)]
      refine eS rfl rfl ?_
      exact eR rfl rfl ⟨rfl, rfl⟩
    · have y2 : ¬ 122 < z := fun w => z9 ((i32_lt (a := 122) (b := z) (by omega) (by omega)).mpr w)
      rw [if_pos (show isL z = true by unfold isL; simp only [Bool.and_eq_true, decide_eq_true_eq]; omega)]
      refine eS rfl rfl ?_
      refine eS rfl rfl ?_
      exact eR rfl rfl ⟨rfl, rfl⟩
theorem c_isD {z : Nat} (hz : z < 2 ^ 31) : aE aM46 d 0 [(0, .int (Int32.ofNat z))] [] h (aIs (some (.int (if isD z = true then 1 else 0))) h) := by
  refine eS rfl rfl ?_
  refine eS rfl rfl ?_
  refine eILt rfl rfl (fun z3 => ?_) (fun z3 => ?_)
  · have y := (i32_lt (a := z) (b := 48) (by omega) (by omega)).mp z3
    rw [if_neg (show ¬ isD z = true by unfold isD; simp only [Bool.and_eq_true, decide_eq_true_eq]; omega)]
    refine eS rfl rfl ?_
    exact eR rfl rfl ⟨rfl, rfl⟩
  · have y : ¬ z < 48 := fun w => z3 ((i32_lt (a := z) (b := 48) (by omega) (by omega)).mpr w)
    refine eS rfl rfl ?_
    refine eS rfl rfl ?_
    refine eIGt rfl rfl (fun z9 => ?_) (fun z9 => ?_)
    · have y2 := (i32_lt (a := 57) (b := z) (by omega) (by omega)).mp z9
      rw [if_neg (show ¬ isD z = true by unfold isD; simp only [Bool.and_eq_true, decide_eq_true_eq]; omega)]
      refine eS rfl rfl ?_
      exact eR rfl rfl ⟨rfl, rfl⟩
    · have y2 : ¬ 57 < z := fun w => z9 ((i32_lt (a := 57) (b := z) (by omega) (by omega)).mpr w)
      rw [if_pos (show isD z = true by unfold isD; simp only [Bool.and_eq_true, decide_eq_true_eq]; omega)]
      refine eS rfl rfl ?_
      refine eS rfl rfl ?_
      exact eR rfl rfl ⟨rfl, rfl⟩
theorem m_isL {z : Nat} (hz : z < 2 ^ 31) : aE aM171 d 0 [(0, .int (Int32.ofNat z))] [] h (aIs (some (.int (if isL z = true then 1 else 0))) h) := by
  refine eS rfl rfl ?_
  refine eS rfl rfl ?_
  refine eILt rfl rfl (fun z3 => ?_) (fun z3 => ?_)
  · have y := (i32_lt (a := z) (b := 97) (by omega) (by omega)).mp z3
    rw [if_neg (show ¬ isL z = true by unfold isL; simp only [Bool.and_eq_true, decide_eq_true_eq]; omega)]
    refine eS rfl rfl ?_
    exact eR rfl rfl ⟨rfl, rfl⟩
  · have y : ¬ z < 97 := fun w => z3 ((i32_lt (a := z) (b := 97) (by omega) (by omega)).mpr w)
    refine eS rfl rfl ?_
    refine eS rfl rfl ?_
    refine eIGt rfl rfl (fun z9 => ?_) (fun z9 => ?_)
    · have y2 := (i32_lt (a := 122) (b := z) (by omega) (by omega)).mp z9
      rw [if_neg (show ¬ isL z = true by unfold isL; simp only [Bool.and_eq_true, decide_eq_true_eq]; omega)]
      refine eS rfl rfl ?_
      exact eR rfl rfl ⟨rfl, rfl⟩
    · have y2 : ¬ 122 < z := fun w => z9 ((i32_lt (a := 122) (b := z) (by omega) (by omega)).mpr w)
      rw [if_pos (show isL z = true by unfold isL; simp only [Bool.and_eq_true, decide_eq_true_eq]; omega)]
      refine eS rfl rfl ?_
      refine eS rfl rfl ?_
      exact eR rfl rfl ⟨rfl, rfl⟩
theorem m_isD {z : Nat} (hz : z < 2 ^ 31) : aE aM172 d 0 [(0, .int (Int32.ofNat z))] [] h (aIs (some (.int (if isD z = true then 1 else 0))) h) := by
  refine eS rfl rfl ?_
  refine eS rfl rfl ?_
  refine eILt rfl rfl (fun z3 => ?_) (fun z3 => ?_)
  · have y := (i32_lt (a := z) (b := 48) (by omega) (by omega)).mp z3
    rw [if_neg (show ¬ isD z = true by unfold isD; simp only [Bool.and_eq_true, decide_eq_true_eq]; omega)]
    refine eS rfl rfl ?_
    exact eR rfl rfl ⟨rfl, rfl⟩
  · have y : ¬ z < 48 := fun w => z3 ((i32_lt (a := z) (b := 48) (by omega) (by omega)).mpr w)
    refine eS rfl rfl ?_
    refine eS rfl rfl ?_
    refine eIGt rfl rfl (fun z9 => ?_) (fun z9 => ?_)
    · have y2 := (i32_lt (a := 57) (b := z) (by omega) (by omega)).mp z9
      rw [if_neg (show ¬ isD z = true by unfold isD; simp only [Bool.and_eq_true, decide_eq_true_eq]; omega)]
      refine eS rfl rfl ?_
      exact eR rfl rfl ⟨rfl, rfl⟩
    · have y2 : ¬ 57 < z := fun w => z9 ((i32_lt (a := 57) (b := z) (by omega) (by omega)).mpr w)
      rw [if_pos (show isD z = true by unfold isD; simp only [Bool.and_eq_true, decide_eq_true_eq]; omega)]
      refine eS rfl rfl ?_
      refine eS rfl rfl ?_
      exact eR rfl rfl ⟨rfl, rfl⟩
theorem m_isS {z : Nat} (hz : z < 2 ^ 31) : aE aM173 d 0 [(0, .int (Int32.ofNat z))] [] h (aIs (some (.int (if isS z = true then 1 else 0))) h) := by
  refine eS rfl rfl ?_
  refine eS rfl rfl ?_
  refine eIEq rfl rfl (fun z3 => ?_) (fun z3 => ?_)
  · rw [if_pos (show isS z = true by rw [(i32_eq (a := z) (b := 123) (by omega) (by omega)).mp z3]; rfl)]
    refine eS rfl rfl ?_
    refine eS rfl rfl ?_
    exact eR rfl rfl ⟨rfl, rfl⟩
  · have y0 : z ≠ 123 := fun w => z3 ((i32_eq (a := z) (b := 123) (by omega) (by omega)).mpr w)
    refine eS rfl rfl ?_
    refine eS rfl rfl ?_
    refine eIEq rfl rfl (fun z9 => ?_) (fun z9 => ?_)
    · rw [if_pos (show isS z = true by rw [(i32_eq (a := z) (b := 125) (by omega) (by omega)).mp z9]; rfl)]
      refine eS rfl rfl ?_
      refine eS rfl rfl ?_
      exact eR rfl rfl ⟨rfl, rfl⟩
    · have y1 : z ≠ 125 := fun w => z9 ((i32_eq (a := z) (b := 125) (by omega) (by omega)).mpr w)
      refine eS rfl rfl ?_
      refine eS rfl rfl ?_
      refine eIEq rfl rfl (fun z15 => ?_) (fun z15 => ?_)
      · rw [if_pos (show isS z = true by rw [(i32_eq (a := z) (b := 40) (by omega) (by omega)).mp z15]; rfl)]
        refine eS rfl rfl ?_
        refine eS rfl rfl ?_
        exact eR rfl rfl ⟨rfl, rfl⟩
      · have y2 : z ≠ 40 := fun w => z15 ((i32_eq (a := z) (b := 40) (by omega) (by omega)).mpr w)
        refine eS rfl rfl ?_
        refine eS rfl rfl ?_
        refine eIEq rfl rfl (fun z21 => ?_) (fun z21 => ?_)
        · rw [if_pos (show isS z = true by rw [(i32_eq (a := z) (b := 41) (by omega) (by omega)).mp z21]; rfl)]
          refine eS rfl rfl ?_
          refine eS rfl rfl ?_
          exact eR rfl rfl ⟨rfl, rfl⟩
        · have y3 : z ≠ 41 := fun w => z21 ((i32_eq (a := z) (b := 41) (by omega) (by omega)).mpr w)
          refine eS rfl rfl ?_
          refine eS rfl rfl ?_
          refine eIEq rfl rfl (fun z27 => ?_) (fun z27 => ?_)
          · rw [if_pos (show isS z = true by rw [(i32_eq (a := z) (b := 43) (by omega) (by omega)).mp z27]; rfl)]
            refine eS rfl rfl ?_
            refine eS rfl rfl ?_
            exact eR rfl rfl ⟨rfl, rfl⟩
          · have y4 : z ≠ 43 := fun w => z27 ((i32_eq (a := z) (b := 43) (by omega) (by omega)).mpr w)
            refine eS rfl rfl ?_
            refine eS rfl rfl ?_
            refine eIEq rfl rfl (fun z33 => ?_) (fun z33 => ?_)
            · rw [if_pos (show isS z = true by rw [(i32_eq (a := z) (b := 45) (by omega) (by omega)).mp z33]; rfl)]
              refine eS rfl rfl ?_
              refine eS rfl rfl ?_
              exact eR rfl rfl ⟨rfl, rfl⟩
            · have y5 : z ≠ 45 := fun w => z33 ((i32_eq (a := z) (b := 45) (by omega) (by omega)).mpr w)
              refine eS rfl rfl ?_
              refine eS rfl rfl ?_
              refine eIEq rfl rfl (fun z39 => ?_) (fun z39 => ?_)
              · rw [if_pos (show isS z = true by rw [(i32_eq (a := z) (b := 42) (by omega) (by omega)).mp z39]; rfl)]
                refine eS rfl rfl ?_
                refine eS rfl rfl ?_
                exact eR rfl rfl ⟨rfl, rfl⟩
              · have y6 : z ≠ 42 := fun w => z39 ((i32_eq (a := z) (b := 42) (by omega) (by omega)).mpr w)
                refine eS rfl rfl ?_
                refine eS rfl rfl ?_
                refine eIEq rfl rfl (fun z45 => ?_) (fun z45 => ?_)
                · rw [if_pos (show isS z = true by rw [(i32_eq (a := z) (b := 47) (by omega) (by omega)).mp z45]; rfl)]
                  refine eS rfl rfl ?_
                  refine eS rfl rfl ?_
                  exact eR rfl rfl ⟨rfl, rfl⟩
                · have y7 : z ≠ 47 := fun w => z45 ((i32_eq (a := z) (b := 47) (by omega) (by omega)).mpr w)
                  refine eS rfl rfl ?_
                  refine eS rfl rfl ?_
                  refine eIEq rfl rfl (fun z51 => ?_) (fun z51 => ?_)
                  · rw [if_pos (show isS z = true by rw [(i32_eq (a := z) (b := 60) (by omega) (by omega)).mp z51]; rfl)]
                    refine eS rfl rfl ?_
                    refine eS rfl rfl ?_
                    exact eR rfl rfl ⟨rfl, rfl⟩
                  · have y8 : z ≠ 60 := fun w => z51 ((i32_eq (a := z) (b := 60) (by omega) (by omega)).mpr w)
                    refine eS rfl rfl ?_
                    refine eS rfl rfl ?_
                    refine eIEq rfl rfl (fun z57 => ?_) (fun z57 => ?_)
                    · rw [if_pos (show isS z = true by rw [(i32_eq (a := z) (b := 62) (by omega) (by omega)).mp z57]; rfl)]
                      refine eS rfl rfl ?_
                      refine eS rfl rfl ?_
                      exact eR rfl rfl ⟨rfl, rfl⟩
                    · have y9 : z ≠ 62 := fun w => z57 ((i32_eq (a := z) (b := 62) (by omega) (by omega)).mpr w)
                      refine eS rfl rfl ?_
                      refine eS rfl rfl ?_
                      refine eIEq rfl rfl (fun z63 => ?_) (fun z63 => ?_)
                      · rw [if_pos (show isS z = true by rw [(i32_eq (a := z) (b := 61) (by omega) (by omega)).mp z63]; rfl)]
                        refine eS rfl rfl ?_
                        refine eS rfl rfl ?_
                        exact eR rfl rfl ⟨rfl, rfl⟩
                      · have y10 : z ≠ 61 := fun w => z63 ((i32_eq (a := z) (b := 61) (by omega) (by omega)).mpr w)
                        refine eS rfl rfl ?_
                        refine eS rfl rfl ?_
                        refine eINe rfl rfl (fun z69 => ?_) (fun z69 => ?_)
                        · have y11 : z ≠ 44 := fun w => z69 ((i32_eq (a := z) (b := 44) (by omega) (by omega)).mpr w)
                          rw [if_neg (show ¬ isS z = true by unfold isS sgnL; simp [y0, y1, y2, y3, y4, y5, y6, y7, y8, y9, y10, y11])]
                          refine eS rfl rfl ?_
                          exact eR rfl rfl ⟨rfl, rfl⟩
                        · rw [if_pos (show isS z = true by rw [(i32_eq (a := z) (b := 44) (by omega) (by omega)).mp z69]; rfl)]
                          refine eS rfl rfl ?_
                          refine eS rfl rfl ?_
                          exact eR rfl rfl ⟨rfl, rfl⟩
end CHR
