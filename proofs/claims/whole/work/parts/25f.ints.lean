/-! whole numbers: remainder, quotient, floorMod, max, min -/
theorem irem_ok {x y : Int32} {v : Value} {r : List Value} (h : y ≠ 0) : aPure .irem v (.int y :: .int x :: r) = some (.int (x % y) :: r) := by
  show (if y = 0 then none else some (Value.int (x - x / y * y) :: r)) = _
  rw [if_neg h, irem_eq_mod x y]
theorem idiv_ok {x y : Int32} {v : Value} {r : List Value} (h : y ≠ 0) : aPure .idiv v (.int y :: .int x :: r) = some (.int (x / y) :: r) := by
  show (if y = 0 then none else some (Value.int (x / y) :: r)) = _
  rw [if_neg h]
theorem i32_rem {k m : Nat} (hk : k < 2 ^ 31) (h0 : 0 < m) (hm : m < 2 ^ 31) : Int32.ofNat k % Int32.ofNat m = Int32.ofNat (k % m) := by
  have hl : k % m < m := Nat.mod_lt _ h0
  refine Int32.toInt.inj ?_
  rw [Int32.toInt_mod, Int32.toInt_ofNat_small hk, Int32.toInt_ofNat_small hm, Int32.toInt_ofNat_small (by omega)]
  rfl
theorem i32_quo {k m : Nat} (hk : k < 2 ^ 31) (h0 : 0 < m) (hm : m < 2 ^ 31) : Int32.ofNat k / Int32.ofNat m = Int32.ofNat (k / m) := by
  have hl : k / m ≤ k := Nat.div_le_self ..
  refine Int32.toInt.inj ?_
  rw [Int32.toInt_div, Int32.toInt_ofNat_small hk, Int32.toInt_ofNat_small hm, Int32.toInt_ofNat_small (by omega)]
  show Int.bmod ((k / m : Nat) : Int) (2 ^ 32) = _
  generalize k / m = q at hl
  rw [Int.bmod_eq_of_le (by omega) (by omega)]
theorem i32_xor_sign {x : Int32} {m : Nat} (hm : m < 2 ^ 31) : 0 ≤ x ^^^ Int32.ofNat m ↔ 0 ≤ x := by
  have h1 : ∀ y : Int32, 0 ≤ y ↔ y.toBitVec.msb = false := by
    intro y
    rw [Int32.le_iff_toInt_le, BitVec.msb_eq_toInt, decide_eq_false_iff_not]
    show (0 : Int) ≤ y.toInt ↔ ¬ y.toInt < 0
    omega
  have h2 : (Int32.ofNat m).toBitVec.msb = false := by
    rw [← h1, show (0 : Int32) = Int32.ofNat 0 from rfl, i32_le (by decide) hm]
    omega
  rw [h1, h1, Int32.toBitVec_xor, BitVec.msb_xor, h2, Bool.xor_false]
def fmA (x : Int32) (m : Nat) : Nat := (x.toInt % m).toNat
theorem fmA_lt {x : Int32} {m : Nat} (h0 : 0 < m) : fmA x m < m := by
  have := Int.emod_lt_of_pos x.toInt (b := m) (by omega)
  have := Int.emod_nonneg x.toInt (b := m) (by omega)
  unfold fmA
  omega
theorem s_floorMod (d : Nat) {x : Int32} {m : Nat} {h : aH} (h0 : 0 < m) (hm : m < 2 ^ 31) : aE aM140 d 0 [(0, .int x), (1, .int (Int32.ofNat m))] [] h (aIs (some (.int (Int32.ofNat (fmA x m)))) h) := by
  have em : (Int32.ofNat m).toInt = m := Int32.toInt_ofNat_small hm
  have m0 : Int32.ofNat m ≠ 0 := i32_ne0 hm (by omega)
  have lt := fmA_lt (x := x) h0
  have er : (x % Int32.ofNat m).toInt = x.toInt.tmod m := by rw [Int32.toInt_mod, em]
  have ef : (Int32.ofNat (fmA x m)).toInt = x.toInt % m := by
    rw [Int32.toInt_ofNat_small (by omega)]
    have := Int.emod_nonneg x.toInt (b := m) (by omega)
    unfold fmA
    omega
  have b1 := x.toInt_lt
  have b2 := x.le_toInt
  refine eS rfl rfl ?_
  refine eS rfl rfl ?_
  refine eP rfl (irem_ok m0) ?_
  refine eS rfl rfl ?_
  refine eS rfl rfl ?_
  refine eS rfl rfl ?_
  refine eS rfl rfl ?_
  refine eGe rfl rfl (fun z7 => ?_) (fun z7 => ?_)
  · refine eS rfl rfl ?_
    refine eR rfl rfl ⟨?_, rfl⟩
    have p : 0 ≤ x := (i32_xor_sign hm).mp z7
    rw [Int32.le_iff_toInt_le] at p
    change (0 : Int) ≤ x.toInt at p
    refine congrArg (fun y => Sum.inl (some (Value.int y))) (Int32.toInt.inj ?_)
    rw [er, ef, Int.tmod_eq_emod_of_nonneg p]
  · refine eS rfl rfl ?_
    refine eEq rfl rfl (fun z11 => ?_) (fun z11 => ?_)
    · refine eS rfl rfl ?_
      refine eR rfl rfl ⟨?_, rfl⟩
      refine congrArg (fun y => Sum.inl (some (Value.int y))) (Int32.toInt.inj ?_)
      have t := congrArg Int32.toInt z11
      rw [er] at t
      rw [er, ef]
      change x.toInt.tmod m = 0 at t
      rw [t]
      exact (Int.emod_eq_zero_of_dvd (Int.dvd_of_tmod_eq_zero t)).symm
    · refine eS rfl rfl ?_
      refine eS rfl rfl ?_
      refine eS rfl rfl ?_
      refine eR rfl rfl ⟨?_, rfl⟩
      have p : ¬ 0 ≤ x := fun y => z7 ((i32_xor_sign hm).mpr y)
      rw [Int32.le_iff_toInt_le] at p
      change ¬ (0 : Int) ≤ x.toInt at p
      refine congrArg (fun y => Sum.inl (some (Value.int y))) (Int32.toInt.inj ?_)
      have t : x.toInt.tmod m ≠ 0 := fun y => z11 (Int32.toInt.inj (er.trans y))
      have lo : -(m : Int) < x.toInt.tmod m := by
        have := Int.lt_tmod_of_pos x.toInt (b := m) (by omega)
        omega
      have hi : x.toInt.tmod m ≤ 0 := by
        have := Int.tmod_nonneg (m : Int) (show 0 ≤ -x.toInt by omega)
        rw [Int.neg_tmod] at this
        omega
      rw [Int32.toInt_add, er, em, ef, Int.bmod_eq_of_le (by omega) (by omega)]
      have d1 := Int.tmod_def x.toInt m
      have d2 := Int.emod_def x.toInt m
      have e1 := Int.emod_nonneg x.toInt (b := m) (by omega)
      have e2 := Int.emod_lt_of_pos x.toInt (b := m) (by omega)
      have q : (m : Int) * (x.toInt.tdiv m - x.toInt / m) = x.toInt % m - x.toInt.tmod m := by rw [Int.mul_sub]; omega
      have q1 : 0 < x.toInt.tdiv m - x.toInt / m := by
        refine Decidable.by_contra (fun y => ?_)
        have : (m : Int) * (x.toInt.tdiv m - x.toInt / m) ≤ 0 := Int.mul_nonpos_of_nonneg_of_nonpos (by omega) (by omega)
        omega
      have q2 : x.toInt.tdiv m - x.toInt / m < 2 := by
        refine Decidable.by_contra (fun y => ?_)
        have : (m : Int) * 2 ≤ (m : Int) * (x.toInt.tdiv m - x.toInt / m) := Int.mul_le_mul_of_nonneg_left (by omega) (by omega)
        omega
      have q3 : x.toInt.tdiv m - x.toInt / m = 1 := by omega
      rw [q3] at q
      omega
theorem s_max {d : Nat} {a b : Int32} {h : aH} : aE aM54 d 0 [(0, .int a), (1, .int b)] [] h (aIs (some (.int (if a < b then b else a))) h) := by
  refine eS rfl rfl ?_
  refine eS rfl rfl ?_
  refine eILt rfl rfl (fun z2 => ?_) (fun z2 => ?_)
  · refine eS rfl rfl ?_
    exact eR rfl rfl ⟨by rw [if_pos z2], rfl⟩
  · refine eS rfl rfl ?_
    refine eS rfl rfl ?_
    exact eR rfl rfl ⟨by rw [if_neg z2], rfl⟩
theorem s_min {d : Nat} {a b : Int32} {h : aH} : aE aM43 d 0 [(0, .int a), (1, .int b)] [] h (aIs (some (.int (if b < a then b else a))) h) := by
  refine eS rfl rfl ?_
  refine eS rfl rfl ?_
  refine eIGt rfl rfl (fun z2 => ?_) (fun z2 => ?_)
  · refine eS rfl rfl ?_
    exact eR rfl rfl ⟨by rw [if_pos z2], rfl⟩
  · refine eS rfl rfl ?_
    refine eS rfl rfl ?_
    exact eR rfl rfl ⟨by rw [if_neg z2], rfl⟩
theorem i32_mul {a b : Nat} : Int32.ofNat a * Int32.ofNat b = Int32.ofNat (a * b) := (Int32.ofNat_mul ..).symm
section CPAR
variable {scr : List Value} {kd : Nat → Nat} {n : Nat} {S0 : Nat → List Value} {a35 a36 a37 a38 a39 a40 a41 a42 a43 a44 g : List Value} {pc an : Int32} {d w k cl ht : Nat}
theorem c_parPlace (hn : 67 ≤ n) (hc : cl ≤ 2) (hk : k < 3) : aE aM146 (d + 1) 0 [(0, .ref 35), (1, .int (Int32.ofNat k))] [] (gH scr kd n (cS S0 (kM (Int32.ofNat ht) (Int32.ofNat (cl + 1)) pc an) a36 a37 a38 a39 a40 a41 a42 a43 a44)) (aIs (some (.int (Int32.ofNat (3 * cl + k)))) (gH scr kd n (cS S0 (kM (Int32.ofNat ht) (Int32.ofNat (cl + 1)) pc an) a36 a37 a38 a39 a40 a41 a42 a43 a44))) := by
  have e1 : (if (Int32.ofInt 0 : Int32) < Int32.ofNat cl then Int32.ofNat cl else Int32.ofInt 0) = Int32.ofNat cl := by
    split
    · rfl
    · rename_i z
      have := mt (i32_lt (a := 0) (b := cl) (by decide) (by omega)).mpr z
      obtain rfl : cl = 0 := by omega
      rfl
  have e2 : fmA (Int32.ofNat k) 3 = k := by
    unfold fmA
    rw [Int32.toInt_ofNat_small (by omega)]
    omega
  refine eS rfl rfl ?_
  refine eS rfl rfl ?_
  refine gGet hn rfl rfl rfl rfl ?_
  refine eS rfl rfl ?_
  refine eS rfl rfl ?_
  rw [i32_pre]
  refine eC1 rfl rfl rfl ⟨catOk rfl, catOk rfl⟩ (s_max) ?_
  rw [e1]
  refine eS rfl rfl ?_
  refine eS rfl rfl ?_
  refine eS rfl rfl ?_
  refine eS rfl rfl ?_
  refine eC1 rfl rfl rfl ⟨catOk rfl, catOk rfl⟩ (s_floorMod d (m := 3) (by decide) (by decide)) ?_
  rw [e2]
  refine eS rfl rfl ?_
  exact eR rfl rfl ⟨by rw [Nat.mul_comm, Int32.ofNat_add, Int32.ofNat_mul]; rfl, rfl⟩
end CPAR
