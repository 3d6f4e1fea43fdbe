/-! the turtle's numbers, on the class's side -/
def sinU (h : Nat) : UInt32 := if h = 0 then 0 else if h = 1 then 1048871918 else if h = 2 then 1056964608 else if h = 3 then 1060439283 else if h = 4 then 1063105495 else if h = 5 then 1064781546 else 1065353216
def sinA (h : Nat) : UInt32 := if h < 12 then sinU (if h ≤ 6 then h else 12 - h) else FP.fneg (sinU (if h - 12 ≤ 6 then h - 12 else 24 - h))
theorem gF_sin {h : Nat} (hh : h < 24) : gF (sinA h) := by
  have : (List.range 24).all (fun h => decide ((sinA h).toNat % 2 ^ 31 < 148 * 2 ^ 23)) = true := by decide +kernel
  have := List.all_eq_true.mp this h (List.mem_range.mpr hh)
  rw [decide_eq_true_eq] at this
  exact this
def farB (f : UInt32) : Bool := decide (FP.fcmp f 1148846080 = some .gt ∨ FP.fcmp f 3296329728 = some .lt)
def pixA (f : UInt32) : Int := if FP.fcmp (FP.i2f (FP.f2i (FP.fadd f 1056964608))) (FP.fadd f 1056964608) = some .gt then (FP.f2i (FP.fadd f 1056964608)).toInt - 1 else (FP.f2i (FP.fadd f 1056964608)).toInt
theorem pixA_bnd {f : UInt32} (h : gX f) : -4097 ≤ pixA f ∧ pixA f ≤ 4096 := by
  have := f2i_abs (K := 139) (gX_half h) (by decide) (by decide)
  rw [show 2 ^ (139 - 127) = 4096 from rfl] at this
  unfold pixA
  split <;> omega
theorem i2f_nn {n : Int32} : FP.Core.val32 (FP.i2f n) ≠ .nan := (FP.Core.fin_of_lt32 (FP.Core.i2f_mag n) (by decide)).ne_nan
theorem half_nn {f : UInt32} (h : gX f) : FP.Core.val32 (FP.fadd f 1056964608) ≠ .nan := (FP.Core.fin_of_lt32 (gX_half h) (by decide)).ne_nan
section CTUR
variable {scr : List Value} {kd : Nat → Nat} {n : Nat} {S0 : Nat → List Value} {a35 a36 a37 a38 a39 a40 a41 a42 a43 a44 g : List Value} {ht cl pc an : Int32} {d w k : Nat} {f x y : UInt32} {hd : Nat} {co dn : Int32} {h : aH}
theorem c_sineU_tail {m : Nat} {l : aLc} (hm : m ≤ 6) : aE aM132 d 14 l [.int (Int32.ofNat m)] h (aIs (some (.float (sinU m))) h) := by
  match m, hm with
  | 0, _ =>
    refine eS rfl rfl ?_
    refine eS rfl rfl ?_
    exact eR rfl rfl ⟨rfl, rfl⟩
  | 1, _ =>
    refine eS rfl rfl ?_
    refine eS rfl rfl ?_
    exact eR rfl rfl ⟨rfl, rfl⟩
  | 2, _ =>
    refine eS rfl rfl ?_
    refine eS rfl rfl ?_
    exact eR rfl rfl ⟨rfl, rfl⟩
  | 3, _ =>
    refine eS rfl rfl ?_
    refine eS rfl rfl ?_
    exact eR rfl rfl ⟨rfl, rfl⟩
  | 4, _ =>
    refine eS rfl rfl ?_
    refine eS rfl rfl ?_
    exact eR rfl rfl ⟨rfl, rfl⟩
  | 5, _ =>
    refine eS rfl rfl ?_
    refine eS rfl rfl ?_
    exact eR rfl rfl ⟨rfl, rfl⟩
  | 6, _ =>
    refine eS rfl rfl ?_
    refine eS rfl rfl ?_
    exact eR rfl rfl ⟨rfl, rfl⟩
  | m + 7, hm => omega
theorem c_sineU {m : Nat} (hm : m ≤ 12) : aE aM132 d 0 [(0, .int (Int32.ofNat m))] [] h (aIs (some (.float (sinU (if m ≤ 6 then m else 12 - m)))) h) := by
  refine eS rfl rfl ?_
  refine eS rfl rfl ?_
  refine eIGt rfl rfl (fun z3 => ?_) (fun z3 => ?_)
  · refine eS rfl rfl ?_
    refine eS rfl rfl ?_
    refine eS rfl rfl ?_
    have z : ¬ m ≤ 6 := fun y => Int32.not_le.mpr z3 ((i32_le (a := m) (b := 6) (by omega) (by decide)).mpr y)
    rw [if_neg z, show (Int8.ofInt 12).toInt32 - Int32.ofNat m = Int32.ofNat (12 - m) from (Int32.ofNat_sub 12 m (by omega)).symm]
    exact c_sineU_tail (by omega)
  · refine eS rfl rfl ?_
    refine eS rfl rfl ?_
    have z : m ≤ 6 := (i32_le (a := m) (b := 6) (by omega) (by decide)).mp (Int32.not_lt.mp z3)
    rw [if_pos z]
    exact c_sineU_tail z
theorem c_sine (hm : hd < 24) : aE aM131 (d + 1) 0 [(0, .int (Int32.ofNat hd))] [] h (aIs (some (.float (sinA hd))) h) := by
  unfold sinA
  refine eS rfl rfl ?_
  refine eS rfl rfl ?_
  refine eIGe rfl rfl (fun z3 => ?_) (fun z3 => ?_)
  · refine eS rfl rfl ?_
    refine eS rfl rfl ?_
    refine eS rfl rfl ?_
    have z : ¬ hd < 12 := fun y => Int32.not_lt.mpr z3 ((i32_lt (a := hd) (b := 12) (by omega) (by decide)).mpr y)
    rw [if_neg z, show Int32.ofNat hd - (Int8.ofInt 12).toInt32 = Int32.ofNat (hd - 12) from (Int32.ofNat_sub hd 12 (by omega)).symm]
    refine eC1 rfl rfl rfl ⟨catOk rfl, catOk rfl⟩ (c_sineU (m := hd - 12) (by omega)) ?_
    rw [show 12 - (hd - 12) = 24 - hd by omega]
    refine eS rfl rfl ?_
    exact eR rfl rfl ⟨rfl, rfl⟩
  · have z : hd < 12 := (i32_lt (a := hd) (b := 12) (by omega) (by decide)).mp (Int32.not_le.mp z3)
    rw [if_pos z]
    refine eS rfl rfl ?_
    refine eC1 rfl rfl rfl ⟨catOk rfl, catOk rfl⟩ (c_sineU (m := hd) (by omega)) ?_
    refine eS rfl rfl ?_
    exact eR rfl rfl ⟨rfl, rfl⟩
theorem c_isFar (hn : aN32 f = true) : aE aM133 d 0 [(0, .float f)] [] h (aIs (some (.int (if farB f then 1 else 0))) h) := by
  have nx := n32_nn hn
  have n1 : FP.Core.val32 1148846080 ≠ .nan := by decide +kernel
  have n2 : FP.Core.val32 3296329728 ≠ .nan := by decide +kernel
  refine eS rfl rfl ?_
  refine eS rfl rfl ?_
  refine eS rfl rfl ?_
  refine eGt rfl rfl (fun z4 => ?_) (fun z4 => ?_)
  · have e : farB f = true := decide_eq_true (Or.inl ((cv_gt nx n1).mp z4))
    rw [e]
    refine eS rfl rfl ?_
    refine eS rfl rfl ?_
    exact eR rfl rfl ⟨rfl, rfl⟩
  · refine eS rfl rfl ?_
    refine eS rfl rfl ?_
    refine eS rfl rfl ?_
    refine eGe rfl rfl (fun z11 => ?_) (fun z11 => ?_)
    · have e : farB f = false := decide_eq_false (fun y => y.elim (fun y => z4 ((cv_gt nx n1).mpr y)) ((cv_ge nx n2).mp z11))
      rw [e]
      refine eS rfl rfl ?_
      exact eR rfl rfl ⟨rfl, rfl⟩
    · have e : farB f = true := decide_eq_true (Or.inr (Decidable.of_not_not (fun y => z11 ((cv_ge nx n2).mpr y))))
      rw [e]
      refine eS rfl rfl ?_
      refine eS rfl rfl ?_
      exact eR rfl rfl ⟨rfl, rfl⟩
theorem c_pixelOf (hn : gX f) : aE aM134 d 0 [(0, .float f)] [] h (aIs (some (.int (Int32.ofInt (pixA f)))) h) := by
  have hb := pixA_bnd hn
  unfold pixA
  refine eS rfl rfl ?_
  refine eS rfl rfl ?_
  refine eP rfl (fadd_ok (n32_of ((FP.Core.notNaN_iff32 _).mpr (half_nn hn)))) ?_
  refine eS rfl rfl ?_
  refine eS rfl rfl ?_
  refine eS rfl rfl ?_
  refine eS rfl rfl ?_
  refine eS rfl rfl ?_
  refine eS rfl rfl ?_
  refine eS rfl rfl ?_
  refine eS rfl rfl ?_
  refine eLe rfl rfl (fun z12 => ?_) (fun z12 => ?_)
  · refine eS rfl rfl ?_
    exact eR rfl rfl ⟨by rw [if_neg ((cv_le i2f_nn (half_nn hn)).mp z12), Int32.ofInt_toInt], rfl⟩
  · refine eS rfl rfl ?_
    refine eS rfl rfl ?_
    refine eS rfl rfl ?_
    refine eS rfl rfl ?_
    exact eR rfl rfl ⟨by rw [if_pos (Decidable.of_not_not (fun y => z12 ((cv_le i2f_nn (half_nn hn)).mpr y))), Int32.ofInt_sub, Int32.ofInt_toInt], rfl⟩
theorem c_goHome (hn : 67 ≤ n) : aE aM109 d 0 [(0, .ref 41)] [] (gH scr kd n (cS S0 a35 a36 a37 a38 a39 a40 (kT x y (Int32.ofNat hd) co dn) a42 a43 a44)) (aIs none (gH scr kd n (cS S0 a35 a36 a37 a38 a39 a40 (kT 1098907648 1094713344 (Int32.ofNat 0) co dn) a42 a43 a44))) := by
  refine eS rfl rfl ?_
  refine eS rfl rfl ?_
  refine gPut hn rfl rfl rfl rfl rfl rfl rfl cS_41 ?_
  refine eS rfl rfl ?_
  refine eS rfl rfl ?_
  refine gPut hn rfl rfl rfl rfl rfl rfl rfl cS_41 ?_
  refine eS rfl rfl ?_
  refine eS rfl rfl ?_
  refine gPut hn rfl rfl rfl rfl rfl rfl rfl cS_41 ?_
  exact eR rfl rfl ⟨rfl, rfl⟩
theorem c_turn {t : Int32} (hn : 67 ≤ n) : aE aM139 (d + 1) 0 [(0, .ref 41), (1, .int t)] [] (gH scr kd n (cS S0 a35 a36 a37 a38 a39 a40 (kT x y (Int32.ofNat hd) co dn) a42 a43 a44)) (aIs none (gH scr kd n (cS S0 a35 a36 a37 a38 a39 a40 (kT x y (Int32.ofNat (fmA (Int32.ofNat hd + t) 24)) co dn) a42 a43 a44))) := by
  refine eS rfl rfl ?_
  refine eS rfl rfl ?_
  refine gGet hn rfl rfl rfl rfl ?_
  refine eS rfl rfl ?_
  refine eS rfl rfl ?_
  refine eS rfl rfl ?_
  refine eC1 rfl rfl rfl ⟨catOk rfl, catOk rfl⟩ (s_floorMod _ (m := 24) (by decide) (by decide)) ?_
  refine gPut hn rfl rfl rfl rfl rfl rfl rfl cS_41 ?_
  exact eR rfl rfl ⟨rfl, rfl⟩
/-- what a word that steers does: the answer, the heading, the colour -/
def steerA (w : Nat) (f : UInt32) (hd : Nat) (co : Int32) : Int32 × Nat × Int32 :=
  if ¬ FP.fcmp (FP.i2f (FP.f2i f)) f = some .eq ∨ (w = 22 ∧ (FP.f2i f < 0 ∨ 10 ≤ FP.f2i f)) then (13, hd, co)
  else if w = 22 then (0, hd, FP.f2i f) else (0, fmA (Int32.ofNat hd + (if w = 20 then FP.f2i f else - FP.f2i f)) 24, co)
theorem c_steer (hn : 67 ≤ n) (hf : gF f) (hw : w < 2 ^ 31) : aE aM138 (d + 2) 0 [(0, .ref 35), (1, .int (Int32.ofNat w)), (2, .float f)] [] (gH scr kd n (cS S0 (kM ht cl pc 0) a36 a37 a38 a39 a40 (kT x y (Int32.ofNat hd) co dn) a42 a43 a44)) (aIs none (gH scr kd n (cS S0 (kM ht cl pc (steerA w f hd co).1) a36 a37 a38 a39 a40 (kT x y (Int32.ofNat (steerA w f hd co).2.1) (steerA w f hd co).2.2 dn) a42 a43 a44))) := by
  have w22 : Int32.ofNat w = (Int8.ofInt 22).toInt32 ↔ w = 22 := i32_eq (b := 22) hw (by decide)
  have w20 : Int32.ofNat w = (Int8.ofInt 20).toInt32 ↔ w = 20 := i32_eq (b := 20) hw (by decide)
  have ceq : cmpValue (FP.fcmp (FP.i2f (FP.f2i f)) f) .l = 0 ↔ FP.fcmp (FP.i2f (FP.f2i f)) f = some .eq := cv_eq i2f_nn hf.nn
  refine eS rfl rfl ?_
  refine eS rfl rfl ?_
  refine eS rfl rfl ?_
  refine eS rfl rfl ?_
  refine eS rfl rfl ?_
  refine eS rfl rfl ?_
  refine eS rfl rfl ?_
  refine eNe rfl rfl (fun z7 => ?_) (fun z7 => ?_)
  · have e : steerA w f hd co = (13, hd, co) := if_pos (Or.inl (fun y => z7 (ceq.mpr y)))
    rw [e]
    refine eS rfl rfl ?_
    refine eS rfl rfl ?_
    refine gPut hn rfl rfl rfl rfl rfl rfl rfl cS_35 ?_
    refine eS rfl rfl ?_
    exact eR rfl rfl ⟨rfl, rfl⟩
  · refine eS rfl rfl ?_
    refine eS rfl rfl ?_
    refine eINe rfl rfl (fun z13 => ?_) (fun z13 => ?_)
    · have hno : ¬ (¬ FP.fcmp (FP.i2f (FP.f2i f)) f = some .eq ∨ (w = 22 ∧ (FP.f2i f < 0 ∨ 10 ≤ FP.f2i f))) := fun y => y.elim (fun y => y (ceq.mp z7)) (fun y => z13 (w22.mpr y.1))
      refine eS rfl rfl ?_
      refine eS rfl rfl ?_
      refine eINe rfl rfl (fun z38 => ?_) (fun z38 => ?_)
      · have e : steerA w f hd co = (0, fmA (Int32.ofNat hd + (if w = 20 then FP.f2i f else - FP.f2i f)) 24, co) := by
          unfold steerA
          rw [if_neg hno, if_neg (fun y => z38 (w22.mpr y))]
        rw [e]
        refine eS rfl rfl ?_
        refine gGet hn rfl rfl rfl rfl ?_
        refine eS rfl rfl ?_
        refine eS rfl rfl ?_
        refine eINe rfl rfl (fun z59 => ?_) (fun z59 => ?_)
        · rw [if_neg (fun y => z59 (w20.mpr y))]
          refine eS rfl rfl ?_
          refine eS rfl rfl ?_
          refine gV1 hn rfl rfl rfl rfl rfl ⟨catOk rfl, catOk rfl⟩ (c_turn hn) ?_
          exact eR rfl rfl ⟨rfl, rfl⟩
        · rw [if_pos (w20.mp z59)]
          refine eS rfl rfl ?_
          refine eS rfl rfl ?_
          refine gV1 hn rfl rfl rfl rfl rfl ⟨catOk rfl, catOk rfl⟩ (c_turn hn) ?_
          exact eR rfl rfl ⟨rfl, rfl⟩
      · have e : steerA w f hd co = (0, hd, FP.f2i f) := by
          unfold steerA
          rw [if_neg hno, if_pos (w22.mp z38)]
        rw [e]
        refine eS rfl rfl ?_
        refine gGet hn rfl rfl rfl rfl ?_
        refine eS rfl rfl ?_
        refine gPut hn rfl rfl rfl rfl rfl rfl rfl cS_41 ?_
        refine eS rfl rfl ?_
        exact eR rfl rfl ⟨rfl, rfl⟩
    · refine eS rfl rfl ?_
      refine eLt rfl rfl (fun z17 => ?_) (fun z17 => ?_)
      · have e : steerA w f hd co = (13, hd, co) := if_pos (Or.inr ⟨w22.mp z13, Or.inl z17⟩)
        rw [e]
        refine eS rfl rfl ?_
        refine eS rfl rfl ?_
        refine gPut hn rfl rfl rfl rfl rfl rfl rfl cS_35 ?_
        refine eS rfl rfl ?_
        exact eR rfl rfl ⟨rfl, rfl⟩
      · refine eS rfl rfl ?_
        refine eS rfl rfl ?_
        refine eILt rfl rfl (fun z23 => ?_) (fun z23 => ?_)
        · have hno : ¬ (¬ FP.fcmp (FP.i2f (FP.f2i f)) f = some .eq ∨ (w = 22 ∧ (FP.f2i f < 0 ∨ 10 ≤ FP.f2i f))) := fun y => y.elim (fun y => y (ceq.mp z7)) (fun y => y.2.elim z17 (fun y => Int32.not_le.mpr z23 y))
          refine eS rfl rfl ?_
          refine eS rfl rfl ?_
          refine eINe rfl rfl (fun z38 => ?_) (fun z38 => ?_)
          · have e : steerA w f hd co = (0, fmA (Int32.ofNat hd + (if w = 20 then FP.f2i f else - FP.f2i f)) 24, co) := by
              unfold steerA
              rw [if_neg hno, if_neg (fun y => z38 (w22.mpr y))]
            rw [e]
            refine eS rfl rfl ?_
            refine gGet hn rfl rfl rfl rfl ?_
            refine eS rfl rfl ?_
            refine eS rfl rfl ?_
            refine eINe rfl rfl (fun z59 => ?_) (fun z59 => ?_)
            · rw [if_neg (fun y => z59 (w20.mpr y))]
              refine eS rfl rfl ?_
              refine eS rfl rfl ?_
              refine gV1 hn rfl rfl rfl rfl rfl ⟨catOk rfl, catOk rfl⟩ (c_turn hn) ?_
              exact eR rfl rfl ⟨rfl, rfl⟩
            · rw [if_pos (w20.mp z59)]
              refine eS rfl rfl ?_
              refine eS rfl rfl ?_
              refine gV1 hn rfl rfl rfl rfl rfl ⟨catOk rfl, catOk rfl⟩ (c_turn hn) ?_
              exact eR rfl rfl ⟨rfl, rfl⟩
          · have e : steerA w f hd co = (0, hd, FP.f2i f) := by
              unfold steerA
              rw [if_neg hno, if_pos (w22.mp z38)]
            rw [e]
            refine eS rfl rfl ?_
            refine gGet hn rfl rfl rfl rfl ?_
            refine eS rfl rfl ?_
            refine gPut hn rfl rfl rfl rfl rfl rfl rfl cS_41 ?_
            refine eS rfl rfl ?_
            exact eR rfl rfl ⟨rfl, rfl⟩
        · have e : steerA w f hd co = (13, hd, co) := if_pos (Or.inr ⟨w22.mp z13, Or.inr (Int32.not_lt.mp z23)⟩)
          rw [e]
          refine eS rfl rfl ?_
          refine eS rfl rfl ?_
          refine gPut hn rfl rfl rfl rfl rfl rfl rfl cS_35 ?_
          refine eS rfl rfl ?_
          exact eR rfl rfl ⟨rfl, rfl⟩
end CTUR
