/-! the turtle, on the model's side -/
def sinL : List Value := [.float 0, .float 1048871918, .float 1056964608, .float 1060439283, .float 1063105495, .float 1064781546, .float 1065353216]
theorem sinL_at : ∀ {k : Nat}, k ≤ 6 → sinL[k]? = some (.float (sinU k))
  | 0, _ => rfl
  | 1, _ => rfl
  | 2, _ => rfl
  | 3, _ => rfl
  | 4, _ => rfl
  | 5, _ => rfl
  | 6, _ => rfl
  | k + 7, h => by omega
theorem neg_rem {n : Int32} (h : n.toInt.natAbs ≤ 2 ^ 22) : - (n % Int32.ofNat 24) = (-n) % Int32.ofNat 24 := by
  have e24 : (Int32.ofNat 24).toInt = 24 := rfl
  have b := Int.tmod_lt_of_pos n.toInt (b := 24) (by decide)
  have b2 := Int.lt_tmod_of_pos n.toInt (b := 24) (by decide)
  refine Int32.toInt.inj ?_
  rw [Int32.toInt_mod, Int32.toInt_neg, Int32.toInt_neg, Int32.toInt_mod, e24, Int.bmod_eq_of_le (n := -n.toInt) (by omega) (by omega), Int.neg_tmod, Int.bmod_eq_of_le (by omega) (by omega)]
theorem turn_eq {hd : Nat} {n : Int32} (hh : hd < 24) (h : n.toInt.natAbs ≤ 2 ^ 22) : (Int32.ofNat hd + n % Int32.ofNat 24 + Int32.ofNat 24) % Int32.ofNat 24 = Int32.ofNat (fmA (Int32.ofNat hd + n) 24) := by
  have e24 : (Int32.ofNat 24).toInt = 24 := rfl
  have eh : (Int32.ofNat hd).toInt = hd := Int32.toInt_ofNat_small (by omega)
  have b := Int.tmod_lt_of_pos n.toInt (b := 24) (by decide)
  have b2 := Int.lt_tmod_of_pos n.toInt (b := 24) (by decide)
  have d1 := Int.tmod_def n.toInt 24
  have e1 : (Int32.ofNat hd + n).toInt = hd + n.toInt := by rw [Int32.toInt_add, eh, Int.bmod_eq_of_le (by omega) (by omega)]
  have lt : fmA (Int32.ofNat hd + n) 24 < 24 := fmA_lt (by decide)
  refine Int32.toInt.inj ?_
  rw [Int32.toInt_mod, Int32.toInt_add, Int32.toInt_add, Int32.toInt_mod, e24, eh, Int.bmod_eq_of_le (n := (hd : Int) + n.toInt.tmod 24) (by omega) (by omega), Int.bmod_eq_of_le (by omega) (by omega), Int.tmod_eq_emod_of_nonneg (by omega), Int32.toInt_ofNat_small (by omega)]
  unfold fmA
  rw [e1]
  have e2 := Int.emod_nonneg ((hd : Int) + n.toInt) (b := 24) (by decide)
  omega

section MTUR
variable {scr : List Value} {kd : Nat → Nat} {n : Nat} {S0 : Nat → List Value} {a77 a78 a79 a80 a81 a82 a83 g : List Value} {w : Nat → Value} {nn pc en hi un co dn : Int32} {x y f : UInt32} {d hd k : Nat} {px : List Int32} {q : List Nat} {was a b : Int32}
theorem m_sine (hn : 67 ≤ n) (hs : S0 84 = sinL) (hm : k < 24) : aE aM218 (d + 1) 0 [(0, .ref 56), (1, .int (Int32.ofNat k))] [] (gH scr kd n (mS S0 (mM w nn pc en hi un x y (Int32.ofNat hd) co dn) a77 a78 a79 a80 a81 (px.map Value.int) a83)) (aIs (some (.float (sinA k))) (gH scr kd n (mS S0 (mM w nn pc en hi un x y (Int32.ofNat hd) co dn) a77 a78 a79 a80 a81 (px.map Value.int) a83))) := by
  have fin : ∀ (m : Nat) (v : UInt32), m ≤ 6 → sinA k = (if k < 12 then sinU m else FP.fneg (sinU m)) → aE aM218 (d + 1) 23 [(2, .int (Int32.ofNat (k % 12))), (0, .ref 56), (1, .int (Int32.ofNat k))] [.int (Int32.ofNat m), .ref 84] (gH scr kd n (mS S0 (mM w nn pc en hi un x y (Int32.ofNat hd) co dn) a77 a78 a79 a80 a81 (px.map Value.int) a83)) (aIs (some (.float (sinA k))) (gH scr kd n (mS S0 (mM w nn pc en hi un x y (Int32.ofNat hd) co dn) a77 a78 a79 a80 a81 (px.map Value.int) a83))) := by
    intro m v hm6 e
    rw [e]
    refine gRd3 hn rfl rfl rfl m (by omega) (by rw [show mS S0 (mM w nn pc en hi un x y (Int32.ofNat hd) co dn) a77 a78 a79 a80 a81 (px.map Value.int) a83 84 = sinL from hs]; exact sinL_at hm6) ?_
    refine eS rfl rfl ?_
    refine eS rfl rfl ?_
    refine eS rfl rfl ?_
    refine eIGe rfl rfl (fun z28 => ?_) (fun z28 => ?_)
    · rw [if_neg (fun y => Int32.not_lt.mpr z28 ((i32_lt (a := k) (b := 12) (by omega) (by decide)).mpr y))]
      refine eS rfl rfl ?_
      refine eS rfl rfl ?_
      exact eR rfl rfl ⟨rfl, rfl⟩
    · rw [if_pos ((i32_lt (a := k) (b := 12) (by omega) (by decide)).mp (Int32.not_le.mp z28))]
      refine eS rfl rfl ?_
      refine eS rfl rfl ?_
      exact eR rfl rfl ⟨rfl, rfl⟩
  refine eS rfl rfl ?_
  refine eS rfl rfl ?_
  refine eP rfl (irem_ok (by decide)) ?_
  rw [show Int32.ofNat k % (Int8.ofInt 12).toInt32 = Int32.ofNat (k % 12) from i32_rem (m := 12) (by omega) (by decide) (by decide)]
  refine eS rfl rfl ?_
  refine eS rfl rfl ?_
  refine gGet hn rfl rfl rfl rfl ?_
  refine eS rfl rfl ?_
  refine eS rfl rfl ?_
  refine eILe rfl rfl (fun z12 => ?_) (fun z12 => ?_)
  · refine eS rfl rfl ?_
    have z : k % 12 ≤ 6 := (i32_le (a := k % 12) (b := 6) (by omega) (by decide)).mp z12
    refine fin (k % 12) 0 z ?_
    unfold sinA
    by_cases hk : k < 12
    · rw [if_pos hk, if_pos hk, show k % 12 = k by omega, if_pos (by omega)]
    · rw [if_neg hk, if_neg hk, show k % 12 = k - 12 by omega, if_pos (by omega)]
  · refine eS rfl rfl ?_
    refine eS rfl rfl ?_
    refine eS rfl rfl ?_
    refine eS rfl rfl ?_
    have z : ¬ k % 12 ≤ 6 := fun y => z12 ((i32_le (a := k % 12) (b := 6) (by omega) (by decide)).mpr y)
    rw [show (Int8.ofInt 12).toInt32 - Int32.ofNat (k % 12) = Int32.ofNat (12 - k % 12) from (Int32.ofNat_sub 12 (k % 12) (by omega)).symm]
    refine fin (12 - k % 12) 0 (by omega) ?_
    unfold sinA
    by_cases hk : k < 12
    · rw [if_pos hk, if_pos hk, show k % 12 = k by omega, if_neg (by omega)]
    · rw [if_neg hk, if_neg hk, if_neg (by omega), show 12 - k % 12 = 24 - k by omega]
theorem far_1 {f : UInt32} (h : FP.fcmp f 1148846080 = some .gt) : farB f = true := decide_eq_true (Or.inl h)
theorem far_2 {f : UInt32} (h : FP.fcmp f 3296329728 = some .lt) : farB f = true := decide_eq_true (Or.inr h)
theorem far_0 {f : UInt32} (h : ¬ FP.fcmp f 1148846080 = some .gt) (h2 : ¬ FP.fcmp f 3296329728 = some .lt) : farB f = false := decide_eq_false (fun z => z.elim h h2)
theorem m_walk (hn : 67 ≤ n) (hs : S0 84 = sinL) (hl : px.length = 768) (hf : gF f) (hx : gX x) (hy : gX y) (hh : hd < 24) : aE aM217 (d + 4) 0 [(0, .ref 56), (1, .float f)] [] (gH scr kd n (mS S0 (mM w nn pc 0 hi un x y (Int32.ofNat hd) co dn) a77 a78 a79 a80 a81 (px.map Value.int) a83)) (aIs none (gH scr kd n (mS S0 (mM w nn pc (if (advA f x y hd co dn px).1 then 0 else 12) hi un (advA f x y hd co dn px).2.1 (advA f x y hd co dn px).2.2.1 (Int32.ofNat hd) co dn) a77 a78 a79 a80 a81 ((advA f x y hd co dn px).2.2.2.map Value.int) a83))) := by
  have n1 : aN32 (nxA f x hd) = true := step_n32 hf (gF_sin (h := (hd + 6) % 24) (by omega)) hx
  have n2 : aN32 (nyA f y hd) = true := step_n32 hf (gF_sin (h := hd) hh) hy
  have k1 : FP.Core.val32 1148846080 ≠ .nan := by decide +kernel
  have k2 : FP.Core.val32 3296329728 ≠ .nan := by decide +kernel
  have e6 : (Int32.ofNat hd + (Int8.ofInt 6).toInt32) % (Int8.ofInt 24).toInt32 = Int32.ofNat ((hd + 6) % 24) := by
    rw [show (Int8.ofInt 6).toInt32 = Int32.ofNat 6 from rfl, show (Int8.ofInt 24).toInt32 = Int32.ofNat 24 from rfl, ← Int32.ofNat_add, i32_rem (by omega) (by decide) (by decide)]
  have bad : (farB (nxA f x hd) || farB (nyA f y hd)) = true → aE aM217 (d + 4) 70 [(3, .float (nyA f y hd)), (2, .float (nxA f x hd)), (0, .ref 56), (1, .float f)] [] (gH scr kd n (mS S0 (mM w nn pc 0 hi un x y (Int32.ofNat hd) co dn) a77 a78 a79 a80 a81 (px.map Value.int) a83)) (aIs none (gH scr kd n (mS S0 (mM w nn pc (if (advA f x y hd co dn px).1 then 0 else 12) hi un (advA f x y hd co dn px).2.1 (advA f x y hd co dn px).2.2.1 (Int32.ofNat hd) co dn) a77 a78 a79 a80 a81 ((advA f x y hd co dn px).2.2.2.map Value.int) a83))) := by
    intro hb
    have e : (advA f x y hd co dn px) = (false, x, y, px) := by
      unfold advA
      rw [if_pos hb]
    rw [e]
    refine eS rfl rfl ?_
    refine eS rfl rfl ?_
    refine gPut hn rfl rfl rfl rfl rfl rfl rfl mS_56 ?_
    exact eR rfl rfl ⟨rfl, rfl⟩
  have good : (farB (nxA f x hd) || farB (nyA f y hd)) = false → aE aM217 (d + 4) 77 [(3, .float (nyA f y hd)), (2, .float (nxA f x hd)), (0, .ref 56), (1, .float f)] [] (gH scr kd n (mS S0 (mM w nn pc 0 hi un x y (Int32.ofNat hd) co dn) a77 a78 a79 a80 a81 (px.map Value.int) a83)) (aIs none (gH scr kd n (mS S0 (mM w nn pc (if (advA f x y hd co dn px).1 then 0 else 12) hi un (advA f x y hd co dn px).2.1 (advA f x y hd co dn px).2.2.1 (Int32.ofNat hd) co dn) a77 a78 a79 a80 a81 ((advA f x y hd co dn px).2.2.2.map Value.int) a83))) := by
    intro hb
    have e : (advA f x y hd co dn px) = (true, nxA f x hd, nyA f y hd, if dn = 0 then px else linA px (pixA x) (pixA y) (pixA (nxA f x hd)) (pixA (nyA f y hd)) co) := by
      unfold advA
      rw [if_neg (by rw [hb]; decide)]
    rw [e]
    rw [Bool.or_eq_false_iff] at hb
    have x1 := far_gX n1 hb.1
    have y1 := far_gX n2 hb.2
    have b1 := pixA_bnd hx
    have b2 := pixA_bnd hy
    have b3 := pixA_bnd x1
    have b4 := pixA_bnd y1
    refine eS rfl rfl ?_
    refine gGet hn rfl rfl rfl rfl ?_
    refine eEq rfl rfl (fun z81 => ?_) (fun z81 => ?_)
    · rw [if_pos z81]
      refine eS rfl rfl ?_
      refine eS rfl rfl ?_
      refine gPut hn rfl rfl rfl rfl rfl rfl rfl mS_56 ?_
      refine eS rfl rfl ?_
      refine eS rfl rfl ?_
      refine gPut hn rfl rfl rfl rfl rfl rfl rfl mS_56 ?_
      exact eR rfl rfl ⟨rfl, rfl⟩
    · rw [if_neg z81]
      refine eS rfl rfl ?_
      refine eS rfl rfl ?_
      refine gGet hn rfl rfl rfl rfl ?_
      refine eC1 rfl rfl rfl ⟨catOk rfl, catOk rfl⟩ (m_round hx) ?_
      refine eS rfl rfl ?_
      refine gGet hn rfl rfl rfl rfl ?_
      refine eC1 rfl rfl rfl ⟨catOk rfl, catOk rfl⟩ (m_round hy) ?_
      refine eS rfl rfl ?_
      refine eC1 rfl rfl rfl ⟨catOk rfl, catOk rfl⟩ (m_round x1) ?_
      refine eS rfl rfl ?_
      refine eC1 rfl rfl rfl ⟨catOk rfl, catOk rfl⟩ (m_round y1) ?_
      refine gV1 hn rfl rfl rfl rfl rfl ⟨catOk rfl, catOk rfl⟩ (m_line hn hl (by omega) (by omega) (by omega) (by omega)) ?_
      refine eS rfl rfl ?_
      refine eS rfl rfl ?_
      refine gPut hn rfl rfl rfl rfl rfl rfl rfl mS_56 ?_
      refine eS rfl rfl ?_
      refine eS rfl rfl ?_
      refine gPut hn rfl rfl rfl rfl rfl rfl rfl mS_56 ?_
      exact eR rfl rfl ⟨rfl, rfl⟩
  refine eS rfl rfl ?_
  refine gGet hn rfl rfl rfl rfl ?_
  refine eS rfl rfl ?_
  refine eS rfl rfl ?_
  refine eS rfl rfl ?_
  refine gGet hn rfl rfl rfl rfl ?_
  refine eS rfl rfl ?_
  refine eS rfl rfl ?_
  refine eS rfl rfl ?_
  refine eP rfl (irem_ok (by decide)) ?_
  rw [e6]
  refine gV1 hn rfl rfl rfl rfl rfl ⟨catOk rfl, catOk rfl⟩ (m_sine hn hs (by omega)) ?_
  refine eP rfl (fmul_ok (n32_mul hf (gF_sin (by omega)))) ?_
  refine eP rfl (fadd_ok n1) ?_
  refine eS rfl rfl ?_
  refine eS rfl rfl ?_
  refine gGet hn rfl rfl rfl rfl ?_
  refine eS rfl rfl ?_
  refine eS rfl rfl ?_
  refine eS rfl rfl ?_
  refine gGet hn rfl rfl rfl rfl ?_
  refine gV1 hn rfl rfl rfl rfl rfl ⟨catOk rfl, catOk rfl⟩ (m_sine hn hs hh) ?_
  refine eP rfl (fmul_ok (n32_mul hf (gF_sin hh))) ?_
  refine eP rfl (fadd_ok n2) ?_
  refine eS rfl rfl ?_
  refine eS rfl rfl ?_
  refine eS rfl rfl ?_
  refine eS rfl rfl ?_
  refine eGt rfl rfl (fun z43 => ?_) (fun z43 => ?_)
  · exact bad (by rw [far_1 ((cv_gt (n32_nn n1) k1).mp z43)]; rfl)
  · refine eS rfl rfl ?_
    refine eS rfl rfl ?_
    refine eS rfl rfl ?_
    refine eLt rfl rfl (fun z51 => ?_) (fun z51 => ?_)
    · exact bad (by rw [far_2 ((cv_lt (n32_nn n1) k2).mp z51)]; rfl)
    · refine eS rfl rfl ?_
      refine eS rfl rfl ?_
      refine eS rfl rfl ?_
      refine eGt rfl rfl (fun z59 => ?_) (fun z59 => ?_)
      · exact bad (by rw [far_1 (f := nyA f y hd) ((cv_gt (n32_nn n2) k1).mp z59), Bool.or_true])
      · refine eS rfl rfl ?_
        refine eS rfl rfl ?_
        refine eS rfl rfl ?_
        refine eGe rfl rfl (fun z67 => ?_) (fun z67 => ?_)
        · exact good (by rw [far_0 (fun y => z43 ((cv_gt (n32_nn n1) k1).mpr y)) (fun y => z51 ((cv_lt (n32_nn n1) k2).mpr y)), far_0 (f := nyA f y hd) (fun y => z59 ((cv_gt (n32_nn n2) k1).mpr y)) ((cv_ge (n32_nn n2) k2).mp z67)]; rfl)
        · exact bad (by rw [far_2 (f := nyA f y hd) (Decidable.of_not_not (fun y => z67 ((cv_ge (n32_nn n2) k2).mpr y))), Bool.or_true])
theorem m_turn {o : Nat} (hn : 67 ≤ n) (hf : gF f) (hw : o = 20 ∨ o = 21 ∨ o = 22) (hh : hd < 24) : aE aM224 (d + 2) 0 [(0, .ref 56), (1, .int (Int32.ofNat o)), (2, .float f)] [] (gH scr kd n (mS S0 (mM w nn pc 0 hi un x y (Int32.ofNat hd) co dn) a77 a78 a79 a80 a81 (px.map Value.int) a83)) (aIs none (gH scr kd n (mS S0 (mM w nn pc (steerA o f hd co).1 hi un x y (Int32.ofNat (steerA o f hd co).2.1) (steerA o f hd co).2.2 dn) a77 a78 a79 a80 a81 (px.map Value.int) a83))) := by
  have ceq : cmpValue (FP.fcmp (FP.i2f (FP.f2i f)) f) .l = 0 ↔ FP.fcmp (FP.i2f (FP.f2i f)) f = some .eq := cv_eq i2f_nn hf.nn
  have hb := gF_f2i hf
  have c24 : (Int8.ofInt 24).toInt32 = Int32.ofNat 24 := rfl
  by_cases c0 : FP.fcmp (FP.i2f (FP.f2i f)) f = some .eq
  · rcases hw with rfl | rfl | rfl
    · have e : steerA 20 f hd co = (0, fmA (Int32.ofNat hd + FP.f2i f) 24, co) := by
        unfold steerA
        rw [if_neg (fun y => y.elim (fun y => y c0) (fun y => absurd y.1 (by decide)))]
        rfl
      rw [e]
      refine eS rfl rfl ?_
      refine eS rfl rfl ?_
      refine eS rfl rfl ?_
      refine eS rfl rfl ?_
      refine eS rfl rfl ?_
      refine eS rfl rfl ?_
      refine eS rfl rfl ?_
      refine eNe rfl rfl (fun z => absurd (ceq.mpr c0) z) (fun _ => ?_)
      refine eS rfl rfl ?_
      refine eS rfl rfl ?_
      refine eINe rfl rfl (fun _ => ?_) (fun z => absurd z (by decide))
      refine eS rfl rfl ?_
      refine eS rfl rfl ?_
      refine eINe rfl rfl (fun _ => ?_) (fun z => absurd z (by decide))
      refine eS rfl rfl ?_
      refine eS rfl rfl ?_
      refine eINe rfl rfl (fun z => absurd rfl z) (fun _ => ?_)
      refine eS rfl rfl ?_
      refine eS rfl rfl ?_
      refine eP rfl (irem_ok (by decide)) ?_
      refine eS rfl rfl ?_
      refine eS rfl rfl ?_
      refine eS rfl rfl ?_
      refine eS rfl rfl ?_
      refine gGet hn rfl rfl rfl rfl ?_
      refine eS rfl rfl ?_
      refine eS rfl rfl ?_
      refine eS rfl rfl ?_
      refine eS rfl rfl ?_
      refine eS rfl rfl ?_
      refine eP rfl (irem_ok (by decide)) ?_
      refine gPut hn rfl rfl rfl rfl rfl rfl rfl mS_56 ?_
      exact eR rfl rfl ⟨rfl, by rw [← turn_eq hh (by omega)]; rfl⟩
    · have e : steerA 21 f hd co = (0, fmA (Int32.ofNat hd + - FP.f2i f) 24, co) := by
        unfold steerA
        rw [if_neg (fun y => y.elim (fun y => y c0) (fun y => absurd y.1 (by decide)))]
        rfl
      have hb2 : (-FP.f2i f).toInt.natAbs ≤ 2 ^ 22 := by rw [Int32.toInt_neg, Int.bmod_eq_of_le (by omega) (by omega)]; omega
      rw [e]
      refine eS rfl rfl ?_
      refine eS rfl rfl ?_
      refine eS rfl rfl ?_
      refine eS rfl rfl ?_
      refine eS rfl rfl ?_
      refine eS rfl rfl ?_
      refine eS rfl rfl ?_
      refine eNe rfl rfl (fun z => absurd (ceq.mpr c0) z) (fun _ => ?_)
      refine eS rfl rfl ?_
      refine eS rfl rfl ?_
      refine eINe rfl rfl (fun _ => ?_) (fun z => absurd z (by decide))
      refine eS rfl rfl ?_
      refine eS rfl rfl ?_
      refine eINe rfl rfl (fun _ => ?_) (fun z => absurd z (by decide))
      refine eS rfl rfl ?_
      refine eS rfl rfl ?_
      refine eINe rfl rfl (fun _ => ?_) (fun z => absurd z (by decide))
      refine eS rfl rfl ?_
      refine eS rfl rfl ?_
      refine eINe rfl rfl (fun z => absurd rfl z) (fun _ => ?_)
      refine eS rfl rfl ?_
      refine eS rfl rfl ?_
      refine eP rfl (irem_ok (by decide)) ?_
      refine eS rfl rfl ?_
      refine eS rfl rfl ?_
      refine eS rfl rfl ?_
      refine eS rfl rfl ?_
      refine eS rfl rfl ?_
      refine gGet hn rfl rfl rfl rfl ?_
      refine eS rfl rfl ?_
      refine eS rfl rfl ?_
      refine eS rfl rfl ?_
      refine eS rfl rfl ?_
      refine eS rfl rfl ?_
      refine eP rfl (irem_ok (by decide)) ?_
      refine gPut hn rfl rfl rfl rfl rfl rfl rfl mS_56 ?_
      exact eR rfl rfl ⟨rfl, by rw [← turn_eq hh hb2, ← neg_rem (by omega)]; rfl⟩
    · have hh0 : (Int32.ofNat hd + Int32.ofInt 0 + (Int8.ofInt 24).toInt32) % (Int8.ofInt 24).toInt32 = Int32.ofNat hd := by
        rw [show Int32.ofNat hd + Int32.ofInt 0 + (Int8.ofInt 24).toInt32 = Int32.ofNat (hd + 24) by rw [c24, show Int32.ofInt 0 = Int32.ofNat 0 from rfl, ← Int32.ofNat_add, ← Int32.ofNat_add], c24, i32_rem (by omega) (by decide) (by decide), show (hd + 24) % 24 = hd by omega]
      by_cases c1 : FP.f2i f < 0 ∨ 9 < FP.f2i f
      · have e : steerA 22 f hd co = (13, hd, co) := if_pos (Or.inr ⟨rfl, c1.elim Or.inl (fun y => Or.inr (by rw [Int32.lt_iff_toInt_lt] at y; rw [Int32.le_iff_toInt_le]; have y : (9 : Int) < (FP.f2i f).toInt := y; show (10 : Int) ≤ (FP.f2i f).toInt; omega))⟩)
        rw [e]
        refine eS rfl rfl ?_
        refine eS rfl rfl ?_
        refine eS rfl rfl ?_
        refine eS rfl rfl ?_
        refine eS rfl rfl ?_
        refine eS rfl rfl ?_
        refine eS rfl rfl ?_
        refine eNe rfl rfl (fun z => absurd (ceq.mpr c0) z) (fun _ => ?_)
        refine eS rfl rfl ?_
        refine eS rfl rfl ?_
        refine eINe rfl rfl (fun z => absurd rfl z) (fun _ => ?_)
        refine eS rfl rfl ?_
        refine eS rfl rfl ?_
        refine eS rfl rfl ?_
        refine eC1 rfl rfl rfl ⟨catOk rfl, catOk rfl⟩ (s_outside _ (FP.f2i f) 0 9 _) ?_
        rw [outB_1 c1]
        refine eEq rfl rfl (fun z => absurd z (by decide)) (fun _ => ?_)
        refine eS rfl rfl ?_
        refine eS rfl rfl ?_
        refine gPut hn rfl rfl rfl rfl rfl rfl rfl mS_56 ?_
        exact eR rfl rfl ⟨rfl, rfl⟩
      · have e : steerA 22 f hd co = (0, hd, FP.f2i f) := by
          unfold steerA
          rw [if_neg (fun y => y.elim (fun y => y c0) (fun y => c1 (y.2.elim Or.inl (fun y => Or.inr (by rw [Int32.le_iff_toInt_le] at y; rw [Int32.lt_iff_toInt_lt]; have y : (10 : Int) ≤ (FP.f2i f).toInt := y; show (9 : Int) < (FP.f2i f).toInt; omega)))))]
          rfl
        rw [e]
        refine eS rfl rfl ?_
        refine eS rfl rfl ?_
        refine eS rfl rfl ?_
        refine eS rfl rfl ?_
        refine eS rfl rfl ?_
        refine eS rfl rfl ?_
        refine eS rfl rfl ?_
        refine eNe rfl rfl (fun z => absurd (ceq.mpr c0) z) (fun _ => ?_)
        refine eS rfl rfl ?_
        refine eS rfl rfl ?_
        refine eINe rfl rfl (fun z => absurd rfl z) (fun _ => ?_)
        refine eS rfl rfl ?_
        refine eS rfl rfl ?_
        refine eS rfl rfl ?_
        refine eC1 rfl rfl rfl ⟨catOk rfl, catOk rfl⟩ (s_outside _ (FP.f2i f) 0 9 _) ?_
        rw [outB_0 (fun y => c1 (Or.inl y)) (fun y => c1 (Or.inr y))]
        refine eEq rfl rfl (fun _ => ?_) (fun z => absurd rfl z)
        refine eS rfl rfl ?_
        refine eS rfl rfl ?_
        refine eINe rfl rfl (fun z => absurd rfl z) (fun _ => ?_)
        refine eS rfl rfl ?_
        refine eS rfl rfl ?_
        refine gPut hn rfl rfl rfl rfl rfl rfl rfl mS_56 ?_
        refine eS rfl rfl ?_
        refine eS rfl rfl ?_
        refine eINe rfl rfl (fun _ => ?_) (fun z => absurd z (by decide))
        refine eS rfl rfl ?_
        refine eS rfl rfl ?_
        refine eINe rfl rfl (fun _ => ?_) (fun z => absurd z (by decide))
        refine eS rfl rfl ?_
        refine eS rfl rfl ?_
        refine eS rfl rfl ?_
        refine eS rfl rfl ?_
        refine gGet hn rfl rfl rfl rfl ?_
        refine eS rfl rfl ?_
        refine eS rfl rfl ?_
        refine eS rfl rfl ?_
        refine eS rfl rfl ?_
        refine eS rfl rfl ?_
        refine eP rfl (irem_ok (by decide)) ?_
        rw [hh0]
        refine gPut hn rfl rfl rfl rfl rfl rfl rfl mS_56 ?_
        exact eR rfl rfl ⟨rfl, rfl⟩
  · have e : steerA o f hd co = (13, hd, co) := if_pos (Or.inl c0)
    rw [e]
    refine eS rfl rfl ?_
    refine eS rfl rfl ?_
    refine eS rfl rfl ?_
    refine eS rfl rfl ?_
    refine eS rfl rfl ?_
    refine eS rfl rfl ?_
    refine eS rfl rfl ?_
    refine eNe rfl rfl (fun _ => ?_) (fun z => absurd z (fun y => c0 (ceq.mp y)))
    refine eS rfl rfl ?_
    refine eS rfl rfl ?_
    refine gPut hn rfl rfl rfl rfl rfl rfl rfl mS_56 ?_
    exact eR rfl rfl ⟨rfl, rfl⟩
end MTUR
