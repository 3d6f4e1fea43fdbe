/-! what the model's machine reckons -/
def prgM (S : Nat → List Value) (N : Nat) (W : Nat → Nat) : Prop := N ≤ 240 ∧ ∀ j, j < N → (S 76)[j]? = some (.int (Int32.ofNat (W j)))
theorem i32_sub {a b : Nat} (h : b ≤ a) : Int32.ofNat a - Int32.ofNat b = Int32.ofNat (a - b) := (Int32.ofNat_sub a b h).symm
section MRECK
variable {scr : List Value} {kd : Nat → Nat} {n N : Nat} {S0 : Nat → List Value} {a77 a78 a79 a80 a81 a82 a83 g : List Value} {w : Nat → Value} {nn pcv en un hd co dn : Int32} {x y : UInt32} {d o pc cl k : Nat} {stk par vrs r : List UInt32} {f a b : UInt32} {v : Value} {h : aH} {W : Nat → Nat}
theorem m_calc (hn : 67 ≤ n) (hg : (b :: a :: r).length + g.length = 24) (ha : gF a) (hb : gF b) (hw : o = 6 ∨ o = 7 ∨ o = 8 ∨ o = 9) : ∃ hi' a77', a77'.length = 24 ∧ ((calcA o a b r).1 = 0 → hi' = Int32.ofNat (calcA o a b r).2.length ∧ ∃ g', a77' = fA (calcA o a b r).2 g') ∧
    aE aM215 d 0 [(0, .ref 56), (1, .int (Int32.ofNat o))] [] (gH scr kd n (mS S0 (mM w nn pcv 0 (Int32.ofNat (b :: a :: r).length) un x y hd co dn) (fA (b :: a :: r) g) a78 a79 a80 a81 a82 a83)) (aIs none (gH scr kd n (mS S0 (mM w nn pcv (calcA o a b r).1 hi' un x y hd co dn) a77' a78 a79 a80 a81 a82 a83))) := by
  have l24 : (fA (b :: a :: r) g).length = 24 := fA_len.trans hg
  have hl : r.length + 2 ≤ 24 := by simp at hg; omega
  have n1 : FP.Core.val32 1203982336 ≠ .nan := by decide +kernel
  have n2 : FP.Core.val32 3351465984 ≠ .nan := by decide +kernel
  have e1 : Int32.ofNat (b :: a :: r).length - Int32.ofInt 1 = Int32.ofNat (a :: r).length := i32_pre
  have e2 : Int32.ofNat (b :: a :: r).length - Int32.ofInt 2 = Int32.ofNat r.length := i32_sub (b := 2) (by simp)
  have g1 : (fA (b :: a :: r) g)[(a :: r).length]? = some (.float b) := by rw [fA_cons]; exact fA_get
  have g2 : (fA (b :: a :: r) g)[r.length]? = some (.float a) := by rw [fA_cons, fA_cons]; exact fA_get
  have tail : ∀ z : UInt32, aN32 z = true → (calcA o a b r) = (if FP.fcmp z 1203982336 = some .gt ∨ FP.fcmp z 3351465984 = some .lt then (12, r) else (0, z :: r)) → ∃ hi' a77', a77'.length = 24 ∧ ((calcA o a b r).1 = 0 → hi' = Int32.ofNat (calcA o a b r).2.length ∧ ∃ g', a77' = fA (calcA o a b r).2 g') ∧
    aE aM215 d 82 [(3, .float a), (2, .float b), (0, .ref 56), (1, .int (Int32.ofNat o))] [.float z] (gH scr kd n (mS S0 (mM w nn pcv 0 (Int32.ofNat (b :: a :: r).length) un x y hd co dn) (fA (b :: a :: r) g) a78 a79 a80 a81 a82 a83)) (aIs none (gH scr kd n (mS S0 (mM w nn pcv (calcA o a b r).1 hi' un x y hd co dn) a77' a78 a79 a80 a81 a82 a83))) := by
    intro z hz e
    have nz := n32_nn hz
    by_cases c1 : FP.fcmp z 1203982336 = some .gt ∨ FP.fcmp z 3351465984 = some .lt
    · rw [if_pos c1] at e
      rw [e]
      refine ⟨Int32.ofNat (b :: a :: r).length, fA (b :: a :: r) g, l24, fun q => absurd (show (12 : Int32) = 0 from q) (by decide), ?_⟩
      refine eS rfl rfl ?_
      refine eS rfl rfl ?_
      refine eS rfl rfl ?_
      refine eS rfl rfl ?_
      refine eGt rfl rfl (fun z90 => ?_) (fun z90 => ?_)
      · refine eS rfl rfl ?_
        refine eS rfl rfl ?_
        refine gPut hn rfl rfl rfl rfl rfl rfl rfl mS_56 ?_
        exact eR rfl rfl ⟨rfl, rfl⟩
      · refine eS rfl rfl ?_
        refine eS rfl rfl ?_
        refine eS rfl rfl ?_
        refine eGe rfl rfl (fun z => absurd (c1.resolve_left (fun y => z90 ((cv_gt nz n1).mpr y))) ((cv_ge nz n2).mp z)) (fun _ => ?_)
        refine eS rfl rfl ?_
        refine eS rfl rfl ?_
        refine gPut hn rfl rfl rfl rfl rfl rfl rfl mS_56 ?_
        exact eR rfl rfl ⟨rfl, rfl⟩
    · rw [if_neg c1] at e
      rw [e]
      have e3 : Int32.ofNat (a :: r).length - Int32.ofInt 1 = Int32.ofNat r.length := i32_pre
      have es : (fA (b :: a :: r) g).set r.length (.float z) = fA (z :: r) (.float b :: g) := by
        rw [fA_cons, fA_cons]
        exact fA_set
      refine ⟨Int32.ofNat (a :: r).length, fA (z :: r) (.float b :: g), by rw [fA_len]; simp at hg ⊢; omega, fun _ => ⟨rfl, _, rfl⟩, ?_⟩
      refine eS rfl rfl ?_
      refine eS rfl rfl ?_
      refine eS rfl rfl ?_
      refine eS rfl rfl ?_
      refine eGt rfl rfl (fun z => absurd (Or.inl ((cv_gt nz n1).mp z)) c1) (fun _ => ?_)
      refine eS rfl rfl ?_
      refine eS rfl rfl ?_
      refine eS rfl rfl ?_
      refine eGe rfl rfl (fun _ => ?_) (fun z => absurd ((cv_ge nz n2).mpr (fun y => c1 (Or.inr y))) z)
      refine eS rfl rfl ?_
      refine eS rfl rfl ?_
      refine gGet hn rfl rfl rfl rfl ?_
      refine eS rfl rfl ?_
      refine eS rfl rfl ?_
      rw [e1]
      refine gPut hn rfl rfl rfl rfl rfl rfl rfl mS_56 ?_
      refine eS rfl rfl ?_
      refine gGet hn rfl rfl rfl rfl ?_
      refine eS rfl rfl ?_
      refine gGet hn rfl rfl rfl rfl ?_
      refine eS rfl rfl ?_
      refine eS rfl rfl ?_
      rw [e3]
      refine eS rfl rfl ?_
      refine gWr3 hn rfl rfl rfl r.length (by omega) (by show r.length < (fA (b :: a :: r) g).length; omega) (mS_77.trans (congrArg (fun z => mS S0 _ z a78 a79 a80 a81 a82 a83) es)) ?_
      exact eR rfl rfl ⟨rfl, rfl⟩
  rcases hw with rfl | rfl | rfl | rfl
  · have nx : aN32 (FP.fadd a b) = true := arA_n32 (w := 6) ha hb (by omega) (by omega)
    obtain ⟨hi', a77', l, q, e⟩ := tail (FP.fadd a b) nx (by unfold calcA; rw [if_neg (by omega)]; rfl)
    refine ⟨hi', a77', l, q, ?_⟩
    refine eS rfl rfl ?_
    refine gGet hn rfl rfl rfl rfl ?_
    refine eS rfl rfl ?_
    refine gGet hn rfl rfl rfl rfl ?_
    refine eS rfl rfl ?_
    refine eS rfl rfl ?_
    rw [e1]
    refine gRd3 hn rfl rfl rfl (r.length + 1) (by omega) g1 ?_
    refine eS rfl rfl ?_
    refine eS rfl rfl ?_
    refine gGet hn rfl rfl rfl rfl ?_
    refine eS rfl rfl ?_
    refine gGet hn rfl rfl rfl rfl ?_
    refine eS rfl rfl ?_
    refine eS rfl rfl ?_
    rw [e2]
    refine gRd3 hn rfl rfl rfl r.length (by omega) g2 ?_
    refine eS rfl rfl ?_
    refine eS rfl rfl ?_
    refine eS rfl rfl ?_
    refine eINe rfl rfl (fun _ => ?_) (fun z => absurd z (by decide))
    refine eS rfl rfl ?_
    refine eS rfl rfl ?_
    refine eINe rfl rfl (fun z => absurd rfl z) (fun _ => ?_)
    refine eS rfl rfl ?_
    refine eS rfl rfl ?_
    refine eP rfl (fadd_ok nx) ?_
    refine eS rfl rfl ?_
    exact e
  · have nx : aN32 (FP.fsub a b) = true := arA_n32 (w := 7) ha hb (by omega) (by omega)
    obtain ⟨hi', a77', l, q, e⟩ := tail (FP.fsub a b) nx (by unfold calcA; rw [if_neg (by omega)]; rfl)
    refine ⟨hi', a77', l, q, ?_⟩
    refine eS rfl rfl ?_
    refine gGet hn rfl rfl rfl rfl ?_
    refine eS rfl rfl ?_
    refine gGet hn rfl rfl rfl rfl ?_
    refine eS rfl rfl ?_
    refine eS rfl rfl ?_
    rw [e1]
    refine gRd3 hn rfl rfl rfl (r.length + 1) (by omega) g1 ?_
    refine eS rfl rfl ?_
    refine eS rfl rfl ?_
    refine gGet hn rfl rfl rfl rfl ?_
    refine eS rfl rfl ?_
    refine gGet hn rfl rfl rfl rfl ?_
    refine eS rfl rfl ?_
    refine eS rfl rfl ?_
    rw [e2]
    refine gRd3 hn rfl rfl rfl r.length (by omega) g2 ?_
    refine eS rfl rfl ?_
    refine eS rfl rfl ?_
    refine eS rfl rfl ?_
    refine eINe rfl rfl (fun _ => ?_) (fun z => absurd z (by decide))
    refine eS rfl rfl ?_
    refine eS rfl rfl ?_
    refine eINe rfl rfl (fun _ => ?_) (fun z => absurd z (by decide))
    refine eS rfl rfl ?_
    refine eS rfl rfl ?_
    refine eINe rfl rfl (fun z => absurd rfl z) (fun _ => ?_)
    refine eS rfl rfl ?_
    refine eS rfl rfl ?_
    refine eP rfl (fsub_ok nx) ?_
    refine eS rfl rfl ?_
    exact e
  · have nx : aN32 (FP.fmul a b) = true := arA_n32 (w := 8) ha hb (by omega) (by omega)
    obtain ⟨hi', a77', l, q, e⟩ := tail (FP.fmul a b) nx (by unfold calcA; rw [if_neg (by omega)]; rfl)
    refine ⟨hi', a77', l, q, ?_⟩
    refine eS rfl rfl ?_
    refine gGet hn rfl rfl rfl rfl ?_
    refine eS rfl rfl ?_
    refine gGet hn rfl rfl rfl rfl ?_
    refine eS rfl rfl ?_
    refine eS rfl rfl ?_
    rw [e1]
    refine gRd3 hn rfl rfl rfl (r.length + 1) (by omega) g1 ?_
    refine eS rfl rfl ?_
    refine eS rfl rfl ?_
    refine gGet hn rfl rfl rfl rfl ?_
    refine eS rfl rfl ?_
    refine gGet hn rfl rfl rfl rfl ?_
    refine eS rfl rfl ?_
    refine eS rfl rfl ?_
    rw [e2]
    refine gRd3 hn rfl rfl rfl r.length (by omega) g2 ?_
    refine eS rfl rfl ?_
    refine eS rfl rfl ?_
    refine eS rfl rfl ?_
    refine eINe rfl rfl (fun _ => ?_) (fun z => absurd z (by decide))
    refine eS rfl rfl ?_
    refine eS rfl rfl ?_
    refine eINe rfl rfl (fun _ => ?_) (fun z => absurd z (by decide))
    refine eS rfl rfl ?_
    refine eS rfl rfl ?_
    refine eINe rfl rfl (fun _ => ?_) (fun z => absurd z (by decide))
    refine eS rfl rfl ?_
    refine eS rfl rfl ?_
    refine eINe rfl rfl (fun z => absurd rfl z) (fun _ => ?_)
    refine eS rfl rfl ?_
    refine eS rfl rfl ?_
    refine eP rfl (fmul_ok nx) ?_
    refine eS rfl rfl ?_
    exact e
  · by_cases c0 : FP.fcmp b 0 = some .eq
    · have e : calcA 9 a b r = (11, r) := if_pos ⟨rfl, c0⟩
      rw [e]
      refine ⟨Int32.ofNat (b :: a :: r).length, fA (b :: a :: r) g, l24, fun q => absurd (show (11 : Int32) = 0 from q) (by decide), ?_⟩
      refine eS rfl rfl ?_
      refine gGet hn rfl rfl rfl rfl ?_
      refine eS rfl rfl ?_
      refine gGet hn rfl rfl rfl rfl ?_
      refine eS rfl rfl ?_
      refine eS rfl rfl ?_
      rw [e1]
      refine gRd3 hn rfl rfl rfl (r.length + 1) (by omega) g1 ?_
      refine eS rfl rfl ?_
      refine eS rfl rfl ?_
      refine gGet hn rfl rfl rfl rfl ?_
      refine eS rfl rfl ?_
      refine gGet hn rfl rfl rfl rfl ?_
      refine eS rfl rfl ?_
      refine eS rfl rfl ?_
      rw [e2]
      refine gRd3 hn rfl rfl rfl r.length (by omega) g2 ?_
      refine eS rfl rfl ?_
      refine eS rfl rfl ?_
      refine eS rfl rfl ?_
      refine eINe rfl rfl (fun z => absurd rfl z) (fun _ => ?_)
      refine eS rfl rfl ?_
      refine eS rfl rfl ?_
      refine eS rfl rfl ?_
      refine eNe rfl rfl (fun z => absurd ((cv_eq hb.nn gF_0.nn).mpr c0) z) (fun _ => ?_)
      refine eS rfl rfl ?_
      refine eS rfl rfl ?_
      refine gPut hn rfl rfl rfl rfl rfl rfl rfl mS_56 ?_
      exact eR rfl rfl ⟨rfl, rfl⟩
    · have nx : aN32 (FP.fdiv a b) = true := arA_n32 (w := 9) ha hb (fun z => c0 z.2) (by omega)
      obtain ⟨hi', a77', l, q, e⟩ := tail (FP.fdiv a b) nx (by unfold calcA; rw [if_neg (fun z => c0 z.2)]; rfl)
      refine ⟨hi', a77', l, q, ?_⟩
      refine eS rfl rfl ?_
      refine gGet hn rfl rfl rfl rfl ?_
      refine eS rfl rfl ?_
      refine gGet hn rfl rfl rfl rfl ?_
      refine eS rfl rfl ?_
      refine eS rfl rfl ?_
      rw [e1]
      refine gRd3 hn rfl rfl rfl (r.length + 1) (by omega) g1 ?_
      refine eS rfl rfl ?_
      refine eS rfl rfl ?_
      refine gGet hn rfl rfl rfl rfl ?_
      refine eS rfl rfl ?_
      refine gGet hn rfl rfl rfl rfl ?_
      refine eS rfl rfl ?_
      refine eS rfl rfl ?_
      rw [e2]
      refine gRd3 hn rfl rfl rfl r.length (by omega) g2 ?_
      refine eS rfl rfl ?_
      refine eS rfl rfl ?_
      refine eS rfl rfl ?_
      refine eINe rfl rfl (fun z => absurd rfl z) (fun _ => ?_)
      refine eS rfl rfl ?_
      refine eS rfl rfl ?_
      refine eS rfl rfl ?_
      refine eNe rfl rfl (fun _ => ?_) (fun z => absurd z (fun y => c0 ((cv_eq hb.nn gF_0.nn).mp y)))
      refine eS rfl rfl ?_
      refine eS rfl rfl ?_
      refine eINe rfl rfl (fun _ => ?_) (fun z => absurd z (by decide))
      refine eS rfl rfl ?_
      refine eS rfl rfl ?_
      refine eINe rfl rfl (fun _ => ?_) (fun z => absurd z (by decide))
      refine eS rfl rfl ?_
      refine eS rfl rfl ?_
      refine eINe rfl rfl (fun _ => ?_) (fun z => absurd z (by decide))
      refine eS rfl rfl ?_
      refine eS rfl rfl ?_
      refine eP rfl (fdiv_ok nx) ?_
      exact e
theorem m_compare (hn : 67 ≤ n) (hs : r.length + 1 < 24) (ha : gF a) (hb : gF b) (hw : o < 2 ^ 31) : aE aM216 (d + 1) 0 [(0, .ref 56), (1, .int (Int32.ofNat o))] [] (gH scr kd n (mS S0 (mM w nn pcv en (Int32.ofNat (b :: a :: r).length) un x y hd co dn) (fA (b :: a :: r) g) a78 a79 a80 a81 a82 a83)) (aIs none (gH scr kd n (mS S0 (mM w nn pcv en (Int32.ofNat (oneF (cmpA o a b) :: r).length) un x y hd co dn) (fA (oneF (cmpA o a b) :: r) (.float b :: g)) a78 a79 a80 a81 a82 a83))) := by
  have kt : cmpA o a b = true → aE aM216 (d + 1) 47 [(3, .float a), (2, .float b), (0, .ref 56), (1, .int (Int32.ofNat o))] [.ref 56] (gH scr kd n (mS S0 (mM w nn pcv en (Int32.ofNat r.length) un x y hd co dn) (fA r (.float a :: .float b :: g)) a78 a79 a80 a81 a82 a83)) (aIs none (gH scr kd n (mS S0 (mM w nn pcv en (Int32.ofNat (oneF (cmpA o a b) :: r).length) un x y hd co dn) (fA (oneF (cmpA o a b) :: r) (.float b :: g)) a78 a79 a80 a81 a82 a83))) := by
    intro hc
    rw [hc]
    refine eS rfl rfl ?_
    refine eS rfl rfl ?_
    refine gV1 hn rfl rfl rfl rfl rfl ⟨catOk rfl, catOk rfl⟩ (m_push (stk := r) hn (by omega)) ?_
    exact eR rfl rfl ⟨rfl, rfl⟩
  have kf : cmpA o a b = false → aE aM216 (d + 1) 51 [(3, .float a), (2, .float b), (0, .ref 56), (1, .int (Int32.ofNat o))] [.ref 56] (gH scr kd n (mS S0 (mM w nn pcv en (Int32.ofNat r.length) un x y hd co dn) (fA r (.float a :: .float b :: g)) a78 a79 a80 a81 a82 a83)) (aIs none (gH scr kd n (mS S0 (mM w nn pcv en (Int32.ofNat (oneF (cmpA o a b) :: r).length) un x y hd co dn) (fA (oneF (cmpA o a b) :: r) (.float b :: g)) a78 a79 a80 a81 a82 a83))) := by
    intro hc
    rw [hc]
    refine eS rfl rfl ?_
    refine gV1 hn rfl rfl rfl rfl rfl ⟨catOk rfl, catOk rfl⟩ (m_push (stk := r) hn (by omega)) ?_
    exact eR rfl rfl ⟨rfl, rfl⟩
  refine eS rfl rfl ?_
  refine gV1 hn rfl rfl rfl rfl rfl ⟨catOk rfl, catOk rfl⟩ (m_pop (stk := a :: r) hn (by simp only [List.length_cons]; omega)) ?_
  refine eS rfl rfl ?_
  refine eS rfl rfl ?_
  refine gV1 hn rfl rfl rfl rfl rfl ⟨catOk rfl, catOk rfl⟩ (m_pop (stk := r) hn (by omega)) ?_
  refine eS rfl rfl ?_
  refine eS rfl rfl ?_
  refine eS rfl rfl ?_
  refine eS rfl rfl ?_
  refine eINe rfl rfl (fun z14 => ?_) (fun z14 => ?_)
  · refine eS rfl rfl ?_
    refine eS rfl rfl ?_
    refine eINe rfl rfl (fun z29 => ?_) (fun z29 => ?_)
    · refine eS rfl rfl ?_
      refine eS rfl rfl ?_
      refine eS rfl rfl ?_
      refine eNe rfl rfl (fun z44 => ?_) (fun z44 => ?_)
      · exact kf (by unfold cmpA; rw [if_neg (fun y : o = 11 => z14 (by rw [y]; rfl)), if_neg (fun y : o = 12 => z29 (by rw [y]; rfl)), decide_eq_false (fun y => z44 ((cv_eq ha.nn hb.nn).mpr y))])
      · exact kt (by unfold cmpA; rw [if_neg (fun y : o = 11 => z14 (by rw [y]; rfl)), if_neg (fun y : o = 12 => z29 (by rw [y]; rfl)), decide_eq_true ((cv_eq ha.nn hb.nn).mp z44)])
    · refine eS rfl rfl ?_
      refine eS rfl rfl ?_
      refine eS rfl rfl ?_
      refine eLe rfl rfl (fun z35 => ?_) (fun z35 => ?_)
      · exact kf (by unfold cmpA; rw [if_neg (fun y : o = 11 => z14 (by rw [y]; rfl)), if_pos ((i32_eq (a := o) (b := 12) hw (by decide)).mp z29), decide_eq_false ((cv_le ha.nn hb.nn).mp z35)])
      · refine eS rfl rfl ?_
        exact kt (by unfold cmpA; rw [if_neg (fun y : o = 11 => z14 (by rw [y]; rfl)), if_pos ((i32_eq (a := o) (b := 12) hw (by decide)).mp z29), decide_eq_true (Decidable.of_not_not (fun y => z35 ((cv_le ha.nn hb.nn).mpr y)))])
  · refine eS rfl rfl ?_
    refine eS rfl rfl ?_
    refine eS rfl rfl ?_
    refine eGe rfl rfl (fun z20 => ?_) (fun z20 => ?_)
    · exact kf (by unfold cmpA; rw [if_pos ((i32_eq (a := o) (b := 11) hw (by decide)).mp z14), decide_eq_false ((cv_ge ha.nn hb.nn).mp z20)])
    · refine eS rfl rfl ?_
      exact kt (by unfold cmpA; rw [if_pos ((i32_eq (a := o) (b := 11) hw (by decide)).mp z14), decide_eq_true (Decidable.of_not_not (fun y => z20 ((cv_ge ha.nn hb.nn).mpr y)))])
theorem mS_76 : mS S0 (mM w nn pcv en un un x y hd co dn) a77 a78 a79 a80 a81 a82 a83 76 = S0 76 := rfl
/-- what read gives -/
def rdA (W : Nat → Nat) (pc cl : Nat) (par vrs : List UInt32) : UInt32 := if W pc = 1 then numA (W (pc + 1)) (W (pc + 2)) else if W pc = 2 then vrs.getD (W (pc + 1)) 0 else par.getD (3 * (cl - 1) + W (pc + 1)) 0
theorem m_read {hi : Int32} (hn : 67 ≤ n) (hP : prgM S0 N W) (hp : par.length = 9) (hv : vrs.length = 8) (ho : (W pc = 1 ∧ W (pc + 1) ≤ 2 ^ 20 ∧ W (pc + 2) ≤ 2 ∧ pc + 2 < N) ∨ (W pc = 2 ∧ W (pc + 1) < 8 ∧ pc + 1 < N) ∨ (W pc = 3 ∧ 1 ≤ cl ∧ cl ≤ 3 ∧ W (pc + 1) < 3 ∧ pc + 1 < N)) :
    aE aM213 d 0 [(0, .ref 56), (1, .int (Int32.ofNat (W pc)))] [] (gH scr kd n (mS S0 (mM w nn (Int32.ofNat pc) en hi (Int32.ofNat cl) x y hd co dn) a77 (par.map Value.float) a79 a80 (vrs.map Value.float) a82 a83)) (aIs (some (.float (rdA W pc cl par vrs))) (gH scr kd n (mS S0 (mM w nn (Int32.ofNat pc) en hi (Int32.ofNat cl) x y hd co dn) a77 (par.map Value.float) a79 a80 (vrs.map Value.float) a82 a83))) := by
  have hN := hP.1
  have p1 : Int32.ofNat pc + Int32.ofInt 1 = Int32.ofNat (pc + 1) := i32_succ
  have p2 : Int32.ofNat pc + Int32.ofInt 2 = Int32.ofNat (pc + 2) := (Int32.ofNat_add ..).symm
  rcases ho with ⟨o, k1, k2, hj⟩ | ⟨o, k1, hj⟩ | ⟨o, c1, c2, k1, hj⟩
  · have hk' : (Int32.ofNat (W (pc + 1))).toInt.natAbs ≤ 2 ^ 20 := by rw [Int32.toInt_ofNat_small (by omega)]; omega
    have er : rdA W pc cl par vrs = numA (W (pc + 1)) (W (pc + 2)) := if_pos o
    rw [er, o]
    have hv2 : W (pc + 2) = 0 ∨ W (pc + 2) = 1 ∨ W (pc + 2) = 2 := by omega
    have g2 := hP.2 (pc + 2) hj
    rcases hv2 with v2 | v2 | v2
    · rw [v2] at g2 ⊢
      refine eS rfl rfl ?_
      refine eS rfl rfl ?_
      refine eINe rfl rfl (fun z => absurd rfl z) (fun _ => ?_)
      refine eS rfl rfl ?_
      refine gGet hn rfl rfl rfl rfl ?_
      refine eS rfl rfl ?_
      refine gGet hn rfl rfl rfl rfl ?_
      refine eS rfl rfl ?_
      refine eS rfl rfl ?_
      rw [p1]
      refine gRd0 hn rfl rfl rfl (pc + 1) (by omega) (hP.2 (pc + 1) (by omega)) ?_
      refine eS rfl rfl ?_
      refine eS rfl rfl ?_
      refine gGet hn rfl rfl rfl rfl ?_
      refine eS rfl rfl ?_
      refine gGet hn rfl rfl rfl rfl ?_
      refine eS rfl rfl ?_
      refine eS rfl rfl ?_
      rw [p2]
      refine gRd0 hn rfl rfl rfl (pc + 2) (by omega) g2 ?_
      refine eNe rfl rfl (fun z => absurd rfl z) (fun _ => ?_)
      refine eS rfl rfl ?_
      refine eS rfl rfl ?_
      refine eP rfl (fdiv_ok (by rw [fdiv_1 hk']; exact n32_of ((FP.Core.notNaN_iff32 _).mpr i2f_nn))) ?_
      exact eR rfl rfl ⟨congrArg (fun z => Sum.inl (some (Value.float z))) (fdiv_1 hk'), rfl⟩
    · rw [v2] at g2 ⊢
      refine eS rfl rfl ?_
      refine eS rfl rfl ?_
      refine eINe rfl rfl (fun z => absurd rfl z) (fun _ => ?_)
      refine eS rfl rfl ?_
      refine gGet hn rfl rfl rfl rfl ?_
      refine eS rfl rfl ?_
      refine gGet hn rfl rfl rfl rfl ?_
      refine eS rfl rfl ?_
      refine eS rfl rfl ?_
      rw [p1]
      refine gRd0 hn rfl rfl rfl (pc + 1) (by omega) (hP.2 (pc + 1) (by omega)) ?_
      refine eS rfl rfl ?_
      refine eS rfl rfl ?_
      refine gGet hn rfl rfl rfl rfl ?_
      refine eS rfl rfl ?_
      refine gGet hn rfl rfl rfl rfl ?_
      refine eS rfl rfl ?_
      refine eS rfl rfl ?_
      rw [p2]
      refine gRd0 hn rfl rfl rfl (pc + 2) (by omega) g2 ?_
      refine eNe rfl rfl (fun _ => ?_) (fun z => absurd z (by decide))
      refine eS rfl rfl ?_
      refine gGet hn rfl rfl rfl rfl ?_
      refine eS rfl rfl ?_
      refine gGet hn rfl rfl rfl rfl ?_
      refine eS rfl rfl ?_
      refine eS rfl rfl ?_
      rw [p2]
      refine gRd0 hn rfl rfl rfl (pc + 2) (by omega) g2 ?_
      refine eS rfl rfl ?_
      refine eINe rfl rfl (fun z => absurd rfl z) (fun _ => ?_)
      refine eS rfl rfl ?_
      refine eS rfl rfl ?_
      refine eP rfl (fdiv_ok (n32_of ((FP.Core.notNaN_iff32 _).mpr (gF_num hk' (Or.inl rfl)).nn))) ?_
      exact eR rfl rfl ⟨rfl, rfl⟩
    · rw [v2] at g2 ⊢
      refine eS rfl rfl ?_
      refine eS rfl rfl ?_
      refine eINe rfl rfl (fun z => absurd rfl z) (fun _ => ?_)
      refine eS rfl rfl ?_
      refine gGet hn rfl rfl rfl rfl ?_
      refine eS rfl rfl ?_
      refine gGet hn rfl rfl rfl rfl ?_
      refine eS rfl rfl ?_
      refine eS rfl rfl ?_
      rw [p1]
      refine gRd0 hn rfl rfl rfl (pc + 1) (by omega) (hP.2 (pc + 1) (by omega)) ?_
      refine eS rfl rfl ?_
      refine eS rfl rfl ?_
      refine gGet hn rfl rfl rfl rfl ?_
      refine eS rfl rfl ?_
      refine gGet hn rfl rfl rfl rfl ?_
      refine eS rfl rfl ?_
      refine eS rfl rfl ?_
      rw [p2]
      refine gRd0 hn rfl rfl rfl (pc + 2) (by omega) g2 ?_
      refine eNe rfl rfl (fun _ => ?_) (fun z => absurd z (by decide))
      refine eS rfl rfl ?_
      refine gGet hn rfl rfl rfl rfl ?_
      refine eS rfl rfl ?_
      refine gGet hn rfl rfl rfl rfl ?_
      refine eS rfl rfl ?_
      refine eS rfl rfl ?_
      rw [p2]
      refine gRd0 hn rfl rfl rfl (pc + 2) (by omega) g2 ?_
      refine eS rfl rfl ?_
      refine eINe rfl rfl (fun _ => ?_) (fun z => absurd z (by decide))
      refine eS rfl rfl ?_
      refine eP rfl (fdiv_ok (n32_of ((FP.Core.notNaN_iff32 _).mpr (gF_num hk' (Or.inr rfl)).nn))) ?_
      exact eR rfl rfl ⟨rfl, rfl⟩
  · have er : rdA W pc cl par vrs = vrs.getD (W (pc + 1)) 0 := by
      unfold rdA
      rw [if_neg (by omega), if_pos o]
    rw [er, o]
    refine eS rfl rfl ?_
    refine eS rfl rfl ?_
    refine eINe rfl rfl (fun _ => ?_) (fun z => absurd z (by decide))
    refine eS rfl rfl ?_
    refine eS rfl rfl ?_
    refine eINe rfl rfl (fun z => absurd rfl z) (fun _ => ?_)
    refine eS rfl rfl ?_
    refine gGet hn rfl rfl rfl rfl ?_
    refine eS rfl rfl ?_
    refine gGet hn rfl rfl rfl rfl ?_
    refine eS rfl rfl ?_
    refine gGet hn rfl rfl rfl rfl ?_
    refine eS rfl rfl ?_
    refine eS rfl rfl ?_
    rw [p1]
    refine gRd0 hn rfl rfl rfl (pc + 1) (by omega) (hP.2 (pc + 1) (by omega)) ?_
    refine gRd3 hn rfl rfl rfl (W (pc + 1)) (by omega) (fl_get (by omega)) ?_
    refine eS rfl rfl ?_
    exact eR rfl rfl ⟨rfl, rfl⟩
  · obtain ⟨c, rfl⟩ : ∃ c, cl = c + 1 := ⟨cl - 1, by omega⟩
    have er : rdA W pc (c + 1) par vrs = par.getD (3 * c + W (pc + 1)) 0 := by
      unfold rdA
      rw [if_neg (by omega), if_neg (by omega)]
      rfl
    have e3 : Int32.ofInt 3 * Int32.ofNat (c + 1) - Int32.ofInt 3 = Int32.ofNat (3 * c) := by
      rw [show Int32.ofInt 3 * Int32.ofNat (c + 1) = Int32.ofNat (3 * (c + 1)) from i32_mul (a := 3), show Int32.ofInt 3 = Int32.ofNat 3 from rfl, i32_sub (by omega)]
      congr 1
    rw [er, o]
    refine eS rfl rfl ?_
    refine eS rfl rfl ?_
    refine eINe rfl rfl (fun _ => ?_) (fun z => absurd z (by decide))
    refine eS rfl rfl ?_
    refine eS rfl rfl ?_
    refine eINe rfl rfl (fun _ => ?_) (fun z => absurd z (by decide))
    refine eS rfl rfl ?_
    refine gGet hn rfl rfl rfl rfl ?_
    refine eS rfl rfl ?_
    refine eS rfl rfl ?_
    refine gGet hn rfl rfl rfl rfl ?_
    refine eS rfl rfl ?_
    refine eS rfl rfl ?_
    refine eS rfl rfl ?_
    rw [e3]
    refine eS rfl rfl ?_
    refine gGet hn rfl rfl rfl rfl ?_
    refine eS rfl rfl ?_
    refine gGet hn rfl rfl rfl rfl ?_
    refine eS rfl rfl ?_
    refine eS rfl rfl ?_
    rw [p1]
    refine gRd0 hn rfl rfl rfl (pc + 1) (by omega) (hP.2 (pc + 1) (by omega)) ?_
    refine eS rfl rfl ?_
    rw [← Int32.ofNat_add]
    refine gRd3 hn rfl rfl rfl (3 * c + W (pc + 1)) (by omega) (fl_get (by omega)) ?_
    exact eR rfl rfl ⟨rfl, rfl⟩
end MRECK
