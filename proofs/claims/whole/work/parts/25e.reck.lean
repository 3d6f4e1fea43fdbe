/-! what the machine reckons -/
def pushA (f : UInt32) (stk : List UInt32) : Int32 × List UInt32 := if stk.length = 24 then (15, stk) else (0, f :: stk)
def arA (w : Nat) (a b : UInt32) : UInt32 := if w = 6 then FP.fadd a b else if w = 7 then FP.fsub a b else if w = 8 then FP.fmul a b else FP.fdiv a b
def calcA (w : Nat) (a b : UInt32) (stk : List UInt32) : Int32 × List UInt32 := if w = 9 ∧ FP.fcmp b 0 = some .eq then (11, stk) else if FP.fcmp (arA w a b) 1203982336 = some .gt ∨ FP.fcmp (arA w a b) 3351465984 = some .lt then (12, stk) else (0, arA w a b :: stk)
def cmpA (w : Nat) (a b : UInt32) : Bool := if w = 11 then decide (FP.fcmp a b = some .lt) else if w = 12 then decide (FP.fcmp a b = some .gt) else decide (FP.fcmp a b = some .eq)
def oneF (b : Bool) : UInt32 := if b then 1065353216 else 0
def numA (k b : Nat) : UInt32 := if b = 1 then FP.fdiv (FP.i2f (Int32.ofNat k)) 1092616192 else if b = 2 then FP.fdiv (FP.i2f (Int32.ofNat k)) 1120403456 else FP.i2f (Int32.ofNat k)
theorem arA_n32 {w : Nat} {a b : UInt32} (ha : gF a) (hb : gF b) (h : ¬ (w = 9 ∧ FP.fcmp b 0 = some .eq)) (hw : w = 6 ∨ w = 7 ∨ w = 8 ∨ w = 9) : aN32 (arA w a b) = true := by
  rcases hw with rfl | rfl | rfl | rfl
  · exact n32_add (n32_of ((FP.Core.notNaN_iff32 a).mpr ha.nn)) hb.fin
  · exact n32_sub ha hb
  · exact n32_mul ha hb
  · exact n32_div ha hb (fun z => h ⟨rfl, z⟩)
theorem gF_0 : gF 0 := by unfold gF; decide
theorem gF_1 : gF 1065353216 := by unfold gF; decide
theorem gF_one {b : Bool} : gF (oneF b) := by
  cases b
  · exact gF_0
  · exact gF_1
theorem gF_numA {k b : Nat} (hk : k ≤ 2 ^ 20) : gF (numA k b) := by
  have h : (Int32.ofNat k).toInt.natAbs ≤ 2 ^ 20 := by rw [Int32.toInt_ofNat_small (by omega)]; omega
  unfold numA
  split
  · exact gF_num h (Or.inl rfl)
  split
  · exact gF_num h (Or.inr rfl)
  · exact Nat.lt_of_le_of_lt (gF_i2f h) (by decide)
theorem fadd_ok {x y : UInt32} {v : Value} {r : List Value} (h : aN32 (FP.fadd x y) = true) : aPure .fadd v (.float y :: .float x :: r) = some (.float (FP.fadd x y) :: r) := by
  show (if aN32 (FP.fadd x y) then some (Value.float (FP.fadd x y) :: r) else none) = _
  rw [if_pos h]
theorem fsub_ok {x y : UInt32} {v : Value} {r : List Value} (h : aN32 (FP.fsub x y) = true) : aPure .fsub v (.float y :: .float x :: r) = some (.float (FP.fsub x y) :: r) := by
  show (if aN32 (FP.fsub x y) then some (Value.float (FP.fsub x y) :: r) else none) = _
  rw [if_pos h]
theorem fmul_ok {x y : UInt32} {v : Value} {r : List Value} (h : aN32 (FP.fmul x y) = true) : aPure .fmul v (.float y :: .float x :: r) = some (.float (FP.fmul x y) :: r) := by
  show (if aN32 (FP.fmul x y) then some (Value.float (FP.fmul x y) :: r) else none) = _
  rw [if_pos h]
theorem fdiv_ok {x y : UInt32} {v : Value} {r : List Value} (h : aN32 (FP.fdiv x y) = true) : aPure .fdiv v (.float y :: .float x :: r) = some (.float (FP.fdiv x y) :: r) := by
  show (if aN32 (FP.fdiv x y) then some (Value.float (FP.fdiv x y) :: r) else none) = _
  rw [if_pos h]
section CRECK
variable {scr : List Value} {kd : Nat → Nat} {n : Nat} {S0 : Nat → List Value} {a35 a36 a37 a38 a39 a40 a41 a42 a43 a44 g : List Value} {cl pc an : Int32} {d w k : Nat} {stk : List UInt32} {f a b x : UInt32} {v : Value} {h : aH}
theorem c_number (hk : k ≤ 2 ^ 20) {bh : Nat} (hb : bh < 2 ^ 31) : aE aM145 d 0 [(0, .int (Int32.ofNat k)), (1, .int (Int32.ofNat bh))] [] h (aIs (some (.float (numA k bh))) h) := by
  have hk' : (Int32.ofNat k).toInt.natAbs ≤ 2 ^ 20 := by rw [Int32.toInt_ofNat_small (by omega)]; omega
  have hs : aBr (.lookupswitch 39 #[(1, 27), (2, 33)]) 1 [.int (Int32.ofNat bh)] = some (if bh = 1 then 28 else if bh = 2 then 34 else 40, []) := by
    show (aTgt 1 (Op.lookupswitch.offset [(1, 27), (2, 33)] 39 (Int32.ofNat bh).toInt)).map (fun t => (t, ([] : List Value))) = _
    rw [Int32.toInt_ofNat_small hb]
    by_cases e1 : bh = 1
    · subst e1; rfl
    by_cases e2 : bh = 2
    · subst e2; rfl
    rw [if_neg e1, if_neg e2]
    have : Op.lookupswitch.offset [(1, 27), (2, 33)] 39 (bh : Int) = 39 := by
      simp [Op.lookupswitch.offset]
      omega
    rw [this]
    rfl
  refine eS rfl rfl ?_
  refine eB rfl rfl rfl hs ?_
  unfold numA
  by_cases e1 : bh = 1
  · rw [if_pos e1, if_pos e1]

    refine eS rfl rfl ?_
    refine eS rfl rfl ?_
    refine eS rfl rfl ?_
    refine eP rfl (fdiv_ok (n32_of ((FP.Core.notNaN_iff32 _).mpr (gF_num hk' (Or.inl rfl)).nn))) ?_
    exact eR rfl rfl ⟨rfl, rfl⟩
  by_cases e2 : bh = 2
  · rw [if_neg e1, if_neg e1, if_pos e2, if_pos e2]
    refine eS rfl rfl ?_
    refine eS rfl rfl ?_
    refine eS rfl rfl ?_
    refine eP rfl (fdiv_ok (n32_of ((FP.Core.notNaN_iff32 _).mpr (gF_num hk' (Or.inr rfl)).nn))) ?_
    exact eR rfl rfl ⟨rfl, rfl⟩
  · rw [if_neg e1, if_neg e1, if_neg e2, if_neg e2]
    refine eS rfl rfl ?_
    refine eS rfl rfl ?_
    exact eR rfl rfl ⟨rfl, rfl⟩
theorem c_calc_tail (hn : 67 ≤ n) (hs : stk.length < 24) (hx : aN32 x = true) {l : aLc} {r : Int32 × List UInt32} (hr : r = if FP.fcmp x 1203982336 = some .gt ∨ FP.fcmp x 3351465984 = some .lt then (12, stk) else (0, x :: stk)) (hg : 1 ≤ g.length) : ∃ g', r.2.length + g'.length = stk.length + g.length ∧ aE aM147 (d + 1) 82 ((4, .float x) :: (3, .float a) :: (2, .float b) :: (0, .ref 35) :: l) [] (gH scr kd n (cS S0 (kM (Int32.ofNat stk.length) cl pc 0) (fA stk g) a37 a38 a39 a40 a41 a42 a43 a44)) (aIs none (gH scr kd n (cS S0 (kM (Int32.ofNat r.2.length) cl pc r.1) (fA r.2 g') a37 a38 a39 a40 a41 a42 a43 a44))) := by
  have n1 : FP.Core.val32 1203982336 ≠ .nan := by decide +kernel
  have n2 : FP.Core.val32 3351465984 ≠ .nan := by decide +kernel
  have nx := n32_nn hx
  obtain ⟨v, g', rfl⟩ : ∃ v g', g = v :: g' := by cases g with | nil => simp at hg | cons v g' => exact ⟨v, g', rfl⟩
  by_cases c1 : FP.fcmp x 1203982336 = some .gt ∨ FP.fcmp x 3351465984 = some .lt
  · rw [if_pos c1] at hr
    subst hr
    refine ⟨v :: g', rfl, ?_⟩
    refine eS rfl rfl ?_
    refine eS rfl rfl ?_
    refine eS rfl rfl ?_
    refine eGt rfl rfl (fun z87 => ?_) (fun z87 => ?_)
    · refine eS rfl rfl ?_
      refine eS rfl rfl ?_
      refine gPut hn rfl rfl rfl rfl rfl rfl rfl cS_35 ?_
      exact eR rfl rfl ⟨rfl, rfl⟩
    · refine eS rfl rfl ?_
      refine eS rfl rfl ?_
      refine eS rfl rfl ?_
      refine eGe rfl rfl (fun z => absurd (c1.resolve_left (fun y => z87 ((cv_gt nx n1).mpr y))) ((cv_ge nx n2).mp z)) (fun _ => ?_)
      refine eS rfl rfl ?_
      refine eS rfl rfl ?_
      refine gPut hn rfl rfl rfl rfl rfl rfl rfl cS_35 ?_
      exact eR rfl rfl ⟨rfl, rfl⟩
  · rw [if_neg c1] at hr
    subst hr
    refine ⟨g', by simp; omega, ?_⟩
    refine eS rfl rfl ?_
    refine eS rfl rfl ?_
    refine eS rfl rfl ?_
    refine eGt rfl rfl (fun z => absurd (Or.inl ((cv_gt nx n1).mp z)) c1) (fun _ => ?_)
    refine eS rfl rfl ?_
    refine eS rfl rfl ?_
    refine eS rfl rfl ?_
    refine eGe rfl rfl (fun _ => ?_) (fun z => absurd ((cv_ge nx n2).mpr (fun y => c1 (Or.inr y))) z)
    refine eS rfl rfl ?_
    refine eS rfl rfl ?_
    refine gV1 hn rfl rfl rfl rfl rfl ⟨catOk rfl, catOk rfl⟩ (c_push (stk := stk) hn hs) ?_
    exact eR rfl rfl ⟨rfl, rfl⟩
theorem c_calc (hn : 67 ≤ n) (hs : stk.length + 1 < 24) (ha : gF a) (hb : gF b) (hw : w = 6 ∨ w = 7 ∨ w = 8 ∨ w = 9) : ∃ g', (calcA w a b stk).2.length + g'.length = (b :: a :: stk).length + g.length ∧ aE aM147 (d + 1) 0 [(0, .ref 35), (1, .int (Int32.ofNat w))] [] (gH scr kd n (cS S0 (kM (Int32.ofNat (b :: a :: stk).length) cl pc 0) (fA (b :: a :: stk) g) a37 a38 a39 a40 a41 a42 a43 a44)) (aIs none (gH scr kd n (cS S0 (kM (Int32.ofNat (calcA w a b stk).2.length) cl pc (calcA w a b stk).1) (fA (calcA w a b stk).2 g') a37 a38 a39 a40 a41 a42 a43 a44))) := by
  have key : ∃ g', (calcA w a b stk).2.length + g'.length = stk.length + (Value.float a :: .float b :: g).length ∧ aE aM147 (d + 1) 13 [(4, .float 0), (3, .float a), (2, .float b), (0, .ref 35), (1, .int (Int32.ofNat w))] [] (gH scr kd n (cS S0 (kM (Int32.ofNat stk.length) cl pc 0) (fA stk (.float a :: .float b :: g)) a37 a38 a39 a40 a41 a42 a43 a44)) (aIs none (gH scr kd n (cS S0 (kM (Int32.ofNat (calcA w a b stk).2.length) cl pc (calcA w a b stk).1) (fA (calcA w a b stk).2 g') a37 a38 a39 a40 a41 a42 a43 a44))) := by
    rcases hw with rfl | rfl | rfl | rfl
    · have nx : aN32 (FP.fadd a b) = true := arA_n32 (w := 6) ha hb (by omega) (by omega)
      obtain ⟨g', g1, e⟩ := c_calc_tail (d := d) (stk := stk) (scr := scr) (kd := kd) (S0 := S0) (a37 := a37) (a38 := a38) (a39 := a39) (a40 := a40) (a41 := a41) (a42 := a42) (a43 := a43) (a44 := a44) (cl := cl) (pc := pc) (a := a) (b := b) (l := [(1, .int (Int32.ofNat 6))]) (g := .float a :: .float b :: g) (r := calcA 6 a b stk) hn (by omega) nx (by unfold calcA; rw [if_neg (by omega)]; rfl) (by simp)
      refine ⟨g', g1, ?_⟩
      refine eS rfl rfl ?_
      refine eS rfl rfl ?_
      refine eS rfl rfl ?_
      refine eS rfl rfl ?_
      refine eP rfl (fadd_ok nx) ?_
      refine eS rfl rfl ?_
      refine eS rfl rfl ?_
      exact e
    
    · have nx : aN32 (FP.fsub a b) = true := arA_n32 (w := 7) ha hb (by omega) (by omega)
      obtain ⟨g', g1, e⟩ := c_calc_tail (d := d) (stk := stk) (scr := scr) (kd := kd) (S0 := S0) (a37 := a37) (a38 := a38) (a39 := a39) (a40 := a40) (a41 := a41) (a42 := a42) (a43 := a43) (a44 := a44) (cl := cl) (pc := pc) (a := a) (b := b) (l := [(1, .int (Int32.ofNat 7))]) (g := .float a :: .float b :: g) (r := calcA 7 a b stk) hn (by omega) nx (by unfold calcA; rw [if_neg (by omega)]; rfl) (by simp)
      refine ⟨g', g1, ?_⟩
      refine eS rfl rfl ?_
      refine eS rfl rfl ?_
      refine eS rfl rfl ?_
      refine eS rfl rfl ?_
      refine eP rfl (fsub_ok nx) ?_
      refine eS rfl rfl ?_
      refine eS rfl rfl ?_
      exact e
    
    · have nx : aN32 (FP.fmul a b) = true := arA_n32 (w := 8) ha hb (by omega) (by omega)
      obtain ⟨g', g1, e⟩ := c_calc_tail (d := d) (stk := stk) (scr := scr) (kd := kd) (S0 := S0) (a37 := a37) (a38 := a38) (a39 := a39) (a40 := a40) (a41 := a41) (a42 := a42) (a43 := a43) (a44 := a44) (cl := cl) (pc := pc) (a := a) (b := b) (l := [(1, .int (Int32.ofNat 8))]) (g := .float a :: .float b :: g) (r := calcA 8 a b stk) hn (by omega) nx (by unfold calcA; rw [if_neg (by omega)]; rfl) (by simp)
      refine ⟨g', g1, ?_⟩
      refine eS rfl rfl ?_
      refine eS rfl rfl ?_
      refine eS rfl rfl ?_
      refine eS rfl rfl ?_
      refine eP rfl (fmul_ok nx) ?_
      refine eS rfl rfl ?_
      refine eS rfl rfl ?_
      exact e
    · by_cases c0 : FP.fcmp b 0 = some .eq
      · refine ⟨.float a :: .float b :: g, by unfold calcA; rw [if_pos ⟨rfl, c0⟩], ?_⟩
        unfold calcA
        rw [if_pos ⟨rfl, c0⟩]
        refine eS rfl rfl ?_
        refine eS rfl rfl ?_
        refine eS rfl rfl ?_
        refine eS rfl rfl ?_
        refine eS rfl rfl ?_
        refine eNe rfl rfl (fun z => absurd ((cv_eq hb.nn gF_0.nn).mpr c0) z) (fun _ => ?_)
        refine eS rfl rfl ?_
        refine eS rfl rfl ?_
        refine gPut hn rfl rfl rfl rfl rfl rfl rfl cS_35 ?_
        exact eR rfl rfl ⟨rfl, rfl⟩
      · have nx : aN32 (FP.fdiv a b) = true := arA_n32 (w := 9) ha hb (fun z => c0 z.2) (by omega)
        obtain ⟨g', g1, e⟩ := c_calc_tail (d := d) (stk := stk) (scr := scr) (kd := kd) (S0 := S0) (a37 := a37) (a38 := a38) (a39 := a39) (a40 := a40) (a41 := a41) (a42 := a42) (a43 := a43) (a44 := a44) (cl := cl) (pc := pc) (a := a) (b := b) (l := [(1, .int (Int32.ofNat 9))]) (g := .float a :: .float b :: g) (r := calcA 9 a b stk) hn (by omega) nx (by unfold calcA; rw [if_neg (fun z => c0 z.2)]; rfl) (by simp)
        refine ⟨g', g1, ?_⟩
        refine eS rfl rfl ?_
        refine eS rfl rfl ?_
        refine eS rfl rfl ?_
        refine eS rfl rfl ?_
        refine eS rfl rfl ?_
        refine eNe rfl rfl (fun _ => ?_) (fun z => absurd z (fun y => c0 ((cv_eq hb.nn gF_0.nn).mp y)))
        refine eS rfl rfl ?_
        refine eS rfl rfl ?_
        refine eP rfl (fdiv_ok nx) ?_
        refine eS rfl rfl ?_
        exact e
  obtain ⟨g', g1, e⟩ := key
  refine ⟨g', by rw [g1]; simp; omega, ?_⟩
  refine eS rfl rfl ?_
  refine gV1 hn rfl rfl rfl rfl rfl ⟨catOk rfl, catOk rfl⟩ (c_take (stk := a :: stk) hn (by simp only [List.length_cons]; omega)) ?_
  refine eS rfl rfl ?_
  refine eS rfl rfl ?_
  refine gV1 hn rfl rfl rfl rfl rfl ⟨catOk rfl, catOk rfl⟩ (c_take (stk := stk) hn (by omega)) ?_
  refine eS rfl rfl ?_
  refine eS rfl rfl ?_
  refine eS rfl rfl ?_
  exact e
theorem c_compare (hn : 67 ≤ n) (hs : stk.length + 1 < 24) (ha : gF a) (hb : gF b) (hw : w < 2 ^ 31) : aE aM148 (d + 1) 0 [(0, .ref 35), (1, .int (Int32.ofNat w))] [] (gH scr kd n (cS S0 (kM (Int32.ofNat (b :: a :: stk).length) cl pc an) (fA (b :: a :: stk) g) a37 a38 a39 a40 a41 a42 a43 a44)) (aIs none (gH scr kd n (cS S0 (kM (Int32.ofNat (oneF (cmpA w a b) :: stk).length) cl pc an) (fA (oneF (cmpA w a b) :: stk) (.float b :: g)) a37 a38 a39 a40 a41 a42 a43 a44))) := by
  have key : aE aM148 (d + 1) 61 [(3, .float a), (2, .float b), (0, .ref 35), (1, .int (Int32.ofNat w))] [.int (if cmpA w a b then 1 else 0)] (gH scr kd n (cS S0 (kM (Int32.ofNat stk.length) cl pc an) (fA stk (.float a :: .float b :: g)) a37 a38 a39 a40 a41 a42 a43 a44)) (aIs none (gH scr kd n (cS S0 (kM (Int32.ofNat (oneF (cmpA w a b) :: stk).length) cl pc an) (fA (oneF (cmpA w a b) :: stk) (.float b :: g)) a37 a38 a39 a40 a41 a42 a43 a44))) := by
    cases hc : cmpA w a b with
    | true =>
      refine eS rfl rfl ?_
      refine eS rfl rfl ?_
      refine eS rfl rfl ?_
      refine eEq rfl rfl (fun z => absurd z (by decide)) (fun _ => ?_)
      refine eS rfl rfl ?_
      refine eS rfl rfl ?_
      refine gV1 hn rfl rfl rfl rfl rfl ⟨catOk rfl, catOk rfl⟩ (c_push (stk := stk) hn (by omega)) ?_
      exact eR rfl rfl ⟨rfl, rfl⟩
    | false =>
      refine eS rfl rfl ?_
      refine eS rfl rfl ?_
      refine eS rfl rfl ?_
      refine eEq rfl rfl (fun _ => ?_) (fun z => absurd rfl z)
      refine eS rfl rfl ?_
      refine gV1 hn rfl rfl rfl rfl rfl ⟨catOk rfl, catOk rfl⟩ (c_push (stk := stk) hn (by omega)) ?_
      exact eR rfl rfl ⟨rfl, rfl⟩
  refine eS rfl rfl ?_
  refine gV1 hn rfl rfl rfl rfl rfl ⟨catOk rfl, catOk rfl⟩ (c_take (stk := a :: stk) hn (by simp only [List.length_cons]; omega)) ?_
  refine eS rfl rfl ?_
  refine eS rfl rfl ?_
  refine gV1 hn rfl rfl rfl rfl rfl ⟨catOk rfl, catOk rfl⟩ (c_take (stk := stk) hn (by omega)) ?_
  refine eS rfl rfl ?_
  refine eS rfl rfl ?_
  refine eS rfl rfl ?_
  refine eINe rfl rfl (fun z13 => ?_) (fun z13 => ?_)
  · refine eS rfl rfl ?_
    refine eS rfl rfl ?_
    refine eINe rfl rfl (fun z33 => ?_) (fun z33 => ?_)
    · refine eS rfl rfl ?_
      refine eS rfl rfl ?_
      refine eS rfl rfl ?_
      refine eNe rfl rfl (fun z53 => ?_) (fun z53 => ?_)
      · refine eS rfl rfl ?_
        have hc : (if cmpA w a b then (1 : Int32) else 0) = Int32.ofInt 0 := by
          unfold cmpA
          rw [if_neg (fun y : w = 11 => z13 (by rw [y]; rfl)), if_neg (fun y : w = 12 => z33 (by rw [y]; rfl)), decide_eq_false (fun y => z53 ((cv_eq ha.nn hb.nn).mpr y))]
          rfl
        rw [hc] at key
        exact key
      · refine eS rfl rfl ?_
        refine eS rfl rfl ?_
        have hc : (if cmpA w a b then (1 : Int32) else 0) = Int32.ofInt 1 := by
          unfold cmpA
          rw [if_neg (fun y : w = 11 => z13 (by rw [y]; rfl)), if_neg (fun y : w = 12 => z33 (by rw [y]; rfl)), decide_eq_true ((cv_eq ha.nn hb.nn).mp z53)]
          rfl
        rw [hc] at key
        exact key
    · refine eS rfl rfl ?_
      refine eS rfl rfl ?_
      refine eS rfl rfl ?_
      refine eLe rfl rfl (fun z39 => ?_) (fun z39 => ?_)
      · refine eS rfl rfl ?_
        refine eS rfl rfl ?_
        have hc : (if cmpA w a b then (1 : Int32) else 0) = Int32.ofInt 0 := by
          unfold cmpA
          rw [if_neg (fun y : w = 11 => z13 (by rw [y]; rfl)), if_pos ((i32_eq (a := w) (b := 12) hw (by decide)).mp z33), decide_eq_false ((cv_le ha.nn hb.nn).mp z39)]
          rfl
        rw [hc] at key
        exact key
      · refine eS rfl rfl ?_
        refine eS rfl rfl ?_
        have hc : (if cmpA w a b then (1 : Int32) else 0) = Int32.ofInt 1 := by
          unfold cmpA
          rw [if_neg (fun y : w = 11 => z13 (by rw [y]; rfl)), if_pos ((i32_eq (a := w) (b := 12) hw (by decide)).mp z33), decide_eq_true (Decidable.of_not_not (fun y => z39 ((cv_le ha.nn hb.nn).mpr y)))]
          rfl
        rw [hc] at key
        exact key
  · refine eS rfl rfl ?_
    refine eS rfl rfl ?_
    refine eS rfl rfl ?_
    refine eGe rfl rfl (fun z19 => ?_) (fun z19 => ?_)
    · refine eS rfl rfl ?_
      refine eS rfl rfl ?_
      have hc : (if cmpA w a b then (1 : Int32) else 0) = Int32.ofInt 0 := by
        unfold cmpA
        rw [if_pos ((i32_eq (a := w) (b := 11) hw (by decide)).mp z13), decide_eq_false ((cv_ge ha.nn hb.nn).mp z19)]
        rfl
      rw [hc] at key
      exact key
    · refine eS rfl rfl ?_
      refine eS rfl rfl ?_
      have hc : (if cmpA w a b then (1 : Int32) else 0) = Int32.ofInt 1 := by
        unfold cmpA
        rw [if_pos ((i32_eq (a := w) (b := 11) hw (by decide)).mp z13), decide_eq_true (Decidable.of_not_not (fun y => z19 ((cv_ge ha.nn hb.nn).mpr y)))]
        rfl
      rw [hc] at key
      exact key
end CRECK
