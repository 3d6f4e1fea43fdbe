/-! the model's machine: places 56, 77 .. 83 -/
def mM (w : Nat → Value) (nn pc en hi un : Int32) (x y : UInt32) (hd co dn : Int32) : List Value := [w 0, w 1, w 2, w 3, w 4, w 5, w 6, w 7, w 8, w 9, w 10, w 11, w 12, w 13, w 14, w 15, w 16, w 17, w 18, w 19, w 20, w 21, w 22, w 23, w 24, w 25, w 26, w 27, w 28, w 29, .int nn, .ref 76, .int pc, .int en, .int hi, .ref 77, .int un, .ref 78, .ref 79, .ref 80, .ref 81, .float x, .float y, .int hd, .int co, .int dn, .ref 82, .ref 83, .ref 84]
def mS (S0 : Nat → List Value) (a56 a77 a78 a79 a80 a81 a82 a83 : List Value) : Nat → List Value := fun q => if q = 56 then a56 else if q = 77 then a77 else if q = 78 then a78 else if q = 79 then a79 else if q = 80 then a80 else if q = 81 then a81 else if q = 82 then a82 else if q = 83 then a83 else S0 q
section MS
variable {S0 : Nat → List Value} {a56 a77 a78 a79 a80 a81 a82 a83 b : List Value}
theorem mS_56 : aUp (mS S0 a56 a77 a78 a79 a80 a81 a82 a83) 56 b = mS S0 b a77 a78 a79 a80 a81 a82 a83 := by
  funext q
  unfold aUp mS
  by_cases e : q = 56
  · subst e
    rfl
  · simp only [e, if_false]
theorem mS_77 : aUp (mS S0 a56 a77 a78 a79 a80 a81 a82 a83) 77 b = mS S0 a56 b a78 a79 a80 a81 a82 a83 := by
  funext q
  unfold aUp mS
  by_cases e : q = 77
  · subst e
    rfl
  · simp only [e, if_false]
theorem mS_78 : aUp (mS S0 a56 a77 a78 a79 a80 a81 a82 a83) 78 b = mS S0 a56 a77 b a79 a80 a81 a82 a83 := by
  funext q
  unfold aUp mS
  by_cases e : q = 78
  · subst e
    rfl
  · simp only [e, if_false]
theorem mS_79 : aUp (mS S0 a56 a77 a78 a79 a80 a81 a82 a83) 79 b = mS S0 a56 a77 a78 b a80 a81 a82 a83 := by
  funext q
  unfold aUp mS
  by_cases e : q = 79
  · subst e
    rfl
  · simp only [e, if_false]
theorem mS_80 : aUp (mS S0 a56 a77 a78 a79 a80 a81 a82 a83) 80 b = mS S0 a56 a77 a78 a79 b a81 a82 a83 := by
  funext q
  unfold aUp mS
  by_cases e : q = 80
  · subst e
    rfl
  · simp only [e, if_false]
theorem mS_81 : aUp (mS S0 a56 a77 a78 a79 a80 a81 a82 a83) 81 b = mS S0 a56 a77 a78 a79 a80 b a82 a83 := by
  funext q
  unfold aUp mS
  by_cases e : q = 81
  · subst e
    rfl
  · simp only [e, if_false]
theorem mS_82 : aUp (mS S0 a56 a77 a78 a79 a80 a81 a82 a83) 82 b = mS S0 a56 a77 a78 a79 a80 a81 b a83 := by
  funext q
  unfold aUp mS
  by_cases e : q = 82
  · subst e
    rfl
  · simp only [e, if_false]
theorem mS_83 : aUp (mS S0 a56 a77 a78 a79 a80 a81 a82 a83) 83 b = mS S0 a56 a77 a78 a79 a80 a81 a82 b := by
  funext q
  unfold aUp mS
  by_cases e : q = 83
  · subst e
    rfl
  · simp only [e, if_false]
theorem mS_id : mS S0 (S0 56) (S0 77) (S0 78) (S0 79) (S0 80) (S0 81) (S0 82) (S0 83) = S0 := by
  funext q
  unfold mS
  by_cases e56 : q = 56
  · subst e56
    rfl
  by_cases e77 : q = 77
  · subst e77
    rfl
  by_cases e78 : q = 78
  · subst e78
    rfl
  by_cases e79 : q = 79
  · subst e79
    rfl
  by_cases e80 : q = 80
  · subst e80
    rfl
  by_cases e81 : q = 81
  · subst e81
    rfl
  by_cases e82 : q = 82
  · subst e82
    rfl
  by_cases e83 : q = 83
  · subst e83
    rfl
  simp only [e56, e77, e78, e79, e80, e81, e82, e83, if_false]
theorem mS_ne {q : Nat} (h : q < 56 ∨ (56 < q ∧ q < 77) ∨ 83 < q) : mS S0 a56 a77 a78 a79 a80 a81 a82 a83 q = S0 q := by
  unfold mS
  simp only [show ¬ q = 56 by omega, show ¬ q = 77 by omega, show ¬ q = 78 by omega, show ¬ q = 79 by omega, show ¬ q = 80 by omega, show ¬ q = 81 by omega, show ¬ q = 82 by omega, show ¬ q = 83 by omega, if_false]
end MS
section MMACH
variable {scr : List Value} {kd : Nat → Nat} {n : Nat} {S0 : Nat → List Value} {a56 a77 a78 a79 a80 a81 a82 a83 g : List Value} {w : Nat → Value} {nn pc en hi un hd co dn : Int32} {x y : UInt32} {d : Nat} {stk : List UInt32} {f a b : UInt32} {v : Value} {h : aH}
theorem m_pop (hn : 67 ≤ n) (hs : stk.length < 24) : aE aM209 d 0 [(0, .ref 56)] [] (gH scr kd n (mS S0 (mM w nn pc en (Int32.ofNat (a :: stk).length) un x y hd co dn) (fA (a :: stk) g) a78 a79 a80 a81 a82 a83)) (aIs (some (.float a)) (gH scr kd n (mS S0 (mM w nn pc en (Int32.ofNat stk.length) un x y hd co dn) (fA stk (.float a :: g)) a78 a79 a80 a81 a82 a83))) := by
  rw [fA_cons]
  refine eS rfl rfl ?_
  refine eS rfl rfl ?_
  refine gGet hn rfl rfl rfl rfl ?_
  refine eS rfl rfl ?_
  refine eS rfl rfl ?_
  rw [List.length_cons, i32_pre]
  refine gPut hn rfl rfl rfl rfl rfl rfl rfl mS_56 ?_
  refine eS rfl rfl ?_
  refine gGet hn rfl rfl rfl rfl ?_
  refine eS rfl rfl ?_
  refine gGet hn rfl rfl rfl rfl ?_
  refine gRd3 hn rfl rfl rfl stk.length (by omega) fA_get ?_
  exact eR rfl rfl ⟨rfl, rfl⟩
theorem m_push (hn : 67 ≤ n) (hs : stk.length < 24) : aE aM214 d 0 [(0, .ref 56), (1, .float f)] [] (gH scr kd n (mS S0 (mM w nn pc en (Int32.ofNat stk.length) un x y hd co dn) (fA stk (v :: g)) a78 a79 a80 a81 a82 a83)) (aIs none (gH scr kd n (mS S0 (mM w nn pc en (Int32.ofNat (f :: stk).length) un x y hd co dn) (fA (f :: stk) g) a78 a79 a80 a81 a82 a83))) := by
  refine eS rfl rfl ?_
  refine gGet hn rfl rfl rfl rfl ?_
  refine eS rfl rfl ?_
  refine eINe rfl rfl (fun _ => ?_) (fun z => absurd ((i32_eq (a := stk.length) (b := 24) (by omega) (by decide)).mp z) (by omega))
  refine eS rfl rfl ?_
  refine gGet hn rfl rfl rfl rfl ?_
  refine eS rfl rfl ?_
  refine gGet hn rfl rfl rfl rfl ?_
  refine eS rfl rfl ?_
  refine gWr3 hn rfl rfl rfl stk.length (by omega) (by show stk.length < (fA stk (v :: g)).length; rw [fA_len]; simp only [List.length_cons]; omega) (mS_77.trans (congrArg (fun z => mS S0 _ z a78 a79 a80 a81 a82 a83) fA_set)) ?_
  refine eS rfl rfl ?_
  refine eS rfl rfl ?_
  refine gGet hn rfl rfl rfl rfl ?_
  refine eS rfl rfl ?_
  refine eS rfl rfl ?_
  refine gPut hn rfl rfl rfl rfl rfl rfl rfl mS_56 ?_
  exact eR rfl rfl ⟨rfl, by rw [List.length_cons, ← i32_succ]; rfl⟩
theorem m_push_full (hn : 67 ≤ n) : aE aM214 d 0 [(0, .ref 56), (1, .float f)] [] (gH scr kd n (mS S0 (mM w nn pc en (Int32.ofNat 24) un x y hd co dn) a77 a78 a79 a80 a81 a82 a83)) (aIs none (gH scr kd n (mS S0 (mM w nn pc 15 (Int32.ofNat 24) un x y hd co dn) a77 a78 a79 a80 a81 a82 a83))) := by
  refine eS rfl rfl ?_
  refine gGet hn rfl rfl rfl rfl ?_
  refine eS rfl rfl ?_
  refine eINe rfl rfl (fun z => absurd rfl z) (fun _ => ?_)
  refine eS rfl rfl ?_
  refine eS rfl rfl ?_
  refine gPut hn rfl rfl rfl rfl rfl rfl rfl mS_56 ?_
  exact eR rfl rfl ⟨rfl, rfl⟩
theorem m_pushA (hn : 67 ≤ n) (hg : stk.length + g.length = 24) : ∃ g', (pushA f stk).2.length + g'.length = 24 ∧ aE aM214 d 0 [(0, .ref 56), (1, .float f)] [] (gH scr kd n (mS S0 (mM w nn pc 0 (Int32.ofNat stk.length) un x y hd co dn) (fA stk g) a78 a79 a80 a81 a82 a83)) (aIs none (gH scr kd n (mS S0 (mM w nn pc (pushA f stk).1 (Int32.ofNat (pushA f stk).2.length) un x y hd co dn) (fA (pushA f stk).2 g') a78 a79 a80 a81 a82 a83))) := by
  by_cases h : stk.length = 24
  · refine ⟨g, by unfold pushA; rw [if_pos h]; exact hg, ?_⟩
    unfold pushA
    rw [if_pos h]
    dsimp only
    rw [h]
    exact m_push_full hn
  · obtain ⟨v, g', rfl⟩ : ∃ v g', g = v :: g' := by
      cases g with
      | nil => simp at hg; omega
      | cons v g' => exact ⟨v, g', rfl⟩
    refine ⟨g', by unfold pushA; rw [if_neg h]; simp at hg ⊢; omega, ?_⟩
    unfold pushA
    rw [if_neg h]
    exact m_push hn (by simp at hg; omega)
theorem m_round (hn : gX f) : aE aM219 d 0 [(0, .float f)] [] h (aIs (some (.int (Int32.ofInt (pixA f)))) h) := by
  have hb := pixA_bnd hn
  unfold pixA
  refine eS rfl rfl ?_
  refine eS rfl rfl ?_
  refine eP rfl (fadd_ok (n32_of ((FP.Core.notNaN_iff32 _).mpr (half_nn hn)))) ?_
  refine eS rfl rfl ?_
  refine eS rfl rfl ?_
  refine eS rfl rfl ?_
  refine eS rfl rfl ?_
  refine eS rfl rfl ?_
  refine eS rfl rfl ?_
  refine eS rfl rfl ?_
  refine eS rfl rfl ?_
  refine eLe rfl rfl (fun z12 => ?_) (fun z12 => ?_)
  · refine eS rfl rfl ?_
    exact eR rfl rfl ⟨by rw [if_neg ((cv_le i2f_nn (half_nn hn)).mp z12), Int32.ofInt_toInt], rfl⟩
  · refine eS rfl rfl ?_
    refine eS rfl rfl ?_
    refine eS rfl rfl ?_
    refine eS rfl rfl ?_
    exact eR rfl rfl ⟨by rw [if_pos (Decidable.of_not_not (fun y => z12 ((cv_le i2f_nn (half_nn hn)).mpr y))), Int32.ofInt_sub, Int32.ofInt_toInt], rfl⟩
theorem m_toward {a c : Int} (ha : a.natAbs ≤ 30000) (hc : c.natAbs ≤ 30000) : aE aM223 d 0 [(0, .int (Int32.ofInt a)), (1, .int (Int32.ofInt c))] [] h (aIs (some (.int (Int32.ofInt (towA a c)))) h) := by
  unfold towA
  refine eS rfl rfl ?_
  refine eS rfl rfl ?_
  refine eIGe rfl rfl (fun z2 => ?_) (fun z2 => ?_)
  · refine eS rfl rfl ?_
    refine eS rfl rfl ?_
    refine eILe rfl rfl (fun z13 => ?_) (fun z13 => ?_)
    · refine eS rfl rfl ?_
      exact eR rfl rfl ⟨by rw [if_neg (fun y => Int32.not_lt.mpr z2 ((zi_lt (by omega) (by omega)).mpr y)), if_neg (fun y => Int32.not_lt.mpr z13 ((zi_lt (by omega) (by omega)).mpr y))], rfl⟩
    · refine eS rfl rfl ?_
      refine eS rfl rfl ?_
      refine eS rfl rfl ?_
      refine eS rfl rfl ?_
      exact eR rfl rfl ⟨by rw [if_neg (fun y => Int32.not_lt.mpr z2 ((zi_lt (by omega) (by omega)).mpr y)), if_pos ((zi_lt (by omega) (by omega)).mp (Int32.not_le.mp z13)), ← zi_sub], rfl⟩
  · refine eS rfl rfl ?_
    refine eS rfl rfl ?_
    refine eS rfl rfl ?_
    refine eS rfl rfl ?_
    exact eR rfl rfl ⟨by rw [if_pos ((zi_lt (by omega) (by omega)).mp (Int32.not_le.mp z2)), ← zi_add], rfl⟩
theorem m_dot {a b : Int32} {px : List Int32} (hn : 67 ≤ n) (hl : px.length = 768) : aE aM221 (d + 2) 0 [(0, .ref 56), (1, .int a), (2, .int b)] [] (gH scr kd n (mS S0 (mM w nn pc en hi un x y hd co dn) a77 a78 a79 a80 a81 (px.map Value.int) a83)) (aIs none (gH scr kd n (mS S0 (mM w nn pc en hi un x y hd co dn) a77 a78 a79 a80 a81 ((dotA px a b co).map Value.int) a83))) := by
  cases hb : inB a b with
  | true =>
    obtain ⟨i1, -, i2⟩ := inB_ix hb
    refine eS rfl rfl ?_
    refine eS rfl rfl ?_
    refine eC1 rfl rfl rfl ⟨catOk rfl, catOk rfl⟩ (s_inside) ?_
    rw [hb]
    refine eEq rfl rfl (fun z => absurd z (by decide)) (fun _ => ?_)
    refine eS rfl rfl ?_
    refine gGet hn rfl rfl rfl rfl ?_
    refine eS rfl rfl ?_
    refine eS rfl rfl ?_
    refine eS rfl rfl ?_
    refine eS rfl rfl ?_
    refine eS rfl rfl ?_
    rw [i2]
    refine eS rfl rfl ?_
    refine gGet hn rfl rfl rfl rfl ?_
    refine gWr0 hn rfl rfl rfl (ixB a b) (by omega) (by show ixB a b < (px.map Value.int).length; rw [List.length_map]; omega) (mS_82.trans (congrArg (fun z => mS S0 _ a77 a78 a79 a80 a81 z a83) il_set)) ?_
    exact eR rfl rfl ⟨rfl, by unfold dotA; rw [hb]; rfl⟩
  | false =>
    refine eS rfl rfl ?_
    refine eS rfl rfl ?_
    refine eC1 rfl rfl rfl ⟨catOk rfl, catOk rfl⟩ (s_inside) ?_
    rw [hb]
    refine eEq rfl rfl (fun _ => ?_) (fun z => absurd rfl z)
    exact eR rfl rfl ⟨rfl, by unfold dotA; rw [hb]; rfl⟩
end MMACH
