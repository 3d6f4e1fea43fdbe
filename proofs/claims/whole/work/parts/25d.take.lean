/-! the class's machine: take, push, numbers -/
section CMACH
variable {scr : List Value} {kd : Nat → Nat} {n : Nat} {S0 : Nat → List Value} {a35 a36 a37 a38 a39 a40 a41 a42 a43 a44 g : List Value} {cl pc an : Int32} {d : Nat} {stk : List UInt32} {f a b : UInt32} {v : Value}
theorem c_take (hn : 67 ≤ n) (hs : stk.length < 24) : aE aM124 d 0 [(0, .ref 35)] [] (gH scr kd n (cS S0 (kM (Int32.ofNat (a :: stk).length) cl pc an) (fA (a :: stk) g) a37 a38 a39 a40 a41 a42 a43 a44)) (aIs (some (.float a)) (gH scr kd n (cS S0 (kM (Int32.ofNat stk.length) cl pc an) (fA stk (.float a :: g)) a37 a38 a39 a40 a41 a42 a43 a44))) := by
  rw [fA_cons]
  refine eS rfl rfl ?_
  refine gGet hn rfl rfl rfl rfl ?_
  refine eNe rfl rfl (fun _ => ?_) (fun z => absurd z (i32_ne0 (by simp only [List.length_cons]; omega) (by simp)))
  refine eS rfl rfl ?_
  refine eS rfl rfl ?_
  refine gGet hn rfl rfl rfl rfl ?_
  refine eS rfl rfl ?_
  refine eS rfl rfl ?_
  rw [List.length_cons, i32_pre]
  refine gPut hn rfl rfl rfl rfl rfl rfl rfl cS_35 ?_
  refine eS rfl rfl ?_
  refine gGet hn rfl rfl rfl rfl ?_
  refine eS rfl rfl ?_
  refine gGet hn rfl rfl rfl rfl ?_
  refine gRd3 hn rfl rfl rfl stk.length (by omega) fA_get ?_
  exact eR rfl rfl ⟨rfl, rfl⟩
theorem c_push (hn : 67 ≤ n) (hs : stk.length < 24) : aE aM126 d 0 [(0, .ref 35), (1, .float f)] [] (gH scr kd n (cS S0 (kM (Int32.ofNat stk.length) cl pc an) (fA stk (v :: g)) a37 a38 a39 a40 a41 a42 a43 a44)) (aIs none (gH scr kd n (cS S0 (kM (Int32.ofNat (f :: stk).length) cl pc an) (fA (f :: stk) g) a37 a38 a39 a40 a41 a42 a43 a44))) := by
  refine eS rfl rfl ?_
  refine gGet hn rfl rfl rfl rfl ?_
  refine eS rfl rfl ?_
  refine eILt rfl rfl (fun _ => ?_) (fun z => absurd ((i32_lt (a := stk.length) (b := 24) (by omega) (by decide)).mpr hs) z)
  refine eS rfl rfl ?_
  refine gGet hn rfl rfl rfl rfl ?_
  refine eS rfl rfl ?_
  refine gGet hn rfl rfl rfl rfl ?_
  refine eS rfl rfl ?_
  refine gWr3 hn rfl rfl rfl stk.length (by omega) (by show stk.length < (fA stk (v :: g)).length; rw [fA_len]; simp) (cS_36.trans (congrArg (fun z => cS S0 _ z a37 a38 a39 a40 a41 a42 a43 a44) fA_set)) ?_
  refine eS rfl rfl ?_
  refine eS rfl rfl ?_
  refine gGet hn rfl rfl rfl rfl ?_
  refine eS rfl rfl ?_
  refine eS rfl rfl ?_
  refine gPut hn rfl rfl rfl rfl rfl rfl rfl cS_35 ?_
  exact eR rfl rfl ⟨rfl, by rw [List.length_cons, ← i32_succ]; rfl⟩
theorem c_push_full (hn : 67 ≤ n) : aE aM126 d 0 [(0, .ref 35), (1, .float f)] [] (gH scr kd n (cS S0 (kM (Int32.ofNat 24) cl pc an) a36 a37 a38 a39 a40 a41 a42 a43 a44)) (aIs none (gH scr kd n (cS S0 (kM (Int32.ofNat 24) cl pc 15) a36 a37 a38 a39 a40 a41 a42 a43 a44))) := by
  refine eS rfl rfl ?_
  refine gGet hn rfl rfl rfl rfl ?_
  refine eS rfl rfl ?_
  refine eILt rfl rfl (fun z => absurd z (by decide)) (fun _ => ?_)
  refine eS rfl rfl ?_
  refine eS rfl rfl ?_
  refine gPut hn rfl rfl rfl rfl rfl rfl rfl cS_35 ?_
  exact eR rfl rfl ⟨rfl, rfl⟩
end CMACH
