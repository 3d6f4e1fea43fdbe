/-! compile on a fresh object: the empty text -/
def hX : aH := aH0t ++ (aO20 ++ (aO56 ++ [(2, [.long 0]), (4, [.double 0])]))
theorem aH1_hX (scr : List Value) : aH1 scr = (0, scr) :: hX := rfl
def hX1 : aH := hX.set 21 (10, [.ref 23, .ref 30, .ref 32, .ref 51, .null, .null, .null, .int 0, .int (-1)])
def pr1 : List Value := [.null, .null, .ref 52, .ref 53, .ref 54, .int 0, .ref 55, .int 1]
def cd1 : List Value := (List.replicate 240 (.int 0)).set 0 (.int 27)
def hX2 : aH := ((hX1.set 33 (16, [.ref 51])).set 50 (26, pr1)).set 54 (0, cd1)
theorem c_read : aRun aCls aKn aP 60 aM36 797 0 (lv_args 0 [.ref 22, .ref 21, .int 0, .ref 51]) [] (aHid :: hX) = some (.inl none, aHid :: hX1) := by decide +kernel
theorem c_write : aRun aCls aKn aP 60 aM94 797 0 (lv_args 0 [.ref 34, .ref 51]) [] (aHid :: hX1) = some (.inl none, aHid :: hX2) := by decide +kernel
def hX3 : aH := hX2.set 19 (8, [.ref 21, .int 0, .ref 22, .ref 34, .ref 35, .ref 45, .ref 51, .ref 46])
theorem c_begin : (((hX3.set 34 (18, mcBeg [.ref 36, .int 0, .ref 37, .int 0, .ref 38, .ref 39, .ref 40, .ref 41, .int 0, .int 0])).set 36 (3, List.replicate 8 (.float 0))).set 40 (20, tuBeg [.ref 42, .float 1098907648, .float 1094713344, .int 0, .int 1, .int 1])).set 42 (0, List.replicate 768 (.int 0)) = hX3 := by decide +kernel
theorem s_compile_fresh (scr : List Value) : aE aM35 798 0 [(0, .ref 20)] [] ((0, scr) :: hX) (aIs (some (.int 1)) ((0, scr) :: hX3)) := by
  refine eS rfl rfl ?_
  refine eGet rfl (h := (0, scr) :: hX) (kd := 8) rfl rfl rfl ?_
  refine eS rfl rfl ?_
  refine eGet rfl (h := (0, scr) :: hX) (kd := 8) rfl rfl rfl ?_
  refine eS rfl rfl ?_
  refine eGet rfl (h := (0, scr) :: hX) (kd := 8) rfl rfl rfl ?_
  refine eS rfl rfl ?_
  refine eGet rfl (h := (0, scr) :: hX) (kd := 8) rfl rfl rfl ?_
  refine eV1 (h' := (0, scr) :: hX1) (v := none) rfl rfl (kd := 10) rfl rfl rfl ⟨catOk rfl, catOk rfl⟩ ((aE_fr c_read (0, scr)).mono (fun r h z => z)) ?_
  refine eS rfl rfl ?_
  refine eGet rfl (h := (0, scr) :: hX1) (kd := 8) rfl rfl rfl ?_
  refine eS rfl rfl ?_
  refine eGet rfl (h := (0, scr) :: hX1) (kd := 8) rfl rfl rfl ?_
  refine eV1 (h' := (0, scr) :: hX2) (v := none) rfl rfl (kd := 16) rfl rfl rfl ⟨catOk rfl, catOk rfl⟩ ((aE_fr c_write (0, scr)).mono (fun r h z => z)) ?_
  refine eS rfl rfl ?_
  refine eGet rfl (h := (0, scr) :: hX2) (kd := 8) rfl rfl rfl ?_
  refine eGet rfl (h := (0, scr) :: hX2) (kd := 26) rfl rfl rfl ?_
  refine eS rfl rfl ?_
  refine eILe rfl rfl (fun _ => ?_) (fun z => absurd (by decide) z)
  refine eS rfl rfl ?_
  refine eGet rfl (h := (0, scr) :: hX2) (kd := 8) rfl rfl rfl ?_
  refine eS rfl rfl ?_
  refine eS rfl rfl ?_
  refine eS rfl rfl ?_
  refine eGet rfl (h := (0, scr) :: hX2) (kd := 8) rfl rfl rfl ?_
  refine ePut rfl (h := (0, scr) :: hX2) (kd := 8) rfl rfl rfl (by decide) (by decide) rfl rfl ?_
  refine eS rfl rfl ?_
  refine eS rfl rfl ?_
  refine ePut rfl (kd := 8) rfl rfl rfl (by decide) (by decide) rfl rfl ?_
  show aE aM35 798 _ _ _ ((0, scr) :: hX3) _
  refine eS rfl rfl ?_
  refine eGet rfl (h := (0, scr) :: hX3) (kd := 8) rfl rfl rfl ?_
  have hb := s_kbegin (d := 794) (h := (0, scr) :: hX3) (mc := [.ref 36, .int 0, .ref 37, .int 0, .ref 38, .ref 39, .ref 40, .ref 41, .int 0, .int 0]) (tu := [.ref 42, .float 1098907648, .float 1094713344, .int 0, .int 1, .int 1]) (vl := List.replicate 8 (.float 0)) (pi := [.ref 43, .ref 44, .int 0]) (pl := List.replicate 768 (.int 0)) (catOk rfl) rfl rfl rfl rfl rfl rfl rfl rfl rfl rfl rfl rfl (List.length_replicate ..)
  have hb : aE aM104 797 0 [(0, .ref 35)] [] ((0, scr) :: hX3) (aIs none ((0, scr) :: hX3)) := by
    refine hb.mono (fun r h z => ?_)
    obtain ⟨z1, rfl⟩ := z
    refine ⟨z1, ?_⟩
    show (0, scr) :: _ = _
    exact congrArg (fun t => (0, scr) :: t) c_begin
  refine eV1 rfl rfl (kd := 18) rfl rfl rfl ⟨catOk rfl, catOk rfl⟩ hb ?_
  refine eS rfl rfl ?_
  refine eGet rfl (h := (0, scr) :: hX3) (kd := 8) rfl rfl rfl ?_
  refine eGet rfl (h := (0, scr) :: hX3) (kd := 26) rfl rfl rfl ?_
  exact eR rfl rfl ⟨rfl, rfl⟩
def hX4 : aH := hX3.set 84 (2, [.long 1])
theorem s_lcompile_fresh (scr : List Value) : aE aM34 799 0 [(0, .ref 20), (1, .ref 85)] [] ((0, scr) :: hX) (aIs (some (.int 0)) ((0, scr) :: hX4)) := by
  refine eS rfl rfl ?_
  refine eS rfl rfl ?_
  refine eS rfl rfl ?_
  refine eV1 rfl rfl (kd := 8) rfl rfl rfl ⟨catOk rfl, catOk rfl⟩ (s_compile_fresh scr) ?_
  refine eS rfl rfl ?_
  refine eH (I := .lastore) rfl rfl rfl rfl (aWr_at (h := (0, scr) :: hX3) (p := 85) (r := []) (v := .long (Int32.toInt64 1)) (i := Int32.ofInt 0) (kd := 2) (vs := [.long 0]) rfl (by decide) (j := 0) rfl (by decide) (by decide)) ?_
  refine eS rfl rfl ?_
  refine eS rfl rfl ?_
  exact eR rfl rfl ⟨rfl, rfl⟩
