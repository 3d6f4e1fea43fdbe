theorem c_cut : aRun aCls aKn aP 100 aM169 798 0 (lv_args 0 [.ref 56]) [] (aHid :: hX4) = some (.inl none, aHid :: hX4) := by decide +kernel
def vs0 : List Value := (hX.getD 55 (0, [])).2
def vs5 : List Value := vs0.set 9 (.int 1)
def hX5 : aH := (hX4.set 55 (36, vs5)).set 61 (0, (List.replicate 800 (.int 0)).set 0 (.int 27))
theorem c_make : aRun aCls aKn aP 200 aM177 798 0 (lv_args 0 [.ref 56]) [] (aHid :: hX4) = some (.inl none, aHid :: hX5) := by decide +kernel
def hX6 : aH := (hX5.set 55 (36, (vs5.set 0 (.int 0)).set 30 (.int 1))).set 75 (0, cd1)
theorem c_mbegin : (((hX6.set 55 (36, mBeg ((vs5.set 0 (.int 0)).set 30 (.int 1)))).set 80 (3, List.replicate 8 (.float 0))).set 81 (0, List.replicate 768 (.int 0))) = hX6 := by decide +kernel
theorem c_56 : ((0, []) :: hX4)[56]? = some (36, vs0) ∧ ((0, []) :: hX5)[56]? = some (36, vs5) := by decide +kernel
set_option maxRecDepth 100000 in
theorem s_mcompile_fresh (scr : List Value) : aE aM168 799 0 [(0, .ref 56)] [] ((0, scr) :: hX4) (aIs (some (.int 1)) ((0, scr) :: hX6)) := by
  have e4 : ((0, scr) :: hX4)[56]? = some (36, vs0) := c_56.1
  have e5 : ((0, scr) :: hX5)[56]? = some (36, vs5) := c_56.2
  refine eS rfl rfl ?_
  refine eS rfl rfl ?_
  refine ePut rfl e4 rfl rfl (by decide) (by decide) rfl rfl ?_
  rw [show vs0.set 3 (.int (Int32.ofInt (-1))) = vs0 from by decide +kernel, set_id e4]
  refine eS rfl rfl ?_
  refine eV1 (h' := (0, scr) :: hX4) (v := none) rfl rfl e4 rfl rfl ⟨catOk rfl, catOk rfl⟩ ((aE_fr c_cut (0, scr)).mono (fun r h z => z)) ?_
  refine eS rfl rfl ?_
  refine eGet rfl e4 rfl rfl ?_
  refine eS rfl rfl ?_
  refine eINe rfl rfl (fun z => absurd (by decide) z) (fun _ => ?_)
  refine eS rfl rfl ?_
  refine eV1 (h' := (0, scr) :: hX5) (v := none) rfl rfl e4 rfl rfl ⟨catOk rfl, catOk rfl⟩ ((aE_fr c_make (0, scr)).mono (fun r h z => z)) ?_
  refine eS rfl rfl ?_
  refine eGet rfl e5 rfl rfl ?_
  refine eS rfl rfl ?_
  refine eIEq rfl rfl (fun _ => ?_) (fun z => absurd (by decide) z)
  refine eS rfl rfl ?_
  refine eGet rfl e5 rfl rfl ?_
  refine eS rfl rfl ?_
  refine eILe rfl rfl (fun _ => ?_) (fun z => absurd (by decide) z)
  refine eS rfl rfl ?_
  refine eS rfl rfl ?_
  refine ePut rfl e5 rfl rfl (by decide) (by decide) rfl rfl ?_
  have f62 : ∀ o : aO, (((0, scr) :: hX5).set 56 o)[62]? = some (0, (List.replicate 800 (.int 0)).set 0 (.int 27)) := fun o => (gN (by decide)).trans rfl
  have f76 : ∀ o : aO, (((0, scr) :: hX5).set 56 o)[76]? = some (0, List.replicate 240 (.int 0)) := fun o => (gN (by decide)).trans rfl
  have f1 : ∀ o : aO, (((0, scr) :: hX5).set 56 o)[56]? = some o := fun o => gS (catOk rfl)
  refine eS rfl rfl ?_
  refine eS rfl rfl ?_
  refine eGet rfl (f1 _) rfl rfl ?_
  refine ePut rfl (f1 _) rfl rfl (by decide) (by decide) rfl rfl ?_
  rw [uS]
  refine eS rfl rfl ?_
  refine eS rfl rfl ?_
  refine eS rfl rfl ?_
  refine eS rfl rfl ?_
  refine eGet rfl (f1 _) rfl rfl ?_
  refine eIGe rfl rfl (fun z => absurd z (by decide)) (fun _ => ?_)
  refine eS rfl rfl ?_
  refine eGet rfl (f1 _) rfl rfl ?_
  refine eS rfl rfl ?_
  refine eS rfl rfl ?_
  refine eGet rfl (f1 _) rfl rfl ?_
  refine eS rfl rfl ?_
  refine eH (I := .iaload) rfl rfl rfl rfl (aRd_at (j := 0) (v := .int 27) (f62 _) rfl (by decide) rfl) ?_
  refine eH (I := .iastore) rfl rfl rfl rfl (aWr_at (j := 0) (p := 76) (f76 _) (by decide) rfl (by decide) (by decide)) ?_
  show aE aM168 799 _ _ _ ((0, scr) :: hX6) _
  have e6 : ((0, scr) :: hX6)[56]? = some (36, (vs5.set 0 (.int 0)).set 30 (.int 1)) := (gN (l := hX5.set 55 _) (p := 75) (q := 55) (o := (0, cd1)) (by decide)).trans (gS (catOk rfl))
  refine eS rfl rfl ?_
  refine eS rfl rfl ?_
  refine eS rfl rfl ?_
  refine eS rfl rfl ?_
  refine eGet rfl e6 rfl rfl ?_
  refine eIGe rfl rfl (fun _ => ?_) (fun z => absurd (by decide) z)
  refine eS rfl rfl ?_
  have hb := s_begin 798 (h := (0, scr) :: hX6) (vs := (vs5.set 0 (.int 0)).set 30 (.int 1)) (vl := List.replicate 8 (.float 0)) (pl := List.replicate 768 (.int 0)) (catOk rfl) e6 rfl rfl rfl rfl rfl rfl (List.length_replicate ..)
  have hb : aE aM163 798 0 [(0, .ref 56)] [] ((0, scr) :: hX6) (aIs none ((0, scr) :: hX6)) := by
    refine hb.mono (fun r h z => ?_)
    obtain ⟨z1, rfl⟩ := z
    refine ⟨z1, ?_⟩
    show (0, scr) :: _ = _
    exact congrArg (fun t => (0, scr) :: t) c_mbegin
  refine eV1 rfl rfl e6 rfl rfl ⟨catOk rfl, catOk rfl⟩ hb ?_
  refine eS rfl rfl ?_
  refine eGet rfl e6 rfl rfl ?_
  exact eR rfl rfl ⟨rfl, rfl⟩
