/-! the law up to its loop -/
def aH1 (scr : List Value) : aH := (0, scr) :: (aH0t ++ (aO20 ++ (aO56 ++ [(2, [.long 0]), (4, [.double 0])])))
def aL0 (i : Int32) : aLc := [(5, .int i), (4, .ref 86), (3, .ref 85), (2, .ref 56), (1, .ref 20), (0, .ref 0)]
theorem aE_fr {M : aMt} {d : Nat} {ls : aLc} {t t' : aH} {n : Nat} {r : aOut} (e : aRun aCls aKn aP n M d 0 ls [] (aHid :: t) = some (r, aHid :: t')) (o : aO) : aE M d 0 ls [] (o :: t) (fun r' h' => r' = r ∧ h' = o :: t') := by
  obtain ⟨t1, h1, h2⟩ := aRun_fr o _ _ _ _ _ _ _ _ _ e
  cases h1
  exact ⟨n, r, _, h2, rfl, rfl⟩
theorem aLaw_head {scr : List Value} {Q : aOut → aH → Prop} (k : aE aMlaw 800 28 (aL0 0) [] (aH1 scr) Q) : aE aMlaw 800 0 [(0, .ref 0)] [] (aH0 scr) Q := by
  refine eS (I := .new 8) rfl rfl ?_
  refine eS (I := .dup) rfl rfl ?_
  refine eC (Q' := fun r' h' => r' = .inl none ∧ h' = (0, scr) :: (aH0t ++ aO20)) rfl rfl (M' := aM0) rfl ⟨Nat.le_of_ble_eq_true rfl, Nat.le_of_ble_eq_true rfl⟩ rfl (aE_fr aCtD (0, scr)) ?_ (fun q h' z => by cases z.1)
  rintro v h' ⟨hv, rfl⟩
  cases hv
  refine eS rfl rfl ?_
  refine eS (I := .new 37) rfl rfl ?_
  refine eS (I := .dup) rfl rfl ?_
  refine eC1 rfl rfl (M' := aM162) rfl ⟨Nat.le_of_ble_eq_true rfl, Nat.le_of_ble_eq_true rfl⟩ (s_ctM scr) ?_
  refine eS rfl rfl ?_
  refine eS rfl rfl ?_
  refine eS rfl rfl ?_
  refine eS rfl rfl ?_
  refine eS rfl rfl ?_
  refine eS rfl rfl ?_
  refine eS rfl rfl ?_
  refine eS rfl rfl ?_
  refine eS rfl rfl ?_
  exact k
