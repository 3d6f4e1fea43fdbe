theorem aCtM_b : aStrB (aStr aM162 146 0 (lv_args 0 [.ref 56]) [] (aHid :: (aH0t ++ (aO20 ++ [(36, aDefs 14)])))) 272 (lv_args 0 [.ref 56]) [.ref 56] (aHid :: (aH0t ++ (aO20 ++ ((36, mC0) :: aO56.tail)))) = true := by decide +kernel
theorem aCtM_set : (((aH0t ++ (aO20 ++ ((36, mC0) :: aO56.tail))).set 55 (36, mBeg mC0)).set 80 (3, List.replicate 8 (.float 0))).set 81 (0, List.replicate 768 (.int 0)) = aH0t ++ (aO20 ++ aO56) := by decide +kernel
theorem s_ctM (scr : List Value) : aE aM162 799 0 (lv_args 0 [.ref 56]) [] ((0, scr) :: (aH0t ++ (aO20 ++ [(36, aDefs 14)]))) (aIs none ((0, scr) :: (aH0t ++ (aO20 ++ aO56)))) := by
  refine aE_str (aStrB_ok aCtM_b) (0, scr) ?_
  have hb := s_begin 798 (h := (0, scr) :: (aH0t ++ (aO20 ++ ((36, mC0) :: aO56.tail)))) (vs := mC0) (vl := List.replicate 8 (.float 0)) (pl := List.replicate 768 (.int 0)) (Nat.le_of_ble_eq_true rfl) rfl rfl rfl rfl rfl rfl rfl (List.length_replicate ..)
  refine eC1 (I := .invokevirtual 106) rfl rfl (M' := aM163) rfl ⟨Nat.le_of_ble_eq_true rfl, Nat.le_of_ble_eq_true rfl⟩ hb ?_
  refine eR rfl rfl ⟨rfl, ?_⟩
  show (0, scr) :: _ = _
  rw [← aCtM_set]
