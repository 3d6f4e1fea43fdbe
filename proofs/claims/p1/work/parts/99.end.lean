theorem i_vc : Claimed_1_1 ∧ Claimed_1_2 := i_vc_of (fun L xs hL => by
  obtain ⟨n, h', e, q1, q2⟩ := aGoal_3 L xs hL
  exact ⟨n, h', e, by omega, by omega⟩)
