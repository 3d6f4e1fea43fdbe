/-! the law's loop: before the switch, the switch, back to the head, out -/
theorem i32_add {a b : Nat} : Int32.ofNat a + Int32.ofNat b = Int32.ofNat (a + b) := (Int32.ofNat_add ..).symm
theorem i32_sub3 {L i : Nat} (hL : L ≤ 1536) (hi : i ≤ 1536) : (Int32.ofNat L - 3 < Int32.ofNat i) ↔ L < i + 3 := by
  rw [Int32.lt_iff_toInt_lt, Int32.toInt_ofNat_small (by omega), Int32.toInt_sub, Int32.toInt_ofNat_small (by omega)]
  show Int.bmod ((L : Int) - 3) (2 ^ 32) < (i : Int) ↔ _
  rw [Int.bmod_eq_of_le (by omega) (by omega)]
  omega
section LAW
variable {h : aH} {Q : aOut → aH → Prop} {scr : List Value} {i : Nat}
set_option maxRecDepth 100000 in
theorem law_exit (h0 : h[0]? = some (0, scr)) (hL : scr.length ≤ 1536) (hi : i ≤ 1536) (hx : scr.length < i + 3) (k : Q (.inl (some (.int 1))) h) : aE aMlaw 800 28 (aL0 (Int32.ofNat i)) [] h Q := by
  refine eS rfl rfl ?_
  refine eS rfl rfl ?_
  refine eLen rfl h0 (by decide) ?_
  refine eS rfl rfl ?_
  refine eS rfl rfl ?_
  refine eIGt rfl rfl (fun _ => ?_) (fun z => absurd ((i32_sub3 hL hi).mpr hx) z)
  refine eS rfl rfl ?_
  exact eR rfl rfl k
set_option maxRecDepth 100000 in
theorem law_pre {w : Int32} (h0 : h[0]? = some (0, scr)) (hL : scr.length ≤ 1536) (hi : i + 3 ≤ scr.length) (hw : scr[i]? = some (.int w)) (k : aE aMlaw 800 44 (aL0 (Int32.ofNat i)) [.int (w &&& 15)] h Q) : aE aMlaw 800 28 (aL0 (Int32.ofNat i)) [] h Q := by
  refine eS rfl rfl ?_
  refine eS rfl rfl ?_
  refine eLen rfl h0 (by decide) ?_
  refine eS rfl rfl ?_
  refine eS rfl rfl ?_
  refine eIGt rfl rfl (fun z => absurd ((i32_sub3 hL (by omega)).mp z) (by omega)) (fun _ => ?_)
  refine eS rfl rfl ?_
  refine eS rfl rfl ?_
  refine eH (I := .iaload) rfl rfl rfl rfl (aRd_at h0 rfl (by omega) hw) ?_
  refine eS rfl rfl ?_
  refine eS rfl rfl ?_
  exact k
set_option maxRecDepth 100000 in
theorem law_back {ls : aLc} (hR : aLR (aL0 (Int32.ofNat i)) ls) (k : aE aMlaw 800 28 (aL0 (Int32.ofNat (i + 3))) [] h Q) : aE aMlaw 800 640 ls [] h Q := by
  refine aE.less hR ?_
  refine eS rfl rfl ?_
  refine eS rfl rfl ?_
  rw [show Int32.ofNat (i + 3) = Int32.ofNat i + Int32.ofInt 3 from Int32.ofNat_add ..] at k
  exact k
theorem and15 (w : Int32) : ∃ c : Nat, c < 16 ∧ w &&& 15 = Int32.ofNat c := by
  refine ⟨(w &&& 15).toBitVec.toNat, ?_, ?_⟩
  · show (w.toBitVec &&& 15#32).toNat < 16
    rw [BitVec.toNat_and]
    exact Nat.lt_of_le_of_lt Nat.and_le_right (by decide)
  · apply Int32.toBitVec_inj.mp
    show _ = BitVec.ofNat 32 _
    rw [BitVec.ofNat_toNat, BitVec.setWidth_eq]
end LAW
