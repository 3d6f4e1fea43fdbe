section PUT
variable {d : Nat} {h : aH} {vs tx : List Value} {w n : Int32}
theorem s_mput {tl : Nat} (hl : 58 ≤ h.length) (h56 : h[56]? = some (36, vs)) (hv : vs.length = 49) (h0 : vs[1]? = some (.ref 57)) (h1 : vs[2]? = some (.int (Int32.ofNat tl))) (h57 : h[57]? = some (1, tx)) (hx : tx.length = 160) (htl : tl ≤ 160) :
    aE aM165 (d + 1) 0 [(0, .ref 56), (1, .int w), (2, .int n)] [] h (aIs (some (.int (if putOk w n tl then 1 else 0))) (if putOk w n tl then (h.set 56 (36, (vs.set 0 (.int 0)).set 2 (.int (Int32.ofNat (tl + n.toNatClampNeg))))).set 57 (1, putTx w n.toNatClampNeg tx tl) else mT h vs 0)) := by
  have no : putOk w n tl = false → aIs (some (.int (if putOk w n tl then 1 else 0))) (if putOk w n tl then (h.set 56 (36, (vs.set 0 (.int 0)).set 2 (.int (Int32.ofNat (tl + n.toNatClampNeg))))).set 57 (1, putTx w n.toNatClampNeg tx tl) else mT h vs 0) (.inl (some (.int 0))) (mT h vs 0) := by
    intro z
    rw [z]
    exact ⟨rfl, rfl⟩
  have no26 : putOk w n tl = false → aE aM165 (d + 1) 26 [(0, .ref 56), (1, .int w), (2, .int n)] [] (mT h vs 0) (aIs (some (.int (if putOk w n tl then 1 else 0))) (if putOk w n tl then (h.set 56 (36, (vs.set 0 (.int 0)).set 2 (.int (Int32.ofNat (tl + n.toNatClampNeg))))).set 57 (1, putTx w n.toNatClampNeg tx tl) else mT h vs 0)) := by
    intro z
    refine eS rfl rfl ?_
    exact eR rfl rfl (no z)
  refine eS rfl rfl ?_
  refine eS rfl rfl ?_
  refine ePut rfl h56 rfl rfl (by decide) (by show 0 < vs.length; omega) rfl rfl ?_
  refine eS rfl rfl ?_
  refine eS rfl rfl ?_
  refine eS rfl rfl ?_
  refine eC1 rfl rfl rfl ⟨catOk rfl, catOk rfl⟩ (s_outside d n 1 4 _) ?_
  by_cases hb : n < 1 ∨ 4 < n
  · rw [outB_1 hb]
    refine eNe rfl rfl (fun _ => no26 ?_) (fun z => absurd z (by decide))
    rcases hb with z | z <;> simp [putOk, z]
  have g1 : ¬ n < 1 := fun z => hb (Or.inl z)
  have g2 : ¬ 4 < n := fun z => hb (Or.inr z)
  rw [outB_0 g1 g2]
  refine eNe rfl rfl (fun z => absurd rfl z) (fun _ => ?_)
  obtain ⟨m, hm, rfl⟩ := i32_bnd (n := 4) (a := n) (fun z => g1 (by
    rw [Int32.lt_iff_toInt_lt] at z ⊢
    have z : n.toInt < 0 := z
    show n.toInt < 1
    omega)) g2 (by decide)
  have em : (Int32.ofNat m).toNatClampNeg = m := i32_clamp (by omega)
  rw [em] at no no26 ⊢
  refine eS rfl rfl ?_
  refine eGet rfl (gS (by omega)) rfl (sT (by decide) h1) ?_
  refine eS rfl rfl ?_
  refine eS rfl rfl ?_
  refine eS rfl rfl ?_
  rw [i32_add]
  refine eILe rfl rfl (fun g3 => ?_) (fun z => no26 ?_)
  · have g3 : tl + m ≤ 160 := (i32_le (a := tl + m) (b := 160) (by omega) (by decide)).mp g3
    refine eS rfl rfl ?_
    refine eS rfl rfl ?_
    refine s_mput_l1 (ls := []) hm m 0 (by omega) (fun hok => ?_) (fun hno => no (by simp [putOk, em, hno]))
    have hok : putOk w (Int32.ofNat m) tl = true := by
      simp only [putOk, em, hok, Bool.and_true, Bool.and_eq_true, decide_eq_true_eq]
      exact ⟨⟨g1, g2⟩, g3⟩
    rw [hok]
    refine eS rfl rfl ?_
    refine eS rfl rfl ?_
    refine eS rfl rfl ?_
    refine eS rfl rfl ?_
    have e0 : mT h vs 0 = (h.set 56 (36, (vs.set 0 (.int 0)).set 2 (.int (Int32.ofNat tl)))).set 57 (1, tx) := by
      rw [set_same (sT (by decide) h1), set_id ((gN (by decide)).trans h57)]
    have := s_mput_l2 (d := d) (h := h) (w := w) (n0 := Int32.ofNat m) (Q := aIs (some (.int 1)) ((h.set 56 (36, (vs.set 0 (.int 0)).set 2 (.int (Int32.ofNat (tl + m))))).set 57 (1, putTx w m tx tl))) (vs := vs.set 0 (.int 0)) (sT (by decide) h0) (by rw [List.length_set]; exact hv) hl m tx tl hm g3 hx ⟨rfl, rfl⟩
    rw [← e0] at this
    exact this
  · have z : ¬ tl + m ≤ 160 := fun y => z ((i32_le (a := tl + m) (b := 160) (by omega) (by decide)).mpr y)
    simp [putOk, em, z]
end PUT
