def aH0t : aH := (aH0 []).tail
theorem aH0_eq (scr : List Value) : aH0 scr = (0, scr) :: aH0t := rfl
theorem aH0_len (scr : List Value) : (aH0 scr).length = 20 := rfl
theorem aH0_1 (scr : List Value) : (aH0 scr)[1]? = some (0, aResK.map .int) := rfl
theorem aH0_str : (List.range 9).all (fun i => decide (aH0t[1 + 2 * i]? = some (38, [.ref (3 + 2 * i), .int 0])) && decide (aH0t[2 + 2 * i]? = some (5, (aByt.getD i []).map .int)) && decide ((aByt.getD i []).length = aLenS.getD i 0)) = true := by decide +kernel
theorem aAdr_ok {b r base : Nat} {aK aV : Nat → Nat} (hb : b < base) (hr : r < base) (hK : ∀ i, i < 9 → aK i < base ∧ aV i < base) : aAd (aAdr b r base aK aV) aKn := by
  have hs : ∀ i, i < 20 → aAdr b r base aK aV i < base := by
    intro i hi
    unfold aAdr
    split
    · exact hb
    · split
      · exact hr
      · split
        · exact (hK _ (by omega)).1
        · exact (hK _ (by omega)).2
  have hg : ∀ i, 20 ≤ i → aAdr b r base aK aV i = base + (i - 20) := by
    intro i hi
    unfold aAdr
    rw [if_neg (by omega), if_neg (by omega), if_neg (by omega)]
  refine ⟨fun i j hj h => ?_, fun i hi => ?_⟩
  · have hj : 20 ≤ j := hj
    rw [hg j hj] at h
    by_cases hi : i < 20
    · have := hs i hi
      omega
    · rw [hg i (by omega)] at h
      omega
  · have hi : 20 ≤ i := hi
    rw [hg i hi, hg (i + 1) (by omega)]
    omega
theorem aNst {s : State} {c : Cell} {t : FieldType} (h : s.isArrayOf c t) : c.vm.isStatics = false := by
  cases hv : c.vm <;> first | rfl | exact absurd hv (h.1 _)
theorem va_T_at {s0 : State} {D : va_G} {cl : aCl} {ad : Nat → Nat} {unk : Nat → Value} {K p kd : Nat} {vs : List Value} {N : Nat} {f : Nat → Value} {A : Nat → Prop} (hk : kd < 8) (hp : p < K) (h : va_T (aTy kd) (ad p) N f A s0 s0.heap) (hN : vs.length = N)
    (hv : ∀ (j : Nat) (v : Value), vs[j]? = some v → f j = aV ad unk v) : aAt s0 D cl ad unk K p (kd, vs) s0.heap := by
  obtain ⟨cell, h1, h2, h3, h4, h5, h6, -⟩ := h
  refine ⟨cell, h1, h3, aNst h2, fun z => by omega, Or.inl ⟨hk, h2, ⟨by show vs.length ≤ _; omega, by show _ = Int32.ofNat vs.length; rw [hN]; exact h5⟩, fun j v hj => ?_⟩⟩
  rw [h6 j (by rw [← hN]; exact (List.getElem?_eq_some_iff.mp hj).1), hv j v hj]
theorem aStrs_pl : aStrs.length = 9 ∧ (List.range 9).all (fun i => decide ((aStrs.getD i ("", 0, "", 0)).2.2.2 = 2 + 2 * i)) = true := by decide +kernel
theorem aStrs_at {r : String × Nat × String × Nat} (h : r ∈ aStrs) : ∃ i, i < 9 ∧ r.2.2.2 = 2 + 2 * i ∧ aTm i = .string r.1 r.2.1 := by
  obtain ⟨i, hi⟩ := List.mem_iff_getElem?.mp h
  have hl : i < 9 := by rw [← aStrs_pl.1]; exact (List.getElem?_eq_some_iff.mp hi).1
  have hg : aStrs.getD i ("", 0, "", 0) = r := by rw [List.getD_eq_getElem?_getD, hi]; rfl
  have := of_decide_eq_true (List.all_eq_true.mp aStrs_pl.2 i (List.mem_range.mpr hl))
  rw [hg] at this
  refine ⟨i, hl, this, ?_⟩
  unfold aTm
  rw [hg]
