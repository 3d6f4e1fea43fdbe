/-! the loop's two ends, and the calls that are none -/
section ENDS
variable {E : aExt} {scr : List Value} {S : Nat → List Value} {h : aH} {Q : aOut → aH → Prop} {i c : Nat} {w a b : Int32}
theorem step_skip (hw : ¬ (w &&& 15).toInt ≤ 13) (hSt : eSt E) (hI : aInv E scr c h) (kk : aNext E scr Q i c) : aE aMlaw 800 44 (aL0 (Int32.ofNat i)) [.int (w &&& 15)] h Q := by
  obtain ⟨S, hM, hL, hA, hl, hE⟩ := hI
  exact law_skip hw (kk _ ⟨S, hM, hL, hA, by omega, hE⟩)
theorem aSz_len {k : Nat} {l l' : List Value} (h : l.length = l'.length) : aSz aCls (k, l) = aSz aCls (k, l') := by
  unfold aSz
  dsimp only
  rw [h]
theorem aMem_sz (hM : aMem scr S h) : aSzs aCls h ≤ aSzs aCls (hA scr) + 13 * (h.length - 87) := by
  have h0 : aMem scr aS0 (hA scr) := aMem_0
  have e1 : aSzs aCls h = aSzs aCls (h.take 87) + aSzs aCls (h.drop 87) := by rw [← aSzs_app, List.take_append_drop]
  have e2 : aSzs aCls (h.take 87) = aSzs aCls (hA scr) := by
    unfold aSzs
    congr 1
    apply List.ext_getElem?
    intro p
    rw [List.getElem?_map, List.getElem?_map]
    by_cases hp : p < 87
    · rw [List.getElem?_take_of_lt hp]
      rcases Nat.lt_or_ge p 20 with h20 | h20
      · rcases Nat.eq_zero_or_pos p with rfl | hp0
        · rw [hM.2.1, h0.2.1]
        · rw [hM.2.2.1 p hp0 h20, h0.2.2.1 p hp0 h20]
      · rw [hM.at p h20 hp, h0.at p h20 hp]
        show some _ = some _
        rw [aSz_len ((hM.ln p h20 hp).trans (h0.ln p h20 hp).symm)]
    · rw [List.getElem?_eq_none (by rw [List.length_take]; omega), List.getElem?_eq_none (by rw [hA_len]; omega)]
  have e3 : ∀ l : aH, (∀ o ∈ l, aTl o = true) → aSzs aCls l ≤ 13 * l.length := by
    intro l
    induction l with
    | nil => intro _; exact Nat.le_refl _
    | cons o l ih =>
      intro hl
      have h1 := aTl_sz (hl o List.mem_cons_self)
      have h2 := ih (fun x hx => hl x (List.mem_cons_of_mem _ hx))
      show aSz aCls o + aSzs aCls l ≤ 13 * (l.length + 1)
      omega
  have e4 := e3 (h.drop 87) (fun o ho => by
    obtain ⟨p, hp⟩ := List.mem_iff_getElem?.mp ho
    rw [List.getElem?_drop] at hp
    exact hM.2.2.2.2 _ o (by omega) hp)
  rw [List.length_drop] at e4
  omega
theorem okF_0 : okF 0 ∧ okF 1098907648 ∧ okF 1094713344 := ⟨⟨f16_ok.2.2.2.2.1, f16_ok.2.2.2.2.2⟩, ⟨f16_ok.1, f16_ok.2.1⟩, ⟨f16_ok.2.2.1, f16_ok.2.2.2.1⟩⟩
theorem aS0_rows : aS0 57 = aS0 21 ∧ aS0 43 = List.replicate 768 (.int 0) ∧ aS0 82 = List.replicate 768 (.int 0) ∧ aS0 37 = List.replicate 8 (.float 0) ∧ aS0 81 = List.replicate 8 (.float 0) := by decide +kernel
theorem aInv_0 (hE : E aS0 (hA scr)) : aInv E scr 0 (hA scr) := by
  obtain ⟨r1, r2, r3, r4, r5⟩ := aS0_rows
  refine ⟨aS0, aMem_0, aS0_lks, ⟨⟨0, by decide, rfl, rfl, fun j => ⟨by unfold aEn; rw [r1], fun hj => absurd hj (Nat.not_lt_zero j)⟩⟩, ⟨-1, rfl, rfl⟩, ⟨46, 51, 0, Or.inl ⟨rfl, rfl⟩, rfl, rfl, by decide, rfl, rfl, fun j hj => absurd hj (by omega)⟩, fun j hj => ⟨0, ?_, ?_⟩,
    ⟨1098907648, 1094713344, 0, okF_0.2.1, okF_0.2.2, rfl, rfl, rfl, rfl, rfl, rfl⟩, fun j hj => ⟨0, okF_0.1, ?_, ?_⟩, ⟨0, rfl, rfl, fun _ => ⟨0, 0, 0, 1, 1, rfl, rfl, rfl, rfl, by decide, rfl, rfl, by decide, rfl, rfl, rfl, rfl, fun j hj => absurd hj (by omega), fun j hj => absurd hj (by omega), fun j hj => absurd hj (by omega)⟩⟩⟩, by rw [hA_len]; decide, hE⟩
  · unfold aEn
    rw [r2, List.getElem?_replicate, if_pos hj]
  · unfold aEn
    rw [r3, List.getElem?_replicate, if_pos hj]
  · unfold aEn
    rw [r4, List.getElem?_replicate, if_pos hj]
  · unfold aEn
    rw [r5, List.getElem?_replicate, if_pos hj]
end ENDS
