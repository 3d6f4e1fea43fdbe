/-! the short calls keep the invariant -/
section STEP
variable {E : aExt} {scr : List Value} {S : Nat → List Value} {h : aH} {Q : aOut → aH → Prop} {i c : Nat} {w a b : Int32}
abbrev aNext (E : aExt) (scr : List Value) (Q : aOut → aH → Prop) (i c : Nat) : Prop := ∀ h2, aInv E scr (c + 1) h2 → aE aMlaw 800 28 (aL0 (Int32.ofNat (i + 3))) [] h2 Q
theorem ln56 (hM : aMem scr S h) : (S 56).length = 49 := (hM.ln 56 (by decide) (by decide)).trans rfl
theorem len57 (hM : aMem scr S h) : 57 ≤ h.length := Nat.le_trans (by decide) hM.1
theorem inv_mT {t : Int32} (hSt : eSt E) (hE : E S h) (hM : aMem scr S h) (hL : aLks S) (hA : iAll (aEn S)) (hl : h.length ≤ 87 + 170 * (c + 1)) : aInv E scr (c + 1) (mT h (S 56) t) := by
  have h49 := ln56 hM
  refine ⟨aUp S 56 ((S 56).set 0 (.int t)), hM.set (p := 56) (by decide) (by decide) (by rw [List.length_set]; exact h49), hL.up (by decide +kernel), ?_, by rw [List.length_set]; exact hl, hSt S h _ _ hE (eSim_56 (by decide)) (tail_set (by decide))⟩
  rw [aEn_up (by omega)]
  exact hA.thrown
theorem step_error (hw : w &&& 15 = Int32.ofNat 3) (hSt : eSt E) (hI : aInv E scr c h) (kk : aNext E scr Q i c) : aE aMlaw 800 44 (aL0 (Int32.ofNat i)) [.int (w &&& 15)] h Q := by
  obtain ⟨S, hM, hL, hA, hl, hE⟩ := hI
  obtain ⟨x, x1, x2⟩ := hA.2.1
  exact law_error hw (hM.at 20 (by decide) (by decide)) (hM.at 56 (by decide) (by decide)) (s_error (hM.at 20 (by decide) (by decide)) (hL (20, 2, .ref 22) (by decide)) (hM.at 22 (by decide) (by decide)) x1)
    (s_merror (len57 hM) (hM.at 56 (by decide) (by decide)) (ln56 hM) x2) (kk _ (inv_mT hSt hE hM hL hA (by omega)))
theorem step_size (hw : w &&& 15 = Int32.ofNat 4) (hSt : eSt E) (hI : aInv E scr c h) (kk : aNext E scr Q i c) : aE aMlaw 800 44 (aL0 (Int32.ofNat i)) [.int (w &&& 15)] h Q := by
  obtain ⟨S, hM, hL, hA, hl, hE⟩ := hI
  obtain ⟨pa, pb, n, p0, p1, p2, p3, p4, p5, p6⟩ := hA.2.2.1
  have hpa : h[pa]? = some (26, S pa) := by
    rcases p0 with ⟨rfl, -⟩ | ⟨rfl, -⟩
    · exact hM.at 46 (by decide) (by decide)
    · exact hM.at 51 (by decide) (by decide)
  exact law_size hw (hM.at 20 (by decide) (by decide)) (hM.at 56 (by decide) (by decide)) (s_size (hM.at 20 (by decide) (by decide)) p1 hpa p4)
    (s_msize (len57 hM) (hM.at 56 (by decide) (by decide)) (ln56 hM) p5) (kk _ (inv_mT hSt hE hM hL hA (by omega)))
theorem step_heading (hw : w &&& 15 = Int32.ofNat 12) (hSt : eSt E) (hI : aInv E scr c h) (kk : aNext E scr Q i c) : aE aMlaw 800 44 (aL0 (Int32.ofNat i)) [.int (w &&& 15)] h Q := by
  obtain ⟨S, hM, hL, hA, hl, hE⟩ := hI
  obtain ⟨x, y, hd, o1, o2, u1, u2, u3, u4, u5, u6⟩ := hA.2.2.2.2.1
  exact law_heading hw (hM.at 20 (by decide) (by decide)) (hM.at 56 (by decide) (by decide)) (s_heading (hM.at 20 (by decide) (by decide)) (hL (20, 4, .ref 35) (by decide)) (hM.at 35 (by decide) (by decide)) (hL (35, 7, .ref 41) (by decide)) (hM.at 41 (by decide) (by decide)) u5)
    (s_mheading (len57 hM) (hM.at 56 (by decide) (by decide)) (ln56 hM) u6) (kk _ (inv_mT hSt hE hM hL hA (by omega)))
theorem step_x (hw : w &&& 15 = Int32.ofNat 10) (hSt : eSt E) (hI : aInv E scr c h) (kk : aNext E scr Q i c) : aE aMlaw 800 44 (aL0 (Int32.ofNat i)) [.int (w &&& 15)] h Q := by
  obtain ⟨S, hM, hL, hA, hl, hE⟩ := hI
  obtain ⟨x, y, hd, o1, o2, u1, u2, u3, u4, u5, u6⟩ := hA.2.2.2.2.1
  exact law_x hw (hM.at 20 (by decide) (by decide)) (hM.at 56 (by decide) (by decide)) o1.1 o1.2 (s_x (hM.at 20 (by decide) (by decide)) (hL (20, 4, .ref 35) (by decide)) (hM.at 35 (by decide) (by decide)) (hL (35, 7, .ref 41) (by decide)) (hM.at 41 (by decide) (by decide)) u1)
    (s_mx (len57 hM) (hM.at 56 (by decide) (by decide)) (ln56 hM) u2) (kk _ (inv_mT hSt hE hM hL hA (by omega)))
theorem step_y (hw : w &&& 15 = Int32.ofNat 11) (hSt : eSt E) (hI : aInv E scr c h) (kk : aNext E scr Q i c) : aE aMlaw 800 44 (aL0 (Int32.ofNat i)) [.int (w &&& 15)] h Q := by
  obtain ⟨S, hM, hL, hA, hl, hE⟩ := hI
  obtain ⟨x, y, hd, o1, o2, u1, u2, u3, u4, u5, u6⟩ := hA.2.2.2.2.1
  exact law_y hw (hM.at 20 (by decide) (by decide)) (hM.at 56 (by decide) (by decide)) o2.1 o2.2 (s_y (hM.at 20 (by decide) (by decide)) (hL (20, 4, .ref 35) (by decide)) (hM.at 35 (by decide) (by decide)) (hL (35, 7, .ref 41) (by decide)) (hM.at 41 (by decide) (by decide)) u3)
    (s_my (len57 hM) (hM.at 56 (by decide) (by decide)) (ln56 hM) u4) (kk _ (inv_mT hSt hE hM hL hA (by omega)))
theorem pic_row (hM : aMem scr S h) (hp : iPic (aEn S)) : S 82 = S 43 ∧ aInts (S 43) := by
  have l1 : (S 43).length = 768 := (hM.ln 43 (by decide) (by decide)).trans (by decide +kernel)
  have l2 : (S 82).length = 768 := (hM.ln 82 (by decide) (by decide)).trans (by decide +kernel)
  refine ⟨List.ext_getElem? (fun j => ?_), fun j v hv => ?_⟩
  · by_cases hj : j < 768
    · obtain ⟨x, e1, e2⟩ := hp j hj
      exact e2.trans e1.symm
    · rw [List.getElem?_eq_none (by omega), List.getElem?_eq_none (by omega)]
  · obtain ⟨x, e1, -⟩ := hp j (by have := (List.getElem?_eq_some_iff.mp hv).1; omega)
    exact ⟨x, Option.some.inj (hv.symm.trans e1)⟩
theorem step_pixel (hL0 : scr.length ≤ 1536) (hi : i + 3 ≤ scr.length) (hw : w &&& 15 = Int32.ofNat 9) (ha : scr[i + 1]? = some (.int a)) (hb : scr[i + 2]? = some (.int b)) (hSt : eSt E) (hI : aInv E scr c h) (kk : aNext E scr Q i c) : aE aMlaw 800 44 (aL0 (Int32.ofNat i)) [.int (w &&& 15)] h Q := by
  obtain ⟨S, hM, hL, hA, hl, hE⟩ := hI
  obtain ⟨r1, r2⟩ := pic_row hM hA.2.2.2.1
  have l1 : (S 43).length = 768 := (hM.ln 43 (by decide) (by decide)).trans (by decide +kernel)
  exact law_pixel hM.2.1 hM.2.1 hi hL0 hw ha hb (hM.at 20 (by decide) (by decide)) (hM.at 56 (by decide) (by decide))
    (s_pixel (d := 797) (hM.at 20 (by decide) (by decide)) (hL (20, 4, .ref 35) (by decide)) (hM.at 35 (by decide) (by decide)) (hL (35, 7, .ref 41) (by decide)) (hM.at 41 (by decide) (by decide)) (hL (41, 0, .ref 42) (by decide)) (hM.at 42 (by decide) (by decide)) (hL (42, 0, .ref 43) (by decide)) (hM.at 43 (by decide) (by decide)) l1 r2)
    (s_mpixel (d := 797) (len57 hM) (hM.at 56 (by decide) (by decide)) (ln56 hM) (hL (56, 46, .ref 82) (by decide)) ((hM.at 82 (by decide) (by decide)).trans (by rw [r1]; rfl)) l1 r2) (kk _ (inv_mT hSt hE hM hL hA (by omega)))
end STEP
