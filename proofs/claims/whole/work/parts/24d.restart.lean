section RST
variable {E : aExt} {scr : List Value} {S : Nat → List Value} {h : aH} {Q : aOut → aH → Prop} {i c : Nat} {w a b : Int32}
/-- what holds besides is kept when all begins anew -/
def eBg (E : aExt) : Prop := ∀ S h h', E S h → (S 35).length = 10 → (S 41).length = 6 → (S 56).length = 49 → (∀ (q : Nat) (o : aO), 87 ≤ q → h[q]? = some o → h'[q]? = some o) → E (sBg S) h'
theorem step_restart (hw : w &&& 15 = Int32.ofNat 6) (hBg : eBg E) (hSt : eSt E) (hI : aInv E scr c h) (kk : aNext E scr Q i c) : aE aMlaw 800 44 (aL0 (Int32.ofNat i)) [.int (w &&& 15)] h Q := by
  obtain ⟨S, hM, hL, hA, hl, hE⟩ := hI
  obtain ⟨pa, pb, n, p0, p1, p2, p3, p4, p5, p6⟩ := hA.2.2.1
  have h20 := hM.at 20 (by decide) (by decide)
  have h56 := hM.at 56 (by decide) (by decide)
  have hpa : h[pa]? = some (26, S pa) := by
    rcases p0 with ⟨rfl, -⟩ | ⟨rfl, -⟩
    · exact hM.at 46 (by decide) (by decide)
    · exact hM.at 51 (by decide) (by decide)
  by_cases hn : n = 0
  · subst hn
    have hM2 := hM.push (o := (32, [])) rfl
    exact law_restart hw (hM2.at 56 (by decide) (by decide)) (mT_56 hM2) (s_lrestart_no h20 (s_needProgram_no (Nat.le_trans (by decide) hM.1) h20 p1 hpa p4))
      (s_mrestart_no (len57 hM2) (hM2.at 56 (by decide) (by decide)) (ln56 hM2) p5) (thr_at hM2) (kk _ (inv_ref hSt hE rfl hM hL hA hl))
  · have l35 : (S 35).length = 10 := (hM.ln 35 (by decide) (by decide)).trans rfl
    have l41 : (S 41).length = 6 := (hM.ln 41 (by decide) (by decide)).trans rfl
    have l37 : (S 37).length = 8 := (hM.ln 37 (by decide) (by decide)).trans rfl
    have l81 : (S 81).length = 8 := (hM.ln 81 (by decide) (by decide)).trans rfl
    have l43 : (S 43).length = 768 := (hM.ln 43 (by decide) (by decide)).trans (by decide +kernel)
    have l82 : (S 82).length = 768 := (hM.ln 82 (by decide) (by decide)).trans (by decide +kernel)
    have n0 : Int32.ofNat n ≠ 0 := fun z => by
      have z : Int32.ofNat n = Int32.ofNat 0 := z
      have := congrArg Int32.toInt z
      rw [Int32.toInt_ofNat_small (by omega), Int32.toInt_ofNat_small (by omega)] at this
      omega
    have n1 : ¬ Int32.ofNat n ≤ 0 := fun z => by
      have := (i32_le (a := n) (b := 0) (by omega) (by omega)).mp z
      omega
    have kb := s_kbegin (d := 794) (len57 hM) (hM.at 35 (by decide) (by decide)) l35 (hL (35, 2, .ref 37) (by decide)) (hL (35, 7, .ref 41) (by decide)) (hM.at 37 (by decide) (by decide)) l37 (hM.at 41 (by decide) (by decide)) l41 (hL (41, 0, .ref 42) (by decide)) (hM.at 42 (by decide) (by decide)) (hL (42, 0, .ref 43) (by decide)) (hM.at 43 (by decide) (by decide)) l43
    have r1 := s_lrestart_ok (d := 794) h20 (hL (20, 4, .ref 35) (by decide)) (hM.at 35 (by decide) (by decide)) (s_needProgram_ok h20 p1 hpa p4 n0) kb
    have f : ∀ q o, q ≠ 35 → q ≠ 37 → q ≠ 41 → q ≠ 43 → h[q]? = some o → ((((h.set 35 (18, mcBeg (S 35))).set 37 (3, List.replicate 8 (.float 0))).set 41 (20, tuBeg (S 41))).set 43 (0, List.replicate 768 (.int 0)))[q]? = some o := fun q o q1 q2 q3 q4 hq =>
      (gN (Ne.symm q4)).trans ((gN (Ne.symm q3)).trans ((gN (Ne.symm q2)).trans ((gN (Ne.symm q1)).trans hq)))
    have g56 := f 56 _ (by decide) (by decide) (by decide) (by decide) h56
    have hlen : ((((h.set 35 (18, mcBeg (S 35))).set 37 (3, List.replicate 8 (.float 0))).set 41 (20, tuBeg (S 41))).set 43 (0, List.replicate 768 (.int 0))).length = h.length := by simp only [List.length_set]
    have h87 := hM.1
    have mb := s_begin 798 (h := mT ((((h.set 35 (18, mcBeg (S 35))).set 37 (3, List.replicate 8 (.float 0))).set 41 (20, tuBeg (S 41))).set 43 (0, List.replicate 768 (.int 0))) (S 56) 0) (vs := (S 56).set 0 (.int 0)) (vl := S 81) (pl := S 82) (by rw [List.length_set, hlen]; omega) (gS (by rw [hlen]; omega)) (by rw [List.length_set]; exact ln56 hM) (sT (by decide) (hL (56, 40, .ref 81) (by decide))) (sT (by decide) (hL (56, 46, .ref 82) (by decide)))
      ((gN (by decide)).trans (f 81 _ (by decide) (by decide) (by decide) (by decide) (hM.at 81 (by decide) (by decide)))) l81 ((gN (by decide)).trans (f 82 _ (by decide) (by decide) (by decide) (by decide) (hM.at 82 (by decide) (by decide)))) l82
    rw [uS] at mb
    have r2 := s_mrestart_ok (d := 798) (by rw [hlen]; omega) g56 (ln56 hM) p5 n1 mb
    have e56 : ((((((((h.set 35 (18, mcBeg (S 35))).set 37 (3, List.replicate 8 (.float 0))).set 41 (20, tuBeg (S 41))).set 43 (0, List.replicate 768 (.int 0))).set 56 (36, mBeg ((S 56).set 0 (.int 0)))).set 81 (3, List.replicate 8 (.float 0))).set 82 (0, List.replicate 768 (.int 0))))[56]? = some (36, mBeg ((S 56).set 0 (.int 0))) :=
      (gN (by decide)).trans ((gN (by decide)).trans (gS (by rw [hlen]; omega)))
    refine law_restart hw g56 e56 r1 r2 (s_thrown e56 ?_) (kk _ ⟨sBg S, sBg_mem hM, sBg_lks hL, sBg_all l35 l41 (ln56 hM) hA, by simp only [List.length_set]; omega, hBg S h _ hE l35 l41 (ln56 hM) (fun q o hq e => by rw [List.getElem?_set_ne (by omega), List.getElem?_set_ne (by omega), List.getElem?_set_ne (by omega), List.getElem?_set_ne (by omega), List.getElem?_set_ne (by omega), List.getElem?_set_ne (by omega), List.getElem?_set_ne (by omega)]; exact e)⟩)
    rw [mBeg_ne rfl]
    exact List.getElem?_set_self (by have := ln56 hM; omega)
end RST
