section STEP
variable {E : aExt} {scr : List Value} {S : Nat → List Value} {h : aH} {Q : aOut → aH → Prop} {i c : Nat} {w a b : Int32}
theorem row1 {p : Nat} (hM : aMem scr S h) (h1 : 20 ≤ p) (h2 : p < 87) (hn : aLn p = 1) : ∃ v0, S p = [v0] := by
  have hl := (hM.ln p h1 h2).trans hn
  match hS : S p, hl with
  | [v0], _ => exact ⟨v0, rfl⟩
/-- a refused call -/
theorem inv_ref {o : aO} {t : Int32} (hSt : eSt E) (hE : E S h) (ho : aTl o = true) (hM : aMem scr S h) (hL : aLks S) (hA : iAll (aEn S)) (hl : h.length ≤ 87 + 170 * c) : aInv E scr (c + 1) (mT (h ++ [o]) (S 56) t) :=
  inv_mT hSt (hSt S h S _ hE ⟨fun _ _ _ _ _ => rfl, fun _ _ => rfl, fun _ _ => rfl⟩ tail_push) (hM.push ho) hL hA (by rw [List.length_append]; show h.length + 1 ≤ _; omega)
theorem thr_at {t : Int32} (hM : aMem scr S h) : aE aM164 799 0 [(0, .ref 56)] [] (mT h (S 56) t) (aIs (some (.int t)) (mT h (S 56) t)) := s_thrown_at (len57 hM) (ln56 hM)
theorem mT_56 {t : Int32} (hM : aMem scr S h) : (mT h (S 56) t)[56]? = some (36, (S 56).set 0 (.int t)) := gS (Nat.lt_of_lt_of_le (by decide) hM.1)
theorem step_word (hL0 : scr.length ≤ 1536) (hi : i + 3 ≤ scr.length) (hw : w &&& 15 = Int32.ofNat 5) (ha : scr[i + 1]? = some (.int a)) (hSt : eSt E) (hI : aInv E scr c h) (kk : aNext E scr Q i c) : aE aMlaw 800 44 (aL0 (Int32.ofNat i)) [.int (w &&& 15)] h Q := by
  obtain ⟨S, hM, hL, hA, hl, hE⟩ := hI
  obtain ⟨pa, pb, n, p0, p1, p2, p3, p4, p5, p6⟩ := hA.2.2.1
  have h20 := hM.at 20 (by decide) (by decide)
  have hpa : h[pa]? = some (26, S pa) ∧ (S pa)[6]? = some (.ref (pa + 4)) ∧ h[pa + 4]? = some (0, S (pa + 4)) := by
    rcases p0 with ⟨rfl, -⟩ | ⟨rfl, -⟩
    · exact ⟨hM.at 46 (by decide) (by decide), hL (46, 6, .ref 50) (by decide), hM.at 50 (by decide) (by decide)⟩
    · exact ⟨hM.at 51 (by decide) (by decide), hL (51, 6, .ref 55) (by decide), hM.at 55 (by decide) (by decide)⟩
  by_cases hb : a < 0 ∨ Int32.ofNat n ≤ a
  · have hM2 := hM.push (o := (34, [])) rfl
    have hb2 : a < 0 ∨ Int32.ofNat n - 1 < a := by
      rcases hb with z | z
      · exact Or.inl z
      · by_cases z0 : a < 0
        · exact Or.inl z0
        refine Or.inr ?_
        rw [Int32.le_iff_toInt_le, Int32.toInt_ofNat_small (by omega)] at z
        rw [Int32.lt_iff_toInt_lt, Int32.toInt_sub, Int32.toInt_ofNat_small (by omega)]
        show Int.bmod ((n : Int) - 1) (2 ^ 32) < _
        rw [Int.bmod_eq_of_le (by omega) (by omega)]
        omega
    exact law_word hM.2.1 hM2.2.1 hi hL0 hw ha (hM2.at 56 (by decide) (by decide)) (mT_56 hM2) (s_lword_bad h20 (s_word_bad (Nat.le_trans (by decide) hM.1) h20 p1 hpa.1 p4 hb))
      (s_mword_bad (len57 hM2) (hM2.at 56 (by decide) (by decide)) (ln56 hM2) p5 hb2) (thr_at hM2) (fun z => absurd z (by decide)) (kk _ (inv_ref hSt hE rfl hM hL hA hl))
  · obtain ⟨k, hk0, rfl⟩ := i32_bnd (n := n) (a := a) (fun z => hb (Or.inl z)) (fun z => hb (Or.inr (Int32.le_of_lt z))) (by omega)
    have hk : k < n := by
      rcases Nat.lt_or_eq_of_le hk0 with z | rfl
      · exact z
      · exact absurd (Or.inr (Int32.le_refl _)) hb
    obtain ⟨x, x1, x2⟩ := p6 k hk
    obtain ⟨v0, e85⟩ := row1 (p := 85) hM (by decide) (by decide) (by decide +kernel)
    have h85 : h[85]? = some (2, [v0]) := by rw [← e85]; exact hM.at 85 (by decide) (by decide)
    have hM1 : aMem scr (aUp S 85 ((S 85).set 0 (.long x.toInt64))) (h.set 85 (2, [.long x.toInt64])) := by
      have := hM.set (p := 85) (b := (S 85).set 0 (.long x.toInt64)) (by decide) (by decide) (by rw [List.length_set]; exact hM.ln 85 (by decide) (by decide))
      rw [e85] at this ⊢
      exact this
    have hL1 : aLks (aUp S 85 ((S 85).set 0 (.long x.toInt64))) := hL.up (by decide +kernel)
    have hA1 : iAll (aEn (aUp S 85 ((S 85).set 0 (.long x.toInt64)))) := by
      rw [aEn_up (by rw [e85]; exact Nat.zero_lt_one)]
      exact hA.out (Or.inl rfl)
    have hE1 : E (aUp S 85 ((S 85).set 0 (.long x.toInt64))) (h.set 85 (2, [.long x.toInt64])) := hSt S h _ _ hE (eSim_out (Or.inl rfl)) (tail_set (by decide))
    have e56 : aUp S 85 ((S 85).set 0 (.long x.toInt64)) 56 = S 56 := aUp_ne (by decide)
    have i2 := inv_mT (c := c) (t := 0) hSt hE1 hM1 hL1 hA1 (by rw [List.length_set]; omega)
    have t2 := thr_at (t := 0) hM1
    have g2 := mT_56 (t := 0) hM1
    rw [e56] at i2 t2 g2
    refine law_word hM.2.1 hM1.2.1 hi hL0 hw ha ((gN (by decide)).trans (hM.at 56 (by decide) (by decide))) g2 (s_lword_ok h20 h85 (s_word_ok p3 hk h20 p1 hpa.1 p4 hpa.2.1 hpa.2.2 x1))
      (s_mword_ok p3 hk (by rw [List.length_set]; exact len57 hM) ((gN (by decide)).trans (hM.at 56 (by decide) (by decide))) (ln56 hM) p5 (hL (56, 31, .ref 76) (by decide)) ((gN (by decide)).trans (hM.at 76 (by decide) (by decide))) x2) t2 (fun _ => ?_) (kk _ i2)
    exact (gN (by decide)).trans (gS (Nat.lt_of_lt_of_le (by decide) hM.1))
theorem step_value (hL0 : scr.length ≤ 1536) (hi : i + 3 ≤ scr.length) (hw : w &&& 15 = Int32.ofNat 13) (ha : scr[i + 1]? = some (.int a)) (hSt : eSt E) (hI : aInv E scr c h) (kk : aNext E scr Q i c) : aE aMlaw 800 44 (aL0 (Int32.ofNat i)) [.int (w &&& 15)] h Q := by
  obtain ⟨S, hM, hL, hA, hl, hE⟩ := hI
  have h20 := hM.at 20 (by decide) (by decide)
  by_cases hb : a < 0 ∨ 7 < a
  · have hM2 := hM.push (o := (34, [])) rfl
    exact law_value hM.2.1 hM2.2.1 hi hL0 hw ha (hM2.at 56 (by decide) (by decide)) (mT_56 hM2) (s_lvalue_bad h20 (s_value_bad (Nat.le_trans (by decide) hM.1) hb))
      (s_mvalue_bad (len57 hM2) (hM2.at 56 (by decide) (by decide)) (ln56 hM2) hb) (thr_at hM2) (fun z => absurd z (by decide)) (kk _ (inv_ref hSt hE rfl hM hL hA hl))
  · obtain ⟨k, hk, rfl⟩ := i32_bnd (n := 7) (a := a) (fun z => hb (Or.inl z)) (fun z => hb (Or.inr z)) (by decide)
    obtain ⟨f, f0, f1, f2⟩ := hA.2.2.2.2.2.1 k (by omega)
    obtain ⟨v0, e86⟩ := row1 (p := 86) hM (by decide) (by decide) (by decide +kernel)
    have h86 : h[86]? = some (4, [v0]) := by rw [← e86]; exact hM.at 86 (by decide) (by decide)
    have hM1 : aMem scr (aUp S 86 ((S 86).set 0 (.double (FP.f2d f)))) (h.set 86 (4, [.double (FP.f2d f)])) := by
      have := hM.set (p := 86) (b := (S 86).set 0 (.double (FP.f2d f))) (by decide) (by decide) (by rw [List.length_set]; exact hM.ln 86 (by decide) (by decide))
      rw [e86] at this ⊢
      exact this
    have hL1 : aLks (aUp S 86 ((S 86).set 0 (.double (FP.f2d f)))) := hL.up (by decide +kernel)
    have hA1 : iAll (aEn (aUp S 86 ((S 86).set 0 (.double (FP.f2d f))))) := by
      rw [aEn_up (by rw [e86]; exact Nat.zero_lt_one)]
      exact hA.out (Or.inr rfl)
    have hE1 : E (aUp S 86 ((S 86).set 0 (.double (FP.f2d f)))) (h.set 86 (4, [.double (FP.f2d f)])) := hSt S h _ _ hE (eSim_out (Or.inr rfl)) (tail_set (by decide))
    have e56 : aUp S 86 ((S 86).set 0 (.double (FP.f2d f))) 56 = S 56 := aUp_ne (by decide)
    have i2 := inv_mT (c := c) (t := 0) hSt hE1 hM1 hL1 hA1 (by rw [List.length_set]; omega)
    have t2 := thr_at (t := 0) hM1
    have g2 := mT_56 (t := 0) hM1
    rw [e56] at i2 t2 g2
    refine law_value hM.2.1 hM1.2.1 hi hL0 hw ha ((gN (by decide)).trans (hM.at 56 (by decide) (by decide))) g2 (s_lvalue_ok h20 h86 f0.1 (s_value_ok (by omega) h20 (hL (20, 4, .ref 35) (by decide)) (hM.at 35 (by decide) (by decide)) (hL (35, 2, .ref 37) (by decide)) (hM.at 37 (by decide) (by decide)) f1))
      (s_mvalue_ok (by omega) (by rw [List.length_set]; exact len57 hM) ((gN (by decide)).trans (hM.at 56 (by decide) (by decide))) (ln56 hM) (hL (56, 40, .ref 81) (by decide)) ((gN (by decide)).trans (hM.at 81 (by decide) (by decide))) f2) t2 (fun _ => ⟨?_, f0.1, f0.2⟩) (kk _ i2)
    exact (gN (by decide)).trans (gS (Nat.lt_of_lt_of_le (by decide) hM.1))
end STEP
