/-! run and interpret, refused -/
section RUNREF
variable {E : aExt} {scr : List Value} {S : Nat → List Value} {h : aH} {Q : aOut → aH → Prop} {i c : Nat} {w a b : Int32}
theorem step_run_bad (hL0 : scr.length ≤ 1536) (hi : i + 3 ≤ scr.length) (hw : w &&& 15 = Int32.ofNat 7) (ha : scr[i + 1]? = some (.int a)) (hb : a < 1 ∨ 2000 < a) (hSt : eSt E) (hI : aInv E scr c h) (kk : aNext E scr Q i c) : aE aMlaw 800 44 (aL0 (Int32.ofNat i)) [.int (w &&& 15)] h Q := by
  obtain ⟨S, hM, hL, hA, hl, hE⟩ := hI
  have h20 := hM.at 20 (by decide) (by decide)
  have hM2 := hM.push (o := (28, [])) rfl
  have h56 := hM2.at 56 (by decide) (by decide)
  exact law_run hM.2.1 hM2.2.1 hi hL0 hw ha h56 (mT_56 hM2) (s_lrun_bad (Nat.le_trans (by decide) hM.1) h20 hb) (s_mrun_ref (by decide) (len57 hM2) h56 (ln56 hM2) (s_wrongFuel_bad hb)) (thr_at hM2) (fun z => absurd z (by decide)) (kk _ (inv_ref hSt hE rfl hM hL hA hl))
theorem step_interpret_bad (hL0 : scr.length ≤ 1536) (hi : i + 3 ≤ scr.length) (hw : w &&& 15 = Int32.ofNat 8) (ha : scr[i + 1]? = some (.int a)) (hb : a < 1 ∨ 2000 < a) (hSt : eSt E) (hI : aInv E scr c h) (kk : aNext E scr Q i c) : aE aMlaw 800 44 (aL0 (Int32.ofNat i)) [.int (w &&& 15)] h Q := by
  obtain ⟨S, hM, hL, hA, hl, hE⟩ := hI
  have h20 := hM.at 20 (by decide) (by decide)
  have hM2 := hM.push (o := (28, [])) rfl
  have h56 := hM2.at 56 (by decide) (by decide)
  exact law_interpret hM.2.1 hM2.2.1 hi hL0 hw ha h56 (mT_56 hM2) (s_linterpret_bad (Nat.le_trans (by decide) hM.1) h20 hb) (s_minterpret_ref (by decide) (len57 hM2) h56 (ln56 hM2) (s_wrongFuel_bad hb)) (thr_at hM2) (fun z => absurd z (by decide)) (kk _ (inv_ref hSt hE rfl hM hL hA hl))
end RUNREF
