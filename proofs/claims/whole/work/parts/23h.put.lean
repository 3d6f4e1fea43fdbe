section TEXT
variable {E : aExt} {scr : List Value} {S : Nat → List Value} {h : aH} {Q : aOut → aH → Prop} {i c : Nat} {w a b : Int32}
theorem row57 (hM : aMem scr S h) (ht : iTxt (aEn S)) : S 57 = S 21 := by
  obtain ⟨tl, -, -, -, t4⟩ := ht
  exact List.ext_getElem? (fun j => (t4 j).1)
theorem eSim_tx {n : Nat} {tx : List Value} : eSim S (sTx S n tx) := by
  refine ⟨fun q h1 h2 h3 h4 => ?_, fun j hj => ?_, fun j hj => ?_⟩
  · unfold sTx
    rw [if_neg (by omega), if_neg (by omega), if_neg h3, if_neg h4]
  · show ((S 20).set 1 _)[j]? = _
    rw [List.getElem?_set_ne (by omega)]
  · show (((S 56).set 0 _).set 2 _)[j]? = _
    rw [List.getElem?_set_ne (by omega), List.getElem?_set_ne (by omega)]
theorem step_clear (hw : w &&& 15 = Int32.ofNat 1) (hSt : eSt E) (hI : aInv E scr c h) (kk : aNext E scr Q i c) : aE aMlaw 800 44 (aL0 (Int32.ofNat i)) [.int (w &&& 15)] h Q := by
  obtain ⟨S, hM, hL, hA, hl, hE⟩ := hI
  have h160 : (S 21).length = 160 := (hM.ln 21 (by decide) (by decide)).trans (by decide +kernel)
  have e57 : S 57 = S 21 := row57 hM hA.1
  have e56 : (h.set 20 (8, (S 20).set 1 (.int 0)))[56]? = some (36, S 56) := (gN (by decide)).trans (hM.at 56 (by decide) (by decide))
  refine law_clear hw (hM.at 20 (by decide) (by decide)) e56 (s_clear (len57 hM) (hM.at 20 (by decide) (by decide)) (ln20 hM)) (s_mclear (by rw [List.length_set]; exact len57 hM) e56 (ln56 hM)) (kk _ ⟨sTx S 0 (S 21), ?_, sTx_lks hL, sTx_all (by decide) (fun j hj => absurd hj (Nat.not_lt_zero j)) (ln20 hM) (ln56 hM) hA, by simp only [List.length_set]; omega, ?_⟩)
  rotate_left
  · exact hSt S h _ _ hE eSim_tx (fun q o hq e => (List.getElem?_set_ne (by omega)).trans ((List.getElem?_set_ne (by omega)).trans e))
  have m := sTx_mem (n := 0) hM h160
  have g21 : (h.set 20 (8, (S 20).set 1 (.int (Int32.ofNat 0))))[21]? = some (1, S 21) := (gN (by decide)).trans (hM.at 21 (by decide) (by decide))
  rw [set_id g21] at m
  have g57 : ((h.set 20 (8, (S 20).set 1 (.int (Int32.ofNat 0)))).set 56 (36, ((S 56).set 0 (.int 0)).set 2 (.int (Int32.ofNat 0))))[57]? = some (1, S 21) := by
    rw [gN (by decide), gN (by decide), ← e57]
    exact hM.at 57 (by decide) (by decide)
  rw [set_id g57] at m
  exact m
theorem step_put (hL0 : scr.length ≤ 1536) (hi : i + 3 ≤ scr.length) (hw : w &&& 15 = Int32.ofNat 0) (ha : scr[i + 1]? = some (.int a)) (hb : scr[i + 2]? = some (.int b)) (hSt : eSt E) (hI : aInv E scr c h) (kk : aNext E scr Q i c) : aE aMlaw 800 44 (aL0 (Int32.ofNat i)) [.int (w &&& 15)] h Q := by
  obtain ⟨S, hM, hL, hA, hl, hE⟩ := hI
  have h160 : (S 21).length = 160 := (hM.ln 21 (by decide) (by decide)).trans (by decide +kernel)
  have e57 : S 57 = S 21 := row57 hM hA.1
  obtain ⟨tl, t1, t2, t3, t4⟩ := hA.1
  have h20 := hM.at 20 (by decide) (by decide)
  have h21 := hM.at 21 (by decide) (by decide)
  have h56 := hM.at 56 (by decide) (by decide)
  have h57 : h[57]? = some (1, S 21) := by rw [← e57]; exact hM.at 57 (by decide) (by decide)
  have s1 := s_put (d := 798) (h := h) (w := a) (n := b) (tl := tl) (len57 hM) h20 (ln20 hM) (hL (20, 0, .ref 21) (by decide)) t2 h21 h160 t1
  cases hp : putOk a b tl with
  | false =>
    rw [hp] at s1
    have s2 := s_mput (d := 798) (h := h) (w := a) (n := b) (tl := tl) (Nat.le_trans (by decide) hM.1) h56 (ln56 hM) (hL (56, 1, .ref 57) (by decide)) t3 h57 h160 t1
    rw [hp] at s2
    exact law_put hM.2.1 hM.2.1 hi hL0 hw ha hb h20 h56 s1 s2 (kk _ (inv_mT hSt hE hM hL hA (by omega)))
  | true =>
    rw [hp] at s1
    have hn : tl + b.toNatClampNeg ≤ 160 := by
      simp only [putOk, Bool.and_eq_true, decide_eq_true_eq] at hp
      exact hp.1.2
    have e56 : ((h.set 20 (8, (S 20).set 1 (.int (Int32.ofNat (tl + b.toNatClampNeg))))).set 21 (1, putTx a b.toNatClampNeg (S 21) tl))[56]? = some (36, S 56) := ((gN (by decide)).trans (gN (by decide))).trans h56
    have e57' : ((h.set 20 (8, (S 20).set 1 (.int (Int32.ofNat (tl + b.toNatClampNeg))))).set 21 (1, putTx a b.toNatClampNeg (S 21) tl))[57]? = some (1, S 21) := ((gN (by decide)).trans (gN (by decide))).trans h57
    have s2 := s_mput (d := 798) (w := a) (n := b) (tl := tl) (by simp only [List.length_set]; exact Nat.le_trans (by decide) hM.1) e56 (ln56 hM) (hL (56, 1, .ref 57) (by decide)) t3 e57' h160 t1
    rw [hp] at s2
    refine law_put hM.2.1 (((gN (by decide)).trans (gN (by decide))).trans hM.2.1) hi hL0 hw ha hb h20 e56 s1 s2 (kk _ ⟨sTx S (tl + b.toNatClampNeg) (putTx a b.toNatClampNeg (S 21) tl), sTx_mem hM ((putTx_len ..).trans h160), sTx_lks hL, sTx_all hn (putTx_ok _ _ _ (by rw [h160]; exact hn) (fun j hj => (t4 j).2 hj)) (ln20 hM) (ln56 hM) hA, ?_, ?_⟩)
    · simp only [if_true, List.length_set]
      omega
    · exact hSt S h _ _ hE eSim_tx (fun q o hq e => (List.getElem?_set_ne (by omega)).trans ((List.getElem?_set_ne (by omega)).trans ((List.getElem?_set_ne (by omega)).trans ((List.getElem?_set_ne (by omega)).trans e))))
end TEXT
