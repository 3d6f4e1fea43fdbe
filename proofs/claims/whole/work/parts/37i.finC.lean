/-! the invariant when compile is done -/
section FIC
variable {scr : List Value} {kd kd1 : Nat → Nat} {n n1 c d L : Nat} {S S2 S3 S' SF : Nat → List Value} {s : aSt} {w0 : Nat → Value} {ep : Int32} {pa pb N : Nat} {W : Nat → Nat} {b rest2 : List Value} {r : gSt × List Nat × List cAl × List Nat} {v85 : Value}
def wK (w : Nat → Value) (L : Nat) (ep tk : Int32) : Nat → Value := fun i => (mK w L ep tk []).getD i .null
theorem wK_mM {w : Nat → Value} {tk nn : Int32} {pc en hi un : Int32} {x y : UInt32} {hd co dn : Int32} : mK w L ep tk [.int nn, .ref 76, .int pc, .int en, .int hi, .ref 77, .int un, .ref 78, .ref 79, .ref 80, .ref 81, .float x, .float y, .int hd, .int co, .int dn, .ref 82, .ref 83, .ref 84] = mM (wK w L ep tk) nn pc en hi un x y hd co dn := rfl
theorem fin_C (hn : 67 ≤ n) (hM : aMem scr S (gH scr kd n S)) (hL : aLks S) (hA : iAll (aEn S)) (hl : (gH scr kd n S).length ≤ 87 + 170 * c) (hE : iExt S (gH scr kd n S)) (hpp : (pa = 46 ∧ pb = 51) ∨ (pa = 51 ∧ pb = 46)) (h20 : S 20 = [.ref 21, .int (Int32.ofNat L), .ref 22, .ref 34, .ref 35, .ref 45, .ref pa, .ref pb]) (m2 : mRep S w0 (Int32.ofNat N) s S) (m3 : okS s) (c240 : r.2.2.2.length ≤ 240) (F2 : kFr kd n S pb (-1) kd1 n1 S2) (hP : kPr n n1 pb kd1 r S2) (R3 : cRep (aUp S2 20 [.ref 21, .int (Int32.ofNat L), .ref 22, .ref 34, .ref 35, .ref 45, .ref pb, .ref pa]) (s0A s.2.2.2.2.1) S3) (hb : b.length = 240) (hB : ∀ (j x : Nat), r.2.2.2[j]? = some x → b[j]? = some (.int (Int32.ofNat x))) (hr2 : (S 56).drop 30 = .int (Int32.ofNat N) :: .ref 76 :: rest2)
    (hD : mDn (aUp (aUp S3 85 [v85]) 76 b) (.int 0) L (-1) (.int (Int32.ofNat r.2.2.2.length) :: .ref 76 :: rest2) S') : ∃ w', w' 0 = .int 0 ∧ mRep S' w' (Int32.ofNat r.2.2.2.length) s S' ∧ ∀ SF, mRep S' w' (Int32.ofNat r.2.2.2.length) (s0A s.2.2.2.2.1) SF → aInv iExt scr (c + 1) (gH scr kd1 n1 SF) ∧ SF 85 = [v85] := by
  have hpb : pb = 46 ∨ pb = 51 := by omega
  obtain ⟨⟨n01, n02⟩, f2, -⟩ := id F2
  obtain ⟨tl1, tl2⟩ := fin_tl hn hM F2
  obtain ⟨r1, r2, r3, w, tk, r4, r5⟩ := mDn_rows hD (by rw [aUp_same]; exact hb)
  obtain ⟨ht, cl, pc, a36, a39, a40, a44, rc, ce, crest⟩ := id R3
  have k3 : ∀ q, q ≠ 20 → (q < 35 ∨ 44 < q) → S3 q = S2 q := fun q q1 q2 => by
    rw [ce, cS_ne q2, aUp_ne q1]
  have g3 : ∀ q, q ≠ 56 → (q < 58 ∨ 76 < q) → q ≠ 85 → S' q = S3 q := fun q q1 q2 q3 => by
    rw [r3 q q1 (by omega), aUp_ne (by omega), aUp_ne q3]
  have g2 : ∀ q, q ≠ 56 → (q < 58 ∨ 76 < q) → q ≠ 85 → q ≠ 20 → (q < 35 ∨ 44 < q) → S' q = S2 q := fun q q1 q2 q3 q4 q5 => (g3 q q1 q2 q3).trans (k3 q q4 q5)
  have gS : ∀ q, 76 < q → q < 84 → S' q = S q := fun q q1 q2 => (g2 q (by omega) (by omega) (by omega) (by omega) (by omega)).trans (f2 q (by omega) (by omega) (by omega))
  obtain ⟨hi, un, pcv, a77, a79, a80, a83, me, mrest⟩ := id m2
  have d56 : (S 56).drop 30 = [.int (Int32.ofNat N), .ref 76, .int pcv, .int s.1, .int hi, .ref 77, .int un, .ref 78, .ref 79, .ref 80, .ref 81, .float s.2.2.2.2.2.2.1, .float s.2.2.2.2.2.2.2.1, .int (Int32.ofNat s.2.2.2.2.2.2.2.2.1), .int s.2.2.2.2.2.2.2.2.2.1, .int s.2.2.2.2.2.2.2.2.2.2.1, .ref 82, .ref 83, .ref 84] := by rw [congrFun me 56]; rfl
  rw [d56] at hr2
  have hr2 := (List.cons.inj (List.cons.inj hr2).2).2
  rw [← hr2] at r4
  refine ⟨wK w L (-1) tk, r5, mRep_of (r4.trans wK_mM) ((gS 77 (by decide) (by decide)).trans (congrFun me 77)) ((gS 78 (by decide) (by decide)).trans (congrFun me 78)) ((gS 79 (by decide) (by decide)).trans (congrFun me 79)) ((gS 80 (by decide) (by decide)).trans (congrFun me 80)) ((gS 81 (by decide) (by decide)).trans (congrFun me 81)) ((gS 82 (by decide) (by decide)).trans (congrFun me 82)) ((gS 83 (by decide) (by decide)).trans (congrFun me 83)) mrest, fun SF RF => ?_⟩
  obtain ⟨hi', un', pcv', a77', a79', a80', a83', me', mrest'⟩ := id RF
  have eF : ∀ q, (q < 56 ∨ (56 < q ∧ q < 77) ∨ 83 < q) → SF q = S' q := fun q hq => by rw [me']; exact mS_ne hq
  have f3 : ∀ q, (q < 56 ∨ q = 57 ∨ 83 < q) → q ≠ 85 → SF q = S3 q := fun q q1 q2 => (eF q (by omega)).trans (g3 q (by omega) (by omega) q2)
  have f4 : ∀ q, (q < 56 ∨ q = 57 ∨ 83 < q) → q ≠ 85 → q ≠ 20 → (q < 35 ∨ 44 < q) → SF q = S2 q := fun q q1 q2 q3 q4 => (f3 q q1 q2).trans (k3 q q3 q4)
  have e85 : SF 85 = [v85] := (eF 85 (by decide)).trans ((r3 85 (by decide) (by decide)).trans ((aUp_ne (by decide)).trans aUp_same))
  have e76 : SF 76 = b := (eF 76 (by decide)).trans ((r3 76 (by decide) (by decide)).trans aUp_same)
  have CF : cRep SF (s0A s.2.2.2.2.1) SF := by
    have q : ∀ p, 35 ≤ p → p < 45 → SF p = _ := fun p h1 h2 => (f3 p (by omega) (by omega)).trans (congrFun ce p)
    exact cRep_of (q 35 (by decide) (by decide)) (q 36 (by decide) (by decide)) (q 37 (by decide) (by decide)) (q 38 (by decide) (by decide)) (q 39 (by decide) (by decide)) (q 40 (by decide) (by decide)) (q 41 (by decide) (by decide)) (q 42 (by decide) (by decide)) (q 43 (by decide) (by decide)) (q 44 (by decide) (by decide)) crest
  have RF' : mRep SF (wK w L (-1) tk) (Int32.ofNat r.2.2.2.length) (s0A s.2.2.2.2.1) SF := mRep_of (congrFun me' 56) (congrFun me' 77) (congrFun me' 78) (congrFun me' 79) (congrFun me' 80) (congrFun me' 81) (congrFun me' 82) (congrFun me' 83) mrest'
  have pr : ∀ q, pb ≤ q → q ≤ pb + 4 → SF q = S2 q := fun q h1 h2 => f4 q (by omega) (by omega) (by omega) (by omega)
  obtain ⟨fs, fc, x0, x1, x2, x3, x4⟩ := hP
  have hW : ∀ j, r.2.2.2.length ≤ j → r.2.2.2.getD j 27 = 27 := fun j hj => by rw [List.getD_eq_getElem?_getD, List.getElem?_eq_none hj]; rfl
  have hWj : ∀ j, j < r.2.2.2.length → r.2.2.2[j]? = some (r.2.2.2.getD j 27) := fun j hj => by rw [List.getD_eq_getElem?_getD, List.getElem?_eq_getElem hj]; rfl
  have tP : tPrg (fun j => r.2.2.2.getD j 27) r.2.2.2.length (fun j => r.1.1.2.2.getD j (0, 0, 0)) r.1.1.2.2.length (fun q => (gH scr kd1 n1 SF)[q]?) fs := x4 _ _ (fun q q1 q2 => by
    show (gH scr kd1 n1 SF)[q]? = _
    rw [gH_at (by omega) q2, f4 q (by omega) (by omega) (by omega) (by omega)]
    unfold gK
    rw [if_neg (by omega), (F2.2.2.2.2.2.2.2.2.2.2.2 q q1 q2).1]) (fun j x hj => by rw [List.getD_eq_getElem?_getD, hj]; rfl)
  obtain ⟨P, cP⟩ := tPrg_ok hW tP
  obtain ⟨o1, o2, -⟩ := id m3
  rw [gH_len] at hl
  refine ⟨inv_cmp (n := n1) (P := P) (pa' := pb) (pb' := pa) (r := s0A s.2.2.2.2.1) (W := fun j => r.2.2.2.getD j 27) (by omega) (by omega) (by omega) hpb hM hL hA hE (by rw [h20]; rfl) F2 (fun q a1 a2 a3 a4 a5 a6 a7 => f4 q (by omega) a7 a3 (by omega)) ((f3 20 (by decide) (by decide)).trans ((congrFun ce 20).trans ((cS_ne (by decide)).trans aUp_same))) ⟨w, tk, _, (congrFun me' 56).trans wK_mM.symm⟩ (fun q q1 q2 => by rw [eF q (by omega)]; exact r1 q q1 q2) (fun j hj => by rw [eF 58 (by decide)]; exact r2 j hj) (by rw [e85]; rfl) CF RF' (okS_0 o1 o2) (fun _ => okL_0 cP.1) (Or.inr cP) ⟨hpb, c240, ?_, ?_, fun j hj => ?_, hW⟩ ⟨c240, fun j hj => ?_⟩ (Or.inr ⟨_, _, fs, ⟨x3, ?_, ?_, ?_, ?_, fun j hj => ?_⟩, ?_, tP⟩) (fun p h1 h2 => ?_), e85⟩
  · rw [pr pb (by omega) (by omega), x0]; rfl
  · rw [pr pb (by omega) (by omega), x0]; rfl
  · rw [pr (pb + 4) (by omega) (by omega)]
    exact x2.2 j _ (by omega) (hWj j hj)
  · rw [e76]
    exact hB j _ (hWj j hj)
  · rw [pr pb (by omega) (by omega), x0]; rfl
  · rw [pr pb (by omega) (by omega), x0]; rfl
  · rw [pr pb (by omega) (by omega), x0]; rfl
  · rw [pr pb (by omega) (by omega), x0]; rfl
  · rw [pr (pb + 1) (by omega) (by omega), pr (pb + 2) (by omega) (by omega), pr (pb + 3) (by omega) (by omega)]
    exact x1.2.2.2 j _ (by show r.1.1.2.2[j]? = some (r.1.1.2.2.getD j (0, 0, 0)); rw [List.getD_eq_getElem?_getD, List.getElem?_eq_getElem hj]; rfl)
  · rw [pr pb (by omega) (by omega), x0]; rfl
  · rw [f4 p (by omega) (by omega) (by omega) (by omega)]
    exact tl1 p h1 h2
end FIC
