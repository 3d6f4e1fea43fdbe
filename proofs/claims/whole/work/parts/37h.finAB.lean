/-! the invariant, compile refused or done -/
section FIN
variable {scr : List Value} {kd kd1 : Nat → Nat} {n n1 c d L kx : Nat} {S S1 S2 SF : Nat → List Value} {s : aSt} {w0 : Nat → Value} {nn wr0 ep : Int32} {pa pb N : Nat} {W : Nat → Nat} {P : Nat → Nat → Bool → Prop}
theorem aLn_m : aLn 58 = 162 ∧ aLn 59 = 162 ∧ aLn 60 = 162 ∧ aLn 61 = 162 ∧ aLn 62 = 800 ∧ aLn 63 = 8 ∧ aLn 64 = 3 ∧ aLn 65 = 400 ∧ aLn 66 = 4 ∧ aLn 67 = 4 ∧ aLn 68 = 4 ∧ aLn 69 = 28 ∧ aLn 70 = 28 ∧ aLn 71 = 28 ∧ aLn 72 = 60 ∧ aLn 73 = 60 ∧ aLn 74 = 60 ∧ aLn 75 = 60 ∧ aLn 76 = 240 := by decide +kernel
/-- the model's rows, in the end -/
theorem mDn_rows {v0 : Value} {wr : Int32} {rest : List Value} (h : mDn S1 v0 L wr rest SF) (h76 : (S1 76).length = 240) : (∀ q, 58 ≤ q → q ≤ 76 → (SF q).length = aLn q) ∧ (∀ j, j < 162 → ∃ x : Int32, (SF 58)[j]? = some (.int x)) ∧ (∀ q, q ≠ 56 → (q < 58 ∨ 75 < q) → SF q = S1 q) ∧ ∃ w tk, SF 56 = mK w L wr tk rest ∧ w 0 = v0 := by
  obtain ⟨w, tk, A, rfl, h0, hL, h62, h63, h65, hR⟩ := h
  obtain ⟨b58, b59, b60, b61, b62, b63, b64, b65, b66, b67, b68, b69, b70, b71, b72, b73, b74, b75, b76⟩ := aLn_m
  obtain ⟨l58, l59, l60, l61, l5⟩ := hL
  obtain ⟨r64, r66, r67, r68, r69, r70, r71, r72, r73, r74, r75⟩ := hR
  refine ⟨fun q q1 q2 => ?_, l5, fun q q1 q2 => ?_, w, tk, rfl, h0⟩
  · have : q = 58 ∨ q = 59 ∨ q = 60 ∨ q = 61 ∨ q = 62 ∨ q = 63 ∨ q = 64 ∨ q = 65 ∨ q = 66 ∨ q = 67 ∨ q = 68 ∨ q = 69 ∨ q = 70 ∨ q = 71 ∨ q = 72 ∨ q = 73 ∨ q = 74 ∨ q = 75 ∨ q = 76 := by omega
    rcases this with rfl | rfl | rfl | rfl | rfl | rfl | rfl | rfl | rfl | rfl | rfl | rfl | rfl | rfl | rfl | rfl | rfl | rfl | rfl
    · exact l58.trans b58.symm
    · exact l59.trans b59.symm
    · exact l60.trans b60.symm
    · exact l61.trans b61.symm
    · exact h62.trans b62.symm
    · exact h63.trans b63.symm
    · exact r64.trans b64.symm
    · exact h65.trans b65.symm
    · exact r66.trans b66.symm
    · exact r67.trans b67.symm
    · exact r68.trans b68.symm
    · exact r69.trans b69.symm
    · exact r70.trans b70.symm
    · exact r71.trans b71.symm
    · exact r72.trans b72.symm
    · exact r73.trans b73.symm
    · exact r74.trans b74.symm
    · exact r75.trans b75.symm
    · exact h76.trans b76.symm
  · unfold mtS
    rw [if_neg q1, if_neg (by rw [Bool.and_eq_true, Nat.ble_eq, Nat.ble_eq]; omega)]
/-- the model's object with these entries -/
theorem mK_mM {w : Nat → Value} {tk : Int32} {pc en hi un : Int32} {x y : UInt32} {hd co dn : Int32} : ∃ w', mK w L ep tk [.int nn, .ref 76, .int pc, .int en, .int hi, .ref 77, .int un, .ref 78, .ref 79, .ref 80, .ref 81, .float x, .float y, .int hd, .int co, .int dn, .ref 82, .ref 83, .ref 84] = mM w' nn pc en hi un x y hd co dn :=
  ⟨fun i => (mK w L ep tk []).getD i .null, rfl⟩
/-- objects behind place 86 -/
theorem fin_tl (hn : 67 ≤ n) (hM : aMem scr S (gH scr kd n S)) (F2 : kFr kd n S pb ep kd1 n1 S2) : (∀ p, 87 ≤ p → p < n1 + 20 → aTl (kd1 p, S2 p) = true) ∧ ∀ (q : Nat) (o : aO), 87 ≤ q → (gH scr kd n S)[q]? = some o → q < n + 20 ∧ o = (kd1 q, S2 q) := by
  obtain ⟨-, -, -, -, -, -, -, -, -, -, g1, g2⟩ := F2
  have old : ∀ (q : Nat) (o : aO), 87 ≤ q → (gH scr kd n S)[q]? = some o → q < n + 20 ∧ o = (kd1 q, S2 q) := fun q o hq e => by
    have hl : q < n + 20 := by
      have := (List.getElem?_eq_some_iff.mp e).1
      rw [gH_len] at this
      exact this
    rw [gH_at (by omega) hl] at e
    cases e
    unfold gK
    rw [if_neg (by omega), (g1 q hq hl).1, (g1 q hq hl).2]
    exact ⟨hl, rfl⟩
  refine ⟨fun p p1 p2 => ?_, old⟩
  by_cases hl : p < n + 20
  · have e := gH_at (scr := scr) (kd := kd) (n := n) (S := S) (p := p) (by omega) hl
    have := hM.2.2.2.2 p _ p1 e
    rw [(old p _ p1 e).2] at this
    exact this
  · obtain ⟨k1, k2⟩ := g2 p (by omega) p2
    unfold aTl
    rw [k1]
    show ((30 == 30 && (S2 p).length == 13) || _) = true
    rw [k2]
    rfl
/-- refused -/
theorem fin_AB (hn : 67 ≤ n) (hM : aMem scr S (gH scr kd n S)) (hL : aLks S) (hA : iAll (aEn S)) (hl : (gH scr kd n S).length ≤ 87 + 170 * c) (hE : iExt S (gH scr kd n S)) (hpp : (pa = 46 ∧ pb = 51) ∨ (pa = 51 ∧ pb = 46)) (h20 : S 20 = [.ref 21, .int (Int32.ofNat L), .ref 22, .ref 34, .ref 35, .ref 45, .ref pa, .ref pb]) (p1 : prgS S pa N W) (p2 : prgM S N W) (m1 : cRep S s S) (m2 : mRep S w0 (Int32.ofNat N) s S) (m3 : okS s) (m4 : s.1 = 0 → okL P s) (m5 : N = 0 ∨ cOk W N P) (p5 : N = 0 ∨ ∃ (T : Nat → Nat × Nat × Nat) (tc : Nat) (first : Value), trmS S pa tc T ∧ (S pa)[0]? = some first ∧ tPrg W N T tc (fun q => (gH scr kd n S)[q]?) first) (F2 : kFr kd n S pb ep kd1 n1 S2) (hkx : kx = 28 ∨ kx = 32) {v0 : Value}
    (hD : mDn (aUp S2 (n1 + 20) []) v0 L ep ((S 56).drop 30) SF) : aInv iExt scr (c + 1) (gH scr (kUp kd1 (n1 + 20) kx) (n1 + 1) SF) := by
  have hpb : pb = 46 ∨ pb = 51 := by omega
  obtain ⟨⟨n01, n02⟩, f2, -⟩ := id F2
  obtain ⟨tl1, tl2⟩ := fin_tl hn hM F2
  have fS : ∀ q, 20 ≤ q → q < 87 → (q < 22 ∨ q = 29 ∨ (34 < q ∧ q < 46) ∨ 55 < q ∨ ((46 ≤ q ∧ q ≤ 55) ∧ (q < pb ∨ pb + 4 < q))) → aUp S2 (n1 + 20) [] q = S q := fun q h1 h2 h3 => (aUp_ne (by omega)).trans (f2 q h1 h2 h3)
  have h76 : (aUp S2 (n1 + 20) [] 76).length = 240 := by rw [fS 76 (by decide) (by decide) (by omega)]; exact (hM.ln 76 (by decide) (by decide)).trans aLn_m.2.2.2.2.2.2.2.2.2.2.2.2.2.2.2.2.2.2
  obtain ⟨r1, r2, r3, w, tk, r4, r5⟩ := mDn_rows hD h76
  have gS : ∀ q, 20 ≤ q → q < 87 → q ≠ 56 → (q < 58 ∨ 75 < q) → (q < 22 ∨ q = 29 ∨ (34 < q ∧ q < 46) ∨ 55 < q ∨ ((46 ≤ q ∧ q ≤ 55) ∧ (q < pb ∨ pb + 4 < q))) → SF q = S q := fun q a1 a2 a3 a4 a5 => (r3 q a3 a4).trans (fS q a1 a2 a5)
  obtain ⟨hi, un, pcv, a77, a79, a80, a83, me, mrest⟩ := id m2
  have d56 : (S 56).drop 30 = [.int (Int32.ofNat N), .ref 76, .int pcv, .int s.1, .int hi, .ref 77, .int un, .ref 78, .ref 79, .ref 80, .ref 81, .float s.2.2.2.2.2.2.1, .float s.2.2.2.2.2.2.2.1, .int (Int32.ofNat s.2.2.2.2.2.2.2.2.1), .int s.2.2.2.2.2.2.2.2.2.1, .int s.2.2.2.2.2.2.2.2.2.2.1, .ref 82, .ref 83, .ref 84] := by rw [congrFun me 56]; rfl
  rw [d56] at r4
  obtain ⟨w', ew⟩ := mK_mM (w := w) (L := L) (ep := ep) (tk := tk) (nn := Int32.ofNat N) (pc := pcv) (en := s.1) (hi := hi) (un := un) (x := s.2.2.2.2.2.2.1) (y := s.2.2.2.2.2.2.2.1) (hd := Int32.ofNat s.2.2.2.2.2.2.2.2.1) (co := s.2.2.2.2.2.2.2.2.2.1) (dn := s.2.2.2.2.2.2.2.2.2.2.1)
  have R' : mRep SF w' (Int32.ofNat N) s SF := mRep_of (r4.trans ew) ((gS 77 (by decide) (by decide) (by decide) (by decide) (by omega)).trans (congrFun me 77)) ((gS 78 (by decide) (by decide) (by decide) (by decide) (by omega)).trans (congrFun me 78)) ((gS 79 (by decide) (by decide) (by decide) (by decide) (by omega)).trans (congrFun me 79)) ((gS 80 (by decide) (by decide) (by decide) (by decide) (by omega)).trans (congrFun me 80)) ((gS 81 (by decide) (by decide) (by decide) (by decide) (by omega)).trans (congrFun me 81)) ((gS 82 (by decide) (by decide) (by decide) (by decide) (by omega)).trans (congrFun me 82)) ((gS 83 (by decide) (by decide) (by decide) (by decide) (by omega)).trans (congrFun me 83)) mrest
  have C' : cRep SF s SF := cRep_tr (fun q h1 h2 => gS q (by omega) (by omega) (by omega) (by omega) (by omega)) m1
  have pr : ∀ q, pa ≤ q → q ≤ pa + 4 → SF q = S q := fun q h1 h2 => gS q (by omega) (by omega) (by omega) (by omega) (by omega)
  rw [gH_len] at hl
  refine inv_cmp (n := n1) (by omega) (by omega) hpp hpb hM hL hA hE (by rw [h20]; rfl) F2 (fun q a1 a2 a3 a4 a5 a6 a7 => (r3 q a5 (by omega)).trans (aUp_ne (by omega))) ((gS 20 (by decide) (by decide) (by decide) (by decide) (by omega)).trans h20) ⟨w, tk, _, r4⟩ r1 r2 (by rw [gS 85 (by decide) (by decide) (by decide) (by decide) (by omega)]; exact (hM.ln 85 (by decide) (by decide)).trans (by decide +kernel)) C' R' m3 m4 m5 (prgS_tr (pr pa (by omega) (by omega)) (pr (pa + 4) (by omega) (by omega)) p1) (prgM_tr (gS 76 (by decide) (by decide) (by decide) (by decide) (by omega)) p2) ?_ (fun p h1 h2 => ?_)
  · rcases p5 with z | ⟨T, tc, first, z1, z2, z3⟩
    · exact Or.inl z
    · refine Or.inr ⟨T, tc, first, trmS_tr (pr pa (by omega) (by omega)) (pr (pa + 1) (by omega) (by omega)) (pr (pa + 2) (by omega) (by omega)) (pr (pa + 3) (by omega) (by omega)) z1, by rw [pr pa (by omega) (by omega)]; exact z2, tPrg_mono (fun q o hq e => ?_) z3⟩
      obtain ⟨e1, e2⟩ := tl2 q o hq e
      show (gH scr (kUp kd1 (n1 + 20) kx) (n1 + 1) SF)[q]? = _
      rw [gH_at (by omega) (by omega), e2, r3 q (by omega) (by omega), aUp_ne (by omega)]
      unfold gK kUp
      rw [if_neg (by omega), if_neg (by omega)]
  · rw [r3 p (by omega) (by omega)]
    unfold kUp
    by_cases e : p = n1 + 20
    · rw [if_pos e, e, aUp_same]
      rcases hkx with rfl | rfl <;> rfl
    · rw [if_neg e, aUp_ne e]
      exact tl1 p h1 (by omega)
end FIN
