section MSO
variable {scr : List Value} {kd : Nat → Nat} {n d L t lv df cl : Nat} {fr : List (Nat × Nat × Nat)} {ds : List dEf} {cs : List cAl} {S0 A A0 S : Nat → List Value} {w0 : Value} {wr tk : Int32} {rest : List Value} {ts : List aTk} {vs ps : List (List Nat)} {dr st : List Nat} {s : Nat} {x : xSt} {nm : List Nat} {Q : aOut → aH → Prop}
theorem dRow {A : Nat → List Value} {c s : Nat} (h : mRw [] [] ds cs A0) (hdl : ds.length < 28) (hP : rP ps A) (hA : ∀ q, q ≠ 64 → A q = aUp A0 69 ((A0 69).set ds.length (.long (Int64.ofNat (pk 27 nm)))) q) : mRw ps [] (ds ++ [(nm, c, s)]) cs (aUp (aUp A 70 ((A 70).set ds.length (.int (Int32.ofNat c)))) 71 ((A 71).set ds.length (.int (Int32.ofNat s)))) ∧ (A 70).length = 28 ∧ (A 71).length = 28 := by
  obtain ⟨h1, h2, h3, h4⟩ := h
  have q := fun i (hi : i ≠ 64) (h9 : i ≠ 69) => (hA i hi).trans (aUp_ne h9)
  have e69 : A 69 = (A0 69).set ds.length (.long (Int64.ofNat (pk 27 nm))) := (hA 69 (by decide)).trans aUp_same
  have n : ∀ i, i ≠ 70 → i ≠ 71 → (aUp (aUp A 70 ((A 70).set ds.length (.int (Int32.ofNat c)))) 71 ((A 71).set ds.length (.int (Int32.ofNat s)))) i = A i := fun i h1 h2 => by rw [aUp_ne h2, aUp_ne h1]
  have e70 : (aUp (aUp A 70 ((A 70).set ds.length (.int (Int32.ofNat c)))) 71 ((A 71).set ds.length (.int (Int32.ofNat s)))) 70 = (A 70).set ds.length (.int (Int32.ofNat c)) := by rw [aUp_ne (by decide), aUp_same]
  have e71 : (aUp (aUp A 70 ((A 70).set ds.length (.int (Int32.ofNat c)))) 71 ((A 71).set ds.length (.int (Int32.ofNat s)))) 71 = (A 71).set ds.length (.int (Int32.ofNat s)) := aUp_same
  unfold mRw rP rF rD rC at *
  rw [e70, e71, n 64 (by decide) (by decide), n 66 (by decide) (by decide), n 67 (by decide) (by decide), n 68 (by decide) (by decide), n 69 (by decide) (by decide), n 72 (by decide) (by decide), n 73 (by decide) (by decide), n 74 (by decide) (by decide), n 75 (by decide) (by decide)]
  rw [e69, q 66 (by decide) (by decide), q 67 (by decide) (by decide), q 68 (by decide) (by decide), q 70 (by decide) (by decide), q 71 (by decide) (by decide), q 72 (by decide) (by decide), q 73 (by decide) (by decide), q 74 (by decide) (by decide), q 75 (by decide) (by decide)]
  refine ⟨⟨hP, h2, ⟨by rw [List.length_set]; exact h3.1, by rw [List.length_set]; exact h3.2.1, by rw [List.length_set]; exact h3.2.2.1, fun i f hf => ?_⟩, h4⟩, h3.2.1, h3.2.2.1⟩
  rcases at_snoc hf with ⟨hi, hf⟩ | ⟨rfl, rfl⟩
  · rw [List.getElem?_set_ne (by omega), List.getElem?_set_ne (by omega), List.getElem?_set_ne (by omega)]
    exact h3.2.2.2 i f hf
  · rw [List.getElem?_set_self (by omega), List.getElem?_set_self (by omega), List.getElem?_set_self (by omega)]
    exact ⟨rfl, rfl, rfl⟩
theorem m_defn (hn : 67 ≤ n) (hl160 : ts.length ≤ 160) (hN : tsN ts) (hp : ∀ t, plA ts L t < 2 ^ 20) (hx : xOk ts x) (hb : dr.length ≤ 3 * x.1) (hdl : ds.length < 28) (hcs : cs.length < 60) (hv : ∀ d ∈ ds, nmOk d.1) (hk : kA ts x.1 = 31) (h : mY S0 w0 L tk rest ts [] x dr [] ds cs S) (k : ∀ q S', (kA ts (x.1 + 1) = 30 ∧ hasD ds (nmA ts (x.1 + 1)) = false) → prA ts L 3 (x.1 + 2) [] = .ok q → kA ts q.1 = 123 → mY S0 w0 L tk rest ts q.2 (q.1 + 1, x.2) (dr ++ [14, 0]) [(0, dr.length + 1, 0)] (ds ++ [(nmA ts (x.1 + 1), q.2.length, dr.length + 2)]) cs S' → Q (.inl none) (gH scr kd n S')) (ke : ∀ e S', ((¬ (kA ts (x.1 + 1) = 30 ∧ hasD ds (nmA ts (x.1 + 1)) = false) ∧ e = plA ts L (x.1 + 1)) ∨ ((kA ts (x.1 + 1) = 30 ∧ hasD ds (nmA ts (x.1 + 1)) = false) ∧ (prA ts L 3 (x.1 + 2) [] = .error e ∨ ∃ q, prA ts L 3 (x.1 + 2) [] = .ok q ∧ kA ts q.1 ≠ 123 ∧ e = plA ts L q.1))) → mEz S0 w0 L tk rest e S' → Q (.inl none) (gH scr kd n S')) : aE aM187 (d + 4) 0 [(0, .ref 56)] [] (gH scr kd n S) Q := by
  have hlt := kA_lt hk (by decide)
  obtain ⟨A0, X, hR⟩ := h
  refine M_tick hn rfl rfl rfl rfl rfl rfl rfl X (fun S1 X1 => ?_)
  have nm := m_isNameX (d := d + 1) (scr := scr) (kd := kd) (ps := []) hn (by omega) X1
  have failC : ¬ (kA ts (x.1 + 1) = 30 ∧ hasD ds (nmA ts (x.1 + 1)) = false) → ∀ j, aE aM187 (d + 4) 60 [(2, .int j), (1, .int 0), (0, .ref 56)] [] (gH scr kd n S1) Q := fun hc j => by
    obtain ⟨S2, X2, a2⟩ := m_failX (d := d + 3) (scr := scr) (kd := kd) (ps := []) hn (u := x.1 + 1) (by omega) X1
    have F := ke _ S2 (Or.inl ⟨hc, rfl⟩) (mEz_of X2 (mRw_ln hR) (by omega) (by omega))
    refine eS rfl rfl ?_
    refine eNe rfl rfl (fun z => absurd rfl z) (fun _ => ?_)
    refine eS rfl rfl ?_
    refine eS rfl rfl ?_
    refine gGet hn rfl rfl rfl (mX_f X1).2.2.1 ?_
    refine gV1 hn rfl rfl rfl rfl rfl ⟨catOk rfl, catOk rfl⟩ (a2) ?_
    exact eR rfl rfl F
  by_cases c : kA ts (x.1 + 1) = 30
  · rw [if_pos c] at nm
    have hnm := nmA_ok hN c
    have hlt2 := kA_lt c (by decide)
    have e69 := (mX_row (q := 69) (b := []) (by decide) X1).2
    refine eS rfl rfl ?_
    refine gV1 hn rfl rfl rfl rfl rfl ⟨catOk rfl, catOk rfl⟩ nm ?_
    refine eS rfl rfl ?_
    refine eS rfl rfl ?_
    refine eS rfl rfl ?_
    refine m_dfL1 (d := d + 3) hn (by omega) (by omega) hv X1 (fun i f hf => by rw [e69]; exact (hR.2.2.1.2.2.2 i f hf).1) c hnm ds.length 0 (Nat.zero_add _) ?_
    rw [List.drop_zero]
    by_cases ch : hasD ds (nmA ts (x.1 + 1)) = true
    · rw [if_pos ch]
      exact failC (fun z => by rw [ch] at z; cases z.2) _
    · rw [if_neg ch]
      have ch : hasD ds (nmA ts (x.1 + 1)) = false := by cases e : hasD ds (nmA ts (x.1 + 1)) with | true => exact absurd e ch | false => rfl
      obtain ⟨w1, w2, w3, w4, w5, w6⟩ := mX_word c X1
      obtain ⟨X2, e69'⟩ := mX_row (q := 69) (b := (A0 69).set ds.length (.long (Int64.ofNat (pk 27 (nmA ts (x.1 + 1)))))) (by decide) X1
      have l69 := hR.2.2.1.1
      refine eS rfl rfl ?_
      refine eNe rfl rfl (fun _ => ?_) (fun z => absurd z (by decide))
      refine eS rfl rfl ?_
      refine gGet hn rfl rfl rfl w3 ?_
      refine eS rfl rfl ?_
      refine gGet hn rfl rfl rfl (mX_f X1).2.2.2.2.2.1 ?_
      refine eS rfl rfl ?_
      refine gGet hn rfl rfl rfl w2 ?_
      refine eS rfl rfl ?_
      refine gGet hn rfl rfl rfl (mX_f X1).2.2.1 ?_
      refine gRd2 hn rfl rfl rfl (x.1 + 1) (by omega) w1 ?_
      refine gWr2 hn rfl rfl rfl ds.length (by omega) (by rw [e69']; omega) (by rw [e69']) ?_
      refine M_tick hn rfl rfl rfl rfl rfl rfl rfl X2 (fun S3 X3 => ?_)
      have X4 := mX_pr (ps' := []) X3
      refine eS rfl rfl ?_
      refine eS rfl rfl ?_
      refine gPut hn rfl rfl rfl rfl (by obtain ⟨A, e, -⟩ := X3; rw [e]; rfl) rfl rfl rfl ?_
      have hP1 : rP [] (aUp A0 69 ((A0 69).set ds.length (.long (Int64.ofNat (pk 27 (nmA ts (x.1 + 1))))))) := ⟨fun i y hy => (by cases hy), hR.1.2⟩
      refine m_prmL (d := d + 1) hn hN hp 3 [] _ (x.1 + 2) _ _ rfl (fun y hy => (by cases hy)) hP1 (by omega) X4 (fun t' ps' A' S' j' e X' hP' hA => ?_) (fun e t' ps' A' S' j' he X' q1 q2 q3 q4 => ?_)
      · have pr := prA_rd hN 3 (x.1 + 2) [] (t', ps') (by omega) (fun y hy => by cases hy) e
        obtain ⟨hR2, l70, l71⟩ := dRow (nm := nmA ts (x.1 + 1)) (c := ps'.length) (s := dr.length + 2) (A := A') (ps := ps') hR hdl hP' hA
        refine m_dfTail (d := d + 1) hn (by omega) hdl l70 l71 X' (fun S6 X6 => ?_)
        have hY : mY S0 w0 L tk rest ts ps' (t', x.2) (dr ++ [14, 0]) [] (ds ++ [(nmA ts (x.1 + 1), ps'.length, dr.length + 2)]) cs S6 := ⟨_, by rw [List.length_append, List.length_singleton]; exact X6, hR2⟩
        obtain ⟨o1, o2⟩ := m_open (x := (t', x.2)) (f := (0, dr.length + 1, 0)) (d := d + 2) (scr := scr) (kd := kd) hn pr.1 (by decide) hY
        by_cases c2 : kA ts t' = 123 ∧ ([] : List (Nat × Nat × Nat)).length < 3
        · obtain ⟨S7, X7, a7⟩ := o1 c2
          refine eS rfl rfl ?_
          refine eS rfl rfl ?_
          refine eS rfl rfl ?_
          refine eS rfl rfl ?_
          refine gV1 hn rfl rfl rfl rfl rfl ⟨catOk rfl, catOk rfl⟩ (a7) ?_
          exact eR rfl rfl (k (t', ps') S7 ⟨c, ch⟩ e c2.1 X7)
        · obtain ⟨S7, X7, a7⟩ := o2 c2 (by rw [List.length_append]; simp only [List.length_cons, List.length_nil]; omega) (by omega)
          refine eS rfl rfl ?_
          refine eS rfl rfl ?_
          refine eS rfl rfl ?_
          refine eS rfl rfl ?_
          refine gV1 hn rfl rfl rfl rfl rfl ⟨catOk rfl, catOk rfl⟩ (a7) ?_
          exact eR rfl rfl (ke _ S7 (Or.inr ⟨⟨c, ch⟩, Or.inr ⟨(t', ps'), e, fun z => c2 ⟨z, by decide⟩, rfl⟩⟩) X7)
      · have hA : ∀ q, q ≠ 64 → A' q = aUp A0 69 ((A0 69).set ds.length (.long (Int64.ofNat (pk 27 (nmA ts (x.1 + 1)))))) q := q4
        obtain ⟨hR2, l70, l71⟩ := dRow (nm := nmA ts (x.1 + 1)) (c := ps'.length) (s := dr.length + 2) (A := aUp A' 64 (A0 64)) (ps := []) hR hdl ⟨fun i y hy => (by cases hy), by rw [aUp_same]; exact hR.1.2⟩ (fun q hq => (aUp_ne hq).trans (hA q hq))
        rw [aUp_ne (by decide)] at l70 l71
        refine m_dfTail (d := d + 1) hn (by omega) hdl l70 l71 X' (fun S6 X6 => ?_)
        have hL := mRw_ln hR2
        have hL2 : rLn (aUp (aUp A' 70 ((A' 70).set ds.length (.int (Int32.ofNat ps'.length)))) 71 ((A' 71).set ds.length (.int (Int32.ofNat (dr.length + 2))))) := by
          obtain ⟨-, r66, r67, r68, r69, -, -, r72, r73, r74, r75⟩ := hL
          exact ⟨q3, r66, r67, r68, r69, by show ((A' 70).set _ _).length = 28; rw [List.length_set]; exact l70, by show ((A' 71).set _ _).length = 28; rw [List.length_set]; exact l71, r72, r73, r74, r75⟩
        obtain ⟨S7, X7, a7⟩ := m_openE (f := (0, dr.length + 1, 0)) (d := d + 2) (scr := scr) (kd := kd) (ps := ps') hn (prA_er hp _ _ _ _ he) q1 (by decide) hL2 (by rw [List.length_append]; simp only [List.length_cons, List.length_nil]; omega) (by omega) X6
        refine eS rfl rfl ?_
        refine eS rfl rfl ?_
        refine eS rfl rfl ?_
        refine eS rfl rfl ?_
        refine gV1 hn rfl rfl rfl rfl rfl ⟨catOk rfl, catOk rfl⟩ (a7) ?_
        exact eR rfl rfl (ke e S7 (Or.inr ⟨⟨c, ch⟩, Or.inl he⟩) X7)
  · rw [if_neg c] at nm
    refine eS rfl rfl ?_
    refine gV1 hn rfl rfl rfl rfl rfl ⟨catOk rfl, catOk rfl⟩ nm ?_
    refine eS rfl rfl ?_
    refine eS rfl rfl ?_
    refine eS rfl rfl ?_
    exact m_dfL0 (d := d + 3) hn (by omega) X1 (failC (fun z => c z.1) _) ds.length 0 (Nat.zero_add _)
end MSO
