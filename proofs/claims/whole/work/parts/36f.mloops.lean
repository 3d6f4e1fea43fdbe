/-! the model begins loops and tests -/
section MSF
variable {scr : List Value} {kd : Nat → Nat} {n d L t lv df cl : Nat} {fr : List (Nat × Nat × Nat)} {ds : List dEf} {cs : List cAl} {S0 A A0 S : Nat → List Value} {w0 : Value} {wr tk : Int32} {rest : List Value} {ts : List aTk} {vs ps : List (List Nat)} {dr st : List Nat} {s : Nat} {x : xSt} {Q : aOut → aH → Prop}
theorem m_stRepeat (hn : 67 ≤ n) (hl160 : ts.length ≤ 160) (hN : tsN ts) (h3 : ps.length ≤ 3) (hpo : ∀ y ∈ ps, nmOk y) (hp : ∀ t, plA ts L t < 2 ^ 20) (hx : xOk ts x) (hb : dr.length ≤ 3 * x.1 + 7) (hcs : cs.length < 60) (h : mY S0 w0 L tk rest ts ps x dr fr ds cs S) (hfr : fr.length ≤ 3) (hk : kA ts x.1 = 28) (k : ∀ y S', sumA ts L ps 4 0 (x.1 + 1, x.2) = .ok y → kA ts y.1 = 123 → fr.length < 3 → mY S0 w0 L tk rest ts ps (y.1 + 1, y.2) (dr ++ 0 :: (nwW x y ++ [28, 0])) (fr ++ [(1, dr.length + 1 + (nwW x y).length + 1, dr.length + 1 + (nwW x y).length)]) ds cs S' → Q (.inl none) (gH scr kd n S')) (ke1 : ∀ e, sumA ts L ps 4 0 (x.1 + 1, x.2) = .error e → ∀ S', mEz S0 w0 L tk rest e S' → Q (.inl none) (gH scr kd n S')) (ke2 : ∀ y, sumA ts L ps 4 0 (x.1 + 1, x.2) = .ok y → ¬ (kA ts y.1 = 123 ∧ fr.length < 3) → ∀ S', mEz S0 w0 L tk rest (plA ts L y.1) S' → Q (.inl none) (gH scr kd n S')) : aE aM189 (d + 6) 0 [(0, .ref 56)] [] (gH scr kd n S) Q := by
  have hlt : x.1 < ts.length := kA_lt hk (by decide)
  have h160 := hx.1
  obtain ⟨S1, h1, a1⟩ := m_stPre (d := d + 3) (scr := scr) (kd := kd) hn (by omega) (by omega) h
  have e0 : (dr ++ [0]).length = dr.length + 1 := by rw [List.length_append]; rfl
  obtain ⟨A0, X1, hR⟩ := h1
  have ok1 := xTick hx hk (by decide)
  refine a1 _ ?_
  rw [hk]
  refine eS rfl rfl ?_
  refine eS rfl rfl ?_
  refine eILt rfl rfl (fun z => absurd z (by decide)) (fun _ => ?_)
  refine eS rfl rfl ?_
  refine eS rfl rfl ?_
  refine eIGt rfl rfl (fun _ => ?_) (fun z => absurd (by decide) z)
  refine eS rfl rfl ?_
  refine eS rfl rfl ?_
  refine eILt rfl rfl (fun z => absurd z (by decide)) (fun _ => ?_)
  refine eS rfl rfl ?_
  refine eS rfl rfl ?_
  refine eIGt rfl rfl (fun _ => ?_) (fun z => absurd (by decide) z)
  refine eS rfl rfl ?_
  refine eS rfl rfl ?_
  refine eINe rfl rfl (fun _ => ?_) (fun z => absurd z (by decide))
  refine eS rfl rfl ?_
  refine eS rfl rfl ?_
  refine eINe rfl rfl (fun z => absurd rfl z) (fun _ => ?_)
  refine M_tick hn rfl rfl rfl rfl rfl rfl rfl X1 (fun S2 X2 => ?_)
  refine eS rfl rfl ?_
  refine gVk hn rfl rfl rfl rfl rfl ⟨catOk rfl, catOk rfl⟩ rfl (m_expr (d := d + 1) (tk := tk) hn hl160 hN h3 hpo hR.1.1 (x.1 + 1, x.2) (dr ++ [0]) S2 ok1 (by rw [e0]; show _ ≤ 3 * (x.1 + 1) + 8; omega) X2 (fun y l S3 e3 hy X3 hb3 => ⟨rfl, ?_⟩) (fun w he t vs dr' st S' X' q1 q2 q3 => ⟨rfl, ?_⟩))
  · have ok3 := (sumA_rd hN 4 0 _ y ok1 e3).1
    have y1 := ok3.1
    obtain ⟨S4, X4, a4⟩ := m_jump (w := 28) (d := d + 4) (scr := scr) (kd := kd) (ps := ps) hn (by omega) X3
    have ln : (dr ++ [0] ++ wdL l).length = dr.length + 1 + (nwW x y).length := by rw [List.length_append, e0, nw_of (x := x) hy]
    have ew : dr ++ [0] ++ wdL l ++ [28, 0] = dr ++ 0 :: (nwW x y ++ [28, 0]) := by rw [nw_of (x := x) hy]; simp
    rw [ew] at X4
    rw [ln] at a4
    have l4 : (dr ++ 0 :: (nwW x y ++ [28, 0])).length = dr.length + 1 + (nwW x y).length + 2 := by rw [List.length_append]; simp only [List.length_cons, List.length_append, List.length_nil]; omega
    obtain ⟨o1, o2⟩ := m_open (x := y) (f := (1, dr.length + 1 + (nwW x y).length + 1, dr.length + 1 + (nwW x y).length)) (d := d + 4) (scr := scr) (kd := kd) hn y1 hfr ⟨A0, X4, hR⟩
    rw [ln] at hb3
    by_cases c : kA ts y.1 = 123 ∧ fr.length < 3
    · obtain ⟨S5, X5, a5⟩ := o1 c
      refine eS rfl rfl ?_
      refine eS rfl rfl ?_
      refine gV1 hn rfl rfl rfl rfl rfl ⟨catOk rfl, catOk rfl⟩ (a4) ?_
      refine eS rfl rfl ?_
      refine eS rfl rfl ?_
      refine gGet hn rfl rfl rfl (mX_f X4).1 ?_
      refine eS rfl rfl ?_
      refine eINe rfl rfl (fun z => absurd rfl z) (fun _ => ?_)
      refine eS rfl rfl ?_
      refine eS rfl rfl ?_
      refine eS rfl rfl ?_
      refine eS rfl rfl ?_
      refine eS rfl rfl ?_
      refine eS rfl rfl ?_
      rw [i32_pre]
      refine gV1 hn rfl rfl rfl rfl rfl ⟨catOk rfl, catOk rfl⟩ (a5) ?_
      refine eS rfl rfl ?_
      exact eR rfl rfl (k y S5 e3 c.1 c.2 X5)
    · obtain ⟨S5, X5, a5⟩ := o2 c (by omega) (by omega)
      refine eS rfl rfl ?_
      refine eS rfl rfl ?_
      refine gV1 hn rfl rfl rfl rfl rfl ⟨catOk rfl, catOk rfl⟩ (a4) ?_
      refine eS rfl rfl ?_
      refine eS rfl rfl ?_
      refine gGet hn rfl rfl rfl (mX_f X4).1 ?_
      refine eS rfl rfl ?_
      refine eINe rfl rfl (fun z => absurd rfl z) (fun _ => ?_)
      refine eS rfl rfl ?_
      refine eS rfl rfl ?_
      refine eS rfl rfl ?_
      refine eS rfl rfl ?_
      refine eS rfl rfl ?_
      refine eS rfl rfl ?_
      rw [i32_pre]
      refine gV1 hn rfl rfl rfl rfl rfl ⟨catOk rfl, catOk rfl⟩ (a5) ?_
      refine eS rfl rfl ?_
      exact eR rfl rfl (ke2 y e3 c S5 X5)
  · have hw := neg1_ne (sumA_er hp 4 0 _ _ he)
    obtain ⟨S4, X4, a4⟩ := m_jump (w := 28) (d := d + 4) (scr := scr) (kd := kd) (ps := ps) hn (by omega) X'
    refine eS rfl rfl ?_
    refine eS rfl rfl ?_
    refine gV1 hn rfl rfl rfl rfl rfl ⟨catOk rfl, catOk rfl⟩ (a4) ?_
    refine eS rfl rfl ?_
    refine eS rfl rfl ?_
    refine gGet hn rfl rfl rfl (mX_f X4).1 ?_
    refine eS rfl rfl ?_
    refine eINe rfl rfl (fun _ => ?_) (fun z => absurd z hw)
    refine eS rfl rfl ?_
    exact eR rfl rfl (ke1 w he S4 (mEz_of X4 (mRw_ln hR) (by rw [List.length_append]; simp only [List.length_cons, List.length_nil]; omega) (by omega)))
theorem m_stWhile (hn : 67 ≤ n) (hl160 : ts.length ≤ 160) (hN : tsN ts) (h3 : ps.length ≤ 3) (hpo : ∀ y ∈ ps, nmOk y) (hp : ∀ t, plA ts L t < 2 ^ 20) (hx : xOk ts x) (hb : dr.length ≤ 3 * x.1 + 7) (hcs : cs.length < 60) (h : mY S0 w0 L tk rest ts ps x dr fr ds cs S) (hfr : fr.length ≤ 3) (hk : kA ts x.1 = 29) (k : ∀ y S', cndA ts L ps (x.1 + 1, x.2) = .ok y → kA ts y.1 = 123 → fr.length < 3 → mY S0 w0 L tk rest ts ps (y.1 + 1, y.2) (dr ++ 0 :: (nwW x y ++ [29, 0])) (fr ++ [(2, dr.length + 1 + (nwW x y).length + 1, dr.length + 1)]) ds cs S' → Q (.inl none) (gH scr kd n S')) (ke1 : ∀ e, cndA ts L ps (x.1 + 1, x.2) = .error e → ∀ S', mEz S0 w0 L tk rest e S' → Q (.inl none) (gH scr kd n S')) (ke2 : ∀ y, cndA ts L ps (x.1 + 1, x.2) = .ok y → ¬ (kA ts y.1 = 123 ∧ fr.length < 3) → ∀ S', mEz S0 w0 L tk rest (plA ts L y.1) S' → Q (.inl none) (gH scr kd n S')) : aE aM189 (d + 6) 0 [(0, .ref 56)] [] (gH scr kd n S) Q := by
  have hlt : x.1 < ts.length := kA_lt hk (by decide)
  have h160 := hx.1
  obtain ⟨S1, h1, a1⟩ := m_stPre (d := d + 3) (scr := scr) (kd := kd) hn (by omega) (by omega) h
  have e0 : (dr ++ [0]).length = dr.length + 1 := by rw [List.length_append]; rfl
  obtain ⟨A0, X1, hR⟩ := h1
  have ok1 := xTick hx hk (by decide)
  refine a1 _ ?_
  rw [hk]
  refine eS rfl rfl ?_
  refine eS rfl rfl ?_
  refine eILt rfl rfl (fun z => absurd z (by decide)) (fun _ => ?_)
  refine eS rfl rfl ?_
  refine eS rfl rfl ?_
  refine eIGt rfl rfl (fun _ => ?_) (fun z => absurd (by decide) z)
  refine eS rfl rfl ?_
  refine eS rfl rfl ?_
  refine eILt rfl rfl (fun z => absurd z (by decide)) (fun _ => ?_)
  refine eS rfl rfl ?_
  refine eS rfl rfl ?_
  refine eIGt rfl rfl (fun _ => ?_) (fun z => absurd (by decide) z)
  refine eS rfl rfl ?_
  refine eS rfl rfl ?_
  refine eINe rfl rfl (fun _ => ?_) (fun z => absurd z (by decide))
  refine eS rfl rfl ?_
  refine eS rfl rfl ?_
  refine eINe rfl rfl (fun _ => ?_) (fun z => absurd z (by decide))
  refine eS rfl rfl ?_
  refine eS rfl rfl ?_
  refine eIEq rfl rfl (fun _ => ?_) (fun z => absurd rfl z)
  refine M_tick hn rfl rfl rfl rfl rfl rfl rfl X1 (fun S2 X2 => ?_)
  refine eS rfl rfl ?_
  refine gVk hn rfl rfl rfl rfl rfl ⟨catOk rfl, catOk rfl⟩ rfl (m_cmp (d := d) (tk := tk) hn hl160 hN h3 hpo hR.1.1 hp (x.1 + 1, x.2) (dr ++ [0]) S2 ok1 (by rw [e0]; show _ ≤ 3 * (x.1 + 1) + 8; omega) X2 (fun y l S3 e3 hy X3 hb3 => ⟨rfl, ?_⟩) (fun w he t vs dr' st S' X' q1 q2 q3 => ⟨rfl, ?_⟩))
  · have ok3 := (cndA_rd hN _ y ok1 e3).1
    have y1 := ok3.1
    obtain ⟨S4, X4, a4⟩ := m_jump (w := 29) (d := d + 4) (scr := scr) (kd := kd) (ps := ps) hn (by omega) X3
    have ln : (dr ++ [0] ++ wdL l).length = dr.length + 1 + (nwW x y).length := by rw [List.length_append, e0, nw_of (x := x) hy]
    have ew : dr ++ [0] ++ wdL l ++ [29, 0] = dr ++ 0 :: (nwW x y ++ [29, 0]) := by rw [nw_of (x := x) hy]; simp
    rw [ew] at X4
    rw [ln] at a4
    have l4 : (dr ++ 0 :: (nwW x y ++ [29, 0])).length = dr.length + 1 + (nwW x y).length + 2 := by rw [List.length_append]; simp only [List.length_cons, List.length_append, List.length_nil]; omega
    obtain ⟨o1, o2⟩ := m_open (x := y) (f := (2, dr.length + 1 + (nwW x y).length + 1, dr.length + 1)) (d := d + 4) (scr := scr) (kd := kd) hn y1 hfr ⟨A0, X4, hR⟩
    rw [ln] at hb3
    by_cases c : kA ts y.1 = 123 ∧ fr.length < 3
    · obtain ⟨S5, X5, a5⟩ := o1 c
      refine eS rfl rfl ?_
      refine eS rfl rfl ?_
      refine eS rfl rfl ?_
      refine eINe rfl rfl (fun _ => ?_) (fun z => absurd z (by decide))
      refine eS rfl rfl ?_
      refine gV1 hn rfl rfl rfl rfl rfl ⟨catOk rfl, catOk rfl⟩ (a4) ?_
      refine eS rfl rfl ?_
      refine eS rfl rfl ?_
      refine gGet hn rfl rfl rfl (mX_f X4).1 ?_
      refine eS rfl rfl ?_
      refine eINe rfl rfl (fun z => absurd rfl z) (fun _ => ?_)
      refine eS rfl rfl ?_
      refine eS rfl rfl ?_
      refine eS rfl rfl ?_
      refine eINe rfl rfl (fun _ => ?_) (fun z => absurd z (by decide))
      refine eS rfl rfl ?_
      refine eS rfl rfl ?_
      refine eS rfl rfl ?_
      refine gV1 hn rfl rfl rfl rfl rfl ⟨catOk rfl, catOk rfl⟩ (a5) ?_
      refine eS rfl rfl ?_
      exact eR rfl rfl (k y S5 e3 c.1 c.2 X5)
    · obtain ⟨S5, X5, a5⟩ := o2 c (by omega) (by omega)
      refine eS rfl rfl ?_
      refine eS rfl rfl ?_
      refine eS rfl rfl ?_
      refine eINe rfl rfl (fun _ => ?_) (fun z => absurd z (by decide))
      refine eS rfl rfl ?_
      refine gV1 hn rfl rfl rfl rfl rfl ⟨catOk rfl, catOk rfl⟩ (a4) ?_
      refine eS rfl rfl ?_
      refine eS rfl rfl ?_
      refine gGet hn rfl rfl rfl (mX_f X4).1 ?_
      refine eS rfl rfl ?_
      refine eINe rfl rfl (fun z => absurd rfl z) (fun _ => ?_)
      refine eS rfl rfl ?_
      refine eS rfl rfl ?_
      refine eS rfl rfl ?_
      refine eINe rfl rfl (fun _ => ?_) (fun z => absurd z (by decide))
      refine eS rfl rfl ?_
      refine eS rfl rfl ?_
      refine eS rfl rfl ?_
      refine gV1 hn rfl rfl rfl rfl rfl ⟨catOk rfl, catOk rfl⟩ (a5) ?_
      refine eS rfl rfl ?_
      exact eR rfl rfl (ke2 y e3 c S5 X5)
  · have hw := neg1_ne (cndA_er hp _ _ he)
    obtain ⟨S4, X4, a4⟩ := m_jump (w := 29) (d := d + 4) (scr := scr) (kd := kd) (ps := ps) hn (by omega) X'
    refine eS rfl rfl ?_
    refine eS rfl rfl ?_
    refine eS rfl rfl ?_
    refine eINe rfl rfl (fun _ => ?_) (fun z => absurd z (by decide))
    refine eS rfl rfl ?_
    refine gV1 hn rfl rfl rfl rfl rfl ⟨catOk rfl, catOk rfl⟩ (a4) ?_
    refine eS rfl rfl ?_
    refine eS rfl rfl ?_
    refine gGet hn rfl rfl rfl (mX_f X4).1 ?_
    refine eS rfl rfl ?_
    refine eINe rfl rfl (fun _ => ?_) (fun z => absurd z hw)
    refine eS rfl rfl ?_
    exact eR rfl rfl (ke1 w he S4 (mEz_of X4 (mRw_ln hR) (by rw [List.length_append]; simp only [List.length_cons, List.length_nil]; omega) (by omega)))
theorem m_stIf (hn : 67 ≤ n) (hl160 : ts.length ≤ 160) (hN : tsN ts) (h3 : ps.length ≤ 3) (hpo : ∀ y ∈ ps, nmOk y) (hp : ∀ t, plA ts L t < 2 ^ 20) (hx : xOk ts x) (hb : dr.length ≤ 3 * x.1 + 7) (hcs : cs.length < 60) (h : mY S0 w0 L tk rest ts ps x dr fr ds cs S) (hfr : fr.length ≤ 3) (hk : kA ts x.1 = 15) (k : ∀ y S', cndA ts L ps (x.1 + 1, x.2) = .ok y → kA ts y.1 = 123 → fr.length < 3 → mY S0 w0 L tk rest ts ps (y.1 + 1, y.2) (dr ++ 0 :: (nwW x y ++ [15, 0])) (fr ++ [(3, dr.length + 1 + (nwW x y).length + 1, dr.length + 1)]) ds cs S' → Q (.inl none) (gH scr kd n S')) (ke1 : ∀ e, cndA ts L ps (x.1 + 1, x.2) = .error e → ∀ S', mEz S0 w0 L tk rest e S' → Q (.inl none) (gH scr kd n S')) (ke2 : ∀ y, cndA ts L ps (x.1 + 1, x.2) = .ok y → ¬ (kA ts y.1 = 123 ∧ fr.length < 3) → ∀ S', mEz S0 w0 L tk rest (plA ts L y.1) S' → Q (.inl none) (gH scr kd n S')) : aE aM189 (d + 6) 0 [(0, .ref 56)] [] (gH scr kd n S) Q := by
  have hlt : x.1 < ts.length := kA_lt hk (by decide)
  have h160 := hx.1
  obtain ⟨S1, h1, a1⟩ := m_stPre (d := d + 3) (scr := scr) (kd := kd) hn (by omega) (by omega) h
  have e0 : (dr ++ [0]).length = dr.length + 1 := by rw [List.length_append]; rfl
  obtain ⟨A0, X1, hR⟩ := h1
  have ok1 := xTick hx hk (by decide)
  refine a1 _ ?_
  rw [hk]
  refine eS rfl rfl ?_
  refine eS rfl rfl ?_
  refine eILt rfl rfl (fun z => absurd z (by decide)) (fun _ => ?_)
  refine eS rfl rfl ?_
  refine eS rfl rfl ?_
  refine eIGt rfl rfl (fun _ => ?_) (fun z => absurd (by decide) z)
  refine eS rfl rfl ?_
  refine eS rfl rfl ?_
  refine eILt rfl rfl (fun z => absurd z (by decide)) (fun _ => ?_)
  refine eS rfl rfl ?_
  refine eS rfl rfl ?_
  refine eIGt rfl rfl (fun _ => ?_) (fun z => absurd (by decide) z)
  refine eS rfl rfl ?_
  refine eS rfl rfl ?_
  refine eINe rfl rfl (fun _ => ?_) (fun z => absurd z (by decide))
  refine eS rfl rfl ?_
  refine eS rfl rfl ?_
  refine eINe rfl rfl (fun _ => ?_) (fun z => absurd z (by decide))
  refine eS rfl rfl ?_
  refine eS rfl rfl ?_
  refine eIEq rfl rfl (fun z => absurd z (by decide)) (fun _ => ?_)
  refine eS rfl rfl ?_
  refine eS rfl rfl ?_
  refine eINe rfl rfl (fun z => absurd rfl z) (fun _ => ?_)
  refine M_tick hn rfl rfl rfl rfl rfl rfl rfl X1 (fun S2 X2 => ?_)
  refine eS rfl rfl ?_
  refine gVk hn rfl rfl rfl rfl rfl ⟨catOk rfl, catOk rfl⟩ rfl (m_cmp (d := d) (tk := tk) hn hl160 hN h3 hpo hR.1.1 hp (x.1 + 1, x.2) (dr ++ [0]) S2 ok1 (by rw [e0]; show _ ≤ 3 * (x.1 + 1) + 8; omega) X2 (fun y l S3 e3 hy X3 hb3 => ⟨rfl, ?_⟩) (fun w he t vs dr' st S' X' q1 q2 q3 => ⟨rfl, ?_⟩))
  · have ok3 := (cndA_rd hN _ y ok1 e3).1
    have y1 := ok3.1
    obtain ⟨S4, X4, a4⟩ := m_jump (w := 15) (d := d + 4) (scr := scr) (kd := kd) (ps := ps) hn (by omega) X3
    have ln : (dr ++ [0] ++ wdL l).length = dr.length + 1 + (nwW x y).length := by rw [List.length_append, e0, nw_of (x := x) hy]
    have ew : dr ++ [0] ++ wdL l ++ [15, 0] = dr ++ 0 :: (nwW x y ++ [15, 0]) := by rw [nw_of (x := x) hy]; simp
    rw [ew] at X4
    rw [ln] at a4
    have l4 : (dr ++ 0 :: (nwW x y ++ [15, 0])).length = dr.length + 1 + (nwW x y).length + 2 := by rw [List.length_append]; simp only [List.length_cons, List.length_append, List.length_nil]; omega
    obtain ⟨o1, o2⟩ := m_open (x := y) (f := (3, dr.length + 1 + (nwW x y).length + 1, dr.length + 1)) (d := d + 4) (scr := scr) (kd := kd) hn y1 hfr ⟨A0, X4, hR⟩
    rw [ln] at hb3
    by_cases c : kA ts y.1 = 123 ∧ fr.length < 3
    · obtain ⟨S5, X5, a5⟩ := o1 c
      refine eS rfl rfl ?_
      refine eS rfl rfl ?_
      refine eS rfl rfl ?_
      refine eINe rfl rfl (fun z => absurd rfl z) (fun _ => ?_)
      refine eS rfl rfl ?_
      refine eS rfl rfl ?_
      refine gV1 hn rfl rfl rfl rfl rfl ⟨catOk rfl, catOk rfl⟩ (a4) ?_
      refine eS rfl rfl ?_
      refine eS rfl rfl ?_
      refine gGet hn rfl rfl rfl (mX_f X4).1 ?_
      refine eS rfl rfl ?_
      refine eINe rfl rfl (fun z => absurd rfl z) (fun _ => ?_)
      refine eS rfl rfl ?_
      refine eS rfl rfl ?_
      refine eS rfl rfl ?_
      refine eINe rfl rfl (fun z => absurd rfl z) (fun _ => ?_)
      refine eS rfl rfl ?_
      refine eS rfl rfl ?_
      refine eS rfl rfl ?_
      refine eS rfl rfl ?_
      refine gV1 hn rfl rfl rfl rfl rfl ⟨catOk rfl, catOk rfl⟩ (a5) ?_
      refine eS rfl rfl ?_
      exact eR rfl rfl (k y S5 e3 c.1 c.2 X5)
    · obtain ⟨S5, X5, a5⟩ := o2 c (by omega) (by omega)
      refine eS rfl rfl ?_
      refine eS rfl rfl ?_
      refine eS rfl rfl ?_
      refine eINe rfl rfl (fun z => absurd rfl z) (fun _ => ?_)
      refine eS rfl rfl ?_
      refine eS rfl rfl ?_
      refine gV1 hn rfl rfl rfl rfl rfl ⟨catOk rfl, catOk rfl⟩ (a4) ?_
      refine eS rfl rfl ?_
      refine eS rfl rfl ?_
      refine gGet hn rfl rfl rfl (mX_f X4).1 ?_
      refine eS rfl rfl ?_
      refine eINe rfl rfl (fun z => absurd rfl z) (fun _ => ?_)
      refine eS rfl rfl ?_
      refine eS rfl rfl ?_
      refine eS rfl rfl ?_
      refine eINe rfl rfl (fun z => absurd rfl z) (fun _ => ?_)
      refine eS rfl rfl ?_
      refine eS rfl rfl ?_
      refine eS rfl rfl ?_
      refine eS rfl rfl ?_
      refine gV1 hn rfl rfl rfl rfl rfl ⟨catOk rfl, catOk rfl⟩ (a5) ?_
      refine eS rfl rfl ?_
      exact eR rfl rfl (ke2 y e3 c S5 X5)
  · have hw := neg1_ne (cndA_er hp _ _ he)
    obtain ⟨S4, X4, a4⟩ := m_jump (w := 15) (d := d + 4) (scr := scr) (kd := kd) (ps := ps) hn (by omega) X'
    refine eS rfl rfl ?_
    refine eS rfl rfl ?_
    refine eS rfl rfl ?_
    refine eINe rfl rfl (fun z => absurd rfl z) (fun _ => ?_)
    refine eS rfl rfl ?_
    refine eS rfl rfl ?_
    refine gV1 hn rfl rfl rfl rfl rfl ⟨catOk rfl, catOk rfl⟩ (a4) ?_
    refine eS rfl rfl ?_
    refine eS rfl rfl ?_
    refine gGet hn rfl rfl rfl (mX_f X4).1 ?_
    refine eS rfl rfl ?_
    refine eINe rfl rfl (fun _ => ?_) (fun z => absurd z hw)
    refine eS rfl rfl ?_
    exact eR rfl rfl (ke1 w he S4 (mEz_of X4 (mRw_ln hR) (by rw [List.length_append]; simp only [List.length_cons, List.length_nil]; omega) (by omega)))
theorem key_no (hW : ∀ (i : Nat) (tk : aTk), ts[i]? = some tk → tkW L tk) (h1 : ¬ (18 ≤ kA ts t ∧ kA ts t ≤ 22)) (h2 : ¬ (kA ts t = 17 ∨ (23 ≤ kA ts t ∧ kA ts t ≤ 26))) (h3 : kA ts t ≠ 32) (h4 : kA ts t ≠ 28) (h5 : kA ts t ≠ 29) (h6 : kA ts t ≠ 15) (h7 : kA ts t ≠ 30) : keyOf (kA ts t) = 1 ∨ keyOf (kA ts t) = 16 ∨ (keyOf (kA ts t) = 0 ∧ mkA ts t ≠ 1) := by
  rcases mkA_1 (t := t) hW with ⟨tk, e, m1, m2, m3, m4⟩ | ⟨m1, m2⟩
  · rcases kwd_tab (l := tk.2.2.1) with ⟨q, hq, hq2⟩ | ⟨g, -⟩
    · have e2 : kA ts t = kwd q.1 := by rw [m2, hq2]
      have tab : ∀ q ∈ kwds, ((18 ≤ kwd q.1 ∧ kwd q.1 ≤ 22) ∨ (kwd q.1 = 17 ∨ (23 ≤ kwd q.1 ∧ kwd q.1 ≤ 26)) ∨ kwd q.1 = 32 ∨ kwd q.1 = 28 ∨ kwd q.1 = 29 ∨ kwd q.1 = 15) ∨ (keyOf (kwd q.1) = 1 ∨ keyOf (kwd q.1) = 16) := by decide
      have := tab q hq
      rw [← e2] at this
      omega
    · rw [g] at m2
      exact absurd m2 h7
  · exact Or.inr (Or.inr ⟨keyOf_no m2, m1⟩)
theorem m_stElse (hn : 67 ≤ n) (hl160 : ts.length ≤ 160) (hN : tsN ts) (h3 : ps.length ≤ 3) (hpo : ∀ y ∈ ps, nmOk y) (hp : ∀ t, plA ts L t < 2 ^ 20) (hx : xOk ts x) (hb : dr.length ≤ 3 * x.1 + 7) (hcs : cs.length < 60) (h : mY S0 w0 L tk rest ts ps x dr fr ds cs S) (h1 : ¬ (18 ≤ kA ts x.1 ∧ kA ts x.1 ≤ 22)) (h2 : ¬ (kA ts x.1 = 17 ∨ (23 ≤ kA ts x.1 ∧ kA ts x.1 ≤ 26))) (h4 : kA ts x.1 ≠ 32) (h5 : kA ts x.1 ≠ 28) (h6 : kA ts x.1 ≠ 29) (h7 : kA ts x.1 ≠ 15) (h8 : kA ts x.1 ≠ 30) (ke : ∀ S', mEz S0 w0 L tk rest (plA ts L x.1) S' → Q (.inl none) (gH scr kd n S')) : aE aM189 (d + 6) 0 [(0, .ref 56)] [] (gH scr kd n S) Q := by
  have h160 := hx.1
  obtain ⟨S1, g1, a1⟩ := m_stPre (d := d + 3) (scr := scr) (kd := kd) hn (by omega) (by omega) h
  have e0 : (dr ++ [0]).length = dr.length + 1 := by rw [List.length_append]; rfl
  obtain ⟨A0, X1, hR⟩ := g1
  have is := m_isX (d := d + 5) (scr := scr) (kd := kd) (k := 1) (ps := ps) hn (by omega) (by decide) X1
  obtain ⟨S2, X2, a2⟩ := m_failX (d := d + 5) (scr := scr) (kd := kd) (ps := ps) hn (u := x.1) (by omega) X1
  have F : Q (.inl none) (gH scr kd n S2) := ke S2 (mEz_of X2 (mRw_ln hR) (by omega) (by omega))
  have hkn : keyOf (kA ts x.1) = 1 ∨ keyOf (kA ts x.1) = 16 ∨ (keyOf (kA ts x.1) = 0 ∧ mkA ts x.1 ≠ 1) := by
    obtain ⟨A, rfl, hT, -⟩ := X1
    exact key_no hT.2.2.2.2.2.2 h1 h2 h4 h5 h6 h7 h8
  refine a1 _ ?_
  rcases hkn with hk | hk | ⟨hk, hm⟩
  · rw [hk]
    refine eS rfl rfl ?_
    refine eS rfl rfl ?_
    refine eILt rfl rfl (fun _ => ?_) (fun z => absurd (by decide) z)
    refine eS rfl rfl ?_
    refine eS rfl rfl ?_
    refine eILt rfl rfl (fun _ => ?_) (fun z => absurd (by decide) z)
    refine eS rfl rfl ?_
    refine eS rfl rfl ?_
    refine eINe rfl rfl (fun _ => ?_) (fun z => absurd z (by decide))
    refine eS rfl rfl ?_
    refine eS rfl rfl ?_
    refine eINe rfl rfl (fun _ => ?_) (fun z => absurd z (by decide))
    refine eS rfl rfl ?_
    refine eS rfl rfl ?_
    refine eIEq rfl rfl (fun z => absurd z (by decide)) (fun _ => ?_)
    refine eS rfl rfl ?_
    refine eS rfl rfl ?_
    refine eINe rfl rfl (fun _ => ?_) (fun z => absurd z (by decide))
    refine eS rfl rfl ?_
    refine eNe rfl rfl (fun _ => ?_) (fun z => absurd z (by decide))
    refine eS rfl rfl ?_
    refine eS rfl rfl ?_
    refine gGet hn rfl rfl rfl (mX_f X1).2.2.1 ?_
    refine gV1 hn rfl rfl rfl rfl rfl ⟨catOk rfl, catOk rfl⟩ (a2) ?_
    exact eR rfl rfl F
  · rw [hk]
    refine eS rfl rfl ?_
    refine eS rfl rfl ?_
    refine eILt rfl rfl (fun z => absurd z (by decide)) (fun _ => ?_)
    refine eS rfl rfl ?_
    refine eS rfl rfl ?_
    refine eIGt rfl rfl (fun _ => ?_) (fun z => absurd (by decide) z)
    refine eS rfl rfl ?_
    refine eS rfl rfl ?_
    refine eILt rfl rfl (fun z => absurd z (by decide)) (fun _ => ?_)
    refine eS rfl rfl ?_
    refine eS rfl rfl ?_
    refine eIGt rfl rfl (fun _ => ?_) (fun z => absurd (by decide) z)
    refine eS rfl rfl ?_
    refine eS rfl rfl ?_
    refine eINe rfl rfl (fun _ => ?_) (fun z => absurd z (by decide))
    refine eS rfl rfl ?_
    refine eS rfl rfl ?_
    refine eINe rfl rfl (fun _ => ?_) (fun z => absurd z (by decide))
    refine eS rfl rfl ?_
    refine eS rfl rfl ?_
    refine eIEq rfl rfl (fun z => absurd z (by decide)) (fun _ => ?_)
    refine eS rfl rfl ?_
    refine eS rfl rfl ?_
    refine eINe rfl rfl (fun _ => ?_) (fun z => absurd z (by decide))
    refine eS rfl rfl ?_
    refine eNe rfl rfl (fun _ => ?_) (fun z => absurd z (by decide))
    refine eS rfl rfl ?_
    refine eS rfl rfl ?_
    refine gGet hn rfl rfl rfl (mX_f X1).2.2.1 ?_
    refine gV1 hn rfl rfl rfl rfl rfl ⟨catOk rfl, catOk rfl⟩ (a2) ?_
    exact eR rfl rfl F
  · rw [hk]
    rw [if_neg hm] at is
    refine eS rfl rfl ?_
    refine eS rfl rfl ?_
    refine eILt rfl rfl (fun _ => ?_) (fun z => absurd (by decide) z)
    refine eS rfl rfl ?_
    refine eS rfl rfl ?_
    refine eILt rfl rfl (fun _ => ?_) (fun z => absurd (by decide) z)
    refine eS rfl rfl ?_
    refine eS rfl rfl ?_
    refine eINe rfl rfl (fun _ => ?_) (fun z => absurd z (by decide))
    refine eS rfl rfl ?_
    refine eS rfl rfl ?_
    refine eINe rfl rfl (fun _ => ?_) (fun z => absurd z (by decide))
    refine eS rfl rfl ?_
    refine eS rfl rfl ?_
    refine eIEq rfl rfl (fun z => absurd z (by decide)) (fun _ => ?_)
    refine eS rfl rfl ?_
    refine eS rfl rfl ?_
    refine eINe rfl rfl (fun _ => ?_) (fun z => absurd z (by decide))
    refine eS rfl rfl ?_
    refine eNe rfl rfl (fun z => absurd rfl z) (fun _ => ?_)
    refine eS rfl rfl ?_
    refine eS rfl rfl ?_
    refine gV1 hn rfl rfl rfl rfl rfl ⟨catOk rfl, catOk rfl⟩ (is) ?_
    refine eEq rfl rfl (fun _ => ?_) (fun z => absurd rfl z)
    refine eS rfl rfl ?_
    refine eS rfl rfl ?_
    refine gGet hn rfl rfl rfl (mX_f X1).2.2.1 ?_
    refine gV1 hn rfl rfl rfl rfl rfl ⟨catOk rfl, catOk rfl⟩ (a2) ?_
    exact eR rfl rfl F
end MSF
