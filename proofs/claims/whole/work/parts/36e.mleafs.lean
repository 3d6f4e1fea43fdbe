/-! the model reads statements without blocks -/
section MSE
variable {scr : List Value} {kd : Nat → Nat} {n d L t lv df cl : Nat} {fr : List (Nat × Nat × Nat)} {ds : List dEf} {cs : List cAl} {S0 A A0 S : Nat → List Value} {w0 : Value} {wr tk : Int32} {rest : List Value} {ts : List aTk} {vs ps : List (List Nat)} {dr st : List Nat} {s : Nat} {x : xSt} {Q : aOut → aH → Prop}
theorem m_keyX (hn : 67 ≤ n) (ht : t ≤ ts.length) (hS : (mX S0 w0 L tk ps.length lv df cl rest A0 ts (-1) t vs dr st S)) : aE aM181 (d + 2) 0 [(0, .ref 56)] [] (gH scr kd n S) (aIs (some (.int (Int32.ofNat (keyOf (kA ts t))))) (gH scr kd n S)) := by
  obtain ⟨A, rfl, hT, -⟩ := hS
  exact m_keyword hn hT ht
theorem mY_f (h : mY S0 w0 L tk rest ts ps x dr fr ds cs S) : ∃ A0, (mX S0 w0 L tk ps.length fr.length ds.length cs.length rest A0 ts (-1) x.1 x.2.1 dr [] S) ∧ mRw ps fr ds cs A0 := h
theorem m_stPre (hn : 67 ≤ n) (hx : x.1 ≤ ts.length) (hd : dr.length < 700) (h : mY S0 w0 L tk rest ts ps x dr fr ds cs S) : ∃ S', mY S0 w0 L tk rest ts ps x (dr ++ [0]) fr ds cs S' ∧ ∀ Q, aE aM189 (d + 3) 15 [(2, .int (Int32.ofNat (dr.length + 1))), (1, .int (Int32.ofNat (keyOf (kA ts x.1)))), (0, .ref 56)] [] (gH scr kd n S') Q → aE aM189 (d + 3) 0 [(0, .ref 56)] [] (gH scr kd n S) Q := by
  obtain ⟨A0, hX, hR⟩ := h
  have a1 := m_keyX (d := d) (scr := scr) (kd := kd) (ps := ps) hn hx hX
  obtain ⟨S2, h2, a2⟩ := m_emitX (v := 0) (d := d + 2) (scr := scr) (kd := kd) hn (by omega) hX
  have e : (dr ++ [0]).length = dr.length + 1 := by rw [List.length_append]; rfl
  refine ⟨S2, ⟨A0, h2, hR⟩, fun Q kk => ?_⟩
  refine eS rfl rfl ?_
  refine gV1 hn rfl rfl rfl rfl rfl ⟨catOk rfl, catOk rfl⟩ (a1) ?_
  refine eS rfl rfl ?_
  refine eS rfl rfl ?_
  refine eS rfl rfl ?_
  refine gV1 hn rfl rfl rfl rfl rfl ⟨catOk rfl, catOk rfl⟩ (a2) ?_
  refine eS rfl rfl ?_
  refine gGet hn rfl rfl rfl (mX_f h2).2.1 ?_
  rw [e]
  refine eS rfl rfl ?_
  exact kk
theorem key_lo {k : Nat} (h : (18 ≤ k ∧ k ≤ 26)) : keyOf k = k - 16 := by
  have : k = 18 ∨ k = 19 ∨ k = 20 ∨ k = 21 ∨ k = 22 ∨ k = 23 ∨ k = 24 ∨ k = 25 ∨ k = 26 := by omega
  rcases this with rfl | rfl | rfl | rfl | rfl | rfl | rfl | rfl | rfl <;> rfl
theorem m_stOne (hn : 67 ≤ n) (hl160 : ts.length ≤ 160) (hN : tsN ts) (h3 : ps.length ≤ 3) (hpo : ∀ y ∈ ps, nmOk y) (hp : ∀ t, plA ts L t < 2 ^ 20) (hx : xOk ts x) (hb : dr.length ≤ 3 * x.1 + 7) (hcs : cs.length < 60) (h : mY S0 w0 L tk rest ts ps x dr fr ds cs S) (hk : 18 ≤ kA ts x.1 ∧ kA ts x.1 ≤ 22) (k : ∀ y ws S', sglA ts L ps x = .ok (y, ws, []) → mY S0 w0 L tk rest ts ps y (dr ++ ws) fr ds cs S' → Q (.inl none) (gH scr kd n S')) (ke : ∀ e, sglA ts L ps x = .error e → ∀ S', mEz S0 w0 L tk rest e S' → Q (.inl none) (gH scr kd n S')) : aE aM189 (d + 6) 0 [(0, .ref 56)] [] (gH scr kd n S) Q := by
  have hlt : x.1 < ts.length := kA_lt rfl (by omega)
  have hkey := key_lo (k := kA ts x.1) (by omega)
  have h160 := hx.1
  obtain ⟨S1, h1, a1⟩ := m_stPre (d := d + 3) (scr := scr) (kd := kd) hn (by omega) (by omega) h
  have e0 : (dr ++ [0]).length = dr.length + 1 := by rw [List.length_append]; rfl
  obtain ⟨A0, X1, hR⟩ := h1
  have ok1 := xTick hx (k := kA ts x.1) rfl (by omega)
  have b1 := i32_lt (a := keyOf (kA ts x.1)) (b := 2) (by omega) (by omega)
  have b2 := i32_lt (a := 6) (b := keyOf (kA ts x.1)) (by omega) (by omega)
  refine a1 _ ?_
  refine eS rfl rfl ?_
  refine eS rfl rfl ?_
  refine eILt rfl rfl (fun z => absurd (b1.mp z) (by omega)) (fun _ => ?_)
  refine eS rfl rfl ?_
  refine eS rfl rfl ?_
  refine eIGt rfl rfl (fun z => absurd (b2.mp z) (by omega)) (fun _ => ?_)
  refine M_tick hn rfl rfl rfl rfl rfl rfl rfl X1 (fun S2 X2 => ?_)
  refine eS rfl rfl ?_
  refine gVk hn rfl rfl rfl rfl rfl ⟨catOk rfl, catOk rfl⟩ rfl (m_expr (tk := tk) hn hl160 hN h3 hpo hR.1.1 (x.1 + 1, x.2) (dr ++ [0]) S2 ok1 (by rw [e0]; show _ ≤ 3 * (x.1 + 1) + 8; omega) X2 (fun y l S3 e3 hy X3 hb3 => ⟨rfl, ?_⟩) (fun w he t vs dr' st S' X' q1 q2 q3 => ⟨rfl, ?_⟩))
  · have ok3 := (sumA_rd hN 4 0 _ y ok1 e3).1
    have y1 := ok3.1
    obtain ⟨S4, X4, a4⟩ := m_emitX (v := kA ts x.1) (d := d + 5) (scr := scr) (kd := kd) hn (by omega) X3
    have es : sglA ts L ps x = .ok (y, 0 :: (nwW x y ++ [kA ts x.1]), []) := by unfold sglA; rw [e3]
    have ew : dr ++ [0] ++ wdL l ++ [kA ts x.1] = dr ++ 0 :: (nwW x y ++ [kA ts x.1]) := by rw [nw_of (x := x) hy]; simp
    rw [ew] at X4
    refine eS rfl rfl ?_
    refine eS rfl rfl ?_
    refine eS rfl rfl ?_
    refine eS rfl rfl ?_
    show aE aM189 (d + 6) 45 _ [.int (Int32.ofNat 16 + Int32.ofNat (keyOf (kA ts x.1))), .ref 56] _ _
    rw [i32_add, hkey, show 16 + (kA ts x.1 - 16) = kA ts x.1 by omega]
    refine gV1 hn rfl rfl rfl rfl rfl ⟨catOk rfl, catOk rfl⟩ (a4) ?_
    refine eS rfl rfl ?_
    exact eR rfl rfl (k y _ S4 es ⟨A0, X4, hR⟩)
  · have es : sglA ts L ps x = .error w := by unfold sglA; rw [he]
    obtain ⟨S4, X4, a4⟩ := m_emitX (v := kA ts x.1) (d := d + 5) (scr := scr) (kd := kd) hn (by omega) X'
    refine eS rfl rfl ?_
    refine eS rfl rfl ?_
    refine eS rfl rfl ?_
    refine eS rfl rfl ?_
    show aE aM189 (d + 6) 45 _ [.int (Int32.ofNat 16 + Int32.ofNat (keyOf (kA ts x.1))), .ref 56] _ _
    rw [i32_add, hkey, show 16 + (kA ts x.1 - 16) = kA ts x.1 by omega]
    refine gV1 hn rfl rfl rfl rfl rfl ⟨catOk rfl, catOk rfl⟩ (a4) ?_
    refine eS rfl rfl ?_
    exact eR rfl rfl (ke w es S4 (mEz_of X4 (mRw_ln hR) (by rw [List.length_append, List.length_singleton]; omega) (by omega)))
theorem m_stPlain (hn : 67 ≤ n) (hl160 : ts.length ≤ 160) (hN : tsN ts) (h3 : ps.length ≤ 3) (hpo : ∀ y ∈ ps, nmOk y) (hp : ∀ t, plA ts L t < 2 ^ 20) (hx : xOk ts x) (hb : dr.length ≤ 3 * x.1 + 7) (hcs : cs.length < 60) (h : mY S0 w0 L tk rest ts ps x dr fr ds cs S) (hk : kA ts x.1 = 17 ∨ (23 ≤ kA ts x.1 ∧ kA ts x.1 ≤ 26)) (k : ∀ S', mY S0 w0 L tk rest ts ps (x.1 + 1, x.2) (dr ++ [0, kA ts x.1]) fr ds cs S' → Q (.inl none) (gH scr kd n S')) : aE aM189 (d + 6) 0 [(0, .ref 56)] [] (gH scr kd n S) Q := by
  have hlt : x.1 < ts.length := kA_lt rfl (by omega)
  have h160 := hx.1
  obtain ⟨S1, h1, a1⟩ := m_stPre (d := d + 3) (scr := scr) (kd := kd) hn (by omega) (by omega) h
  have e0 : (dr ++ [0]).length = dr.length + 1 := by rw [List.length_append]; rfl
  obtain ⟨A0, X1, hR⟩ := h1
  refine a1 _ ?_
  rcases hk with hk | hk
  · rw [hk]
    rw [hk] at k
    refine eS rfl rfl ?_
    refine eS rfl rfl ?_
    refine eILt rfl rfl (fun z => absurd z (by decide)) (fun _ => ?_)
    refine eS rfl rfl ?_
    refine eS rfl rfl ?_
    refine eIGt rfl rfl (fun _ => ?_) (fun z => absurd (by decide) z)
    refine eS rfl rfl ?_
    refine eS rfl rfl ?_
    refine eILt rfl rfl (fun z => absurd z (by decide)) (fun _ => ?_)
    refine eS rfl rfl ?_
    refine eS rfl rfl ?_
    refine eIGt rfl rfl (fun z => absurd z (by decide)) (fun _ => ?_)
    refine M_tick hn rfl rfl rfl rfl rfl rfl rfl X1 (fun S2 X2 => ?_)
    obtain ⟨S4, X4, a4⟩ := m_emitX (v := 17) (d := d + 5) (scr := scr) (kd := kd) hn (by omega) X2
    rw [List.append_assoc] at X4
    refine eS rfl rfl ?_
    refine eS rfl rfl ?_
    refine eS rfl rfl ?_
    refine eINe rfl rfl (fun z => absurd rfl z) (fun _ => ?_)
    refine eS rfl rfl ?_
    refine eS rfl rfl ?_
    refine gV1 hn rfl rfl rfl rfl rfl ⟨catOk rfl, catOk rfl⟩ (a4) ?_
    refine eS rfl rfl ?_
    exact eR rfl rfl (k S4 ⟨A0, X4, hR⟩)
  · have hkey := key_lo (k := kA ts x.1) (by omega)
    have b2 := i32_lt (a := 6) (b := keyOf (kA ts x.1)) (by omega) (by omega)
    have b1 := i32_lt (a := keyOf (kA ts x.1)) (b := 2) (by omega) (by omega)
    have b3 := i32_lt (a := keyOf (kA ts x.1)) (b := 7) (by omega) (by omega)
    have b4 := i32_lt (a := 11) (b := keyOf (kA ts x.1)) (by omega) (by omega)
    have b5 := i32_eq (a := keyOf (kA ts x.1)) (b := 11) (by omega) (by omega)
    refine eS rfl rfl ?_
    refine eS rfl rfl ?_
    refine eILt rfl rfl (fun z => absurd (b1.mp z) (by omega)) (fun _ => ?_)
    refine eS rfl rfl ?_
    refine eS rfl rfl ?_
    refine eIGt rfl rfl (fun _ => ?_) (fun z => absurd (b2.mpr (by omega)) z)
    refine eS rfl rfl ?_
    refine eS rfl rfl ?_
    refine eILt rfl rfl (fun z => absurd (b3.mp z) (by omega)) (fun _ => ?_)
    refine eS rfl rfl ?_
    refine eS rfl rfl ?_
    refine eIGt rfl rfl (fun z => absurd (b4.mp z) (by omega)) (fun _ => ?_)
    refine M_tick hn rfl rfl rfl rfl rfl rfl rfl X1 (fun S2 X2 => ?_)
    obtain ⟨S4, X4, a4⟩ := m_emitX (v := kA ts x.1) (d := d + 5) (scr := scr) (kd := kd) hn (by omega) X2
    rw [List.append_assoc] at X4
    refine eS rfl rfl ?_
    refine eS rfl rfl ?_
    refine eS rfl rfl ?_
    refine eINe rfl rfl (fun _ => ?_) (fun z => absurd (b5.mp z) (by omega))
    refine eS rfl rfl ?_
    refine eS rfl rfl ?_
    refine eS rfl rfl ?_
    show aE aM189 (d + 6) 89 _ [.int (Int32.ofNat 16 + Int32.ofNat (keyOf (kA ts x.1))), .ref 56] _ _
    rw [i32_add, hkey, show 16 + (kA ts x.1 - 16) = kA ts x.1 by omega]
    refine gV1 hn rfl rfl rfl rfl rfl ⟨catOk rfl, catOk rfl⟩ (a4) ?_
    refine eS rfl rfl ?_
    exact eR rfl rfl (k S4 ⟨A0, X4, hR⟩)
theorem m_stLet (hn : 67 ≤ n) (hl160 : ts.length ≤ 160) (hN : tsN ts) (h3 : ps.length ≤ 3) (hpo : ∀ y ∈ ps, nmOk y) (hp : ∀ t, plA ts L t < 2 ^ 20) (hx : xOk ts x) (hb : dr.length ≤ 3 * x.1 + 7) (hcs : cs.length < 60) (h : mY S0 w0 L tk rest ts ps x dr fr ds cs S) (hk : kA ts x.1 = 32) (k : ∀ y ws S', letA ts L ps x = .ok (y, ws, []) → mY S0 w0 L tk rest ts ps y (dr ++ ws) fr ds cs S' → Q (.inl none) (gH scr kd n S')) (ke : ∀ e, letA ts L ps x = .error e → ∀ S', mEz S0 w0 L tk rest e S' → Q (.inl none) (gH scr kd n S')) : aE aM189 (d + 6) 0 [(0, .ref 56)] [] (gH scr kd n S) Q := by
  have hlt : x.1 < ts.length := kA_lt hk (by decide)
  have h160 := hx.1
  obtain ⟨S1, h1, a1⟩ := m_stPre (d := d + 3) (scr := scr) (kd := kd) hn (by omega) (by omega) h
  have e0 : (dr ++ [0]).length = dr.length + 1 := by rw [List.length_append]; rfl
  obtain ⟨A0, X1, hR⟩ := h1
  refine a1 _ ?_
  rw [hk]
  refine eS rfl rfl ?_
  refine eS rfl rfl ?_
  refine eILt rfl rfl (fun z => absurd z (by decide)) (fun _ => ?_)
  refine eS rfl rfl ?_
  refine eS rfl rfl ?_
  refine eIGt rfl rfl (fun _ => ?_) (fun z => absurd (by decide) z)
  refine eS rfl rfl ?_
  refine eS rfl rfl ?_
  refine eILt rfl rfl (fun z => absurd z (by decide)) (fun _ => ?_)
  refine eS rfl rfl ?_
  refine eS rfl rfl ?_
  refine eIGt rfl rfl (fun _ => ?_) (fun z => absurd (by decide) z)
  refine eS rfl rfl ?_
  refine eS rfl rfl ?_
  refine eINe rfl rfl (fun z => absurd rfl z) (fun _ => ?_)
  refine eS rfl rfl ?_
  refine gVk hn rfl rfl rfl rfl rfl ⟨catOk rfl, catOk rfl⟩ rfl (m_let (d := d) hn hl160 hN h3 hpo hR.1.1 hp hx hk (by rw [e0]; omega) X1 (fun y p i S2 e2 X2 => ⟨rfl, ?_⟩) (fun e he t vs dr' st S' X' q2 q3 => ⟨rfl, ?_⟩))
  · refine eS rfl rfl ?_
    rw [List.append_assoc] at X2
    exact eR rfl rfl (k y _ S2 e2 ⟨A0, X2, hR⟩)
  · refine eS rfl rfl ?_
    exact eR rfl rfl (ke e he S' (mEz_of X' (mRw_ln hR) (by omega) (by omega)))
theorem m_stCall (hn : 67 ≤ n) (hl160 : ts.length ≤ 160) (hN : tsN ts) (h3 : ps.length ≤ 3) (hpo : ∀ y ∈ ps, nmOk y) (hp : ∀ t, plA ts L t < 2 ^ 20) (hx : xOk ts x) (hb : dr.length ≤ 3 * x.1 + 7) (hcs : cs.length < 60) (h : mY S0 w0 L tk rest ts ps x dr fr ds cs S) (hk : kA ts x.1 = 30) (k : ∀ r S', callA ts L ps dr.length x = .ok r → mY S0 w0 L tk rest ts ps r.1 (dr ++ r.2.1) fr ds (cs ++ r.2.2) S' → Q (.inl none) (gH scr kd n S')) (ke : ∀ e, callA ts L ps dr.length x = .error e → ∀ S', mEz S0 w0 L tk rest e S' → Q (.inl none) (gH scr kd n S')) : aE aM189 (d + 6) 0 [(0, .ref 56)] [] (gH scr kd n S) Q := by
  have hlt : x.1 < ts.length := kA_lt hk (by decide)
  have h160 := hx.1
  obtain ⟨S1, h1, a1⟩ := m_stPre (d := d + 3) (scr := scr) (kd := kd) hn (by omega) (by omega) h
  have e0 : (dr ++ [0]).length = dr.length + 1 := by rw [List.length_append]; rfl
  obtain ⟨A0, X1, hR⟩ := h1
  have is := m_isX (d := d + 5) (scr := scr) (kd := kd) (k := 1) (ps := ps) hn (by omega) (by decide) X1
  have hm : mkA ts x.1 = 1 := by
    obtain ⟨A, rfl, hT, -⟩ := X1
    rcases mkA_1 (t := x.1) hT.2.2.2.2.2.2 with ⟨tk, -, m1, -⟩ | ⟨-, m2⟩
    · exact m1
    · rw [hk] at m2
      omega
  rw [if_pos hm] at is
  refine a1 _ ?_
  rw [hk]
  refine eS rfl rfl ?_
  refine eS rfl rfl ?_
  refine eILt rfl rfl (fun _ => ?_) (fun z => absurd (by decide) z)
  refine eS rfl rfl ?_
  refine eS rfl rfl ?_
  refine eILt rfl rfl (fun _ => ?_) (fun z => absurd (by decide) z)
  refine eS rfl rfl ?_
  refine eS rfl rfl ?_
  refine eINe rfl rfl (fun _ => ?_) (fun z => absurd z (by decide))
  refine eS rfl rfl ?_
  refine eS rfl rfl ?_
  refine eINe rfl rfl (fun _ => ?_) (fun z => absurd z (by decide))
  refine eS rfl rfl ?_
  refine eS rfl rfl ?_
  refine eIEq rfl rfl (fun z => absurd z (by decide)) (fun _ => ?_)
  refine eS rfl rfl ?_
  refine eS rfl rfl ?_
  refine eINe rfl rfl (fun _ => ?_) (fun z => absurd z (by decide))
  refine eS rfl rfl ?_
  refine eNe rfl rfl (fun z => absurd rfl z) (fun _ => ?_)
  refine eS rfl rfl ?_
  refine eS rfl rfl ?_
  refine gV1 hn rfl rfl rfl rfl rfl ⟨catOk rfl, catOk rfl⟩ (is) ?_
  refine eEq rfl rfl (fun z => absurd z (by decide)) (fun _ => ?_)
  refine eS rfl rfl ?_
  refine gVk hn rfl rfl rfl rfl rfl ⟨catOk rfl, catOk rfl⟩ rfl (m_call (d := d) hn hl160 hN h3 hpo hR.1.1 hp hx hk (by rw [e0]; omega) (mRw_ln hR) hcs X1 (fun y S2 e2 X2 => ⟨rfl, ?_⟩) (fun e he S' z => ⟨rfl, ?_⟩))
  · have ec : callA ts L ps dr.length x = .ok (y.1, 0 :: (nwW x y.1 ++ [16, 0, y.2]), [(nmA ts x.1, y.2, dr.length + 1 + (nwW x y.1).length + 1, x.1)]) := by unfold callA; rw [e2]
    refine eS rfl rfl ?_
    rw [List.append_assoc, e0] at X2
    refine eR rfl rfl (k _ S2 ec ⟨_, ?_, cAup_rw (c := (nmA ts x.1, y.2, dr.length + 1 + (nwW x y.1).length + 1, x.1)) hR hcs⟩)
    rw [List.length_append, List.length_singleton]
    exact X2
  · have ec : callA ts L ps dr.length x = .error e := by unfold callA; rw [he]
    refine eS rfl rfl ?_
    exact eR rfl rfl (ke e ec S' z)
end MSE
