/-! the model reads a call -/
section MCC
variable {scr : List Value} {kd : Nat → Nat} {n d L t lv df cl : Nat} {S0 A A0 S : Nat → List Value} {w0 : Value} {wr tk : Int32} {rest : List Value} {ts : List aTk} {vs ps : List (List Nat)} {dr st : List Nat} {s : Nat} {x : xSt} {Q : aOut → aH → Prop}
theorem m_argLoop {at' : Nat} (hn : 67 ≤ n) (hl160 : ts.length ≤ 160) (hN : tsN ts) (h3 : ps.length ≤ 3) (hpo : ∀ y ∈ ps, nmOk y) (hP : nmF 27 ps (A0 64)) (hp : ∀ t, plA ts L t < 2 ^ 20) : ∀ (k nn : Nat) (x : xSt) (dr : List Nat) (S : Nat → List Value), k + 1 + nn = 3 → xOk ts x → dr.length ≤ 3 * x.1 + 8 → (mX S0 w0 L tk ps.length lv df cl rest A0 ts (-1) x.1 x.2.1 dr [] S) → (∀ z m S', argA ts L ps (k + 1) x nn = .ok (z, m) → (mX S0 w0 L tk ps.length lv df cl rest A0 ts (-1) z.1 z.2.1 (dr ++ nwW x z) [] S') → (dr ++ nwW x z).length ≤ 3 * z.1 + 8 → aE aM198 (d + 5) 102 [(3, .int 0), (2, .int (Int32.ofNat m)), (1, .int (Int32.ofNat at')), (0, .ref 56)] [] (gH scr kd n S') Q) → (∀ e, argA ts L ps (k + 1) x nn = .error e → ∀ t vs dr' st S' m v, (mX S0 w0 L tk ps.length lv df cl rest A0 ts (Int32.ofNat e) t vs dr' st S') → vs.length ≤ 8 → dr'.length ≤ 600 → m < 2 ^ 20 → aE aM198 (d + 5) 102 [(3, .int v), (2, .int (Int32.ofNat m)), (1, .int (Int32.ofNat at')), (0, .ref 56)] [] (gH scr kd n S') Q) → aE aM198 (d + 5) 46 [(3, .int 1), (2, .int (Int32.ofNat nn)), (1, .int (Int32.ofNat at')), (0, .ref 56)] [] (gH scr kd n S) Q
  | k, nn, x, dr, S, hm, hx, hb, hX, kk, ke => by
    have key : ∀ y l S1, sumA ts L ps 4 0 x = .ok y → y.2.2 = x.2.2 ++ l → (mX S0 w0 L tk ps.length lv df cl rest A0 ts (-1) y.1 y.2.1 (dr ++ wdL l) [] S1) → (dr ++ wdL l).length ≤ 3 * y.1 + 8 → aE aM198 (d + 5) 62 [(3, .int 1), (2, .int (Int32.ofNat nn)), (1, .int (Int32.ofNat at')), (0, .ref 56)] [] (gH scr kd n S1) Q := by
      intro y l S1 e1 hl X1 hb1
      have oy := (sumA_rd hN 4 0 x y hx e1).1
      have is := m_isSX (d := d + 4) (scr := scr) (kd := kd) (k := 44) (ps := ps) hn oy.1 (by decide) (by decide) X1
      have ec : argA ts L ps (k + 1) x nn = ctA ts L ps k y (nn + 1) := by rw [argA_ct, e1]
      have v3 := i32_le (a := 3) (b := nn + 1) (by omega) (by omega)
      have fin0 : ¬ (kA ts y.1 = 44 ∧ k ≠ 0) → aE aM198 (d + 5) 102 [(3, .int 0), (2, .int (Int32.ofNat (nn + 1))), (1, .int (Int32.ofNat at')), (0, .ref 56)] [] (gH scr kd n S1) Q := fun hc => kk y (nn + 1) S1 (by rw [ec]; unfold ctA; rw [if_neg hc]) (by rw [nw_of hl]; exact X1) (by rw [nw_of hl]; exact hb1)
      by_cases c : kA ts y.1 = 44
      · rw [if_pos c] at is
        have hlt := kA_lt c (by decide)
        match k, hm, ec, fin0, kk, ke with
        | 0, hm, ec, fin0, kk, ke =>
          have F := fin0 (fun z => z.2 rfl)
          refine eS rfl rfl ?_
          rw [i32_succ]
          refine eS rfl rfl ?_
          refine eS rfl rfl ?_
          refine gV1 hn rfl rfl rfl rfl rfl ⟨catOk rfl, catOk rfl⟩ (is) ?_
          refine eEq rfl rfl (fun z => absurd z (by decide)) (fun _ => ?_)
          refine eS rfl rfl ?_
          refine eS rfl rfl ?_
          refine eIGe rfl rfl (fun _ => ?_) (fun z => absurd (v3.mpr (by omega)) z)
          refine eS rfl rfl ?_
          refine eS rfl rfl ?_
          refine eS rfl rfl ?_
          refine eEq rfl rfl (fun _ => ?_) (fun z => absurd rfl z)
          refine eLoc (l' := [(3, .int 0), (2, .int (Int32.ofNat (nn + 1))), (1, .int (Int32.ofNat at')), (0, .ref 56)]) rfl ⟨rfl, rfl, rfl, rfl, trivial⟩ ?_
          refine eS rfl rfl ?_
          refine eEq rfl rfl (fun _ => ?_) (fun z => absurd rfl z)
          exact F
        | k + 1, hm, ec, fin0, kk, ke =>
          have ec2 : argA ts L ps (k + 1 + 1) x nn = argA ts L ps (k + 1) (y.1 + 1, y.2) (nn + 1) := by rw [ec]; unfold ctA; rw [if_pos ⟨c, by omega⟩]
          refine eS rfl rfl ?_
          rw [i32_succ]
          refine eS rfl rfl ?_
          refine eS rfl rfl ?_
          refine gV1 hn rfl rfl rfl rfl rfl ⟨catOk rfl, catOk rfl⟩ (is) ?_
          refine eEq rfl rfl (fun z => absurd z (by decide)) (fun _ => ?_)
          refine eS rfl rfl ?_
          refine eS rfl rfl ?_
          refine eIGe rfl rfl (fun z => absurd (v3.mp z) (by omega)) (fun _ => ?_)
          refine eS rfl rfl ?_
          refine eS rfl rfl ?_
          refine eS rfl rfl ?_
          refine eS rfl rfl ?_
          refine eEq rfl rfl (fun z => absurd z (by decide)) (fun _ => ?_)
          refine M_tick hn rfl rfl rfl rfl rfl rfl rfl X1 (fun S2 X2 => ?_)
          refine eS rfl rfl ?_
          refine eLoc (l' := [(3, .int 1), (2, .int (Int32.ofNat (nn + 1))), (1, .int (Int32.ofNat at')), (0, .ref 56)]) rfl ⟨rfl, rfl, rfl, rfl, trivial⟩ ?_
          refine m_argLoop hn hl160 hN h3 hpo hP hp k (nn + 1) (y.1 + 1, y.2) (dr ++ wdL l) S2 (by omega) (xTick oy c (by decide)) (by show _ ≤ 3 * (y.1 + 1) + 8; omega) X2 (fun z m S' e' X' hb' => ?_) (fun e he t vs dr' st S' m v X' q1 q2 q3 => ke e (by rw [ec2]; exact he) t vs dr' st S' m v X' q1 q2 q3)
          have hz : ∃ l', z.2.2 = y.2.2 ++ l' := (argA_rd hN (k + 1) _ _ (z, m) (xTick oy c (by decide)) e').2.2.2.1
          obtain ⟨l', hz⟩ := hz
          have e2 : dr ++ wdL l ++ nwW (y.1 + 1, y.2) z = dr ++ nwW x z := by
            rw [nw_of (x := (y.1 + 1, y.2)) hz, nw_of (x := x) (l := l ++ l') (by rw [hz, hl, List.append_assoc]), wdL_app, List.append_assoc]
          rw [e2] at X' hb'
          exact kk z m S' (by rw [ec2]; exact e') X' hb'
      · rw [if_neg c] at is
        have F := fin0 (fun z => c z.1)
        refine eS rfl rfl ?_
        rw [i32_succ]
        refine eS rfl rfl ?_
        refine eS rfl rfl ?_
        refine gV1 hn rfl rfl rfl rfl rfl ⟨catOk rfl, catOk rfl⟩ (is) ?_
        refine eEq rfl rfl (fun _ => ?_) (fun z => absurd rfl z)
        refine eS rfl rfl ?_
        refine eS rfl rfl ?_
        refine eS rfl rfl ?_
        refine eEq rfl rfl (fun _ => ?_) (fun z => absurd rfl z)
        refine eLoc (l' := [(3, .int 0), (2, .int (Int32.ofNat (nn + 1))), (1, .int (Int32.ofNat at')), (0, .ref 56)]) rfl ⟨rfl, rfl, rfl, rfl, trivial⟩ ?_
        refine eS rfl rfl ?_
        refine eEq rfl rfl (fun _ => ?_) (fun z => absurd rfl z)
        exact F
    have keyE : ∀ e, sumA ts L ps 4 0 x = .error e → ∀ t vs dr' st S1, (mX S0 w0 L tk ps.length lv df cl rest A0 ts (Int32.ofNat e) t vs dr' st S1) → t ≤ ts.length + 1 → vs.length ≤ 8 → dr'.length ≤ 600 → aE aM198 (d + 5) 62 [(3, .int 1), (2, .int (Int32.ofNat nn)), (1, .int (Int32.ofNat at')), (0, .ref 56)] [] (gH scr kd n S1) Q := by
      intro e he t vs dr' st S1 X1 q1 q2 q3
      have ec : argA ts L ps (k + 1) x nn = .error e := by rw [argA_ct, he]
      have hw := neg1_ne (sumA_er hp 4 0 _ _ he)
      obtain ⟨r, hr, is⟩ := m_isE (d := d + 4) (scr := scr) (kd := kd) (k := Int32.ofNat 44) (ps := ps) hn q1 X1
      have v3 := i32_le (a := 3) (b := nn + 1) (by omega) (by omega)
      have F := fun S' v X' => ke e ec t vs dr' st S' (nn + 1) v X' q2 q3 (by omega)
      rcases hr with rfl | rfl
      · skip
        refine eS rfl rfl ?_
        rw [i32_succ]
        refine eS rfl rfl ?_
        refine eS rfl rfl ?_
        refine gV1 hn rfl rfl rfl rfl rfl ⟨catOk rfl, catOk rfl⟩ (is) ?_
        refine eEq rfl rfl (fun _ => ?_) (fun z => absurd rfl z)
        refine eS rfl rfl ?_
        refine eS rfl rfl ?_
        refine eS rfl rfl ?_
        refine eEq rfl rfl (fun _ => ?_) (fun z => absurd rfl z)
        refine eLoc (l' := [(3, .int 0), (2, .int (Int32.ofNat (nn + 1))), (1, .int (Int32.ofNat at')), (0, .ref 56)]) rfl ⟨rfl, rfl, rfl, rfl, trivial⟩ ?_
        refine eS rfl rfl ?_
        refine eEq rfl rfl (fun _ => ?_) (fun z => absurd rfl z)
        exact F S1 0 X1
      · by_cases c3 : 3 ≤ nn + 1
        · skip
          refine eS rfl rfl ?_
          rw [i32_succ]
          refine eS rfl rfl ?_
          refine eS rfl rfl ?_
          refine gV1 hn rfl rfl rfl rfl rfl ⟨catOk rfl, catOk rfl⟩ (is) ?_
          refine eEq rfl rfl (fun z => absurd z (by decide)) (fun _ => ?_)
          refine eS rfl rfl ?_
          refine eS rfl rfl ?_
          refine eIGe rfl rfl (fun _ => ?_) (fun z => absurd (v3.mpr c3) z)
          refine eS rfl rfl ?_
          refine eS rfl rfl ?_
          refine eS rfl rfl ?_
          refine eEq rfl rfl (fun _ => ?_) (fun z => absurd rfl z)
          refine eLoc (l' := [(3, .int 0), (2, .int (Int32.ofNat (nn + 1))), (1, .int (Int32.ofNat at')), (0, .ref 56)]) rfl ⟨rfl, rfl, rfl, rfl, trivial⟩ ?_
          refine eS rfl rfl ?_
          refine eEq rfl rfl (fun _ => ?_) (fun z => absurd rfl z)
          exact F S1 0 X1
        · skip
          refine eS rfl rfl ?_
          rw [i32_succ]
          refine eS rfl rfl ?_
          refine eS rfl rfl ?_
          refine gV1 hn rfl rfl rfl rfl rfl ⟨catOk rfl, catOk rfl⟩ (is) ?_
          refine eEq rfl rfl (fun z => absurd z (by decide)) (fun _ => ?_)
          refine eS rfl rfl ?_
          refine eS rfl rfl ?_
          refine eIGe rfl rfl (fun z => absurd (v3.mp z) c3) (fun _ => ?_)
          refine eS rfl rfl ?_
          refine eS rfl rfl ?_
          refine eS rfl rfl ?_
          refine eS rfl rfl ?_
          refine eEq rfl rfl (fun z => absurd z (by decide)) (fun _ => ?_)
          refine M_tick hn rfl rfl rfl rfl rfl rfl rfl X1 (fun S2 X2 => ?_)
          have F2 := ke e ec (t + 1) vs dr' st S2 (nn + 1) 1 X2 q2 q3 (by omega)
          refine eS rfl rfl ?_
          refine eLoc (l' := [(3, .int 1), (2, .int (Int32.ofNat (nn + 1))), (1, .int (Int32.ofNat at')), (0, .ref 56)]) rfl ⟨rfl, rfl, rfl, rfl, trivial⟩ ?_
          refine eS rfl rfl ?_
          refine eEq rfl rfl (fun z => absurd z (by decide)) (fun _ => ?_)
          refine eS rfl rfl ?_
          refine gGet hn rfl rfl rfl (mX_f X2).1 ?_
          refine eS rfl rfl ?_
          refine eINe rfl rfl (fun _ => ?_) (fun z => absurd z hw)
          exact F2
    refine eS rfl rfl ?_
    refine eEq rfl rfl (fun z => absurd z (by decide)) (fun _ => ?_)
    refine eS rfl rfl ?_
    refine gGet hn rfl rfl rfl (mX_f hX).1 ?_
    refine eS rfl rfl ?_
    refine eINe rfl rfl (fun z => absurd rfl z) (fun _ => ?_)
    refine eS rfl rfl ?_
    exact gVk hn rfl rfl rfl rfl rfl ⟨catOk rfl, catOk rfl⟩ rfl (m_expr (tk := tk) hn hl160 hN h3 hpo hP x dr S hx hb hX (fun y l S' e1 hy X' hb' => ⟨rfl, key y l S' e1 hy X' hb'⟩) (fun e he t vs dr' st S' X' q1 q2 q3 => ⟨rfl, keyE e he t vs dr' st S' X' q1 q2 q3⟩))
theorem m_call (hn : 67 ≤ n) (hl160 : ts.length ≤ 160) (hN : tsN ts) (h3 : ps.length ≤ 3) (hpo : ∀ y ∈ ps, nmOk y) (hP : nmF 27 ps (A0 64)) (hp : ∀ t, plA ts L t < 2 ^ 20) (hx : xOk ts x) (hk : kA ts x.1 = 30) (hb : dr.length ≤ 3 * x.1 + 8) (hR : rLn A0) (hcl : cl < 60) (hX : (mX S0 w0 L tk ps.length lv df cl rest A0 ts (-1) x.1 x.2.1 dr [] S)) (k : ∀ y S', argsA ts L ps (x.1 + 1, x.2) = .ok y → (mX S0 w0 L tk ps.length lv df (cl + 1) rest (cAup A0 cl (nmA ts x.1) y.2 (dr.length + (nwW x y.1).length + 1) x.1) ts (-1) y.1.1 y.1.2.1 (dr ++ (nwW x y.1 ++ [16, 0, y.2])) [] S') → Q (.inl none) (gH scr kd n S')) (ke : ∀ e, argsA ts L ps (x.1 + 1, x.2) = .error e → ∀ S', mEz S0 w0 L tk rest e S' → Q (.inl none) (gH scr kd n S')) : aE aM198 (d + 5) 0 [(0, .ref 56)] [] (gH scr kd n S) Q := by
  have hlt := kA_lt hk (by decide)
  have hx2 := hx.2.1
  have E102 : ∀ e, argsA ts L ps (x.1 + 1, x.2) = .error e → e < 2 ^ 20 → ∀ t vs dr' st S' m v, (mX S0 w0 L tk ps.length lv df cl rest A0 ts (Int32.ofNat e) t vs dr' st S') → vs.length ≤ 8 → dr'.length ≤ 650 → m < 2 ^ 20 → aE aM198 (d + 5) 102 [(3, .int v), (2, .int (Int32.ofNat m)), (1, .int (Int32.ofNat x.1)), (0, .ref 56)] [] (gH scr kd n S') Q := by
    intro e he hep t vs dr' st S' m v X' q1 q2 q3
    have hw := neg1_ne hep
    refine eS rfl rfl ?_
    refine gGet hn rfl rfl rfl (mX_f X').1 ?_
    refine eS rfl rfl ?_
    refine eINe rfl rfl (fun _ => ?_) (fun z => absurd z hw)
    exact m_callTail (at' := x.1) (d := d + 4) hn hk (by omega) hR hcl q3 X' (fun S2 X2 => ke e he S2 (mEz_of X2 (cAup_ln hR) (by rw [List.length_append]; simp only [List.length_cons, List.length_nil]; omega) (by omega)))
  have ok1 := xTick hx hk (by decide)
  refine eS rfl rfl ?_
  refine gGet hn rfl rfl rfl (mX_f hX).2.2.1 ?_
  refine eS rfl rfl ?_
  refine M_tick hn rfl rfl rfl rfl rfl rfl rfl hX (fun S2 X2 => ?_)
  obtain ⟨x1, x2⟩ := m_expM (d := d + 3) (scr := scr) (kd := kd) (k := 40) (ps := ps) hn (by omega) (by decide) (by decide) X2
  by_cases c : kA ts (x.1 + 1) = 40
  · have hlt2 := kA_lt c (by decide)
    obtain ⟨S3, X3, a3⟩ := x1 c
    have is := m_isSX (d := d + 4) (scr := scr) (kd := kd) (k := 41) (ps := ps) hn (by omega) (by decide) (by decide) X3
    have ok2 : xOk ts (x.1 + 2, x.2) := xTick ok1 c (by decide)
    have O102 : ∀ z m S' dr', arg0 ts L ps (x.1 + 2, x.2) = .ok (z, m) → m ≤ 3 → xOk ts z → dr' = dr ++ nwW (x.1 + 2, x.2) z → dr'.length ≤ 3 * z.1 + 8 → (mX S0 w0 L tk ps.length lv df cl rest A0 ts (-1) z.1 z.2.1 dr' [] S') → aE aM198 (d + 5) 102 [(3, .int 0), (2, .int (Int32.ofNat m)), (1, .int (Int32.ofNat x.1)), (0, .ref 56)] [] (gH scr kd n S') Q := by
      intro z m S' dr' ez hm oz ed hbz X'
      obtain ⟨y1, y2⟩ := m_expM (d := d + 3) (scr := scr) (kd := kd) (k := 41) (ps := ps) hn oz.1 (by decide) (by decide) X'
      by_cases c2 : kA ts z.1 = 41
      · obtain ⟨S4, X4, a4⟩ := y1 c2
        have ey : argsA ts L ps (x.1 + 1, x.2) = .ok ((z.1 + 1, z.2), m) := by unfold argsA; rw [if_pos c]; dsimp only; rw [ez]; dsimp only; rw [if_pos c2]
        have z1 := oz.1
        have fin := m_callTail (at' := x.1) (c := m) (v3 := 0) (d := d + 4) (Q := Q) hn hk (by omega) hR hcl (by omega) X4 (fun S5 X5 => k ((z.1 + 1, z.2), m) S5 ey (by
          subst ed
          rw [List.append_assoc, List.length_append] at X5
          exact X5))
        refine eS rfl rfl ?_
        refine gGet hn rfl rfl rfl (mX_f X').1 ?_
        refine eS rfl rfl ?_
        refine eINe rfl rfl (fun z => absurd rfl z) (fun _ => ?_)
        refine eS rfl rfl ?_
        refine eS rfl rfl ?_
        refine gV1 hn rfl rfl rfl rfl rfl ⟨catOk rfl, catOk rfl⟩ (a4) ?_
        exact fin
      · obtain ⟨S4, X4, a4⟩ := y2 c2
        have ey : argsA ts L ps (x.1 + 1, x.2) = .error (plA ts L z.1) := by unfold argsA; rw [if_pos c]; dsimp only; rw [ez]; dsimp only; rw [if_neg c2]
        have z1 := oz.1
        have fin := m_callTail (at' := x.1) (c := m) (v3 := 0) (d := d + 4) (Q := Q) hn hk (by omega) hR hcl (by omega) X4 (fun S5 X5 => ke _ ey S5 (mEz_of X5 (cAup_ln hR) (by rw [List.length_append]; simp only [List.length_cons, List.length_nil]; omega) (by omega)))
        refine eS rfl rfl ?_
        refine gGet hn rfl rfl rfl (mX_f X').1 ?_
        refine eS rfl rfl ?_
        refine eINe rfl rfl (fun z => absurd rfl z) (fun _ => ?_)
        refine eS rfl rfl ?_
        refine eS rfl rfl ?_
        refine gV1 hn rfl rfl rfl rfl rfl ⟨catOk rfl, catOk rfl⟩ (a4) ?_
        exact fin
    by_cases c3 : kA ts (x.1 + 2) = 41
    · rw [if_pos c3] at is
      have F := O102 (x.1 + 2, x.2) 0 S3 dr (by unfold arg0; rw [if_pos c3]) (by decide) ok2 (by rw [show nwW (x.1 + 2, x.2) (x.1 + 2, x.2) = [] by unfold nwW; rw [List.drop_length]; rfl, List.append_nil]) (by show dr.length ≤ 3 * (x.1 + 2) + 8; omega) X3
      refine eS rfl rfl ?_
      refine eS rfl rfl ?_
      refine gV1 hn rfl rfl rfl rfl rfl ⟨catOk rfl, catOk rfl⟩ (a3) ?_
      refine eS rfl rfl ?_
      refine eS rfl rfl ?_
      refine eS rfl rfl ?_
      refine gGet hn rfl rfl rfl (mX_f X3).1 ?_
      refine eS rfl rfl ?_
      refine eINe rfl rfl (fun z => absurd rfl z) (fun _ => ?_)
      refine eS rfl rfl ?_
      refine eS rfl rfl ?_
      refine gV1 hn rfl rfl rfl rfl rfl ⟨catOk rfl, catOk rfl⟩ (is) ?_
      refine eNe rfl rfl (fun _ => ?_) (fun z => absurd z (by decide))
      refine eS rfl rfl ?_
      refine eS rfl rfl ?_
      refine eLoc (l' := [(3, .int 0), (2, .int (Int32.ofNat 0)), (1, .int (Int32.ofNat x.1)), (0, .ref 56)]) rfl ⟨rfl, rfl, rfl, rfl, trivial⟩ ?_
      refine eS rfl rfl ?_
      refine eEq rfl rfl (fun _ => ?_) (fun z => absurd rfl z)
      exact F
    · rw [if_neg c3] at is
      have ea : arg0 ts L ps (x.1 + 2, x.2) = argA ts L ps (2 + 1) (x.1 + 2, x.2) 0 := by unfold arg0; rw [if_neg c3]
      have AL := m_argLoop (at' := x.1) (d := d) (Q := Q) (scr := scr) (kd := kd) hn hl160 hN h3 hpo hP hp 2 0 (x.1 + 2, x.2) dr S3 rfl ok2 (by show dr.length ≤ 3 * (x.1 + 2) + 8; omega) X3 (fun z m S' e X' hb' => by
        have := argA_rd hN 3 _ 0 (z, m) ok2 e
        exact O102 z m S' _ (by rw [ea]; exact e) (by have := this.2.2.2.2.2; omega) this.1 rfl hb' X') (fun e he t vs dr' st S' m v X' q1 q2 q3 => E102 e (by unfold argsA; rw [if_pos c]; dsimp only; rw [ea, he]) (argA_er hp _ _ _ _ he) t vs dr' st S' m v X' q1 (by omega) q3)
      refine eS rfl rfl ?_
      refine eS rfl rfl ?_
      refine gV1 hn rfl rfl rfl rfl rfl ⟨catOk rfl, catOk rfl⟩ (a3) ?_
      refine eS rfl rfl ?_
      refine eS rfl rfl ?_
      refine eS rfl rfl ?_
      refine gGet hn rfl rfl rfl (mX_f X3).1 ?_
      refine eS rfl rfl ?_
      refine eINe rfl rfl (fun z => absurd rfl z) (fun _ => ?_)
      refine eS rfl rfl ?_
      refine eS rfl rfl ?_
      refine gV1 hn rfl rfl rfl rfl rfl ⟨catOk rfl, catOk rfl⟩ (is) ?_
      refine eNe rfl rfl (fun z => absurd rfl z) (fun _ => ?_)
      refine eS rfl rfl ?_
      refine eS rfl rfl ?_
      refine eS rfl rfl ?_
      refine eLoc (l' := [(3, .int 1), (2, .int (Int32.ofNat 0)), (1, .int (Int32.ofNat x.1)), (0, .ref 56)]) rfl ⟨rfl, rfl, rfl, rfl, trivial⟩ ?_
      exact AL
  · obtain ⟨S3, X3, a3⟩ := x2 c
    have ey : argsA ts L ps (x.1 + 1, x.2) = .error (plA ts L (x.1 + 1)) := by unfold argsA; rw [if_neg c]
    have hw := neg1_ne (hp (x.1 + 1))
    have F := E102 _ ey (hp _) _ _ _ _ S3 0 0 X3 hx.2.2.1 (by omega) (by decide)
    refine eS rfl rfl ?_
    refine eS rfl rfl ?_
    refine gV1 hn rfl rfl rfl rfl rfl ⟨catOk rfl, catOk rfl⟩ (a3) ?_
    refine eS rfl rfl ?_
    refine eS rfl rfl ?_
    refine eS rfl rfl ?_
    refine gGet hn rfl rfl rfl (mX_f X3).1 ?_
    refine eS rfl rfl ?_
    refine eINe rfl rfl (fun _ => ?_) (fun z => absurd z hw)
    refine eS rfl rfl ?_
    refine eS rfl rfl ?_
    refine eLoc (l' := [(3, .int 0), (2, .int (Int32.ofNat 0)), (1, .int (Int32.ofNat x.1)), (0, .ref 56)]) rfl ⟨rfl, rfl, rfl, rfl, trivial⟩ ?_
    refine eS rfl rfl ?_
    refine eEq rfl rfl (fun _ => ?_) (fun z => absurd rfl z)
    exact F
end MCC
