/-! interpret, under the invariant -/
section STEPITP
variable {scr : List Value} {kd : Nat → Nat} {n c d : Nat} {S S3 : Nat → List Value} {s r : aSt} {w0 : Nat → Value} {nn t : Int32} {W : Nat → Nat} {pa N tc : Nat} {P : Nat → Nat → Bool → Prop} {h : aH} {Q : aOut → aH → Prop} {i : Nat} {w a : Int32} {T : Nat → Nat × Nat × Nat} {first : Value}
theorem s_litp_ok {y : Int32} {v0 : Value} (hn : 67 ≤ n) (h1 : ¬ a < 1) (h2 : ¬ 2000 < a) (hM : aMem scr S (gH scr kd n S)) (hL : aLks S) (hp : prgS S pa N W) (hp3 : (S 20)[6]? = some (.ref pa)) (hN : N ≠ 0) (h85 : S3 85 = [v0]) (e : aE aM151 (d + 1) 0 [(0, .ref 45), (1, .ref pa), (2, .ref 35), (3, .int a)] [] (gH scr kd n S) (aIs (some (.int y)) (gH scr kd n S3))) :
    aE aM149 (d + 3) 0 [(0, .ref 20), (1, .int a), (2, .ref 85)] [] (gH scr kd n S) (aIs (some (.int 0)) (gH scr kd n (aUp S3 85 [.long y.toInt64]))) := by
  have n0 : Int32.ofNat N ≠ 0 := i32_ne0 (by have := hp.2.1; omega) hN
  have hg := fun (p : Nat) (h1 : 20 ≤ p) (h2 : p < 87) => hM.at p h1 h2
  have hpa : (gH scr kd n S)[pa]? = some (26, S pa) := by
    rcases hp.1 with rfl | rfl
    · exact hg 46 (by decide) (by decide)
    · exact hg 51 (by decide) (by decide)
  have s2 : aE aM115 (d + 1) 0 [(0, .ref 20)] [] (gH scr kd n S) (aIs none (gH scr kd n S)) := s_needProgram_ok (hg 20 (by decide) (by decide)) hp3 hpa hp.2.2.1 n0
  have run : aE aM150 (d + 2) 0 [(0, .ref 20), (1, .int a)] [] (gH scr kd n S) (aIs (some (.int y)) (gH scr kd n S3)) := by
    refine eS rfl rfl ?_
    refine eC1 rfl rfl rfl ⟨catOk rfl, catOk rfl⟩ (s_needFuel_ok h1 h2) ?_
    refine eS rfl rfl ?_
    refine gV1 hn rfl rfl rfl rfl rfl ⟨catOk rfl, catOk rfl⟩ (s2) ?_
    refine eS rfl rfl ?_
    refine gGet hn rfl rfl rfl (hL (20, 5, .ref 45) (by decide)) ?_
    refine eS rfl rfl ?_
    refine gGet hn rfl rfl rfl hp3 ?_
    refine eS rfl rfl ?_
    refine gGet hn rfl rfl rfl (hL (20, 4, .ref 35) (by decide)) ?_
    refine eS rfl rfl ?_
    refine gV1 hn rfl rfl rfl rfl rfl ⟨catOk rfl, catOk rfl⟩ (e) ?_
    exact eR rfl rfl ⟨rfl, rfl⟩
  refine eS rfl rfl ?_
  refine eS rfl rfl ?_
  refine eS rfl rfl ?_
  refine eS rfl rfl ?_
  refine gV1 hn rfl rfl rfl rfl rfl ⟨catOk rfl, catOk rfl⟩ (run) ?_
  refine eS rfl rfl ?_
  refine gWr2 hn rfl rfl rfl 0 (by omega) (by rw [h85]; exact Nat.zero_lt_one) (show aUp S3 85 ((S3 85).set 0 (.long y.toInt64)) = aUp S3 85 [.long y.toInt64] by rw [h85]; rfl) ?_
  refine eS rfl rfl ?_
  refine eS rfl rfl ?_
  exact eR rfl rfl ⟨rfl, rfl⟩
/-- the model's begin -/
theorem m_begin2 {S0 : Nat → List Value} (hn : 67 ≤ n) (hS : okS s) (hR : mRep S0 w0 nn s S) : ∃ S', mRep S0 w0 nn (s0A s.2.2.2.2.1) S' ∧ aE aM163 d 0 [(0, .ref 56)] [] (gH scr kd n S) (aIs none (gH scr kd n S')) := by
  obtain ⟨hi, un, pcv, a77, a79, a80, a83, e, r1, r2, r3, r4, -⟩ := hR
  obtain ⟨s1, s2, s3, s4, s5, s6, s7, s8, s9, s10, s11⟩ := hS
  subst e
  have eb := s_begin d (h := gH scr kd n (mS S0 (mM w0 nn pcv s.1 hi un s.2.2.2.2.2.2.1 s.2.2.2.2.2.2.2.1 (Int32.ofNat s.2.2.2.2.2.2.2.2.1) s.2.2.2.2.2.2.2.2.2.1 s.2.2.2.2.2.2.2.2.2.2.1) a77 (s.2.2.2.2.1.map Value.float) a79 a80 (s.2.2.2.2.2.1.map Value.float) (s.2.2.2.2.2.2.2.2.2.2.2.map Value.int) a83)) (by rw [gH_len]; omega) (gH_at (p := 56) (by decide) (by omega)) rfl rfl rfl (gH_at (p := 81) (by decide) (by omega)) ((List.length_map ..).trans s3) (gH_at (p := 82) (by decide) (by omega)) ((List.length_map ..).trans s10)
  rw [show ((36 : Nat), mBeg (mS S0 (mM w0 nn pcv s.1 hi un s.2.2.2.2.2.2.1 s.2.2.2.2.2.2.2.1 (Int32.ofNat s.2.2.2.2.2.2.2.2.1) s.2.2.2.2.2.2.2.2.2.1 s.2.2.2.2.2.2.2.2.2.2.1) a77 (s.2.2.2.2.1.map Value.float) a79 a80 (s.2.2.2.2.2.1.map Value.float) (s.2.2.2.2.2.2.2.2.2.2.2.map Value.int) a83 56)) = (gK kd 56, mM w0 nn 0 0 0 0 1098907648 1094713344 0 1 1) from rfl, gH_set (by decide) (by omega), mS_56,
    show ((3 : Nat), List.replicate 8 (Value.float 0)) = (gK kd 81, (List.replicate 8 (0 : UInt32)).map Value.float) by rw [fl_rep]; rfl, gH_set (by decide) (by omega), mS_81,
    show ((0 : Nat), List.replicate 768 (Value.int 0)) = (gK kd 82, (List.replicate 768 (0 : Int32)).map Value.int) by rw [il_rep]; rfl, gH_set (by decide) (by omega), mS_82] at eb
  exact ⟨_, ⟨0, 0, 0, a77, a79, a80, a83, rfl, r1, r2, r3, r4, fun _ => ⟨rfl, rfl, rfl, ⟨a77, rfl⟩, ⟨a79, rfl⟩, ⟨a80, rfl⟩⟩⟩, eb⟩
/-- the model's interpret, within the law -/
theorem s_mitp_ok {F m : Nat} {x' : aSx} (hn : 67 ≤ n) (h1 : 1 ≤ F) (h2 : F ≤ 2000) (hP : prgM S N W) (hsn : S 84 = sinL) (hC : cOk W N P) (hN : N ≠ 0) (hS : okS s) (hR : mRep S w0 (Int32.ofNat N) s S) (hm : m ≤ 1000000) (hi : itN W m (F, s0A s.2.2.2.2.1) = x') (hx : x'.2.1 ≠ 0) : ∃ S', mRep S (wT w0 0) (Int32.ofNat N) x'.2 S' ∧ aE aM227 (d + 7) 0 [(0, .ref 56), (1, .int (Int32.ofNat F))] [] (gH scr kd n S) (aIs (some (.int x'.2.1)) (gH scr kd n S')) := by
  have hN0 := hP.1
  have n0 : Int32.ofNat N ≠ 0 := i32_ne0 (by omega) hN
  obtain ⟨hi', un, pcv, a77, a79, a80, a83, e, rest⟩ := hR
  have R1 : mRep S (wT w0 0) (Int32.ofNat N) s (mS S (mM (wT w0 0) (Int32.ofNat N) pcv s.1 hi' un s.2.2.2.2.2.2.1 s.2.2.2.2.2.2.2.1 (Int32.ofNat s.2.2.2.2.2.2.2.2.1) s.2.2.2.2.2.2.2.2.2.1 s.2.2.2.2.2.2.2.2.2.2.1) a77 (s.2.2.2.2.1.map Value.float) a79 a80 (s.2.2.2.2.2.1.map Value.float) (s.2.2.2.2.2.2.2.2.2.2.2.map Value.int) a83) := ⟨hi', un, pcv, a77, a79, a80, a83, rfl, rest⟩
  obtain ⟨Sb, Rb, eb⟩ := m_begin2 (d := d + 6) (scr := scr) (kd := kd) hn hS R1
  obtain ⟨S2, R2, e2⟩ := m_itp_loop (d := d) (scr := scr) (kd := kd) hn hP hsn hC m 0 (F, s0A s.2.2.2.2.1) x' Sb (by omega) hi hx h2 (okX_0 hC hS.1 hS.2.1) Rb
  refine ⟨S2, R2, ?_⟩
  have b1 : ¬ Int32.ofNat F < 1 := fun z => absurd ((i32_lt (a := F) (b := 1) (by omega) (by decide)).mp z) (by omega)
  have b2 : ¬ (2000 : Int32) < Int32.ofNat F := fun z => absurd ((i32_lt (a := 2000) (b := F) (by decide) (by omega)).mp z) (by omega)
  have eg : gH scr kd n S = gH scr kd n (mS S (mM w0 (Int32.ofNat N) pcv s.1 hi' un s.2.2.2.2.2.2.1 s.2.2.2.2.2.2.2.1 (Int32.ofNat s.2.2.2.2.2.2.2.2.1) s.2.2.2.2.2.2.2.2.2.1 s.2.2.2.2.2.2.2.2.2.2.1) a77 (s.2.2.2.2.1.map Value.float) a79 a80 (s.2.2.2.2.2.1.map Value.float) (s.2.2.2.2.2.2.2.2.2.2.2.map Value.int) a83) := congrArg _ e
  have ef := s_wrongFuel_ok (d := d + 5) (a := Int32.ofNat F) b1 b2 (gH_at (scr := scr) (kd := kd) (n := n) (S := mS S (mM w0 (Int32.ofNat N) pcv s.1 hi' un s.2.2.2.2.2.2.1 s.2.2.2.2.2.2.2.1 (Int32.ofNat s.2.2.2.2.2.2.2.2.1) s.2.2.2.2.2.2.2.2.2.1 s.2.2.2.2.2.2.2.2.2.2.1) a77 (s.2.2.2.2.1.map Value.float) a79 a80 (s.2.2.2.2.2.1.map Value.float) (s.2.2.2.2.2.2.2.2.2.2.2.map Value.int) a83) (p := 56) (by decide) (by omega)) (n := Int32.ofNat N) rfl n0
  rw [eg]
  refine eS rfl rfl ?_
  refine eS rfl rfl ?_
  refine eS rfl rfl ?_
  refine gV1 hn rfl rfl rfl rfl rfl ⟨catOk rfl, catOk rfl⟩ (ef) ?_
  refine gPut hn rfl rfl rfl rfl rfl rfl rfl mS_56 ?_
  refine eS rfl rfl ?_
  refine gGet hn rfl rfl rfl rfl ?_
  refine eEq rfl rfl (fun _ => ?_) (fun z => absurd rfl z)
  refine eS rfl rfl ?_
  refine gV1 hn rfl rfl rfl rfl rfl ⟨catOk rfl, catOk rfl⟩ (eb) ?_
  refine eS rfl rfl ?_
  refine eS rfl rfl ?_
  refine eS rfl rfl ?_
  refine eS rfl rfl ?_
  exact eLoc (l' := [(3, .int (Int32.ofNat 0)), (2, .int (Int32.ofNat F)), (0, .ref 56)]) rfl ⟨rfl, rfl, rfl, trivial⟩ e2
theorem step_interpret_ok (hL0 : scr.length ≤ 1536) (hi : i + 3 ≤ scr.length) (hw : w &&& 15 = Int32.ofNat 8) (ha : scr[i + 1]? = some (.int a)) (h1 : ¬ a < 1) (h2 : ¬ 2000 < a) (hI : aInv iExt scr c h) (kk : aNext iExt scr Q i c) : aE aMlaw 800 44 (aL0 (Int32.ofNat i)) [.int (w &&& 15)] h Q := by
  obtain ⟨kd, n, S, hn, rfl, hM, hL, hA, hl, hE⟩ := inv_norm hI
  have hE' := hE
  obtain ⟨e84, e29, e45, pa, N, W, p1, p2, p3, ⟨s, w0, P, m1, m2, m3, m4, m5⟩, p5⟩ := hE'
  have hg := fun (p : Nat) (h1 : 20 ≤ p) (h2 : p < 87) => hM.at p h1 h2
  have hpa : (gH scr kd n S)[pa]? = some (26, S pa) := by
    rcases p1.1 with rfl | rfl
    · exact hg 46 (by decide) (by decide)
    · exact hg 51 (by decide) (by decide)
  by_cases hN : N = 0
  · subst hN
    have hM2 := hM.push (o := (32, [])) rfl
    have p7 : (S 56)[30]? = some (.int 0) := by
      obtain ⟨hi, un, pcv, a77, a79, a80, a83, e, -⟩ := m2
      rw [congrFun e 56]; rfl
    exact law_interpret hM.2.1 hM2.2.1 hi hL0 hw ha (hM2.at 56 (by decide) (by decide)) (mT_56 hM2) (s_linterpret_no (hg 20 (by decide) (by decide)) h1 h2 (s_needProgram_no (Nat.le_trans (by decide) hM.1) (hg 20 (by decide) (by decide)) p3 hpa p1.2.2.1)) (s_minterpret_ref (by decide) (len57 hM2) (hM2.at 56 (by decide) (by decide)) (ln56 hM2) (s_wrongFuel_no h1 h2 (hM2.at 56 (by decide) (by decide)) p7)) (thr_at hM2) (fun z => absurd z (by decide)) (kk _ (inv_ref iExt_st hE rfl hM hL hA hl))
  · have hC := m5.resolve_left hN
    obtain ⟨T, tc, first, q1, q2, q3⟩ := p5.resolve_left hN
    obtain ⟨F, hF, rfl⟩ := i32_bnd (n := 2000) (a := a) (fun z => h1 (Int32.lt_trans z (by decide))) h2 (by decide)
    have hF1 : 1 ≤ F := by
      refine Decidable.by_contra (fun z => h1 ?_)
      obtain rfl : F = 0 := by omega
      decide
    obtain ⟨u0, u1, u2, u3, e45'⟩ := e45
    have raw : mRaw S s.2.2.2.2.1 := by
      obtain ⟨ht, cl, pc, a36, a39, a40, a44, rc, e, l36, l39, l40, l44, -⟩ := m1
      have q := fun p => congrFun e p
      obtain ⟨s1, s2, s3, s4, s5, s6, s7, s8, s9, s10, s11⟩ := m3
      exact ⟨⟨ht, cl, pc, s.1, q 35⟩, by rw [q 36]; exact l36, by rw [q 37]; exact (List.length_map ..).trans s3, q 38, by rw [q 39]; exact l39, by rw [q 40]; exact l40, ⟨_, _, _, _, _, q 41⟩, ⟨rc, q 42⟩, by rw [q 43]; exact (List.length_map ..).trans s10, by rw [q 44]; exact l44⟩
    obtain ⟨m, x', S1, g1, g2, g3, ok', ⟨st, R1⟩, e1⟩ := w_walk (scr := scr) (kd := kd) (fu := F) hn p1.2.1 p1.2.2.2.2.2 p1.1 q1 hC q2 q3 raw m3.1 m3.2.1 e45' hF
    obtain ⟨v85, e85⟩ := row1 (p := 85) hM (by decide) (by decide) (by decide +kernel)
    have n1 : ∀ q, q < 35 ∨ 45 < q → S1 q = S q := fun q hq => by
      obtain ⟨ht, pc, a36, a39, a40, a44, rc, e, -⟩ := R1
      rw [e, cS_ne (by omega), aUp_ne (by omega)]
    have b85 : S1 85 = [v85] := (n1 85 (by omega)).trans e85
    have lr := s_litp_ok (d := 796) hn h1 h2 hM hL p1 p3 hN b85 (e1.deep (by omega))
    have n2 : ∀ q, (q < 35 ∨ 45 < q) → q ≠ 85 → aUp S1 85 [.long x'.2.1.toInt64] q = S q := fun q hq h85 => (aUp_ne h85).trans (n1 q hq)
    generalize hS2 : aUp S1 85 [.long x'.2.1.toInt64] = S2 at lr n2
    have c2 : S2 85 = [.long x'.2.1.toInt64] := by rw [← hS2]; exact aUp_same
    have k2 : ∀ q, 35 ≤ q → q < 46 → S2 q = S1 q := fun q h1 h2 => by rw [← hS2]; exact aUp_ne (by omega)
    have m2' : mRep S2 w0 (Int32.ofNat N) s S2 := by
      obtain ⟨hi, un, pcv, a77, a79, a80, a83, e, rest⟩ := m2
      exact mRep_of ((n2 56 (by omega) (by omega)).trans (congrFun e 56)) ((n2 77 (by omega) (by omega)).trans (congrFun e 77)) ((n2 78 (by omega) (by omega)).trans (congrFun e 78)) ((n2 79 (by omega) (by omega)).trans (congrFun e 79)) ((n2 80 (by omega) (by omega)).trans (congrFun e 80)) ((n2 81 (by omega) (by omega)).trans (congrFun e 81)) ((n2 82 (by omega) (by omega)).trans (congrFun e 82)) ((n2 83 (by omega) (by omega)).trans (congrFun e 83)) rest
    obtain ⟨S3, R3, e3⟩ := s_mitp_ok (d := 790) (scr := scr) (kd := kd) hn hF1 hF (prgM_tr (n2 76 (by omega) (by omega)) p2) ((n2 84 (by omega) (by omega)).trans e84) hC hN m3 m2' (by omega) g1 g2
    have n3 : ∀ q, q < 56 ∨ (56 < q ∧ q < 77) ∨ 83 < q → S3 q = S2 q := fun q hq => by
      obtain ⟨hi, un, pcv, a77, a79, a80, a83, e, -⟩ := R3
      rw [e]; exact mS_ne hq
    have R3' : mRep S3 (wT w0 0) (Int32.ofNat N) x'.2 S3 := by
      obtain ⟨hi, un, pcv, a77, a79, a80, a83, e, rest⟩ := R3
      exact mRep_of (congrFun e 56) (congrFun e 77) (congrFun e 78) (congrFun e 79) (congrFun e 80) (congrFun e 81) (congrFun e 82) (congrFun e 83) rest
    have C3 : cRep S3 x'.2 S3 := by
      obtain ⟨ht, pc, a36, a39, a40, a44, rc, e, l1, l2, l3, l4, -⟩ := R1
      have q : ∀ p, 35 ≤ p → p < 45 → S3 p = _ := fun p h1 h2 => (n3 p (by omega)).trans ((k2 p h1 (by omega)).trans (congrFun e p))
      exact cRep_of (q 35 (by decide) (by decide)) (q 36 (by decide) (by decide)) (q 37 (by decide) (by decide)) (q 38 (by decide) (by decide)) (q 39 (by decide) (by decide)) (q 40 (by decide) (by decide)) (q 41 (by decide) (by decide)) (q 42 (by decide) (by decide)) (q 43 (by decide) (by decide)) (q 44 (by decide) (by decide)) ⟨l1, l2, l3, l4, fun z => absurd z g2⟩
    have e56 : (gH scr kd n S3)[56]? = some (36, S3 56) := gH_at (by decide) (by omega)
    have t0 : (S3 56)[0]? = some (.int 0) := by
      obtain ⟨hi, un, pcv, a77, a79, a80, a83, e, -⟩ := R3
      rw [congrFun e 56]; rfl
    have x45 : ∃ v0 v1 v2 v3, S3 45 = [v0, v1, v2, v3] := by
      obtain ⟨ht, pc, a36, a39, a40, a44, rc, e, -⟩ := R1
      rw [n3 45 (by omega), k2 45 (by omega) (by omega), congrFun e 45]
      exact ⟨_, _, _, _, rfl⟩
    refine law_interpret hM.2.1 gH_0 hi hL0 hw ha (gH_at (p := 56) (by decide) (by omega)) e56 lr (e3.deep (by omega)) (s_thrown e56 t0) (fun _ => ?_) (kk _ (inv_of hn hM hL hA (by omega) hE p1 p2 p3 p5 m1 m2 (fun q hq hm => ?_) x45 ?_ C3 R3' ok'.1 ok'.2 m5))
    · rw [gH_at (by decide) (by omega), n3 85 (by omega), c2]; rfl
    · obtain ⟨z1, z2, z3, z4⟩ := hm
      exact (n3 q (by omega)).trans (n2 q (by omega) z4)
    · rw [n3 85 (by omega), c2]; rfl
/-- what is still open: compile -/
def aOpen1 : Prop := ∀ (scr : List Value) (Q : aOut → aH → Prop) (i c : Nat) (h : aH) (w : Int32), scr.length ≤ 1536 → i + 3 ≤ scr.length → aInv iExt scr c h → aNext iExt scr Q i c → w &&& 15 = Int32.ofNat 2 → aE aMlaw 800 44 (aL0 (Int32.ofNat i)) [.int (w &&& 15)] h Q
theorem aOpen3_of (H : aOpen1) : aOpen3 iExt := fun scr Q i c h w a h1 h2 h3 h4 h5 h6 => by
  rcases h6 with e | e | e
  · exact H scr Q i c h w h1 h2 h4 h5 e
  · by_cases hb : a < 1 ∨ 2000 < a
    · exact step_run_bad h1 h2 e h3 hb iExt_st h4 h5
    · exact step_run_ok h1 h2 e h3 (fun z => hb (Or.inl z)) (fun z => hb (Or.inr z)) h4 h5
  · by_cases hb : a < 1 ∨ 2000 < a
    · exact step_interpret_bad h1 h2 e h3 hb iExt_st h4 h5
    · exact step_interpret_ok h1 h2 e h3 (fun z => hb (Or.inl z)) (fun z => hb (Or.inr z)) h4 h5
/-- all, but for compile -/
theorem aGoal_c (H : aOpen1) : aGoal := aGoal_of (aOpen_of (aOpen3_of H) iExt_st iExt_bg) iExt_st iExt_0
end STEPITP
