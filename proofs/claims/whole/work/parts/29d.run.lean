/-! run, under the invariant -/
section STEPRUN
variable {scr : List Value} {kd : Nat → Nat} {n c d : Nat} {S S3 : Nat → List Value} {s r : aSt} {w0 : Nat → Value} {nn t : Int32} {W : Nat → Nat} {pa N : Nat} {P : Nat → Nat → Bool → Prop} {h : aH} {Q : aOut → aH → Prop} {i : Nat} {w a : Int32}
theorem iAll_low {e e' : aEnt} (hA : iAll e) (r : ∀ q j : Nat, q < 87 → e' q j = e q j) : iAll e' := by
  obtain ⟨⟨tl, t1, t2, t3, t4⟩, ⟨x, x1, x2⟩, ⟨pa, pb, n, p0, p1, p2, p3, p4, p5, p6⟩, hp, ⟨tx, ty, td, u0, u00, u1, u2, u3, u4, u5, u6⟩, hv, ⟨a, a1, a2, a3⟩⟩ := hA
  refine ⟨⟨tl, t1, (r _ _ (by decide)).trans t2, (r _ _ (by decide)).trans t3, fun j => ?_⟩, ⟨x, (r _ _ (by decide)).trans x1, (r _ _ (by decide)).trans x2⟩, ⟨pa, pb, n, p0, (r _ _ (by decide)).trans p1, (r _ _ (by decide)).trans p2, p3, (r _ _ (by omega)).trans p4, (r _ _ (by decide)).trans p5, fun j hj => ?_⟩, fun j hj => ?_,
    ⟨tx, ty, td, u0, u00, (r _ _ (by decide)).trans u1, (r _ _ (by decide)).trans u2, (r _ _ (by decide)).trans u3, (r _ _ (by decide)).trans u4, (r _ _ (by decide)).trans u5, (r _ _ (by decide)).trans u6⟩, fun j hj => ?_, ⟨a, (r _ _ (by decide)).trans a1, (r _ _ (by decide)).trans a2, fun h0 => ?_⟩⟩
  · rw [r 57 _ (by decide), r 21 _ (by decide)]; exact t4 j
  · rw [r (pa + 4) _ (by omega), r 76 _ (by decide)]; exact p6 j hj
  · rw [r 43 _ (by decide), r 82 _ (by decide)]; exact hp j hj
  · rw [r 37 _ (by decide), r 81 _ (by decide)]; exact hv j hj
  · obtain ⟨pc, ht, cl, co, dn, m1, m2, m3, m4, m5, m6, m7, m8, m9, m10, m11, m12, m13, m14, m15⟩ := a3 h0
    refine ⟨pc, ht, cl, co, dn, (r _ _ (by decide)).trans m1, (r _ _ (by decide)).trans m2, (r _ _ (by decide)).trans m3, (r _ _ (by decide)).trans m4, m5, (r _ _ (by decide)).trans m6, (r _ _ (by decide)).trans m7, m8, (r _ _ (by decide)).trans m9, (r _ _ (by decide)).trans m10, (r _ _ (by decide)).trans m11, (r _ _ (by decide)).trans m12, fun j hj => ?_, fun j hj => ?_, fun j hj => ?_⟩
    · rw [r 36 _ (by decide), r 77 _ (by decide)]; exact m13 j hj
    · rw [r 38 _ (by decide), r 78 _ (by decide)]; exact m14 j hj
    · rw [r 39 _ (by decide), r 79 _ (by decide), r 40 _ (by decide), r 80 _ (by decide)]; exact m15 j hj
/-- the heap between calls by its contents alone -/
theorem inv_norm (hI : aInv iExt scr c h) : ∃ kd n S, 67 ≤ n ∧ h = gH scr kd n S ∧ aMem scr S h ∧ aLks S ∧ iAll (aEn S) ∧ h.length ≤ 87 + 170 * c ∧ iExt S h := by
  obtain ⟨S, hM, hL, hA, hl, hE⟩ := hI
  obtain ⟨kd, S', n, hn, e, hs⟩ := gH_of hM
  obtain ⟨m1, m2, m3, m4, m5⟩ := hM
  refine ⟨kd, n, S', hn, e, ⟨m1, m2, m3, fun p p1 p2 => by rw [hs p p2]; exact m4 p p1 p2, m5⟩, fun q hq => ?_, iAll_low hA (fun q j hq => by unfold aEn; rw [hs q hq]), hl, iExt_st S h S' h hE ⟨fun q h1 h2 _ _ => hs q (by omega), fun j _ => by rw [hs 20 (by decide)], fun j _ => by rw [hs 56 (by decide)]⟩ (fun _ _ _ z => z)⟩
  have := aCon_at q hq
  rw [hs q.1 (by omega)]
  exact hL q hq
/-- the invariant after the machine of both sides has gone on -/
theorem inv_of (hn : 67 ≤ n) (hM : aMem scr S (gH scr kd n S)) (hL : aLks S) (hA : iAll (aEn S)) (hl : (gH scr kd n S).length ≤ 87 + 170 * (c + 1)) (hE : iExt S (gH scr kd n S)) (hp1 : prgS S pa N W) (hp2 : prgM S N W) (hp3 : (S 20)[6]? = some (.ref pa)) (hp5 : N = 0 ∨ ∃ (T : Nat → Nat × Nat × Nat) (tc : Nat) (first : Value), trmS S pa tc T ∧ (S pa)[0]? = some first ∧ tPrg W N T tc (fun q => (gH scr kd n S)[q]?) first)
    (hC : cRep S s S) (hM2 : mRep S w0 (Int32.ofNat N) s S) (hrest : ∀ q, 20 ≤ q → mRst q → S3 q = S q) (h45 : ∃ v0 v1 v2 v3, S3 45 = [v0, v1, v2, v3]) (h85 : (S3 85).length = 1) (hC3 : cRep S3 r S3) (hM3 : mRep S3 (wT w0 t) (Int32.ofNat N) r S3) (hS : okS r) (hLr : r.1 = 0 → okL P r) (hP : N = 0 ∨ cOk W N P) : aInv iExt scr (c + 1) (gH scr kd n S3) := by
  have hlen : (gH scr kd n S3).length = (gH scr kd n S).length := by rw [gH_len, gH_len]
  have tl : ∀ (q : Nat) (o : aO), 87 ≤ q → (gH scr kd n S)[q]? = some o → (gH scr kd n S3)[q]? = some o := fun q o hq e => by
    rw [gH_same (S := S) (by omega) (hrest q (by omega) ⟨by omega, by omega, by omega, by omega⟩)]
    exact e
  have hpa := hp1.1
  refine ⟨S3, gH_mem hn (fun p h1 h2 => ?_) (fun p h1 h2 => ?_), inv_lks hrest hC hM2 hC3 hM3 hL, inv_all hrest rfl hM2 hC3 hM3 hS (fun z => ⟨(hLr z).1, (hLr z).2.2.1⟩) hA, by rw [hlen]; exact hl, ?_⟩
  · have hS0 := hM.ln p h1 h2
    by_cases hm : mRst p
    · rw [hrest p h1 hm]; exact hS0
    · obtain ⟨ht', cl', pc', a36', a39', a40', a44', rc', ce', d1, d2, d3, d4, -⟩ := hC3
      obtain ⟨hi', un', pcv', a77', a79', a80', a83', me', g1, g2, g3, g4, -⟩ := hM3
      obtain ⟨v0, v1, v2, v3, e45⟩ := h45
      obtain ⟨s1, s2, s3, s4, s5, s6, s7, s8, s9, s10, s11⟩ := hS
      have al : aLn 35 = 10 ∧ aLn 36 = 24 ∧ aLn 37 = 8 ∧ aLn 38 = 9 ∧ aLn 39 = 3 ∧ aLn 40 = 3 ∧ aLn 41 = 6 ∧ aLn 42 = 3 ∧ aLn 43 = 768 ∧ aLn 44 = 768 ∧ aLn 45 = 4 ∧ aLn 56 = 49 ∧ aLn 77 = 24 ∧ aLn 78 = 9 ∧ aLn 79 = 3 ∧ aLn 80 = 3 ∧ aLn 81 = 8 ∧ aLn 82 = 768 ∧ aLn 83 = 768 ∧ aLn 85 = 1 := by decide +kernel
      obtain ⟨b35, b36, b37, b38, b39, b40, b41, b42, b43, b44, b45, b56, b77, b78, b79, b80, b81, b82, b83, b85⟩ := al
      have hp : p = 35 ∨ p = 36 ∨ p = 37 ∨ p = 38 ∨ p = 39 ∨ p = 40 ∨ p = 41 ∨ p = 42 ∨ p = 43 ∨ p = 44 ∨ p = 45 ∨ p = 56 ∨ p = 77 ∨ p = 78 ∨ p = 79 ∨ p = 80 ∨ p = 81 ∨ p = 82 ∨ p = 83 ∨ p = 85 := by
        unfold mRst at hm
        omega
      rcases hp with rfl | rfl | rfl | rfl | rfl | rfl | rfl | rfl | rfl | rfl | rfl | rfl | rfl | rfl | rfl | rfl | rfl | rfl | rfl | rfl
      · rw [b35, congrFun ce' 35]; rfl
      · rw [b36, congrFun ce' 36]; exact d1
      · rw [b37, congrFun ce' 37]; exact (List.length_map ..).trans s3
      · rw [b38, congrFun ce' 38]; exact (List.length_map ..).trans s1
      · rw [b39, congrFun ce' 39]; exact d2
      · rw [b40, congrFun ce' 40]; exact d3
      · rw [b41, congrFun ce' 41]; rfl
      · rw [b42, congrFun ce' 42]; rfl
      · rw [b43, congrFun ce' 43]; exact (List.length_map ..).trans s10
      · rw [b44, congrFun ce' 44]; exact d4
      · rw [b45, e45]; rfl
      · rw [b56, congrFun me' 56]; rfl
      · rw [b77, congrFun me' 77]; exact g1
      · rw [b78, congrFun me' 78]; exact (List.length_map ..).trans s1
      · rw [b79, congrFun me' 79]; exact g2
      · rw [b80, congrFun me' 80]; exact g3
      · rw [b81, congrFun me' 81]; exact (List.length_map ..).trans s3
      · rw [b82, congrFun me' 82]; exact (List.length_map ..).trans s10
      · rw [b83, congrFun me' 83]; exact g4
      · rw [b85]; exact h85
  · have := hM.2.2.2.2 p _ h1 (gH_at (by omega) h2)
    unfold gK at this
    rw [if_neg (by omega)] at this
    rw [hrest p (by omega) ⟨by omega, by omega, by omega, by omega⟩]
    exact this
  · obtain ⟨e1, e2, -, -⟩ := hE
    have rs : ∀ q : Nat, 20 ≤ q → mRst q → S3 q = S q := hrest
    refine ⟨(rs 84 (by decide) (by unfold mRst; omega)).trans e1, ⟨(rs 29 (by decide) (by unfold mRst; omega)).trans e2.1, tyR_tr (rs 26 (by decide) (by unfold mRst; omega)) (rs 58 (by decide) (by unfold mRst; omega)) e2.2⟩, h45, pa, N, W, prgS_tr (rs _ (by omega) (by unfold mRst; omega)) (rs _ (by omega) (by unfold mRst; omega)) hp1, prgM_tr (rs 76 (by decide) (by unfold mRst; omega)) hp2, by rw [rs 20 (by decide) (by unfold mRst; omega)]; exact hp3, ⟨r, wT w0 t, P, hC3, hM3, hS, hLr, hP⟩, ?_⟩
    rcases hp5 with z | ⟨T, tc, first, z1, z2, z3⟩
    · exact Or.inl z
    · exact Or.inr ⟨T, tc, first, trmS_tr (rs _ (by omega) (by unfold mRst; omega)) (rs _ (by omega) (by unfold mRst; omega)) (rs _ (by omega) (by unfold mRst; omega)) (rs _ (by omega) (by unfold mRst; omega)) z1, by rw [rs _ (by omega) (by unfold mRst; omega)]; exact z2, tPrg_mono tl z3⟩
/-- the class's run, within the law -/
theorem s_lrun_ok {y : Int32} {v0 : Value} (hn : 67 ≤ n) (h1 : ¬ a < 1) (h2 : ¬ 2000 < a) (hM : aMem scr S (gH scr kd n S)) (hL : aLks S) (hp : prgS S pa N W) (hp3 : (S 20)[6]? = some (.ref pa)) (hN : N ≠ 0) (h85 : S3 85 = [v0]) (e : aE aM119 (d + 1) 0 [(0, .ref 35), (1, .ref pa), (2, .int a)] [] (gH scr kd n S) (aIs (some (.int y)) (gH scr kd n S3))) :
    aE aM116 (d + 3) 0 [(0, .ref 20), (1, .int a), (2, .ref 85)] [] (gH scr kd n S) (aIs (some (.int 0)) (gH scr kd n (aUp S3 85 [.long y.toInt64]))) := by
  have n0 : Int32.ofNat N ≠ 0 := i32_ne0 (by have := hp.2.1; omega) hN
  have hg := fun (p : Nat) (h1 : 20 ≤ p) (h2 : p < 87) => hM.at p h1 h2
  have hpa : (gH scr kd n S)[pa]? = some (26, S pa) := by
    rcases hp.1 with rfl | rfl
    · exact hg 46 (by decide) (by decide)
    · exact hg 51 (by decide) (by decide)
  have s2 : aE aM115 (d + 1) 0 [(0, .ref 20)] [] (gH scr kd n S) (aIs none (gH scr kd n S)) := s_needProgram_ok (hg 20 (by decide) (by decide)) hp3 hpa hp.2.2.1 n0
  have run : aE aM117 (d + 2) 0 [(0, .ref 20), (1, .int a)] [] (gH scr kd n S) (aIs (some (.int y)) (gH scr kd n S3)) := by
    refine eS rfl rfl ?_
    refine eC1 rfl rfl rfl ⟨catOk rfl, catOk rfl⟩ (s_needFuel_ok h1 h2) ?_
    refine eS rfl rfl ?_
    refine gV1 hn rfl rfl rfl rfl rfl ⟨catOk rfl, catOk rfl⟩ (s2) ?_
    refine eS rfl rfl ?_
    refine gGet hn rfl rfl rfl (hL (20, 4, .ref 35) (by decide)) ?_
    refine eS rfl rfl ?_
    refine gGet hn rfl rfl rfl hp3 ?_
    refine eS rfl rfl ?_
    refine gV1 hn rfl rfl rfl rfl rfl ⟨catOk rfl, catOk rfl⟩ (e) ?_
    exact eR rfl rfl ⟨rfl, rfl⟩
  refine eS rfl rfl ?_
  refine eS rfl rfl ?_
  refine eS rfl rfl ?_
  refine eS rfl rfl ?_
  refine gV1 hn rfl rfl rfl rfl rfl ⟨catOk rfl, catOk rfl⟩ (run) ?_
  refine eS rfl rfl ?_
  refine gWr2 hn rfl rfl rfl 0 (by omega) (by rw [h85]; exact Nat.zero_lt_one) (show aUp S3 85 ((S3 85).set 0 (.long y.toInt64)) = aUp S3 85 [.long y.toInt64] by rw [h85]; rfl) ?_
  refine eS rfl rfl ?_
  refine eS rfl rfl ?_
  exact eR rfl rfl ⟨rfl, rfl⟩
/-- the model's run, within the law -/
theorem s_mrun_ok {F : Nat} (hn : 67 ≤ n) (h1 : 1 ≤ F) (h2 : F ≤ 2000) (hP : prgM S N W) (hsn : S 84 = sinL) (hC : cOk W N P) (hN : N ≠ 0) (hS : okS s) (hLs : s.1 = 0 → okL P s) (hR : mRep S w0 (Int32.ofNat N) s S) : ∃ S', mRep S (wT w0 0) (Int32.ofNat N) (runA W F s) S' ∧ aE aM205 (d + 7) 0 [(0, .ref 56), (1, .int (Int32.ofNat F))] [] (gH scr kd n S) (aIs (some (.int (ansA (runA W F s)))) (gH scr kd n S')) := by
  have hN0 := hP.1
  have n0 : Int32.ofNat N ≠ 0 := i32_ne0 (by omega) hN
  obtain ⟨hi, un, pcv, a77, a79, a80, a83, e, rest⟩ := hR
  have R1 : mRep S (wT w0 0) (Int32.ofNat N) s (mS S (mM (wT w0 0) (Int32.ofNat N) pcv s.1 hi un s.2.2.2.2.2.2.1 s.2.2.2.2.2.2.2.1 (Int32.ofNat s.2.2.2.2.2.2.2.2.1) s.2.2.2.2.2.2.2.2.2.1 s.2.2.2.2.2.2.2.2.2.2.1) a77 (s.2.2.2.2.1.map Value.float) a79 a80 (s.2.2.2.2.2.1.map Value.float) (s.2.2.2.2.2.2.2.2.2.2.2.map Value.int) a83) := ⟨hi, un, pcv, a77, a79, a80, a83, rfl, rest⟩
  obtain ⟨S2, R2, e2⟩ := m_run_loop (d := d) (scr := scr) (kd := kd) hn hP hsn hC h2 F 0 s _ (by omega) hS hLs R1
  refine ⟨S2, R2, ?_⟩
  have b1 : ¬ Int32.ofNat F < 1 := fun z => absurd ((i32_lt (a := F) (b := 1) (by omega) (by decide)).mp z) (by omega)
  have b2 : ¬ (2000 : Int32) < Int32.ofNat F := fun z => absurd ((i32_lt (a := 2000) (b := F) (by decide) (by omega)).mp z) (by omega)
  have eg : gH scr kd n S = gH scr kd n (mS S (mM w0 (Int32.ofNat N) pcv s.1 hi un s.2.2.2.2.2.2.1 s.2.2.2.2.2.2.2.1 (Int32.ofNat s.2.2.2.2.2.2.2.2.1) s.2.2.2.2.2.2.2.2.2.1 s.2.2.2.2.2.2.2.2.2.2.1) a77 (s.2.2.2.2.1.map Value.float) a79 a80 (s.2.2.2.2.2.1.map Value.float) (s.2.2.2.2.2.2.2.2.2.2.2.map Value.int) a83) := congrArg _ e
  have ef := s_wrongFuel_ok (d := d + 5) (a := Int32.ofNat F) b1 b2 (gH_at (scr := scr) (kd := kd) (n := n) (S := mS S (mM w0 (Int32.ofNat N) pcv s.1 hi un s.2.2.2.2.2.2.1 s.2.2.2.2.2.2.2.1 (Int32.ofNat s.2.2.2.2.2.2.2.2.1) s.2.2.2.2.2.2.2.2.2.1 s.2.2.2.2.2.2.2.2.2.2.1) a77 (s.2.2.2.2.1.map Value.float) a79 a80 (s.2.2.2.2.2.1.map Value.float) (s.2.2.2.2.2.2.2.2.2.2.2.map Value.int) a83) (p := 56) (by decide) (by omega)) (n := Int32.ofNat N) rfl n0
  rw [eg]
  refine eS rfl rfl ?_
  refine eS rfl rfl ?_
  refine eS rfl rfl ?_
  refine gV1 hn rfl rfl rfl rfl rfl ⟨catOk rfl, catOk rfl⟩ (ef) ?_
  refine gPut hn rfl rfl rfl rfl rfl rfl rfl mS_56 ?_
  refine eS rfl rfl ?_
  refine gGet hn rfl rfl rfl rfl ?_
  refine eEq rfl rfl (fun _ => ?_) (fun z => absurd rfl z)
  refine eS rfl rfl ?_
  refine eS rfl rfl ?_
  exact eLoc (l' := [(2, .int (Int32.ofNat 0)), (0, .ref 56), (1, .int (Int32.ofNat F))]) rfl ⟨rfl, rfl, rfl, trivial⟩ e2
theorem wT_wT {t' : Int32} : wT (wT w0 t) t' = wT w0 t' := by
  funext i
  unfold wT
  by_cases h : i = 0
  · rw [if_pos h, if_pos h]
  · rw [if_neg h, if_neg h, if_neg h]
theorem step_run_ok (hL0 : scr.length ≤ 1536) (hi : i + 3 ≤ scr.length) (hw : w &&& 15 = Int32.ofNat 7) (ha : scr[i + 1]? = some (.int a)) (h1 : ¬ a < 1) (h2 : ¬ 2000 < a) (hI : aInv iExt scr c h) (kk : aNext iExt scr Q i c) : aE aMlaw 800 44 (aL0 (Int32.ofNat i)) [.int (w &&& 15)] h Q := by
  obtain ⟨kd, n, S, hn, rfl, hM, hL, hA, hl, hE⟩ := inv_norm hI
  have hE' := hE
  obtain ⟨e84, e29, e45, pa, N, W, p1, p2, p3, ⟨s, w0, P, m1, m2, m3, m4, m5⟩, p5⟩ := hE'
  have hg := fun (p : Nat) (h1 : 20 ≤ p) (h2 : p < 87) => hM.at p h1 h2
  have hpa : (gH scr kd n S)[pa]? = some (26, S pa) := by
    rcases p1.1 with rfl | rfl
    · exact hg 46 (by decide) (by decide)
    · exact hg 51 (by decide) (by decide)
  by_cases hN : N = 0
  · subst hN
    have hM2 := hM.push (o := (32, [])) rfl
    have p7 : (S 56)[30]? = some (.int 0) := by
      obtain ⟨hi, un, pcv, a77, a79, a80, a83, e, -⟩ := m2
      rw [congrFun e 56]; rfl
    exact law_run hM.2.1 hM2.2.1 hi hL0 hw ha (hM2.at 56 (by decide) (by decide)) (mT_56 hM2) (s_lrun_no (hg 20 (by decide) (by decide)) h1 h2 (s_needProgram_no (Nat.le_trans (by decide) hM.1) (hg 20 (by decide) (by decide)) p3 hpa p1.2.2.1)) (s_mrun_ref (by decide) (len57 hM2) (hM2.at 56 (by decide) (by decide)) (ln56 hM2) (s_wrongFuel_no h1 h2 (hM2.at 56 (by decide) (by decide)) p7)) (thr_at hM2) (fun z => absurd z (by decide)) (kk _ (inv_ref iExt_st hE rfl hM hL hA hl))
  · have hC := m5.resolve_left hN
    obtain ⟨F, hF, rfl⟩ := i32_bnd (n := 2000) (a := a) (fun z => h1 (Int32.lt_trans z (by decide))) h2 (by decide)
    have hF1 : 1 ≤ F := by
      refine Decidable.by_contra (fun z => h1 ?_)
      obtain rfl : F = 0 := by omega
      decide
    obtain ⟨S1, R1, e1⟩ := c_goOn (d := 780) (scr := scr) (kd := kd) hn p1 hC hF m3 m4 m1
    obtain ⟨v85, e85⟩ := row1 (p := 85) hM (by decide) (by decide) (by decide +kernel)
    have n1 : ∀ q, q < 35 ∨ 44 < q → S1 q = S q := fun q hq => by
      obtain ⟨ht, cl, pc, a36, a39, a40, a44, rc, e, -⟩ := R1
      rw [e]; exact cS_ne hq
    have b85 : S1 85 = [v85] := (n1 85 (by omega)).trans e85
    have lr := s_lrun_ok (d := 796) hn h1 h2 hM hL p1 p3 hN b85 (e1.deep (by omega))
    have n2 : ∀ q, (q < 35 ∨ 44 < q) → q ≠ 85 → aUp S1 85 [.long (ansA (runA W F s)).toInt64] q = S q := fun q hq h85 => (aUp_ne h85).trans (n1 q hq)
    generalize hS2 : aUp S1 85 [.long (ansA (runA W F s)).toInt64] = S2 at lr n2
    have c2 : S2 85 = [.long (ansA (runA W F s)).toInt64] := by rw [← hS2]; exact aUp_same
    have k2 : ∀ q, 35 ≤ q → q < 45 → S2 q = S1 q := fun q h1 h2 => by rw [← hS2]; exact aUp_ne (by omega)
    have m2' : mRep S2 w0 (Int32.ofNat N) s S2 := by
      obtain ⟨hi, un, pcv, a77, a79, a80, a83, e, rest⟩ := m2
      exact mRep_of ((n2 56 (by omega) (by omega)).trans (congrFun e 56)) ((n2 77 (by omega) (by omega)).trans (congrFun e 77)) ((n2 78 (by omega) (by omega)).trans (congrFun e 78)) ((n2 79 (by omega) (by omega)).trans (congrFun e 79)) ((n2 80 (by omega) (by omega)).trans (congrFun e 80)) ((n2 81 (by omega) (by omega)).trans (congrFun e 81)) ((n2 82 (by omega) (by omega)).trans (congrFun e 82)) ((n2 83 (by omega) (by omega)).trans (congrFun e 83)) rest
    obtain ⟨S3, R3, e3⟩ := s_mrun_ok (d := 790) (scr := scr) (kd := kd) hn hF1 hF (prgM_tr (n2 76 (by omega) (by omega)) p2) ((n2 84 (by omega) (by omega)).trans e84) hC hN m3 m4 m2'
    have n3 : ∀ q, q < 56 ∨ (56 < q ∧ q < 77) ∨ 83 < q → S3 q = S2 q := fun q hq => by
      obtain ⟨hi, un, pcv, a77, a79, a80, a83, e, -⟩ := R3
      rw [e]; exact mS_ne hq
    have R3' : mRep S3 (wT w0 0) (Int32.ofNat N) (runA W F s) S3 := by
      obtain ⟨hi, un, pcv, a77, a79, a80, a83, e, rest⟩ := R3
      exact mRep_of (congrFun e 56) (congrFun e 77) (congrFun e 78) (congrFun e 79) (congrFun e 80) (congrFun e 81) (congrFun e 82) (congrFun e 83) rest
    have C3 : cRep S3 (runA W F s) S3 := by
      obtain ⟨ht, cl, pc, a36, a39, a40, a44, rc, e, rest⟩ := R1
      have q : ∀ p, 35 ≤ p → p < 45 → S3 p = _ := fun p h1 h2 => (n3 p (by omega)).trans ((k2 p h1 h2).trans (congrFun e p))
      exact cRep_of (q 35 (by decide) (by decide)) (q 36 (by decide) (by decide)) (q 37 (by decide) (by decide)) (q 38 (by decide) (by decide)) (q 39 (by decide) (by decide)) (q 40 (by decide) (by decide)) (q 41 (by decide) (by decide)) (q 42 (by decide) (by decide)) (q 43 (by decide) (by decide)) (q 44 (by decide) (by decide)) rest
    have ok := runA_ok hC (f := F) m3 m4
    have e56 : (gH scr kd n S3)[56]? = some (36, S3 56) := gH_at (by decide) (by omega)
    have t0 : (S3 56)[0]? = some (.int 0) := by
      obtain ⟨hi, un, pcv, a77, a79, a80, a83, e, -⟩ := R3
      rw [congrFun e 56]; rfl
    refine law_run hM.2.1 gH_0 hi hL0 hw ha (gH_at (p := 56) (by decide) (by omega)) e56 lr (e3.deep (by omega)) (s_thrown e56 t0) (fun _ => ?_) (kk _ (inv_of hn hM hL hA (by omega) hE p1 p2 p3 p5 m1 m2 (fun q hq hm => ?_) ?_ ?_ C3 R3' ok.1 ok.2 m5))
    · rw [gH_at (by decide) (by omega), n3 85 (by omega), c2]; rfl
    · obtain ⟨z1, z2, z3, z4⟩ := hm
      exact (n3 q (by omega)).trans (n2 q (by omega) z4)
    · rw [n3 45 (by omega), n2 45 (by omega) (by omega)]; exact e45
    · rw [n3 85 (by omega), c2]; rfl
end STEPRUN
