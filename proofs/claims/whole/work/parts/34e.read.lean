section RDB
variable {scr : List Value} {kd : Nat → Nat} {n d L pa : Nat} {S S0 U : Nat → List Value} {c : Nat → Nat} {ts : List aTk} {Q : aOut → aH → Prop}
theorem c_readT (hn : 67 ≤ n) (hpa : pa = 46 ∨ pa = 51) {a3 a4 a5 a6 a7 a8 b1 b2 c0 c1 c5 c7 v6 v7 : Value} (h22 : S 22 = [.ref 23, .ref 30, .ref 32, a3, a4, a5, a6, a7, a8]) (h30 : S 30 = [.ref 31, b1]) (h32 : S 32 = [.ref 33, b2]) (hp : S pa = [c0, c1, .ref (pa + 1), .ref (pa + 2), .ref (pa + 3), c5, .ref (pa + 4), c7]) (hT : txOk (S 21) L c) (h29 : S 29 = aS0 29) (h23 : S 23 = [.ref 24, .ref 25, .ref 26, .ref 27, .ref 28, .ref 29, v6, v7]) (hl : tkL (S 24) (S 25) (S 26) (S 27) (S 28)) (h31 : (S 31).length = 8) (h33 : (S 33).length = 3) (hm1 : (S (pa + 1)).length = 160) (hm2 : (S (pa + 2)).length = 160) (hm3 : (S (pa + 3)).length = 160) (hte : ∀ e, tokA c L L 0 [] = .error e → e < 2 ^ 20)
    (kk : ∀ ts r ws kd' n' S', tokA c L L 0 [] = .ok ts → tpA ts L = .ok r → lnkA ts L r.1.2 r.2.2 (r.2.1 ++ [27]) = .ok ws → rOk kd n S pa L ts r kd' n' S' → Q (.inl none) (gH scr kd' n' S'))
    (kx : ∀ e, (tokA c L L 0 [] = .error e ∨ ∃ ts, tokA c L L 0 [] = .ok ts ∧ cplA ts L = .error e) → ∀ o h', rEr scr kd n S pa L e o h' → Q o h') : aE aM36 (d + 33) 0 [(0, .ref 22), (1, .ref 21), (2, .int (Int32.ofNat L)), (3, .ref pa)] [] (gH scr kd n S) Q := by
  have rb := c_rbegin (d := d + 31) (scr := scr) (kd := kd) hn hpa h22 h30 h32 hp
  obtain ⟨S2, ts', ⟨a24, a25, a26, a27, a28, rfl, l2, tF⟩, sp, hts⟩ := c_split2 (d := d + 27) (scr := scr) (kd := kd) (S := rS S S pa .null .null .null 0 (-1) 0 (S 31) 0 (S 33) .null .null 0 0 (S (pa + 1)) (S (pa + 2)) (S (pa + 3))) (c := c) (L := L) hn hT h29 h23 hl
  rw [rS_tkS] at sp
  have tkO : tkOf S L (tkS S a24 a25 a26 a27 a28 (Int32.ofNat ts'.length) (Int32.ofNat L)) := ⟨a24, a25, a26, a27, a28, _, rfl, l2⟩
  have hb0 : bI n kd S kd n S := ⟨fun p _ => ⟨rfl, rfl⟩, fun p p1 p2 => absurd p2 (by omega)⟩
  have h0 : ∀ q, L ≤ q → c q = 0 := hT.2.2.2
  have hL := hT.1
  cases e : tokA c L L 0 [] with
  | error z =>
    rw [e] at sp
    have hz := hte z e
    refine eS rfl rfl ?_
    refine eS rfl rfl ?_
    refine gV1 hn rfl rfl rfl rfl rfl ⟨catOk rfl, catOk rfl⟩ (rb) ?_
    refine eS rfl rfl ?_
    refine gGet hn rfl rfl rfl rfl ?_
    refine eS rfl rfl ?_
    refine eS rfl rfl ?_
    refine gV1 hn rfl rfl rfl rfl rfl ⟨catOk rfl, catOk rfl⟩ (sp) ?_
    refine eS rfl rfl ?_
    refine eS rfl rfl ?_
    refine eS rfl rfl ?_
    refine eIEq rfl rfl (fun z => absurd z (neg1_ne hz)) (fun _ => ?_)
    refine eS rfl rfl ?_
    refine eS rfl rfl ?_
    exact gVo hn rfl rfl rfl rfl rfl ⟨catOk rfl, catOk rfl⟩ rfl (c_refuse (e := z) hn) (fun v h' z => by cases z.1) (fun q h' y => kx z (Or.inl e) _ _ ⟨_, tkO, kd, n, S, _, _, _, _, _, _, _, _, _, _, _, _, _, _, ⟨h31, h33, hm1, hm2, hm3⟩, Nat.le_refl _, Nat.le_add_right _ _, hb0, y⟩)
  | ok ts =>
    have ets := hts ts e
    subst ets
    rw [e] at sp
    obtain ⟨p', w1, w2, w3⟩ := tokA_ok h0 L 0 [] _ (Nat.zero_le _) (Nat.zero_le _) tsW_0 e
    obtain ⟨g1, g2, g3, g4, g5⟩ := tsW_ts w3
    have hcF : cF ts' L n (tkS S a24 a25 a26 a27 a28 (Int32.ofNat ts'.length) (Int32.ofNat L)) pa [] (S 33) := ⟨hn, hpa, ⟨rfl, tF, by omega, hL, l2.2.2.2.2.2⟩, g1, g2, fun i y hy => (by cases hy), Nat.zero_le _, fun y hy => (by cases hy), h33, g3⟩
    have ini : cIt ts' L n kd S (tkS S a24 a25 a26 a27 a28 (Int32.ofNat ts'.length) (Int32.ofNat L)) pa ((0, [], []), []) [] [] kd n S (rS (tkS S a24 a25 a26 a27 a28 (Int32.ofNat ts'.length) (Int32.ofNat L)) S pa .null .null .null 0 (-1) 0 (S 31) 0 (S 33) .null .null 0 0 (S (pa + 1)) (S (pa + 2)) (S (pa + 3))) := ⟨rfl, S 33, hcF, ⟨Nat.zero_le _, Nat.zero_le _, Nat.zero_le _, fun y hy => (by cases hy)⟩, Nat.le_refl _, Nat.le_succ _, hb0, ⟨.null, .null, ⟨_, _, _, _, rfl, fun i y hy => (by cases hy), h31, hm1, hm2, hm3, fun i y hy => (by cases hy)⟩, rfl, rfl⟩, fun p hp => (by cases hp), fun p hp => (by cases hp)⟩
    have top := c_topAll (scr := scr) (d := d) hn g2 ini
    have h160 : ts'.length ≤ 160 := by omega
    cases et : tpA ts' L with
    | error z =>
      rw [et] at top
      have ec : cplA ts' L = .error z := by unfold cplA; rw [et]
      refine eS rfl rfl ?_
      refine eS rfl rfl ?_
      refine gV1 hn rfl rfl rfl rfl rfl ⟨catOk rfl, catOk rfl⟩ (rb) ?_
      refine eS rfl rfl ?_
      refine gGet hn rfl rfl rfl rfl ?_
      refine eS rfl rfl ?_
      refine eS rfl rfl ?_
      refine gV1 hn rfl rfl rfl rfl rfl ⟨catOk rfl, catOk rfl⟩ (sp) ?_
      refine eS rfl rfl ?_
      refine eS rfl rfl ?_
      refine eS rfl rfl ?_
      refine eIEq rfl rfl (fun _ => ?_) (fun z => absurd rfl z)
      refine eS rfl rfl ?_
      refine eS rfl rfl ?_
      refine eS rfl rfl ?_
      refine eS rfl rfl ?_
      exact gVo hn rfl rfl rfl rfl rfl ⟨catOk rfl, catOk rfl⟩ rfl top (fun v h' y => (cEr_no y).elim) (fun q h' y => kx z (Or.inr ⟨_, e, ec⟩) _ _ (by obtain ⟨kd1, n1, U1, fd, ld, lc, t, cv, rv, cp, rp, fc, tc, t1, t2, t3, y1, y2, y3, y4, y5⟩ := y; exact ⟨_, tkO, kd1, n1, U1, fd, ld, lc, t, cv, rv, cp, rp, .null, fc, tc, t1, t2, t3, y1, y2, y3, y4, y5⟩))
    | ok r =>
      rw [et] at top
      refine eS rfl rfl ?_
      refine eS rfl rfl ?_
      refine gV1 hn rfl rfl rfl rfl rfl ⟨catOk rfl, catOk rfl⟩ (rb) ?_
      refine eS rfl rfl ?_
      refine gGet hn rfl rfl rfl rfl ?_
      refine eS rfl rfl ?_
      refine eS rfl rfl ?_
      refine gV1 hn rfl rfl rfl rfl rfl ⟨catOk rfl, catOk rfl⟩ (sp) ?_
      refine eS rfl rfl ?_
      refine eS rfl rfl ?_
      refine eS rfl rfl ?_
      refine eIEq rfl rfl (fun _ => ?_) (fun z => absurd rfl z)
      refine eS rfl rfl ?_
      refine eS rfl rfl ?_
      refine eS rfl rfl ?_
      refine eS rfl rfl ?_
      refine gVo hn rfl rfl rfl rfl rfl ⟨catOk rfl, catOk rfl⟩ rfl top (fun v h' y => ?_) (fun q h' y => ?_)
      · obtain ⟨kd1, n1, U1, S3, K, D, M, v1, kk1, y1, rfl, ⟨yD, rp, yF, y2⟩, y3, y4, y5, y6, y7, y8, y9, y10⟩ := y
        cases y1
        have yv := hLs_v y9
        have hn1 : 67 ≤ n1 := by omega
        obtain ⟨z1, z2, z3, z4, ⟨fd, fc, ⟨rv, t1, t2, t3, rfl, z5, z6, z7⟩, z8, z9⟩, z10, z11⟩ := y2
        obtain ⟨q1, q2, q3, q4, q5, q6⟩ := tpA_rd g1 g5 et
        have y3 : K.map (fun p => p.2) = r.2.2 := y3
        have yD : D.map (fun p => p.2) = r.1.2 := yD
        have hrp := yF.2.2.2.2.2.2.2.2.1
        have nl : n1 ≤ n + 161 := by have := z1.1; omega
        have fcv : fc = .null ∨ ∃ q, fc = .ref q := by
          cases K with
          | nil => exact Or.inl z8
          | cons p2 r2 => exact Or.inr ⟨_, z8.1⟩
        refine gPut hn1 rfl (pa_h0 hpa) rfl (pa_k0 hpa) (by rw [rS_p0 hpa]; rfl) rfl (aFit_v yv) ((congrArg (fun z : List Value => aUp _ pa (z.set 0 v1)) (rS_p0 hpa)).trans (rS_fs hpa)) ?_
        have lk := c_lnkLoop (scr := scr) (kd := kd1) (d := d + 31) (Q := Q) (ts := ts') (L := L) (pa := pa) (t := r.1.1.1) (cv := r.1.1.2.1.length) (cp := 0) (tc := r.1.1.2.2.length) (S0 := tkS S a24 a25 a26 a27 a28 (Int32.ofNat ts'.length) (Int32.ofNat L)) (fd := fd) (ld := lstV (D.map (fun p => p.1))) (lc := lstV (K.map (fun p => p.1))) (fs := v1) (fc := fc) (rv := rv) (rp := rp) (t1 := t1) (t2 := t2) (t3 := t3) (D := D) (K := K) hn (by omega) (fun p hp => by have := (q6 p.2 (by rw [← yD]; exact List.mem_map.mpr ⟨p, hp, rfl⟩)).1; omega) K fc U1 (r.2.1 ++ [27]) (fun p hp => hp) z8 (fun p hp => ⟨(z10 p hp).1, (z10 p hp).2.1, (z4.2 p.1 (z10 p hp).1 (z10 p hp).2.1).1, (z4.2 p.1 (z10 p hp).1 (z10 p hp).2.1).2, by have := (q4 p.2 (by rw [← y3]; exact List.mem_map.mpr ⟨p, hp, rfl⟩)).1; omega, (z10 p hp).2.2⟩) z9 (fun p hp => ⟨(z11 p hp).1, (z11 p hp).2.1, (z4.2 p.1 (z11 p hp).1 (z11 p hp).2.1).1, (z11 p hp).2.2⟩) (fun ws ew => ?_) (fun z ew U' hf o h' hth => ?_)
        · refine eS rfl rfl ?_
          refine gGet hn1 rfl (pa_h0 hpa) (pa_k0 hpa) (by rw [rS_p0 hpa]; rfl) ?_
          rcases fcv with rfl | ⟨q, rfl⟩
          · refine eS rfl rfl ?_
            exact eLoc (l' := [(5, .null), (0, .ref 22), (3, .ref pa)]) rfl ⟨rfl, rfl, rfl, trivial⟩ lk
          · refine eS rfl rfl ?_
            exact eLoc (l' := [(5, .ref q), (0, .ref 22), (3, .ref pa)]) rfl ⟨rfl, rfl, rfl, trivial⟩ lk
        · rw [y3, yD] at ew
          exact kk ts' r ws kd1 n1 _ e et ew ⟨_, tkO, U1, K, D, M, kk1, v1, fd, _, _, _, _, rv, _, rp, fc, t1, t2, t3, rfl, ⟨z6, hrp⟩, z7, by omega, nl, z4, y3, yD, y4, y5, y9, z8, z10, z11⟩
        · rw [y3, yD] at ew
          have ec : cplA ts' L = .error z := by unfold cplA; rw [et]; dsimp only; rw [ew]
          exact kx z (Or.inr ⟨ts', e, ec⟩) o h' ⟨_, tkO, kd1, n1, U', fd, _, _, _, _, rv, _, rp, v1, fc, _, t1, t2, t3, ⟨z6, hrp, z7.1, z7.2.1, z7.2.2.1⟩, by omega, nl, bI_fr z4 (fun p hp => (z10 p hp).1) hf, hth⟩
      · obtain ⟨kd1, n1, U1, S3, K, D, M, v1, kk1, y1, -⟩ := y
        cases y1
end RDB
