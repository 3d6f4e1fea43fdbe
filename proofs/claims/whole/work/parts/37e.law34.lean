/-! the law's compile, on the class's side -/
section CLW
variable {scr : List Value} {kd0 kd : Nat → Nat} {n0 n d L pa pb : Nat} {S S1 T U V : Nat → List Value} {ep : Int32} {c : Nat → Nat} {Q : aOut → aH → Prop}
theorem c_beginC {par : List UInt32} (hn : 67 ≤ n) (hM : mRaw S par) : ∃ S', cRep S (s0A par) S' ∧ aE aM104 (d + 3) 0 [(0, .ref 35)] [] (gH scr kd n S) (aIs none (gH scr kd n S')) := by
  obtain ⟨⟨ht, cl, pc, an, e35⟩, l36, l37, e38, l39, l40, ⟨x, y, hd, co, dn, e41⟩, ⟨rc, e42⟩, l43, l44⟩ := hM
  have eS : S = cS S (kM ht cl pc an) (S 36) (S 37) (par.map Value.float) (S 39) (S 40) (kT x y hd co dn) (kPi rc) (S 43) (S 44) := by
    rw [← e35, ← e38, ← e41, ← e42]
    exact cS_id.symm
  have e := s_kbegin (d := d) (h := gH scr kd n (cS S (kM ht cl pc an) (S 36) (S 37) (par.map Value.float) (S 39) (S 40) (kT x y hd co dn) (kPi rc) (S 43) (S 44))) (mc := kM ht cl pc an) (vl := S 37) (tu := kT x y hd co dn) (pi := kPi rc) (pl := S 43) (by rw [gH_len]; omega) (gH_at (p := 35) (by decide) (by omega)) rfl rfl rfl (gH_at (p := 37) (by decide) (by omega)) l37 (gH_at (p := 41) (by decide) (by omega)) rfl rfl (gH_at (p := 42) (by decide) (by omega)) rfl (gH_at (p := 43) (by decide) (by omega)) l43
  rw [← eS] at e
  have q1 : ((((gH scr kd n S).set 35 (18, mcBeg (kM ht cl pc an))).set 37 (3, List.replicate 8 (.float 0))).set 41 (20, tuBeg (kT x y hd co dn))).set 43 (0, List.replicate 768 (.int 0)) = gH scr kd n (aUp (aUp (aUp (aUp S 35 (mcBeg (kM ht cl pc an))) 37 (List.replicate 8 (.float 0))) 41 (tuBeg (kT x y hd co dn))) 43 (List.replicate 768 (.int 0))) := by
    rw [show (18, mcBeg (kM ht cl pc an)) = (gK kd 35, mcBeg (kM ht cl pc an)) from rfl, gH_set (by decide) (by omega), show ((3 : Nat), List.replicate 8 (Value.float 0)) = (gK kd 37, List.replicate 8 (.float 0)) from rfl, gH_set (by decide) (by omega), show (20, tuBeg (kT x y hd co dn)) = (gK kd 41, tuBeg (kT x y hd co dn)) from rfl, gH_set (by decide) (by omega), show ((0 : Nat), List.replicate 768 (Value.int 0)) = (gK kd 43, List.replicate 768 (.int 0)) from rfl, gH_set (by decide) (by omega)]
  rw [q1] at e
  refine ⟨_, ⟨0, 0, 0, S 36, S 39, S 40, S 44, rc, ?_, l36, l39, l40, l44, fun _ => ⟨rfl, rfl, rfl, ⟨S 36, rfl⟩, ⟨S 39, rfl⟩, ⟨S 40, rfl⟩⟩⟩, e⟩
  refine (congrArg (fun z => aUp (aUp (aUp (aUp z 35 (mcBeg (kM ht cl pc an))) 37 (List.replicate 8 (.float 0))) 41 (tuBeg (kT x y hd co dn))) 43 (List.replicate 768 (.int 0))) eS).trans ?_
  rw [cS_35, cS_37, cS_41, cS_43]
  simp only [s0A, List.map_replicate]
  rfl
theorem c_law34 (hn0 : 67 ≤ n0) (hpb : pb = 46 ∨ pb = 51) {a3 a4 a5 a6 a7 a8 b1 b2 c0 c1 c5 c7 v6 v7 v85 : Value} {par : List UInt32} (h20 : S 20 = [.ref 21, .int (Int32.ofNat L), .ref 22, .ref 34, .ref 35, .ref 45, .ref pa, .ref pb]) (h22 : S 22 = [.ref 23, .ref 30, .ref 32, a3, a4, a5, a6, a7, a8]) (h30 : S 30 = [.ref 31, b1]) (h32 : S 32 = [.ref 33, b2]) (hp : S pb = [c0, c1, .ref (pb + 1), .ref (pb + 2), .ref (pb + 3), c5, .ref (pb + 4), c7]) (hT : txOk (S 21) L c) (h29 : S 29 = aS0 29) (h23 : S 23 = [.ref 24, .ref 25, .ref 26, .ref 27, .ref 28, .ref 29, v6, v7]) (hl : tkL (S 24) (S 25) (S 26) (S 27) (S 28)) (h31 : (S 31).length = 8) (h33 : (S 33).length = 3) (hm1 : (S (pb + 1)).length = 160) (hm2 : (S (pb + 2)).length = 160) (hm3 : (S (pb + 3)).length = 160) (h4 : (S (pb + 4)).length = 240) (h34 : (S 34).length = 1) (hte : ∀ e, tokA c L L 0 [] = .error e → e < 2 ^ 20) (h85 : S 85 = [v85]) (hraw : mRaw S par)
    (kA : ∀ e kd n S2, (tokA c L L 0 [] = .error e ∨ ∃ ts, tokA c L L 0 [] = .ok ts ∧ cplA ts L = .error e) → kFr kd0 n0 S pb (Int32.ofNat e) kd n S2 → Q (.inl (some (.int 1))) (gH scr (kUp kd (n + 20) 28) (n + 1) (aUp S2 (n + 20) [])))
    (kB : ∀ ts r kd n S2, tokA c L L 0 [] = .ok ts → cplA ts L = .ok r → 240 < r.2.2.2.length → kFr kd0 n0 S pb (-1) kd n S2 → Q (.inl (some (.int 2))) (gH scr (kUp kd (n + 20) 32) (n + 1) (aUp S2 (n + 20) [])))
    (kC : ∀ ts r kd n S2 S3, tokA c L L 0 [] = .ok ts → cplA ts L = .ok r → r.2.2.2.length ≤ 240 → kFr kd0 n0 S pb (-1) kd n S2 → kPr n0 n pb kd r S2 → cRep (aUp S2 20 [.ref 21, .int (Int32.ofNat L), .ref 22, .ref 34, .ref 35, .ref 45, .ref pb, .ref pa]) (s0A par) S3 → Q (.inl (some (.int 0))) (gH scr kd n (aUp S3 85 [.long (Int32.ofNat r.2.2.2.length).toInt64]))) : aE aM34 (d + 35) 0 [(0, .ref 20), (1, .ref 85)] [] (gH scr kd0 n0 S) Q := by
  have fail : ∀ (k : Nat) (y : Int32) (t : Nat) (kd : Nat → Nat) (n : Nat) (S2 : Nat → List Value), 67 ≤ n → (aE aM34 (d + 35) t [(0, .ref 20), (1, .ref 85)] [.ref (gH scr kd n S2).length] (gH scr (kUp kd (n + 20) k) (n + 1) (aUp S2 (n + 20) [])) Q) → ∀ (q : Nat) (h' : aH), q = (gH scr kd n S2).length → h' = gH scr kd n S2 ++ [(k, [])] → aHand aM34.hd 3 k = some t → ∃ kk vs t, h'[q]? = some (kk, vs) ∧ aHand aM34.hd 3 kk = some t ∧ aE aM34 (d + 35) t [(0, .ref 20), (1, .ref 85)] [.ref q] h' Q := fun k y t kd n S2 hn hE q h' hq hh ht => by
    subst hq hh
    exact ⟨k, [], t, List.getElem?_concat_length, ht, by rw [gH_push hn]; exact hE⟩
  have cp : aE aM35 (d + 34) 0 [(0, .ref 20)] [] (gH scr kd0 n0 S) (fun o h' => (∃ y : Int32, o = .inl (some (.int y)) ∧ aE aM34 (d + 35) 6 [(0, .ref 20), (1, .ref 85)] [.int y, .int 0, .ref 85] h' Q) ∨ ∃ q, o = .inr q ∧ ∃ kk vs t, h'[q]? = some (kk, vs) ∧ aHand aM34.hd 3 kk = some t ∧ aE aM34 (d + 35) t [(0, .ref 20), (1, .ref 85)] [.ref q] h' Q) := by
    have rd := c_rdwr (scr := scr) (kd0 := kd0) (d := d) (Q := fun o h' => (o = .inl none ∧ aE aM35 (d + 34) 19 [(0, .ref 20)] [] h' (fun o h' => (∃ y : Int32, o = .inl (some (.int y)) ∧ aE aM34 (d + 35) 6 [(0, .ref 20), (1, .ref 85)] [.int y, .int 0, .ref 85] h' Q) ∨ ∃ q, o = .inr q ∧ ∃ kk vs t, h'[q]? = some (kk, vs) ∧ aHand aM34.hd 3 kk = some t ∧ aE aM34 (d + 35) t [(0, .ref 20), (1, .ref 85)] [.ref q] h' Q)) ∨ ∃ q, o = .inr q ∧ ∃ kk vs t, h'[q]? = some (kk, vs) ∧ aHand aM34.hd 3 kk = some t ∧ aE aM34 (d + 35) t [(0, .ref 20), (1, .ref 85)] [.ref q] h' Q) hn0 hpb h22 h30 h32 hp hT h29 h23 hl h31 h33 hm1 hm2 hm3 h4 h34 hte (fun ts r kd n S1 S2 e1 e2 f20 hn aw F2 e34 hP => Or.inl ⟨rfl, ?_⟩) (fun e he kd n S2 o h' F2 z => ?_)
    · skip
      refine eS rfl rfl ?_
      refine gGet hn0 rfl rfl rfl (by rw [h20]; rfl) ?_
      refine eS rfl rfl ?_
      refine gGet hn0 rfl rfl rfl (by rw [h20]; rfl) ?_
      refine eS rfl rfl ?_
      refine gGet hn0 rfl rfl rfl (by rw [h20]; rfl) ?_
      refine eS rfl rfl ?_
      refine gGet hn0 rfl rfl rfl (by rw [h20]; rfl) ?_
      exact gVo hn0 rfl rfl rfl rfl rfl ⟨catOk rfl, catOk rfl⟩ rfl rd (fun v h' z => by
            rcases z with ⟨z1, z2⟩ | ⟨q, z1, -⟩
            · cases z1; exact z2
            · cases z1) (fun q h' z => by
            rcases z with ⟨z1, -⟩ | ⟨q', z1, z2⟩
            · cases z1
            · cases z1; exact Or.inr ⟨q, rfl, z2⟩)
    · have g20 : S1 20 = [.ref 21, .int (Int32.ofNat L), .ref 22, .ref 34, .ref 35, .ref 45, .ref pa, .ref pb] := (f20 20 (by decide) (by decide)).trans h20
      have g20' : S2 20 = [.ref 21, .int (Int32.ofNat L), .ref 22, .ref 34, .ref 35, .ref 45, .ref pa, .ref pb] := (F2.2.1 20 (by decide) (by decide) (by omega)).trans h20
      have aw := aw.deep (d' := d + 33) (by omega)
      obtain ⟨fs, fc, p0, -⟩ := id hP
      have cl : r.2.2.2.length < 2 ^ 20 := by
        obtain ⟨p', p1, p2, p3⟩ := tokA_ok hT.2.2.2 L 0 [] ts (Nat.zero_le _) (Nat.le_refl _) tsW_0 e1
        obtain ⟨s1, s2, s3, s4, s5⟩ := tsW_ts p3
        have hL160 := hT.1
        have h160 : ∀ t, plA ts L t ≤ 160 := fun t => by
          unfold plA
          cases e : ts[t]? with
          | none => exact hL160
          | some tk => have := (p3.1 t tk e).1.1; show tk.2.1 ≤ _; omega
        have := cplA_len e2 s1 s5 h160
        omega
      have b1 := i32_le (a := r.2.2.2.length) (b := 240) (by omega) (by decide)
      by_cases c240 : r.2.2.2.length ≤ 240
      · have n20 : ∀ q, q ≠ 20 → aUp S2 20 [.ref 21, .int (Int32.ofNat L), .ref 22, .ref 34, .ref 35, .ref 45, .ref pb, .ref pa] q = S2 q := fun q hq => aUp_ne hq
        have raw : mRaw (aUp S2 20 [.ref 21, .int (Int32.ofNat L), .ref 22, .ref 34, .ref 35, .ref 45, .ref pb, .ref pa]) par := by
          have fq : ∀ q, 34 < q → q < 46 → aUp S2 20 [.ref 21, .int (Int32.ofNat L), .ref 22, .ref 34, .ref 35, .ref 45, .ref pb, .ref pa] q = S q := fun q q1 q2 => (n20 q (by omega)).trans (F2.2.1 q (by omega) (by omega) (by omega))
          unfold mRaw at hraw ⊢
          rw [fq 35 (by decide) (by decide), fq 36 (by decide) (by decide), fq 37 (by decide) (by decide), fq 38 (by decide) (by decide), fq 39 (by decide) (by decide), fq 40 (by decide) (by decide), fq 41 (by decide) (by decide), fq 42 (by decide) (by decide), fq 43 (by decide) (by decide), fq 44 (by decide) (by decide)]
          exact hraw
        obtain ⟨S3, R3, a3⟩ := c_beginC (d := d + 30) (scr := scr) (kd := kd) hn raw
        have F := kC ts r kd n S2 S3 e1 e2 c240 F2 hP R3
        have k3 : ∀ q, (q < 35 ∨ 45 ≤ q) → S3 q = aUp S2 20 [.ref 21, .int (Int32.ofNat L), .ref 22, .ref 34, .ref 35, .ref 45, .ref pb, .ref pa] q := fun q hq => by
          obtain ⟨ht, cl, pc, a36, a39, a40, a44, rc, e, -⟩ := R3
          rw [e]; exact cS_ne (by omega)
        have e20 : S3 20 = [.ref 21, .int (Int32.ofNat L), .ref 22, .ref 34, .ref 35, .ref 45, .ref pb, .ref pa] := (k3 20 (by decide)).trans aUp_same
        have epb : S3 pb = S2 pb := (k3 pb (by omega)).trans (n20 pb (by omega))
        have e85 : S3 85 = [v85] := (k3 85 (by decide)).trans ((n20 85 (by decide)).trans ((F2.2.1 85 (by decide) (by decide) (by omega)).trans h85))
        refine eS rfl rfl ?_
        refine gGet hn rfl rfl rfl (by rw [g20]; rfl) ?_
        refine eS rfl rfl ?_
        refine gGet hn rfl rfl rfl (by rw [g20]; rfl) ?_
        refine gV1 hn rfl rfl rfl rfl rfl ⟨catOk rfl, catOk rfl⟩ (aw) ?_
        refine eS rfl rfl ?_
        refine gGet hn rfl rfl rfl (by rw [g20']; rfl) ?_
        refine gGet hn rfl (pa_h0 hpb) (pa_k0 hpb) (by rw [p0]; rfl) ?_
        refine eS rfl rfl ?_
        refine eILe rfl rfl (fun _ => ?_) (fun z => absurd (b1.mpr c240) z)
        refine eS rfl rfl ?_
        refine gGet hn rfl rfl rfl (by rw [g20']; rfl) ?_
        refine eS rfl rfl ?_
        refine eS rfl rfl ?_
        refine eS rfl rfl ?_
        refine gGet hn rfl rfl rfl (by rw [g20']; rfl) ?_
        refine gPut (S' := aUp S2 20 [.ref 21, .int (Int32.ofNat L), .ref 22, .ref 34, .ref 35, .ref 45, .ref pb, .ref pb]) hn rfl rfl rfl rfl (by rw [g20']; rfl) rfl rfl (by rw [g20']; rfl) ?_
        refine eS rfl rfl ?_
        refine eS rfl rfl ?_
        refine gPut (S' := aUp S2 20 [.ref 21, .int (Int32.ofNat L), .ref 22, .ref 34, .ref 35, .ref 45, .ref pb, .ref pa]) hn rfl rfl rfl rfl rfl rfl rfl (by rw [aUp_same, aUp_aUp]; rfl) ?_
        refine eS rfl rfl ?_
        refine gGet hn rfl rfl rfl rfl ?_
        refine gV1 hn rfl rfl rfl rfl rfl ⟨catOk rfl, catOk rfl⟩ (a3) ?_
        refine eS rfl rfl ?_
        refine gGet hn rfl rfl rfl (by rw [e20]; rfl) ?_
        refine gGet hn rfl (pa_h0 hpb) (pa_k0 hpb) (by rw [epb, p0]; rfl) ?_
        refine eR rfl rfl (Or.inl ⟨Int32.ofNat r.2.2.2.length, rfl, ?_⟩)
        refine eS rfl rfl ?_
        refine gWr2 hn rfl rfl rfl 0 (by omega) (by rw [e85]; exact Nat.zero_lt_one) (show _ = aUp S3 85 [.long (Int32.ofNat r.2.2.2.length).toInt64] by rw [e85]; rfl) ?_
        refine eS rfl rfl ?_
        refine eS rfl rfl ?_
        exact eR rfl rfl F
      · have F := kB ts r kd n S2 e1 e2 (by omega) F2
        have th : aE aM35 (d + 34) 43 [(0, .ref 20)] [] (gH scr kd n S2) (aTh 12 (gH scr kd n S2)) := eThrow rfl rfl (by rw [gH_len]; omega) rfl rfl rfl rfl rfl
        refine eS rfl rfl ?_
        refine gGet hn rfl rfl rfl (by rw [g20]; rfl) ?_
        refine eS rfl rfl ?_
        refine gGet hn rfl rfl rfl (by rw [g20]; rfl) ?_
        refine gV1 hn rfl rfl rfl rfl rfl ⟨catOk rfl, catOk rfl⟩ (aw) ?_
        refine eS rfl rfl ?_
        refine gGet hn rfl rfl rfl (by rw [g20']; rfl) ?_
        refine gGet hn rfl (pa_h0 hpb) (pa_k0 hpb) (by rw [p0]; rfl) ?_
        refine eS rfl rfl ?_
        refine eILe rfl rfl (fun z => absurd (b1.mp z) c240) (fun _ => ?_)
        refine th.mono (fun o h' z => ?_)
        obtain ⟨z1, z2⟩ := z
        refine Or.inr ⟨_, z1, fail 32 2 14 kd n S2 hn ?_ _ _ rfl z2 rfl⟩
        refine eS rfl rfl ?_
        refine eS rfl rfl ?_
        exact eR rfl rfl F
    · have F := kA e kd n S2 he F2
      obtain ⟨z1, z2⟩ := z
      refine Or.inr ⟨_, z1, fail 28 1 11 kd n S2 (by have := F2.1.1; omega) ?_ _ _ rfl z2 rfl⟩
      refine eS rfl rfl ?_
      refine eS rfl rfl ?_
      exact eR rfl rfl F
  refine eS rfl rfl ?_
  refine eS rfl rfl ?_
  refine eS rfl rfl ?_
  refine eV rfl rfl (gH_at (p := 20) (by decide) (by omega)) rfl rfl ⟨catOk rfl, catOk rfl⟩ cp (fun v h' z => ?_) (fun q h' z => ?_)
  · rcases z with ⟨y, z1, z2⟩ | ⟨q, z1, -⟩
    · cases z1; exact z2
    · cases z1
  · rcases z with ⟨y, z1, -⟩ | ⟨q', z1, z2⟩
    · cases z1
    · cases z1; exact z2
end CLW
