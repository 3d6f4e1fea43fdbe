/-! calls, walked -/
section WCL
variable {scr : List Value} {kd : Nat → Nat} {n pa N d tc q cc : Nat} {S S0 : Nat → List Value} {W : Nat → Nat} {P : Nat → Nat → Bool → Prop} {T : Nat → Nat × Nat × Nat} {D : Nat → Nat → Prop} {R : Value → Nat → Nat → Nat → Prop} {st : Int32} {f : Bool} {kind num frm to : Nat} {body : Value} {he : Int32} {els nxt : Value} {nm : Int64} {nos : Value} {tp : Int32} {dfn : Value} {cp : Int32} {a e m k k' : Nat} {x : aSx}
theorem tk_no (h : W x.2.2.1 = 16 ∨ W x.2.2.1 = 17 ∨ W x.2.2.1 = 27) : itA W x = (x.1, oneA W x.2) := by
  unfold itA
  rw [if_neg]
  unfold tkA
  simp only [Bool.or_eq_true, Bool.and_eq_true, beq_iff_eq]
  omega
theorem call_num (hC : cOk W N P) (hok : okX P x) (h0 : x.2.1 = 0) (hpc : x.2.2.1 = e) (hw : W e = 16) : W (e + 2) ≤ x.2.2.2.1.length := by
  obtain ⟨l1, l2, l3, l4⟩ := hok.2 h0
  obtain ⟨k1, f1, hP, hk, hf, hF⟩ := tyF_top l4
  obtain ⟨hpc', hT, hJ⟩ := hC.2 _ _ _ hP
  rw [hpc] at hT
  rcases tyW_op hT hk hf l3 with ⟨o, -⟩ | ⟨o, -⟩ | o | o | ⟨o, -, h1, -⟩ | ⟨o, h1, -⟩ | ⟨o, h1, -⟩ | ⟨-, o, -⟩ | ⟨-, o, -⟩
  all_goals omega
theorem st_call {c : Nat} (hn : 67 ≤ n) (hC : cOk W N P) (hN : N ≤ 240) (hW : ∀ j, N ≤ j → W j = 27) (hpp : pa = 46 ∨ pa = 51) (hT : trmS S0 pa tc T) (h87 : 87 ≤ q) (hq : (gH scr kd n S0)[q]? = some (30, stV 16 num frm to body he els nxt nm nos tp dfn cp)) (hft : frm ≤ to) (hto : to ≤ tc) (ht : tTm W T f (to - frm) frm (a + 1) e k k') (hok : okX P x) (h0 : x.2.1 = 0) (hpc : x.2.2.1 = a + 1) (hcc : x.2.2.2.2.1.length = cc) (hfu : x.1 ≤ 2000) (hR : wRep S0 pa cc x 0 S) (hcc3 : cc ≤ 3) (hw : W e = 16) (hw2 : W (e + 2) = num) (hnum : num ≤ 3) (hm : m = e + 3) {qd : Nat} (hdf : dfn = .ref qd) (hqd : tDef W T tc D (fun q => (gH scr kd n S0)[q]?) qd (W (e + 1))) (hB : cc ≤ 2 → blkOk scr kd n W P S0 pa (tBlk W T tc D (fun q => (gH scr kd n S0)[q]?) true 3) (cc + 1) (d + 4)) (hR1 : ∀ v k a b, tBlk W T tc D (fun q => (gH scr kd n S0)[q]?) true 3 v k a b → v.category = 1) : wRes W S0 pa cc x m 248 (fun S' => aE aM155 (d + 7) 0 [(0, .ref 45), (1, .ref q)] [] (gH scr kd n S) (aIs none (gH scr kd n S'))) := by
  subst hm hdf
  have he := e_lt (e := e) hW (by omega)
  obtain ⟨m1, x1, S1, g1, g2, g3, g4, g5, R1, ok1, e1⟩ := w_workOut (d := d + 2) (scr := scr) (kd := kd) hn hC hpp hT h87 hq hft hto ht hok h0 hpc hR
  by_cases hz : x1.2.1 = 0
  · rw [if_pos hz] at e1
    have hs := call_num hC ok1 hz (g5 hz) hw
    have hi := itA_ok hC ok1 hz
    have h9 := ok1.1.1
    obtain ⟨l, an, pc, stk, fr, par, vrs, t⟩ := x1
    have hp := g5 hz
    dsimp only at hz g3 g4 hp hs h9
    subst hz hp
    rw [hw2] at hs
    have hcc1 : fr.length = cc := by rw [g4]; exact hcc
    by_cases h3 : fr.length = 3
    · obtain ⟨S2, R2, e2⟩ := w_enter_no (d := d + 4) (scr := scr) (kd := kd) (pc' := pc) (c := num) hn (by omega) R1
      have ei : itA W (l, 0, pc, stk, fr, par, vrs, t) = (l, 14, pc, stk, fr, par, vrs, t) := by
        rw [tk_no (Or.inl hw), oneA_call3 hw h3]
      refine (wRes.here (S0 := S0) (own := 0) (Z := fun S' => S' = S2) (Or.inl rfl) (Or.inl (show (14 : Int32) ≠ 0 by decide)) R2 rfl).pre (m0 := m1 + 1) ((itN_more g1 rfl).trans ei) (by dsimp only; omega) g4 (by omega) (fun S' z => ?_)
      subst z
      have el : aE aM159 (d + 6) 0 [(0, .ref 45), (1, .ref q)] [] (gH scr kd n S) (aIs none (gH scr kd n S')) := by
        refine eS rfl rfl ?_
        refine eS rfl rfl ?_
        refine gV1 hn rfl rfl rfl rfl rfl ⟨catOk rfl, catOk rfl⟩ (e1) ?_
        refine eEq rfl rfl (fun z => absurd z (by decide)) (fun _ => ?_)
        refine eS rfl rfl ?_
        refine eGet rfl (R1.hq h87 hq) rfl rfl ?_
        refine eS rfl rfl ?_
        refine eS rfl rfl ?_
        refine gGet hn rfl rfl rfl (by rw [R1.k45]; rfl) ?_
        refine eS rfl rfl ?_
        refine eGet rfl (R1.hq h87 hq) rfl rfl ?_
        refine eS rfl rfl ?_
        refine gV1 hn rfl rfl rfl rfl rfl ⟨catOk rfl, catOk rfl⟩ (e2.deep (by omega)) ?_
        refine eEq rfl rfl (fun _ => ?_) (fun z => absurd rfl z)
        exact eR rfl rfl ⟨rfl, rfl⟩
      refine eS rfl rfl ?_
      refine eGet rfl (hR.hq h87 hq) rfl rfl ?_
      refine eS rfl rfl ?_
      refine eS rfl rfl ?_
      refine eS rfl rfl ?_
      refine gV1 hn rfl rfl rfl rfl rfl ⟨catOk rfl, catOk rfl⟩ (el) ?_
      refine eS rfl rfl ?_
      exact eR rfl rfl ⟨rfl, rfl⟩
    · have hcc2 : cc ≤ 2 := by omega
      have ei : itA W (l, 0, pc, stk, fr, par, vrs, t) = (l, 0, W (pc + 1), (entA num (3 * fr.length) stk par).1, (pc + 3, (entA num (3 * fr.length) stk par).1.length) :: fr, (entA num (3 * fr.length) stk par).2, vrs, t) := by
        rw [tk_no (Or.inl hw), oneA_call hw h3, hw2]
      rw [ei] at hi
      obtain ⟨S2, R2, e2⟩ := w_enter (d := d + 4) (scr := scr) (kd := kd) (pc' := W (pc + 1)) (pb := pc + 3) hn hnum hcc2 hs h9 R1
      obtain ⟨q87, num', frm', to', body', he', els', nxt', nm', nos', tp', dfn', cp', j, hqd', hbody, hj17⟩ := hqd
      have hv1 := hR1 _ _ _ _ hbody
      have hblk := hB hcc2 body' 0 (W (pc + 1)) j hbody _ S2 hi rfl rfl (by simp; omega) (by dsimp only; omega) R2
      obtain ⟨m3, x3, st3, S3, b1, b2, b3, b4, b5, R3, ez0⟩ := hblk
      have ez := ez0.deep (d' := d + 5) (by omega)
      have ok3 : okX P x3 := by rw [← b1]; exact itN_ok hC hi
      dsimp only at b2 b3 b4
      -- the flag is taken back
      obtain ⟨S3', R3', eu⟩ : ∃ S3', wRep S0 pa (cc + 1) x3 0 S3' ∧ ∀ (S4 : Nat → List Value), aE aM159 (d + 6) 46 [(0, .ref 45), (1, .ref q)] [] (gH scr kd n S3') (aIs none (gH scr kd n S4)) → aE aM159 (d + 6) 41 [(0, .ref 45), (1, .ref q)] [] (gH scr kd n S3) (aIs none (gH scr kd n S4)) := by
        obtain ⟨ht, pcv, a36, a39, a40, a44, rc, rfl, rest⟩ := R3
        refine ⟨_, ⟨ht, pcv, a36, a39, a40, a44, rc, rfl, rest⟩, fun S4 k4 => ?_⟩
        refine eS rfl rfl ?_
        refine eS rfl rfl ?_
        refine gPut hn rfl rfl rfl rfl rfl rfl rfl cS_45 ?_
        exact k4
      have pre : ∀ (S4 : Nat → List Value) (y : Int32), aE aM128 (d + 5) 0 [(0, .ref 35)] [] (gH scr kd n S3') (aIs (some (.int y)) (gH scr kd n S4)) → aE aM155 (d + 7) 0 [(0, .ref 45), (1, .ref q)] [] (gH scr kd n S) (aIs none (gH scr kd n S4)) := by
        intro S4 y e4
        have e5 : aE aM159 (d + 6) 46 [(0, .ref 45), (1, .ref q)] [] (gH scr kd n S3') (aIs none (gH scr kd n S4)) := by
          refine eS rfl rfl ?_
          refine gGet hn rfl rfl rfl (by rw [R3'.k45]; rfl) ?_
          refine gV1 hn rfl rfl rfl rfl rfl ⟨catOk rfl, catOk rfl⟩ (e4) ?_
          refine eS rfl rfl ?_
          exact eR rfl rfl ⟨rfl, rfl⟩
        have el : aE aM159 (d + 6) 0 [(0, .ref 45), (1, .ref q)] [] (gH scr kd n S) (aIs none (gH scr kd n S4)) := by
          refine eS rfl rfl ?_
          refine eS rfl rfl ?_
          refine gV1 hn rfl rfl rfl rfl rfl ⟨catOk rfl, catOk rfl⟩ (e1) ?_
          refine eEq rfl rfl (fun z => absurd z (by decide)) (fun _ => ?_)
          refine eS rfl rfl ?_
          refine eGet rfl (R1.hq h87 hq) rfl rfl ?_
          refine eS rfl rfl ?_
          refine eS rfl rfl ?_
          refine gGet hn rfl rfl rfl (by rw [R1.k45]; rfl) ?_
          refine eS rfl rfl ?_
          refine eGet rfl (R1.hq h87 hq) rfl rfl ?_
          refine eS rfl rfl ?_
          refine gV1 hn rfl rfl rfl rfl rfl ⟨catOk rfl, catOk rfl⟩ (e2.deep (by omega)) ?_
          refine eEq rfl rfl (fun z => absurd z (by decide)) (fun _ => ?_)
          refine eS rfl rfl ?_
          refine eS rfl rfl ?_
          refine eGet rfl (R2.hq h87 hq) rfl rfl ?_
          refine eGet rfl (R2.hq q87 hqd') rfl rfl ?_
          refine gV1 hn rfl rfl rfl rfl rfl ⟨catOk rfl, catOk (by show Nat.ble (1 + (body'.category + 0)) 3 = true; rw [hv1]; rfl)⟩ ez ?_
          exact eu S4 e5
        refine eS rfl rfl ?_
        refine eGet rfl (hR.hq h87 hq) rfl rfl ?_
        refine eS rfl rfl ?_
        refine eS rfl rfl ?_
        refine eS rfl rfl ?_
        refine gV1 hn rfl rfl rfl rfl rfl ⟨catOk rfl, catOk rfl⟩ (el) ?_
        refine eS rfl rfl ?_
        exact eR rfl rfl ⟨rfl, rfl⟩
      by_cases hz3 : x3.2.1 = 0
      · obtain ⟨hfr, hpc3⟩ := b4.resolve_left (fun z => z hz3)
        have w17 : W x3.2.2.1 = 17 := hpc3.elim (fun z => by rw [z.2]; exact hj17) (fun z => z.2)
        have hle : (entA num (3 * fr.length) stk par).1.length ≤ x3.2.2.2.1.length := by
          have := (ok3.2 hz3).2.2.2
          rw [hfr] at this
          exact this.1
        obtain ⟨S4, y, R4, e4⟩ := w_leave (d := d + 4) (scr := scr) (kd := kd) (pc' := pc + 3) (b := pc + 3) (h := (entA num (3 * fr.length) stk par).1.length) (fr' := fr) hn hcc2 (fun _ => hfr) (fun _ => hle) R3'
        have e6 : itA W x3 = (x3.1, x3.2.1, pc + 3, x3.2.2.2.1.drop (x3.2.2.2.1.length - (entA num (3 * fr.length) stk par).1.length), fr, x3.2.2.2.2.2) := by
          rw [tk_no (Or.inr (Or.inl w17))]
          obtain ⟨l3, an3, pc3, stk3, fr3, par3, vrs3, t3⟩ := x3
          dsimp only at hz3 hfr w17
          subst hz3 hfr
          rw [oneA_ret w17]
        refine ⟨m1 + 1 + (m3 + 1), itA W x3, 0, S4, ?_, ?_, ?_, Or.inr ⟨?_, Or.inl ⟨rfl, ?_⟩⟩, Or.inl rfl, by rw [e6]; exact R4, pre S4 y e4⟩
        · rw [itN_add, (itN_more g1 rfl).trans ei]
          exact itN_more b1 hz3
        · rw [e6]; dsimp only; omega
        · rw [if_pos hz3] at b3
          rw [e6]
          dsimp only
          generalize (if x3.2.1 = 0 then 0 else 250) = z
          omega
        · rw [e6]; exact g4
        · rw [e6]
      · obtain ⟨S4, y, R4, e4⟩ := w_leave (d := d + 4) (scr := scr) (kd := kd) (pc' := pc + 3) (b := pc + 3) (h := 0) (fr' := fr) hn hcc2 (fun z => absurd z hz3) (fun z => absurd z hz3) R3'
        have R5 : wRep S0 pa cc x3 0 S4 := by
          obtain ⟨ht, pcv, a36, a39, a40, a44, rc, z0, z1, z2, z3, z4, z5, -⟩ := R4
          exact ⟨ht, pcv, a36, a39, a40, a44, rc, z0, z1, z2, z3, z4, z5, fun z => absurd z hz3⟩
        refine ⟨m1 + 1 + m3, x3, 0, S4, ?_, by omega, ?_, Or.inl hz3, Or.inl rfl, R5, pre S4 y e4⟩
        · rw [itN_add, (itN_more g1 rfl).trans ei]
          exact b1
        · rw [if_neg hz3] at b3 ⊢
          omega
  · rw [if_neg hz] at e1
    refine ⟨m1, x1, 0, S1, g1, Nat.le_of_eq g3, ?_, Or.inl hz, Or.inl rfl, R1, ?_⟩
    · rw [if_neg hz]
      omega
    · have el : aE aM159 (d + 6) 0 [(0, .ref 45), (1, .ref q)] [] (gH scr kd n S) (aIs none (gH scr kd n S1)) := by
        refine eS rfl rfl ?_
        refine eS rfl rfl ?_
        refine gV1 hn rfl rfl rfl rfl rfl ⟨catOk rfl, catOk rfl⟩ (e1) ?_
        refine eEq rfl rfl (fun _ => ?_) (fun z => absurd rfl z)
        exact eR rfl rfl ⟨rfl, rfl⟩
      refine eS rfl rfl ?_
      refine eGet rfl (hR.hq h87 hq) rfl rfl ?_
      refine eS rfl rfl ?_
      refine eS rfl rfl ?_
      refine eS rfl rfl ?_
      refine gV1 hn rfl rfl rfl rfl rfl ⟨catOk rfl, catOk rfl⟩ (el) ?_
      refine eS rfl rfl ?_
      exact eR rfl rfl ⟨rfl, rfl⟩
end WCL
