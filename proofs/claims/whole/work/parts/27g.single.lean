/-! single statements, walked -/
section WSG
variable {scr : List Value} {kd : Nat → Nat} {n pa N d tc q cc : Nat} {S S0 : Nat → List Value} {W : Nat → Nat} {P : Nat → Nat → Bool → Prop} {T : Nat → Nat × Nat × Nat} {D : Nat → Nat → Prop} {st : Int32} {f : Bool} {kind num frm to : Nat} {body : Value} {he : Int32} {els nxt : Value} {nm : Int64} {nos : Value} {tp : Int32} {dfn : Value} {cp : Int32} {a e m k k' : Nat} {x : aSx}
theorem wRep.k45 (h : wRep S0 pa cc x st S) : S 45 = kW pa x.1 st := by
  obtain ⟨ht, pc, a36, a39, a40, a44, rc, rfl, -⟩ := h
  rfl
theorem itN_more {x1 : aSx} {m1 : Nat} (h : itN W m1 x = x1) (h0 : x1.2.1 = 0) : itN W (m1 + 1) x = itA W x1 := by rw [itN_add, h, itN_1 h0]
theorem e_lt (hW : ∀ j, N ≤ j → W j = 27) (h : W e ≠ 27) : e < N := by
  refine Decidable.by_contra (fun z => h (hW e (by omega)))
theorem st_move (hn : 67 ≤ n) (hC : cOk W N P) (hN : N ≤ 240) (hW : ∀ j, N ≤ j → W j = 27) (hpp : pa = 46 ∨ pa = 51) (hT : trmS S0 pa tc T) (h87 : 87 ≤ q) (hq : (gH scr kd n S0)[q]? = some (30, stV kind num frm to body he els nxt nm nos tp dfn cp)) (hft : frm ≤ to) (hto : to ≤ tc) (ht : tTm W T f (to - frm) frm (a + 1) e k k') (hok : okX P x) (h0 : x.2.1 = 0) (hpc : x.2.2.1 = a + 1) (hR : wRep S0 pa cc x 0 S) (hk : kind = 18 ∨ kind = 19 ∨ kind = 20 ∨ kind = 21 ∨ kind = 22 ∨ kind = 23 ∨ kind = 24 ∨ kind = 25 ∨ kind = 26) (hw : W e = kind) (hm : m = e + 1) : wRes W S0 pa cc x m 248 (fun S' => aE aM155 (d + 7) 0 [(0, .ref 45), (1, .ref q)] [] (gH scr kd n S) (aIs none (gH scr kd n S'))) := by
  subst hm
  have he := e_lt (e := e) hW (by omega)
  obtain ⟨m1, x1, S1, g1, g2, g3, g4, g5, R1, ok1, e1⟩ := w_workOut (d := d + 3) (scr := scr) (kd := kd) hn hC hpp hT h87 hq hft hto ht hok h0 hpc hR
  by_cases hz : x1.2.1 = 0
  · obtain ⟨w1, w2, w3, S2, R2, e2⟩ := w_move (d := d + 1) (scr := scr) (kd := kd) hn hC ok1 hz (g5 hz) hw (by omega) R1
    refine ⟨m1 + 1, itA W x1, 0, S2, itN_more g1 hz, ?_, ?_, ?_, Or.inl rfl, R2, ?_⟩
    · rw [w1]; exact Nat.le_of_eq g3
    · generalize (if (itA W x1).2.1 = 0 then 0 else 250) = z
      omega
    · by_cases h2 : (itA W x1).2.1 = 0
      · exact Or.inr ⟨w2.trans g4, Or.inl ⟨rfl, w3 h2⟩⟩
      · exact Or.inl h2
    · rw [if_pos hz] at e1
      rcases hk with rfl | rfl | rfl | rfl | rfl | rfl | rfl | rfl | rfl
      · refine eS rfl rfl ?_
        refine eGet rfl (hR.hq h87 hq) rfl rfl ?_
        refine eS rfl rfl ?_
        refine eS rfl rfl ?_
        refine eS rfl rfl ?_
        refine gV1 hn rfl rfl rfl rfl rfl ⟨catOk rfl, catOk rfl⟩ (e1) ?_
        refine eEq rfl rfl (fun z => absurd z (by decide)) (fun _ => ?_)
        refine eS rfl rfl ?_
        refine gGet hn rfl rfl rfl (by rw [R1.k45]; rfl) ?_
        refine eS rfl rfl ?_
        refine eGet rfl (R1.hq h87 hq) rfl rfl ?_
        refine gV1 hn rfl rfl rfl rfl rfl ⟨catOk rfl, catOk rfl⟩ (e2) ?_
        exact eR rfl rfl ⟨rfl, rfl⟩
      · refine eS rfl rfl ?_
        refine eGet rfl (hR.hq h87 hq) rfl rfl ?_
        refine eS rfl rfl ?_
        refine eS rfl rfl ?_
        refine eS rfl rfl ?_
        refine gV1 hn rfl rfl rfl rfl rfl ⟨catOk rfl, catOk rfl⟩ (e1) ?_
        refine eEq rfl rfl (fun z => absurd z (by decide)) (fun _ => ?_)
        refine eS rfl rfl ?_
        refine gGet hn rfl rfl rfl (by rw [R1.k45]; rfl) ?_
        refine eS rfl rfl ?_
        refine eGet rfl (R1.hq h87 hq) rfl rfl ?_
        refine gV1 hn rfl rfl rfl rfl rfl ⟨catOk rfl, catOk rfl⟩ (e2) ?_
        exact eR rfl rfl ⟨rfl, rfl⟩
      · refine eS rfl rfl ?_
        refine eGet rfl (hR.hq h87 hq) rfl rfl ?_
        refine eS rfl rfl ?_
        refine eS rfl rfl ?_
        refine eS rfl rfl ?_
        refine gV1 hn rfl rfl rfl rfl rfl ⟨catOk rfl, catOk rfl⟩ (e1) ?_
        refine eEq rfl rfl (fun z => absurd z (by decide)) (fun _ => ?_)
        refine eS rfl rfl ?_
        refine gGet hn rfl rfl rfl (by rw [R1.k45]; rfl) ?_
        refine eS rfl rfl ?_
        refine eGet rfl (R1.hq h87 hq) rfl rfl ?_
        refine gV1 hn rfl rfl rfl rfl rfl ⟨catOk rfl, catOk rfl⟩ (e2) ?_
        exact eR rfl rfl ⟨rfl, rfl⟩
      · refine eS rfl rfl ?_
        refine eGet rfl (hR.hq h87 hq) rfl rfl ?_
        refine eS rfl rfl ?_
        refine eS rfl rfl ?_
        refine eS rfl rfl ?_
        refine gV1 hn rfl rfl rfl rfl rfl ⟨catOk rfl, catOk rfl⟩ (e1) ?_
        refine eEq rfl rfl (fun z => absurd z (by decide)) (fun _ => ?_)
        refine eS rfl rfl ?_
        refine gGet hn rfl rfl rfl (by rw [R1.k45]; rfl) ?_
        refine eS rfl rfl ?_
        refine eGet rfl (R1.hq h87 hq) rfl rfl ?_
        refine gV1 hn rfl rfl rfl rfl rfl ⟨catOk rfl, catOk rfl⟩ (e2) ?_
        exact eR rfl rfl ⟨rfl, rfl⟩
      · refine eS rfl rfl ?_
        refine eGet rfl (hR.hq h87 hq) rfl rfl ?_
        refine eS rfl rfl ?_
        refine eS rfl rfl ?_
        refine eS rfl rfl ?_
        refine gV1 hn rfl rfl rfl rfl rfl ⟨catOk rfl, catOk rfl⟩ (e1) ?_
        refine eEq rfl rfl (fun z => absurd z (by decide)) (fun _ => ?_)
        refine eS rfl rfl ?_
        refine gGet hn rfl rfl rfl (by rw [R1.k45]; rfl) ?_
        refine eS rfl rfl ?_
        refine eGet rfl (R1.hq h87 hq) rfl rfl ?_
        refine gV1 hn rfl rfl rfl rfl rfl ⟨catOk rfl, catOk rfl⟩ (e2) ?_
        exact eR rfl rfl ⟨rfl, rfl⟩
      · refine eS rfl rfl ?_
        refine eGet rfl (hR.hq h87 hq) rfl rfl ?_
        refine eS rfl rfl ?_
        refine eS rfl rfl ?_
        refine eS rfl rfl ?_
        refine gV1 hn rfl rfl rfl rfl rfl ⟨catOk rfl, catOk rfl⟩ (e1) ?_
        refine eEq rfl rfl (fun z => absurd z (by decide)) (fun _ => ?_)
        refine eS rfl rfl ?_
        refine gGet hn rfl rfl rfl (by rw [R1.k45]; rfl) ?_
        refine eS rfl rfl ?_
        refine eGet rfl (R1.hq h87 hq) rfl rfl ?_
        refine gV1 hn rfl rfl rfl rfl rfl ⟨catOk rfl, catOk rfl⟩ (e2) ?_
        exact eR rfl rfl ⟨rfl, rfl⟩
      · refine eS rfl rfl ?_
        refine eGet rfl (hR.hq h87 hq) rfl rfl ?_
        refine eS rfl rfl ?_
        refine eS rfl rfl ?_
        refine eS rfl rfl ?_
        refine gV1 hn rfl rfl rfl rfl rfl ⟨catOk rfl, catOk rfl⟩ (e1) ?_
        refine eEq rfl rfl (fun z => absurd z (by decide)) (fun _ => ?_)
        refine eS rfl rfl ?_
        refine gGet hn rfl rfl rfl (by rw [R1.k45]; rfl) ?_
        refine eS rfl rfl ?_
        refine eGet rfl (R1.hq h87 hq) rfl rfl ?_
        refine gV1 hn rfl rfl rfl rfl rfl ⟨catOk rfl, catOk rfl⟩ (e2) ?_
        exact eR rfl rfl ⟨rfl, rfl⟩
      · refine eS rfl rfl ?_
        refine eGet rfl (hR.hq h87 hq) rfl rfl ?_
        refine eS rfl rfl ?_
        refine eS rfl rfl ?_
        refine eS rfl rfl ?_
        refine gV1 hn rfl rfl rfl rfl rfl ⟨catOk rfl, catOk rfl⟩ (e1) ?_
        refine eEq rfl rfl (fun z => absurd z (by decide)) (fun _ => ?_)
        refine eS rfl rfl ?_
        refine gGet hn rfl rfl rfl (by rw [R1.k45]; rfl) ?_
        refine eS rfl rfl ?_
        refine eGet rfl (R1.hq h87 hq) rfl rfl ?_
        refine gV1 hn rfl rfl rfl rfl rfl ⟨catOk rfl, catOk rfl⟩ (e2) ?_
        exact eR rfl rfl ⟨rfl, rfl⟩
      · refine eS rfl rfl ?_
        refine eGet rfl (hR.hq h87 hq) rfl rfl ?_
        refine eS rfl rfl ?_
        refine eS rfl rfl ?_
        refine eS rfl rfl ?_
        refine gV1 hn rfl rfl rfl rfl rfl ⟨catOk rfl, catOk rfl⟩ (e1) ?_
        refine eEq rfl rfl (fun z => absurd z (by decide)) (fun _ => ?_)
        refine eS rfl rfl ?_
        refine gGet hn rfl rfl rfl (by rw [R1.k45]; rfl) ?_
        refine eS rfl rfl ?_
        refine eGet rfl (R1.hq h87 hq) rfl rfl ?_
        refine gV1 hn rfl rfl rfl rfl rfl ⟨catOk rfl, catOk rfl⟩ (e2) ?_
        exact eR rfl rfl ⟨rfl, rfl⟩
  · refine ⟨m1, x1, 0, S1, g1, Nat.le_of_eq g3, ?_, Or.inl hz, Or.inl rfl, R1, ?_⟩
    · rw [if_neg hz]
      omega
    · rw [if_neg hz] at e1
      rcases hk with rfl | rfl | rfl | rfl | rfl | rfl | rfl | rfl | rfl
      · refine eS rfl rfl ?_
        refine eGet rfl (hR.hq h87 hq) rfl rfl ?_
        refine eS rfl rfl ?_
        refine eS rfl rfl ?_
        refine eS rfl rfl ?_
        refine gV1 hn rfl rfl rfl rfl rfl ⟨catOk rfl, catOk rfl⟩ (e1) ?_
        refine eEq rfl rfl (fun _ => ?_) (fun z => absurd rfl z)
        exact eR rfl rfl ⟨rfl, rfl⟩
      · refine eS rfl rfl ?_
        refine eGet rfl (hR.hq h87 hq) rfl rfl ?_
        refine eS rfl rfl ?_
        refine eS rfl rfl ?_
        refine eS rfl rfl ?_
        refine gV1 hn rfl rfl rfl rfl rfl ⟨catOk rfl, catOk rfl⟩ (e1) ?_
        refine eEq rfl rfl (fun _ => ?_) (fun z => absurd rfl z)
        exact eR rfl rfl ⟨rfl, rfl⟩
      · refine eS rfl rfl ?_
        refine eGet rfl (hR.hq h87 hq) rfl rfl ?_
        refine eS rfl rfl ?_
        refine eS rfl rfl ?_
        refine eS rfl rfl ?_
        refine gV1 hn rfl rfl rfl rfl rfl ⟨catOk rfl, catOk rfl⟩ (e1) ?_
        refine eEq rfl rfl (fun _ => ?_) (fun z => absurd rfl z)
        exact eR rfl rfl ⟨rfl, rfl⟩
      · refine eS rfl rfl ?_
        refine eGet rfl (hR.hq h87 hq) rfl rfl ?_
        refine eS rfl rfl ?_
        refine eS rfl rfl ?_
        refine eS rfl rfl ?_
        refine gV1 hn rfl rfl rfl rfl rfl ⟨catOk rfl, catOk rfl⟩ (e1) ?_
        refine eEq rfl rfl (fun _ => ?_) (fun z => absurd rfl z)
        exact eR rfl rfl ⟨rfl, rfl⟩
      · refine eS rfl rfl ?_
        refine eGet rfl (hR.hq h87 hq) rfl rfl ?_
        refine eS rfl rfl ?_
        refine eS rfl rfl ?_
        refine eS rfl rfl ?_
        refine gV1 hn rfl rfl rfl rfl rfl ⟨catOk rfl, catOk rfl⟩ (e1) ?_
        refine eEq rfl rfl (fun _ => ?_) (fun z => absurd rfl z)
        exact eR rfl rfl ⟨rfl, rfl⟩
      · refine eS rfl rfl ?_
        refine eGet rfl (hR.hq h87 hq) rfl rfl ?_
        refine eS rfl rfl ?_
        refine eS rfl rfl ?_
        refine eS rfl rfl ?_
        refine gV1 hn rfl rfl rfl rfl rfl ⟨catOk rfl, catOk rfl⟩ (e1) ?_
        refine eEq rfl rfl (fun _ => ?_) (fun z => absurd rfl z)
        exact eR rfl rfl ⟨rfl, rfl⟩
      · refine eS rfl rfl ?_
        refine eGet rfl (hR.hq h87 hq) rfl rfl ?_
        refine eS rfl rfl ?_
        refine eS rfl rfl ?_
        refine eS rfl rfl ?_
        refine gV1 hn rfl rfl rfl rfl rfl ⟨catOk rfl, catOk rfl⟩ (e1) ?_
        refine eEq rfl rfl (fun _ => ?_) (fun z => absurd rfl z)
        exact eR rfl rfl ⟨rfl, rfl⟩
      · refine eS rfl rfl ?_
        refine eGet rfl (hR.hq h87 hq) rfl rfl ?_
        refine eS rfl rfl ?_
        refine eS rfl rfl ?_
        refine eS rfl rfl ?_
        refine gV1 hn rfl rfl rfl rfl rfl ⟨catOk rfl, catOk rfl⟩ (e1) ?_
        refine eEq rfl rfl (fun _ => ?_) (fun z => absurd rfl z)
        exact eR rfl rfl ⟨rfl, rfl⟩
      · refine eS rfl rfl ?_
        refine eGet rfl (hR.hq h87 hq) rfl rfl ?_
        refine eS rfl rfl ?_
        refine eS rfl rfl ?_
        refine eS rfl rfl ?_
        refine gV1 hn rfl rfl rfl rfl rfl ⟨catOk rfl, catOk rfl⟩ (e1) ?_
        refine eEq rfl rfl (fun _ => ?_) (fun z => absurd rfl z)
        exact eR rfl rfl ⟨rfl, rfl⟩
theorem st_let (hn : 67 ≤ n) (hC : cOk W N P) (hN : N ≤ 240) (hW : ∀ j, N ≤ j → W j = 27) (hpp : pa = 46 ∨ pa = 51) (hT : trmS S0 pa tc T) (h87 : 87 ≤ q) (hq : (gH scr kd n S0)[q]? = some (30, stV kind num frm to body he els nxt nm nos tp dfn cp)) (hft : frm ≤ to) (hto : to ≤ tc) (ht : tTm W T f (to - frm) frm (a + 1) e k k') (hok : okX P x) (h0 : x.2.1 = 0) (hpc : x.2.2.1 = a + 1) (hR : wRep S0 pa cc x 0 S) (hk : kind = 4 ∨ kind = 5) (hw : W e = kind) (hw2 : W (e + 1) = num) (hm : m = e + 2) : wRes W S0 pa cc x m 248 (fun S' => aE aM155 (d + 7) 0 [(0, .ref 45), (1, .ref q)] [] (gH scr kd n S) (aIs none (gH scr kd n S'))) := by
  subst hm
  have he := e_lt (e := e) hW (by omega)
  obtain ⟨m1, x1, S1, g1, g2, g3, g4, g5, R1, ok1, e1⟩ := w_workOut (d := d + 3) (scr := scr) (kd := kd) hn hC hpp hT h87 hq hft hto ht hok h0 hpc hR
  by_cases hz : x1.2.1 = 0
  · obtain ⟨w1, w2, w3, S2, R2, e2⟩ := w_let (d := d + 4) (scr := scr) (kd := kd) hn hC ok1 hz (g5 hz) hw hk R1
    rw [hw2] at e2
    refine ⟨m1 + 1, itA W x1, 0, S2, itN_more g1 hz, ?_, ?_, ?_, Or.inl rfl, R2, ?_⟩
    · rw [w1]; exact Nat.le_of_eq g3
    · generalize (if (itA W x1).2.1 = 0 then 0 else 250) = z
      omega
    · by_cases h2 : (itA W x1).2.1 = 0
      · exact Or.inr ⟨w2.trans g4, Or.inl ⟨rfl, w3 h2⟩⟩
      · exact Or.inl h2
    · rw [if_pos hz] at e1
      rcases hk with rfl | rfl
      · refine eS rfl rfl ?_
        refine eGet rfl (hR.hq h87 hq) rfl rfl ?_
        refine eS rfl rfl ?_
        refine eS rfl rfl ?_
        refine eS rfl rfl ?_
        refine gV1 hn rfl rfl rfl rfl rfl ⟨catOk rfl, catOk rfl⟩ (e1) ?_
        refine eEq rfl rfl (fun z => absurd z (by decide)) (fun _ => ?_)
        refine eS rfl rfl ?_
        refine gGet hn rfl rfl rfl (by rw [R1.k45]; rfl) ?_
        refine eS rfl rfl ?_
        refine eGet rfl (R1.hq h87 hq) rfl rfl ?_
        refine eS rfl rfl ?_
        refine eGet rfl (R1.hq h87 hq) rfl rfl ?_
        refine eS rfl rfl ?_
        refine gV1 hn rfl rfl rfl rfl rfl ⟨catOk rfl, catOk rfl⟩ (e2) ?_
        refine eS rfl rfl ?_
        exact eR rfl rfl ⟨rfl, rfl⟩
      · refine eS rfl rfl ?_
        refine eGet rfl (hR.hq h87 hq) rfl rfl ?_
        refine eS rfl rfl ?_
        refine eS rfl rfl ?_
        refine eS rfl rfl ?_
        refine gV1 hn rfl rfl rfl rfl rfl ⟨catOk rfl, catOk rfl⟩ (e1) ?_
        refine eEq rfl rfl (fun z => absurd z (by decide)) (fun _ => ?_)
        refine eS rfl rfl ?_
        refine gGet hn rfl rfl rfl (by rw [R1.k45]; rfl) ?_
        refine eS rfl rfl ?_
        refine eGet rfl (R1.hq h87 hq) rfl rfl ?_
        refine eS rfl rfl ?_
        refine eGet rfl (R1.hq h87 hq) rfl rfl ?_
        refine eS rfl rfl ?_
        refine gV1 hn rfl rfl rfl rfl rfl ⟨catOk rfl, catOk rfl⟩ (e2) ?_
        refine eS rfl rfl ?_
        exact eR rfl rfl ⟨rfl, rfl⟩
  · refine ⟨m1, x1, 0, S1, g1, Nat.le_of_eq g3, ?_, Or.inl hz, Or.inl rfl, R1, ?_⟩
    · rw [if_neg hz]
      omega
    · rw [if_neg hz] at e1
      rcases hk with rfl | rfl
      · refine eS rfl rfl ?_
        refine eGet rfl (hR.hq h87 hq) rfl rfl ?_
        refine eS rfl rfl ?_
        refine eS rfl rfl ?_
        refine eS rfl rfl ?_
        refine gV1 hn rfl rfl rfl rfl rfl ⟨catOk rfl, catOk rfl⟩ (e1) ?_
        refine eEq rfl rfl (fun _ => ?_) (fun z => absurd rfl z)
        exact eR rfl rfl ⟨rfl, rfl⟩
      · refine eS rfl rfl ?_
        refine eGet rfl (hR.hq h87 hq) rfl rfl ?_
        refine eS rfl rfl ?_
        refine eS rfl rfl ?_
        refine eS rfl rfl ?_
        refine gV1 hn rfl rfl rfl rfl rfl ⟨catOk rfl, catOk rfl⟩ (e1) ?_
        refine eEq rfl rfl (fun _ => ?_) (fun z => absurd rfl z)
        exact eR rfl rfl ⟨rfl, rfl⟩
theorem st_stop (hn : 67 ≤ n) (h87 : 87 ≤ q) (hq : (gH scr kd n S0)[q]? = some (30, stV kind num frm to body he els nxt nm nos tp dfn cp)) (hk : kind = 17) (hpc : x.2.2.1 = a + 1) (hw : W (a + 1) = 17) (hR : wRep S0 pa cc x 0 S) : wRes W S0 pa cc x m 248 (fun S' => aE aM155 (d + 7) 0 [(0, .ref 45), (1, .ref q)] [] (gH scr kd n S) (aIs none (gH scr kd n S'))) := by
  subst hk
  have hq' := hR.hq h87 hq
  obtain ⟨ht, pc, a36, a39, a40, a44, rc, rfl, rest⟩ := hR
  refine ⟨0, x, 1, _, rfl, Nat.le_refl _, Nat.zero_le _, Or.inr ⟨rfl, Or.inr ⟨rfl, by rw [hpc]; exact hw⟩⟩, Or.inr rfl, ⟨ht, pc, a36, a39, a40, a44, rc, rfl, rest⟩, ?_⟩
  refine eS rfl rfl ?_
  refine eGet rfl hq' rfl rfl ?_
  refine eS rfl rfl ?_
  refine eS rfl rfl ?_
  refine eS rfl rfl ?_
  refine gPut hn rfl rfl rfl rfl rfl rfl rfl cS_45 ?_
  refine eS rfl rfl ?_
  exact eR rfl rfl ⟨rfl, rfl⟩
theorem if_step (h0 : x.2.1 = 0) (hpc : x.2.2.1 = e) (hw : W e = 15) (hok : okX P x) (hC : cOk W N P) : ∃ f0 r, x.2.2.2.1 = f0 :: r ∧ gF f0 ∧ itA W x = (x.1, 0, if FP.fcmp f0 0 = some .eq then W (e + 1) else e + 2, r, x.2.2.2.2) := by
  obtain ⟨l, an, pc, stk, fr, par, vrs, t⟩ := x
  obtain ⟨l1, l2, l3, l4⟩ := hok.2 h0
  dsimp only at h0 hpc l1 l2 l3 l4
  subst h0 hpc
  obtain ⟨k1, f1, hP, hk, hf, hF⟩ := tyF_top l4
  obtain ⟨hpc, hT, hJ⟩ := hC.2 _ _ _ hP
  have h1 : 1 ≤ stk.length := by
    rcases tyW_op hT hk hf l3 with ⟨o, -⟩ | ⟨o, -⟩ | o | o | ⟨o, -⟩ | ⟨o, h1, -⟩ | ⟨o, -⟩ | ⟨-, o, -⟩ | ⟨-, o, -⟩
    all_goals omega
  obtain ⟨f0, r, rfl⟩ := stk1 h1
  refine ⟨f0, r, rfl, l2 f0 (by simp), ?_⟩
  unfold itA
  rw [if_neg]
  · rw [oneA_if (Or.inl hw)]
  · unfold tkA
    simp only [Bool.or_eq_true, Bool.and_eq_true, beq_iff_eq]
    omega
theorem jmp_step {j : Nat} (h0 : x.2.1 = 0) (hpc : x.2.2.1 = j) (hw : W j = 14) : itA W x = (x.1, 0, W (j + 1), x.2.2.2) := by
  obtain ⟨l, an, pc, stk, fr, par, vrs, t⟩ := x
  dsimp only at h0 hpc
  subst h0 hpc
  unfold itA
  rw [if_neg]
  · rw [oneA_jmp hw]
  · unfold tkA
    simp only [Bool.or_eq_true, Bool.and_eq_true, beq_iff_eq]
    omega
/-- a block that ends in a jump -/
theorem wRes.jump {b own : Nat} {Z : (Nat → List Value) → Prop} (hC : cOk W N P) (hok : okX P x) (h : wRes W S0 pa cc x b own Z) (hw : W b = 14) : wRes W S0 pa cc x (W (b + 1)) (own + 1) Z := by
  obtain ⟨m, x', st', S', g1, g2, g3, g4, g5, g6, g7⟩ := h
  by_cases hz : x'.2.1 = 0 ∧ st' = 0
  · obtain ⟨z0, rfl⟩ := hz
    rcases g4 with z | ⟨z1, z2⟩
    · exact absurd z0 z
    · have hp : x'.2.2.1 = b := z2.elim (fun y => y.2) (fun y => absurd y.1 (by decide))
      have e := jmp_step z0 hp hw
      refine ⟨m + 1, itA W x', 0, S', itN_more g1 z0, by rw [e]; exact g2, ?_, Or.inr ⟨by rw [e]; exact z1, Or.inl ⟨rfl, by rw [e]⟩⟩, Or.inl rfl, ?_, g7⟩
      · rw [if_pos z0] at g3
        rw [e, if_pos rfl]
        dsimp only
        omega
      · rw [e]
        obtain ⟨l, an, pc, stk, fr, par, vrs, t⟩ := x'
        dsimp only at z0
        subst z0
        exact g6
  · refine ⟨m, x', st', S', g1, g2, by omega, ?_, g5, g6, g7⟩
    rcases g4 with z | ⟨z1, z2⟩
    · exact Or.inl z
    · by_cases z0 : x'.2.1 = 0
      · rcases z2 with y | y
        · exact absurd ⟨z0, y.1⟩ hz
        · exact Or.inr ⟨z1, Or.inr y⟩
      · exact Or.inl z0
end WSG
