/-! the walker works out a statement's terms -/
section WOUT
variable {scr : List Value} {kd : Nat → Nat} {n pa N d tc q cc : Nat} {S S0 : Nat → List Value} {W : Nat → Nat} {P : Nat → Nat → Bool → Prop} {T : Nat → Nat × Nat × Nat} {st : Int32} {f : Bool} {kind num frm to : Nat} {body : Value} {he : Int32} {els nxt : Value} {nm : Int64} {nos : Value} {tp : Int32} {dfn : Value} {cp : Int32}
theorem w_out_end {x : aSx} {i : Nat} (hn : 67 ≤ n) (hpp : pa = 46 ∨ pa = 51) (hT : trmS S0 pa tc T) (h87 : 87 ≤ q) (hq : (gH scr kd n S0)[q]? = some (30, stV kind num frm to body he els nxt nm nos tp dfn cp)) (hto : to ≤ tc) (hi : i ≤ to) (h0 : x.2.1 ≠ 0 ∨ i = to) (hR : wRep S0 pa cc x st S) : aE aM157 (d + 3) 5 [(2, .int (Int32.ofNat i)), (0, .ref 45), (1, .ref q)] [] (gH scr kd n S) (aIs (some (.int (if x.2.1 = 0 then 1 else 0))) (gH scr kd n S)) := by
  obtain ⟨ht, pc, a36, a39, a40, a44, rc, rfl, -⟩ := hR
  have htc := hT.1
  have hpa : 45 < pa := by omega
  have hp : (Nat.ble 20 pa && Nat.blt pa 87) = true := by rcases hpp with rfl | rfl <;> rfl
  have hk : gK kd pa = 26 := by rcases hpp with rfl | rfl <;> rfl
  have hq' := (wH (scr := scr) (kd := kd) (n := n) (S0 := S0) (v45 := kW pa x.1 st) (a35 := kM ht (Int32.ofNat cc) pc x.2.1) (a36 := a36) (a37 := x.2.2.2.2.2.2.1.map Value.float) (a38 := x.2.2.2.2.2.1.map Value.float) (a39 := a39) (a40 := a40) (a41 := kT x.2.2.2.2.2.2.2.1 x.2.2.2.2.2.2.2.2.1 (Int32.ofNat x.2.2.2.2.2.2.2.2.2.1) x.2.2.2.2.2.2.2.2.2.2.1 x.2.2.2.2.2.2.2.2.2.2.2.1) (a42 := kPi rc) (a43 := x.2.2.2.2.2.2.2.2.2.2.2.2.map Value.int) (a44 := a44) (show 45 < q by omega)).trans hq
  have fin : aE aM157 (d + 3) 74 [(2, .int (Int32.ofNat i)), (0, .ref 45), (1, .ref q)] [] (gH scr kd n (cS (aUp S0 45 (kW pa x.1 st)) (kM ht (Int32.ofNat cc) pc x.2.1) a36 (x.2.2.2.2.2.2.1.map Value.float) (x.2.2.2.2.2.1.map Value.float) a39 a40 (kT x.2.2.2.2.2.2.2.1 x.2.2.2.2.2.2.2.2.1 (Int32.ofNat x.2.2.2.2.2.2.2.2.2.1) x.2.2.2.2.2.2.2.2.2.2.1 x.2.2.2.2.2.2.2.2.2.2.2.1) (kPi rc) (x.2.2.2.2.2.2.2.2.2.2.2.2.map Value.int) a44)) (aIs (some (.int (if x.2.1 = 0 then 1 else 0))) (gH scr kd n (cS (aUp S0 45 (kW pa x.1 st)) (kM ht (Int32.ofNat cc) pc x.2.1) a36 (x.2.2.2.2.2.2.1.map Value.float) (x.2.2.2.2.2.1.map Value.float) a39 a40 (kT x.2.2.2.2.2.2.2.1 x.2.2.2.2.2.2.2.2.1 (Int32.ofNat x.2.2.2.2.2.2.2.2.2.1) x.2.2.2.2.2.2.2.2.2.2.1 x.2.2.2.2.2.2.2.2.2.2.2.1) (kPi rc) (x.2.2.2.2.2.2.2.2.2.2.2.2.map Value.int) a44))) := by
    by_cases hz : x.2.1 = 0
    · rw [if_pos hz]
      refine eS rfl rfl ?_
      refine gGet hn rfl rfl rfl rfl ?_
      refine gV1 hn rfl rfl rfl rfl rfl ⟨catOk rfl, catOk rfl⟩ (c_isGoing hn) ?_
      rw [if_pos hz]
      exact eR rfl rfl ⟨rfl, rfl⟩
    · rw [if_neg hz]
      refine eS rfl rfl ?_
      refine gGet hn rfl rfl rfl rfl ?_
      refine gV1 hn rfl rfl rfl rfl rfl ⟨catOk rfl, catOk rfl⟩ (c_isGoing hn) ?_
      rw [if_neg hz]
      exact eR rfl rfl ⟨rfl, rfl⟩
  by_cases hlt : i < to
  · have h1 := h0.resolve_right (by omega)
    refine eS rfl rfl ?_
    refine eS rfl rfl ?_
    refine eGet rfl hq' rfl rfl ?_
    refine eIGe rfl rfl (fun z => absurd ((i32_le (a := to) (b := i) (by omega) (by omega)).mp z) (by omega)) (fun _ => ?_)
    refine eS rfl rfl ?_
    refine eS rfl rfl ?_
    refine gGet hn rfl rfl rfl rfl ?_
    refine gGet hn rfl hp hk (by rw [wS_ne hpa]; exact hT.2.2.2.2.1) ?_
    refine eIGe rfl rfl (fun z => absurd ((i32_le (a := tc) (b := i) (by omega) (by omega)).mp z) (by omega)) (fun _ => ?_)
    refine eS rfl rfl ?_
    refine gGet hn rfl rfl rfl rfl ?_
    refine gV1 hn rfl rfl rfl rfl rfl ⟨catOk rfl, catOk rfl⟩ (c_isGoing hn) ?_
    rw [if_neg h1]
    rw [if_neg h1] at fin
    refine eEq rfl rfl (fun _ => ?_) (fun z => absurd rfl z)
    exact fin
  · refine eS rfl rfl ?_
    refine eS rfl rfl ?_
    refine eGet rfl hq' rfl rfl ?_
    refine eIGe rfl rfl (fun _ => ?_) (fun z => absurd ((i32_le (a := to) (b := i) (by omega) (by omega)).mpr (by omega)) z)
    exact fin
theorem w_out {b : Nat} (hn : 67 ≤ n) (hC : cOk W N P) (hpp : pa = 46 ∨ pa = 51) (hT : trmS S0 pa tc T) (h87 : 87 ≤ q) (hq : (gH scr kd n S0)[q]? = some (30, stV kind num frm to body he els nxt nm nos tp dfn cp)) (hto : to ≤ tc) : ∀ (c i a k k' : Nat) (x : aSx) (S : Nat → List Value), tTm W T f c i a b k k' → i + c = to → okX P x → x.2.1 = 0 → x.2.2.1 = a → wRep S0 pa cc x st S → ∃ (m : Nat) (x' : aSx) (S' : Nat → List Value), itN W m x = x' ∧ a + m ≤ b ∧ x'.1 = x.1 ∧ x'.2.2.2.2.1 = x.2.2.2.2.1 ∧ (x'.2.1 = 0 → x'.2.2.1 = b) ∧ wRep S0 pa cc x' st S' ∧
    aE aM157 (d + 3) 5 [(2, .int (Int32.ofNat i)), (0, .ref 45), (1, .ref q)] [] (gH scr kd n S) (aIs (some (.int (if x'.2.1 = 0 then 1 else 0))) (gH scr kd n S'))
  | 0, i, a, k, k', x, S, ht, hi, hok, h0, hpc, hR => by
    obtain ⟨rfl, -⟩ := ht
    exact ⟨0, x, S, rfl, Nat.le_refl _, rfl, rfl, fun _ => hpc, hR, w_out_end hn hpp hT h87 hq hto (by omega) (Or.inr (by omega)) hR⟩
  | c + 1, i, a, k, k', x, S, ht, hi, hok, h0, hpc, hR => by
    obtain ⟨hw, hm, ht2⟩ := ht
    obtain ⟨w1, w2, w3, S1, R1, e1⟩ := w_term (d := d) (scr := scr) (kd := kd) hn hC hok h0 hpc hw hm hR
    have hok1 := itA_ok hC hok h0
    have le := tTm_le ht2
    have lp := lenA_pos (w := (T i).1)
    have rest : ∃ (m : Nat) (x' : aSx) (S' : Nat → List Value), itN W (m + 1) x = x' ∧ a + (m + 1) ≤ b ∧ x'.1 = x.1 ∧ x'.2.2.2.2.1 = x.2.2.2.2.1 ∧ (x'.2.1 = 0 → x'.2.2.1 = b) ∧ wRep S0 pa cc x' st S' ∧ aE aM157 (d + 3) 5 [(2, .int (Int32.ofNat (i + 1))), (0, .ref 45), (1, .ref q)] [] (gH scr kd n S1) (aIs (some (.int (if x'.2.1 = 0 then 1 else 0))) (gH scr kd n S')) := by
      by_cases hz : (itA W x).2.1 = 0
      · obtain ⟨m, x', S', g1, g2, g3, g4, g5, g6, g7⟩ := w_out hn hC hpp hT h87 hq hto c (i + 1) (a + lenA (T i).1) (tmH (T i).1 k) k' (itA W x) S1 ht2 (by omega) hok1 hz (w3 hz) R1
        refine ⟨m, x', S', ?_, by omega, g3.trans (by rw [w1]), g4.trans w2, g5, g6, g7⟩
        rw [itN_s, if_pos h0]
        exact g1
      · refine ⟨0, itA W x, S1, ?_, by omega, by rw [w1], w2, fun z => absurd z hz, R1, w_out_end hn hpp hT h87 hq hto (by omega) (Or.inl hz) R1⟩
        rw [itN_s, if_pos h0]
        rfl
    obtain ⟨m, x', S', g1, g2, g3, g4, g5, g6, g7⟩ := rest
    refine ⟨m + 1, x', S', g1, g2, g3, g4, g5, g6, ?_⟩
    obtain ⟨ht, pc, a36, a39, a40, a44, rc, rfl, -⟩ := hR
    have htc := hT.1
    have hpa : 45 < pa := by omega
    have hp : (Nat.ble 20 pa && Nat.blt pa 87) = true := by rcases hpp with rfl | rfl <;> rfl
    have hk : gK kd pa = 26 := by rcases hpp with rfl | rfl <;> rfl
    have p1 : (Nat.ble 20 (pa + 1) && Nat.blt (pa + 1) 87) = true := by rcases hpp with rfl | rfl <;> rfl
    have k1 : gK kd (pa + 1) = 0 := by rcases hpp with rfl | rfl <;> rfl
    have p2 : (Nat.ble 20 (pa + 2) && Nat.blt (pa + 2) 87) = true := by rcases hpp with rfl | rfl <;> rfl
    have k2 : gK kd (pa + 2) = 0 := by rcases hpp with rfl | rfl <;> rfl
    have p3 : (Nat.ble 20 (pa + 3) && Nat.blt (pa + 3) 87) = true := by rcases hpp with rfl | rfl <;> rfl
    have k3 : gK kd (pa + 3) = 0 := by rcases hpp with rfl | rfl <;> rfl
    have hTi := hT.2.2.2.2.2 i (by omega)
    have hq' := (wH (scr := scr) (kd := kd) (n := n) (S0 := S0) (v45 := kW pa x.1 st) (a35 := kM ht (Int32.ofNat cc) pc x.2.1) (a36 := a36) (a37 := x.2.2.2.2.2.2.1.map Value.float) (a38 := x.2.2.2.2.2.1.map Value.float) (a39 := a39) (a40 := a40) (a41 := kT x.2.2.2.2.2.2.2.1 x.2.2.2.2.2.2.2.2.1 (Int32.ofNat x.2.2.2.2.2.2.2.2.2.1) x.2.2.2.2.2.2.2.2.2.2.1 x.2.2.2.2.2.2.2.2.2.2.2.1) (a42 := kPi rc) (a43 := x.2.2.2.2.2.2.2.2.2.2.2.2.map Value.int) (a44 := a44) (show 45 < q by omega)).trans hq
    refine eS rfl rfl ?_
    refine eS rfl rfl ?_
    refine eGet rfl hq' rfl rfl ?_
    refine eIGe rfl rfl (fun z => absurd ((i32_le (a := to) (b := i) (by omega) (by omega)).mp z) (by omega)) (fun _ => ?_)
    refine eS rfl rfl ?_
    refine eS rfl rfl ?_
    refine gGet hn rfl rfl rfl rfl ?_
    refine gGet hn rfl hp hk (by rw [wS_ne hpa]; exact hT.2.2.2.2.1) ?_
    refine eIGe rfl rfl (fun z => absurd ((i32_le (a := tc) (b := i) (by omega) (by omega)).mp z) (by omega)) (fun _ => ?_)
    refine eS rfl rfl ?_
    refine gGet hn rfl rfl rfl rfl ?_
    refine gV1 hn rfl rfl rfl rfl rfl ⟨catOk rfl, catOk rfl⟩ (c_isGoing hn) ?_
    rw [if_pos h0]
    refine eEq rfl rfl (fun z => absurd z (by decide)) (fun _ => ?_)
    refine eS rfl rfl ?_
    refine gGet hn rfl rfl rfl rfl ?_
    refine eS rfl rfl ?_
    refine gGet hn rfl rfl rfl rfl ?_
    refine gGet hn rfl hp hk (by rw [wS_ne hpa]; exact hT.2.1) ?_
    refine eS rfl rfl ?_
    refine gRd0 hn rfl p1 k1 i (by omega) (by rw [wS_ne (by omega)]; exact hTi.1) ?_
    refine eS rfl rfl ?_
    refine gGet hn rfl rfl rfl rfl ?_
    refine gGet hn rfl hp hk (by rw [wS_ne hpa]; exact hT.2.2.1) ?_
    refine eS rfl rfl ?_
    refine gRd0 hn rfl p2 k2 i (by omega) (by rw [wS_ne (by omega)]; exact hTi.2.1) ?_
    refine eS rfl rfl ?_
    refine gGet hn rfl rfl rfl rfl ?_
    refine gGet hn rfl hp hk (by rw [wS_ne hpa]; exact hT.2.2.2.1) ?_
    refine eS rfl rfl ?_
    refine gRd0 hn rfl p3 k3 i (by omega) (by rw [wS_ne (by omega)]; exact hTi.2.2) ?_
    refine gV1 hn rfl rfl rfl rfl rfl ⟨catOk rfl, catOk rfl⟩ (e1) ?_
    refine eS rfl rfl ?_
    refine eS rfl rfl ?_
    refine eLoc (l' := [(2, .int (Int32.ofNat (i + 1))), (0, .ref 45), (1, .ref q)]) rfl ⟨congrArg (fun z => some (Value.int z)) i32_succ, rfl, rfl, trivial⟩ ?_
    exact g7.deep (by omega)
end WOUT
