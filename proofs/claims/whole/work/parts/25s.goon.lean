/-! the machine goes on, on the class's side -/
def runA (W : Nat → Nat) : Nat → aSt → aSt
  | 0, s => s
  | f + 1, s => if s.1 = 0 then runA W f (oneA W s) else s
def ansA (s : aSt) : Int32 := if s.1 = 0 then 2 else s.1
theorem runA_ok {W : Nat → Nat} {P : Nat → Nat → Bool → Prop} {N : Nat} (hC : cOk W N P) : ∀ {f : Nat} {s : aSt}, okS s → (s.1 = 0 → okL P s) → okS (runA W f s) ∧ ((runA W f s).1 = 0 → okL P (runA W f s))
  | 0, s, h1, h2 => ⟨h1, h2⟩
  | f + 1, s, h1, h2 => by
    unfold runA
    by_cases h : s.1 = 0
    · rw [if_pos h]
      obtain ⟨an, pc, stk, fr, par, vrs, t⟩ := s
      have := oneA_ok hC h1 (h2 h)
      exact runA_ok hC this.1 this.2
    · rw [if_neg h]
      exact ⟨h1, h2⟩
section CGO
variable {scr : List Value} {kd : Nat → Nat} {n pa N d : Nat} {S S0 : Nat → List Value} {W : Nat → Nat} {P : Nat → Nat → Bool → Prop} {a36 a37 a38 a39 a40 a41 a42 a43 a44 : List Value} {ht cl pc an : Int32}
theorem c_isGoing (hn : 67 ≤ n) : aE aM120 d 0 [(0, .ref 35)] [] (gH scr kd n (cS S0 (kM ht cl pc an) a36 a37 a38 a39 a40 a41 a42 a43 a44)) (aIs (some (.int (if an = 0 then 1 else 0))) (gH scr kd n (cS S0 (kM ht cl pc an) a36 a37 a38 a39 a40 a41 a42 a43 a44))) := by
  refine eS rfl rfl ?_
  refine gGet hn rfl rfl rfl rfl ?_
  refine eNe rfl rfl (fun z4 => ?_) (fun z4 => ?_)
  · rw [if_neg z4]
    refine eS rfl rfl ?_
    exact eR rfl rfl ⟨rfl, rfl⟩
  · rw [if_pos z4]
    refine eS rfl rfl ?_
    refine eS rfl rfl ?_
    exact eR rfl rfl ⟨rfl, rfl⟩
theorem c_go_end {s : aSt} {l : aLc} (hn : 67 ≤ n) (hR : cRep S0 s S) : aE aM119 (d + 1) 24 ((3, .int cl) :: (0, .ref 35) :: l) [] (gH scr kd n S) (aIs (some (.int (ansA s))) (gH scr kd n S)) := by
  obtain ⟨ht, cl, pcv, a36, a39, a40, a44, rc, rfl, -⟩ := hR
  unfold ansA
  by_cases h : s.1 = 0
  · rw [if_pos h]
    refine eS rfl rfl ?_
    refine gV1 hn rfl rfl rfl rfl rfl ⟨catOk rfl, catOk rfl⟩ (c_isGoing hn) ?_
    rw [if_pos h]
    refine eEq rfl rfl (fun z => absurd z (by decide)) (fun _ => ?_)
    refine eS rfl rfl ?_
    refine eS rfl rfl ?_
    exact eR rfl rfl ⟨rfl, rfl⟩
  · rw [if_neg h]
    refine eS rfl rfl ?_
    refine gV1 hn rfl rfl rfl rfl rfl ⟨catOk rfl, catOk rfl⟩ (c_isGoing hn) ?_
    rw [if_neg h]
    refine eEq rfl rfl (fun _ => ?_) (fun z => absurd rfl z)
    refine eS rfl rfl ?_
    refine gGet hn rfl rfl rfl rfl ?_
    exact eR rfl rfl ⟨rfl, rfl⟩
theorem c_go_loop (hn : 67 ≤ n) (hp : prgS S0 pa N W) (hC : cOk W N P) {x : Int32} : ∀ (f : Nat) (s : aSt) (S : Nat → List Value), f ≤ 2000 → okS s → (s.1 = 0 → okL P s) → cRep S0 s S → ∃ S', cRep S0 (runA W f s) S' ∧ aE aM119 (d + 7) 2 [(3, .int (Int32.ofNat f)), (0, .ref 35), (1, .ref pa), (2, .int x)] [] (gH scr kd n S) (aIs (some (.int (ansA (runA W f s)))) (gH scr kd n S'))
  | 0, s, S, _, _, _, hR => by
    refine ⟨S, hR, ?_⟩
    refine eS rfl rfl ?_
    refine eLe rfl rfl (fun _ => ?_) (fun z => absurd (by decide) z)
    exact c_go_end hn hR
  | f + 1, s, S, hf, hS, hL, hR => by
    unfold runA
    by_cases h : s.1 = 0
    · rw [if_pos h]
      obtain ⟨S1, R1, e1⟩ := c_step (d := d) (scr := scr) (kd := kd) hn hp hC hS (hL h) h hR
      have ok := oneA_ok (an := s.1) (pc := s.2.1) (stk := s.2.2.1) (fr := s.2.2.2.1) (par := s.2.2.2.2.1) (vrs := s.2.2.2.2.2.1) (t := s.2.2.2.2.2.2) hC hS (hL h)
      obtain ⟨S2, R2, e2⟩ := c_go_loop hn hp hC (x := x) f (oneA W s) S1 (by omega) ok.1 ok.2 R1
      refine ⟨S2, R2, ?_⟩
      obtain ⟨ht, cl, pcv, a36, a39, a40, a44, rc, rfl, -⟩ := hR
      refine eS rfl rfl ?_
      refine eLe rfl rfl (fun z => absurd ((i32_le (a := f + 1) (b := 0) (by omega) (by decide)).mp z) (by omega)) (fun _ => ?_)
      refine eS rfl rfl ?_
      refine gV1 hn rfl rfl rfl rfl rfl ⟨catOk rfl, catOk rfl⟩ (c_isGoing hn) ?_
      rw [if_pos h]
      refine eEq rfl rfl (fun z => absurd z (by decide)) (fun _ => ?_)
      refine eS rfl rfl ?_
      refine eS rfl rfl ?_
      refine gV1 hn rfl rfl rfl rfl rfl ⟨catOk rfl, catOk rfl⟩ (e1) ?_
      refine eS rfl rfl ?_
      refine eS rfl rfl ?_
      refine eLoc (l' := [(3, .int (Int32.ofNat f)), (0, .ref 35), (1, .ref pa), (2, .int x)]) rfl ⟨congrArg (fun z => some (Value.int z)) ?_, rfl, rfl, rfl, trivial⟩ e2
      show Int32.ofNat (f + 1) + Int32.ofInt (-1) = Int32.ofNat f
      rw [← i32_succ, Int32.add_assoc]
      exact Int32.add_zero _
    · rw [if_neg h]
      refine ⟨S, hR, ?_⟩
      have e := c_go_end (d := d + 6) (scr := scr) (kd := kd) (cl := Int32.ofNat (f + 1)) (l := [(1, .ref pa), (2, .int x)]) hn hR
      obtain ⟨ht, cl, pcv, a36, a39, a40, a44, rc, rfl, -⟩ := hR
      refine eS rfl rfl ?_
      refine eLe rfl rfl (fun z => absurd ((i32_le (a := f + 1) (b := 0) (by omega) (by decide)).mp z) (by omega)) (fun _ => ?_)
      refine eS rfl rfl ?_
      refine gV1 hn rfl rfl rfl rfl rfl ⟨catOk rfl, catOk rfl⟩ (c_isGoing hn) ?_
      rw [if_neg h]
      refine eEq rfl rfl (fun _ => ?_) (fun z => absurd rfl z)
      exact e
theorem c_goOn (hn : 67 ≤ n) (hp : prgS S0 pa N W) (hC : cOk W N P) {f : Nat} {s : aSt} (hf : f ≤ 2000) (hS : okS s) (hL : s.1 = 0 → okL P s) (hR : cRep S0 s S) : ∃ S', cRep S0 (runA W f s) S' ∧ aE aM119 (d + 7) 0 [(0, .ref 35), (1, .ref pa), (2, .int (Int32.ofNat f))] [] (gH scr kd n S) (aIs (some (.int (ansA (runA W f s)))) (gH scr kd n S')) := by
  obtain ⟨S2, R2, e2⟩ := c_go_loop (d := d) (scr := scr) (kd := kd) hn hp hC (x := Int32.ofNat f) f s S hf hS hL hR
  refine ⟨S2, R2, ?_⟩
  refine eS rfl rfl ?_
  refine eS rfl rfl ?_
  exact e2
end CGO
