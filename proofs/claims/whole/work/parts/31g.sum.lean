section XSU
variable {scr : List Value} {kd : Nat → Nat} {n d L pa t cv cp tc : Nat} {S0 U : Nat → List Value} {fd ld lc fs fc : Value} {ep wc : Int32} {rv rp t1 t2 t3 : List Value} {ts : List aTk} {vs ps : List (List Nat)} {dp : Nat} {sm : xSt → Except Nat xSt} {Q : aOut → aH → Prop} {tm : List (Nat × Nat × Nat)}
theorem c_factor (hn : 67 ≤ n) (hpa : pa = 46 ∨ pa = 51) (hT : tcS S0 ts L) (hN : tsN ts) (hkA : ∀ t, kA ts t < 2 ^ 20) (hps : nmF 32 ps rp) (h3 : ps.length ≤ 3) (hpo : ∀ y ∈ ps, nmOk y) (hdp : dp ≤ 3) (hs : dp < 3 → xRd ts sm) (hsm : dp < 3 → ∀ x S, xOk ts x → (cX S0 U pa fd ld lc ep ps.length rp fs fc wc x S) → aE aM73 (d + 3) 0 [(0, .ref 22), (1, .int (Int32.ofNat (dp + 1)))] [] (gH scr kd n S) (xOut scr kd n S0 U pa fd ld lc ep ps.length rp fs fc wc ts (sm x))) (x : xSt) (S : Nat → List Value) (hx : xOk ts x) (hS : (cX S0 U pa fd ld lc ep ps.length rp fs fc wc x S)) : aE aM75 (d + 4) 0 [(0, .ref 22), (1, .int (Int32.ofNat dp))] [] (gH scr kd n S) (xOut scr kd n S0 U pa fd ld lc ep ps.length rp fs fc wc ts (fctA ts L ps sm dp x)) := by
  have hX := hS
  have hx0 := hx
  obtain ⟨rv, t1, t2, t3, rfl, hrv, h8, hF⟩ := hS
  have hl := hT.2.2.1
  obtain ⟨x1, x2, x3, x4⟩ := hx
  have xt : x.1 < 2 ^ 20 := by omega
  have q45 := i32_eq (a := kA ts x.1) (b := 45) (Nat.lt_trans (hkA _) (by decide)) (by decide)
  by_cases c : kA ts x.1 = 45
  · have hlt := kA_lt c (by decide)
    have ok1 : xOk ts (x.1 + 1, x.2) := ⟨by show x.1 + 1 ≤ _; omega, by show x.2.2.length ≤ x.1 + 1; omega, x3, x4⟩
    have ir := inrA_rd (L := L) (dp := dp) (ps := ps) (sm := sm) hN hs
    refine eS rfl rfl ?_
    refine gV1 hn rfl rfl rfl rfl rfl ⟨catOk rfl, catOk rfl⟩ (c_here hn hT xt) ?_
    refine eS rfl rfl ?_
    refine eINe rfl rfl (fun z => absurd (q45.mpr c) z) (fun _ => ?_)
    refine eS rfl rfl ?_
    refine eS rfl rfl ?_
    refine eS rfl rfl ?_
    refine eS rfl rfl ?_
    refine eEq rfl rfl (fun z => absurd z (by decide)) (fun _ => ?_)
    refine eS rfl rfl ?_
    refine eS rfl rfl ?_
    refine gGet hn rfl rfl rfl rfl ?_
    refine eS rfl rfl ?_
    refine eS rfl rfl ?_
    rw [i32_succ]
    refine gPut hn rfl rfl rfl rfl rfl rfl rfl rS_t ?_
    refine eLoc (l' := [(2, .int 1), (0, .ref 22), (1, .int (Int32.ofNat dp))]) rfl ⟨rfl, rfl, rfl, trivial⟩ ?_
    refine c_inner (b := 1) hn hpa hT hN hkA hps h3 hpo hdp hs hsm (x := (x.1 + 1, x.2)) ok1 ⟨rv, t1, t2, t3, rfl, hrv, h8, hF⟩ (fun y S' e hS' => ?_) (fun e x' S' he hx' hS' o h ho => ?_)
    · obtain ⟨yo, g1, g2, g3, g4⟩ := ir (x.1 + 1, x.2) y ok1 e
      have g1 : x.1 + 1 < y.1 := g1
      have g2 : y.2.2.length + (x.1 + 1) ≤ x.2.2.length + y.1 := g2
      obtain ⟨y1, y2, y3, y4⟩ := yo
      obtain ⟨rv2, u1, u2, u3, rfl, q1, q2, q3⟩ := hS'
      have e' : fctA ts L ps sm dp x = .ok (y.1, y.2.1, y.2.2 ++ [(10, 0, 0)]) := by unfold fctA; rw [if_pos c, e]
      rw [e']
      refine eS rfl rfl ?_
      refine eEq rfl rfl (fun z => absurd z (by decide)) (fun _ => ?_)
      refine eS rfl rfl ?_
      refine gGet hn rfl rfl rfl rfl ?_
      refine eS rfl rfl ?_
      refine eS rfl rfl ?_
      refine eS rfl rfl ?_
      refine eV1 rfl rfl (gH_at (by rcases hpa with rfl | rfl <;> decide) (by omega)) (pa_k0 hpa) rfl ⟨catOk rfl, catOk rfl⟩ (c_addTerm hn hpa (by omega) q3.1 q3.2.1 q3.2.2.1) ?_
      refine eR rfl rfl ⟨rfl, _, ⟨rv2, _, _, _, ?_, q1, q2, tmF_snoc (q := (10, 0, 0)) q3 (by omega)⟩, rfl⟩
      rw [List.length_append, List.length_singleton]
      rfl
    · have e' : fctA ts L ps sm dp x = .error e := by unfold fctA; rw [if_pos c, he]
      rw [e']
      exact ⟨x', S', hx', hS', ho⟩
  · have e0 : fctA ts L ps sm dp x = inrA ts L ps sm dp x := by unfold fctA; rw [if_neg c]
    rw [e0]
    refine eS rfl rfl ?_
    refine gV1 hn rfl rfl rfl rfl rfl ⟨catOk rfl, catOk rfl⟩ (c_here hn hT xt) ?_
    refine eS rfl rfl ?_
    refine eINe rfl rfl (fun _ => ?_) (fun z => absurd (q45.mp z) c)
    refine eS rfl rfl ?_
    refine eS rfl rfl ?_
    refine eS rfl rfl ?_
    refine eEq rfl rfl (fun _ => ?_) (fun z => (z rfl).elim)
    refine eLoc (l' := [(2, .int 0), (0, .ref 22), (1, .int (Int32.ofNat dp))]) rfl ⟨rfl, rfl, rfl, trivial⟩ ?_
    refine c_inner (b := 0) hn hpa hT hN hkA hps h3 hpo hdp hs hsm hx0 ⟨rv, t1, t2, t3, rfl, hrv, h8, hF⟩ (fun y S' e hS' => ?_) (fun e x' S' he hx' hS' o h ho => ?_)
    · rw [e]
      refine eS rfl rfl ?_
      refine eEq rfl rfl (fun _ => ?_) (fun z => (z rfl).elim)
      exact eR rfl rfl ⟨rfl, S', hS', rfl⟩
    · rw [he]
      exact ⟨x', S', hx', hS', ho⟩
theorem c_product (hn : 67 ≤ n) (hpa : pa = 46 ∨ pa = 51) (hT : tcS S0 ts L) (hN : tsN ts) (hkA : ∀ t, kA ts t < 2 ^ 20) (hps : nmF 32 ps rp) (h3 : ps.length ≤ 3) (hpo : ∀ y ∈ ps, nmOk y) (hdp : dp ≤ 3) (hs : dp < 3 → xRd ts sm) (hsm : dp < 3 → ∀ x S, xOk ts x → (cX S0 U pa fd ld lc ep ps.length rp fs fc wc x S) → aE aM73 (d + 3) 0 [(0, .ref 22), (1, .int (Int32.ofNat (dp + 1)))] [] (gH scr kd n S) (xOut scr kd n S0 U pa fd ld lc ep ps.length rp fs fc wc ts (sm x))) (x : xSt) (S : Nat → List Value) (hx : xOk ts x) (hS : (cX S0 U pa fd ld lc ep ps.length rp fs fc wc x S)) : aE aM74 (d + 5) 0 [(0, .ref 22), (1, .int (Int32.ofNat dp))] [] (gH scr kd n S) (xOut scr kd n S0 U pa fd ld lc ep ps.length rp fs fc wc ts (prdA ts L ps sm dp x)) := by
  have one : ∀ x S, xOk ts x → (cX S0 U pa fd ld lc ep ps.length rp fs fc wc x S) → aE aM75 (d + 4) 0 [(0, .ref 22), (1, .int (Int32.ofNat dp))] [] (gH scr kd n S) (xOut scr kd n S0 U pa fd ld lc ep ps.length rp fs fc wc ts (fctA ts L ps sm dp x)) := c_factor hn hpa hT hN hkA hps h3 hpo hdp hs hsm
  have hb := one x S hx hS
  have h1 : xRd ts (fctA ts L ps sm dp) := fctA_rd hN hs
  have hS0 := hS
  obtain ⟨rv, t1, t2, t3, rfl, hrv, h8, hF⟩ := hS
  unfold prdA
  refine eS rfl rfl ?_
  refine eS rfl rfl ?_
  refine gVx hn rfl rfl rfl rfl rfl ⟨catOk rfl, catOk rfl⟩ rfl hb (fun y S' e hS' => ?_) (fun e z S' he hz hS' o h ho => by rw [he]; exact ⟨z, S', hz, hS', ho⟩)
  refine eS rfl rfl ?_
  refine eS rfl rfl ?_
  rw [e]
  dsimp only
  exact eLoc (l' := [(2, .int (Int32.ofNat 0)), (0, .ref 22), (1, .int (Int32.ofNat dp))]) rfl ⟨rfl, rfl, rfl, trivial⟩ (c_prd_loop (d := d + 2) hn hpa hT hkA h1 one 160 0 y S' rfl (Nat.zero_le _) (h1 x y hx e).1 hS')
theorem c_sum (hn : 67 ≤ n) (hpa : pa = 46 ∨ pa = 51) (hT : tcS S0 ts L) (hN : tsN ts) (hkA : ∀ t, kA ts t < 2 ^ 20) (hps : nmF 32 ps rp) (h3 : ps.length ≤ 3) (hpo : ∀ y ∈ ps, nmOk y) (hdp : dp ≤ 3) (hs : dp < 3 → xRd ts sm) (hsm : dp < 3 → ∀ x S, xOk ts x → (cX S0 U pa fd ld lc ep ps.length rp fs fc wc x S) → aE aM73 (d + 3) 0 [(0, .ref 22), (1, .int (Int32.ofNat (dp + 1)))] [] (gH scr kd n S) (xOut scr kd n S0 U pa fd ld lc ep ps.length rp fs fc wc ts (sm x))) (x : xSt) (S : Nat → List Value) (hx : xOk ts x) (hS : (cX S0 U pa fd ld lc ep ps.length rp fs fc wc x S)) : aE aM73 (d + 6) 0 [(0, .ref 22), (1, .int (Int32.ofNat dp))] [] (gH scr kd n S) (xOut scr kd n S0 U pa fd ld lc ep ps.length rp fs fc wc ts (match prdA ts L ps sm dp x with | .error e => .error e | .ok y => lopA ts 43 45 6 7 (prdA ts L ps sm dp) 160 y)) := by
  have one : ∀ x S, xOk ts x → (cX S0 U pa fd ld lc ep ps.length rp fs fc wc x S) → aE aM74 (d + 5) 0 [(0, .ref 22), (1, .int (Int32.ofNat dp))] [] (gH scr kd n S) (xOut scr kd n S0 U pa fd ld lc ep ps.length rp fs fc wc ts (prdA ts L ps sm dp x)) := c_product hn hpa hT hN hkA hps h3 hpo hdp hs hsm
  have hb := one x S hx hS
  have h1 : xRd ts (prdA ts L ps sm dp) := prdA_rd hN hs
  have hS0 := hS
  obtain ⟨rv, t1, t2, t3, rfl, hrv, h8, hF⟩ := hS
  refine eS rfl rfl ?_
  refine eS rfl rfl ?_
  refine gVx hn rfl rfl rfl rfl rfl ⟨catOk rfl, catOk rfl⟩ rfl hb (fun y S' e hS' => ?_) (fun e z S' he hz hS' o h ho => by rw [he]; exact ⟨z, S', hz, hS', ho⟩)
  refine eS rfl rfl ?_
  refine eS rfl rfl ?_
  rw [e]
  dsimp only
  exact eLoc (l' := [(2, .int (Int32.ofNat 0)), (0, .ref 22), (1, .int (Int32.ofNat dp))]) rfl ⟨rfl, rfl, rfl, trivial⟩ (c_sum_loop (d := d + 3) hn hpa hT hkA h1 one 160 0 y S' rfl (Nat.zero_le _) (h1 x y hx e).1 hS')
theorem c_sumA (hn : 67 ≤ n) (hpa : pa = 46 ∨ pa = 51) (hT : tcS S0 ts L) (hN : tsN ts) (hkA : ∀ t, kA ts t < 2 ^ 20) (hps : nmF 32 ps rp) (h3 : ps.length ≤ 3) (hpo : ∀ y ∈ ps, nmOk y) : ∀ (f dp : Nat), dp + (f + 1) = 4 → ∀ x S, xOk ts x → (cX S0 U pa fd ld lc ep ps.length rp fs fc wc x S) → aE aM73 (d + 3 * f + 6) 0 [(0, .ref 22), (1, .int (Int32.ofNat dp))] [] (gH scr kd n S) (xOut scr kd n S0 U pa fd ld lc ep ps.length rp fs fc wc ts (sumA ts L ps (f + 1) dp x))
  | 0, dp, hd => c_sum (d := d) hn hpa hT hN hkA hps h3 hpo (by omega) (fun z => absurd z (by omega)) (fun z => absurd z (by omega))
  | f + 1, dp, hd => c_sum (d := d + 3 * f + 3) hn hpa hT hN hkA hps h3 hpo (by omega) (fun _ => sumA_rd hN (f + 1) (dp + 1)) (fun _ => c_sumA hn hpa hT hN hkA hps h3 hpo f (dp + 1) (by omega))
end XSU
