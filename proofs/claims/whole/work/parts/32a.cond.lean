/-! a condition -/
def relV (k : Nat) : Nat := if k = 60 then 11 else if k = 62 then 12 else 13
def cndA (ts : List aTk) (L : Nat) (ps : List (List Nat)) (x : xSt) : Except Nat xSt :=
  match sumA ts L ps 4 0 x with
  | .error e => .error e
  | .ok y => if kA ts y.1 = 60 ∨ kA ts y.1 = 62 ∨ kA ts y.1 = 61 then
      match sumA ts L ps 4 0 (y.1 + 1, y.2) with
      | .error e => .error e
      | .ok z => .ok (z.1, z.2.1, z.2.2 ++ [(relV (kA ts y.1), 0, 0)])
    else .error (plA ts L y.1)
section CND
variable {scr : List Value} {kd : Nat → Nat} {n d L pa t cv cp tc : Nat} {S0 U : Nat → List Value} {fd ld lc fs fc : Value} {ep wc : Int32} {rv rp t1 t2 t3 : List Value} {ts : List aTk} {vs ps : List (List Nat)} {dp : Nat} {sm : xSt → Except Nat xSt} {Q : aOut → aH → Prop} {tm : List (Nat × Nat × Nat)}
theorem cndA_rd (hN : tsN ts) : xRd ts (cndA ts L ps) := by
  intro x y hx h
  unfold cndA at h
  cases e : sumA ts L ps 4 0 x with
  | error z => rw [e] at h; cases h
  | ok w =>
    rw [e] at h
    dsimp only at h
    obtain ⟨⟨w1, w2, w3, w4⟩, g1, g2, ⟨l, g3⟩, ⟨l', g4⟩⟩ := sumA_rd hN 4 0 x w hx e
    by_cases c : kA ts w.1 = 60 ∨ kA ts w.1 = 62 ∨ kA ts w.1 = 61
    · rw [if_pos c] at h
      have hlt : w.1 < ts.length := by
        rcases c with c | c | c <;> exact kA_lt c (by decide)
      cases e2 : sumA ts L ps 4 0 (w.1 + 1, w.2) with
      | error z => rw [e2] at h; cases h
      | ok z =>
        rw [e2] at h
        cases h
        obtain ⟨⟨z1, z2, z3, z4⟩, f1, f2, ⟨m, f3⟩, ⟨m', f4⟩⟩ := sumA_rd hN 4 0 (w.1 + 1, w.2) z ⟨by show w.1 + 1 ≤ _; omega, by show w.2.2.length ≤ w.1 + 1; omega, w3, w4⟩ e2
        have f1 : w.1 + 1 < z.1 := f1
        have f2 : z.2.2.length + (w.1 + 1) ≤ w.2.2.length + z.1 := f2
        have f3 : z.2.2 = w.2.2 ++ m := f3
        have f4 : z.2.1 = w.2.1 ++ m' := f4
        refine ⟨⟨z1, by rw [List.length_append, List.length_singleton]; show _ ≤ z.1; omega, z3, z4⟩, by show x.1 < z.1; omega, ?_, ⟨l ++ m ++ [(relV (kA ts w.1), 0, 0)], ?_⟩, ⟨l' ++ m', ?_⟩⟩
        · rw [List.length_append, List.length_singleton]
          show _ ≤ _ + z.1
          omega
        · show z.2.2 ++ _ = _
          rw [f3, g3]
          simp only [List.append_assoc]
        · show z.2.1 = _
          rw [f4, g4, List.append_assoc]
    · rw [if_neg c] at h; cases h
theorem sw_rel {v : Int32} (h1 : v ≠ 60) (h2 : v ≠ 62) (h3 : v ≠ 61) : aBr (.tableswitch 36 60 62 #[27, 33, 30]) 1 [.int v] = some (37, []) := by
  have g1 : v.toInt ≠ 60 := fun z => h1 (Int32.toInt_inj.mp z)
  have g2 : v.toInt ≠ 62 := fun z => h2 (Int32.toInt_inj.mp z)
  have g3 : v.toInt ≠ 61 := fun z => h3 (Int32.toInt_inj.mp z)
  unfold aBr
  dsimp only
  rw [if_pos (show v.toInt < 60 ∨ 62 < v.toInt by omega)]
  rfl
theorem c_rel {k : Nat} (hk : k < 2 ^ 20) {h : aH} : aE aM89 d 0 [(0, .int (Int32.ofNat k))] [] h (aIs (some (.int (if k = 60 ∨ k = 62 ∨ k = 61 then Int32.ofNat (relV k) else -1))) h) := by
  have vk : ∀ j, j < 2 ^ 20 → k ≠ j → Int32.ofNat k ≠ Int32.ofNat j := fun j hj hne z => hne ((i32_eq (by omega) (by omega)).mp z)
  by_cases c1 : k = 60
  · subst c1
    refine eS rfl rfl ?_
    refine eS rfl rfl ?_
    refine eS rfl rfl ?_
    exact eR rfl rfl ⟨rfl, rfl⟩
  by_cases c2 : k = 62
  · subst c2
    refine eS rfl rfl ?_
    refine eS rfl rfl ?_
    refine eS rfl rfl ?_
    exact eR rfl rfl ⟨rfl, rfl⟩
  by_cases c3 : k = 61
  · subst c3
    refine eS rfl rfl ?_
    refine eS rfl rfl ?_
    refine eS rfl rfl ?_
    exact eR rfl rfl ⟨rfl, rfl⟩
  rw [if_neg (by omega)]
  refine eS rfl rfl ?_
  refine eB rfl rfl rfl (sw_rel (vk 60 (by decide) c1) (vk 62 (by decide) c2) (vk 61 (by decide) c3)) ?_
  refine eS rfl rfl ?_
  exact eR rfl rfl ⟨rfl, rfl⟩
theorem c_cond (hn : 67 ≤ n) (hpa : pa = 46 ∨ pa = 51) (hT : tcS S0 ts L) (hN : tsN ts) (hkA : ∀ t, kA ts t < 2 ^ 20) (hps : nmF 32 ps rp) (h3 : ps.length ≤ 3) (hpo : ∀ y ∈ ps, nmOk y) (x : xSt) (S : Nat → List Value) (hx : xOk ts x) (hS : (cX S0 U pa fd ld lc ep ps.length rp fs fc wc x S)) : aE aM88 (d + 16) 0 [(0, .ref 22)] [] (gH scr kd n S) (xOut scr kd n S0 U pa fd ld lc ep ps.length rp fs fc wc ts (cndA ts L ps x)) := by
  have sx := c_sumA (d := d) (scr := scr) (kd := kd) (U := U) (fd := fd) (ld := ld) (lc := lc) (ep := ep) (fs := fs) (fc := fc) (wc := wc) hn hpa hT hN hkA hps h3 hpo 3 0 rfl
  have hb := sx x S hx hS
  have hS0 := hS
  obtain ⟨rv, t1, t2, t3, rfl, hrv, h8, hF⟩ := hS
  have hl := hT.2.2.1
  refine eS rfl rfl ?_
  refine eS rfl rfl ?_
  refine gVx hn rfl rfl rfl rfl rfl ⟨catOk rfl, catOk rfl⟩ rfl hb (fun y S1 e1 hS1 => ?_) (fun e z S' he hz hS' o h ho => by rw [show cndA ts L ps x = .error e by unfold cndA; rw [he]]; exact ⟨z, S', hz, hS', ho⟩)
  obtain ⟨⟨y1, y2, y3, y4⟩, g1, g2, g3, g4⟩ := sumA_rd hN 4 0 x y hx e1
  obtain ⟨rv2, u1, u2, u3, rfl, q1, q2, q3⟩ := hS1
  have yt : y.1 < 2 ^ 20 := by omega
  refine eS rfl rfl ?_
  refine gV1 hn rfl rfl rfl rfl rfl ⟨catOk rfl, catOk rfl⟩ (c_here hn hT yt) ?_
  refine eC1 rfl rfl rfl ⟨catOk rfl, catOk rfl⟩ (c_rel (hkA _)) ?_
  refine eS rfl rfl ?_
  by_cases c : kA ts y.1 = 60 ∨ kA ts y.1 = 62 ∨ kA ts y.1 = 61
  · rw [if_pos c]
    have hlt : y.1 < ts.length := by
      rcases c with c | c | c <;> exact kA_lt c (by decide)
    have rb : relV (kA ts y.1) < 2 ^ 20 := by
      unfold relV
      split
      · decide
      · split <;> decide
    have ok1 : xOk ts (y.1 + 1, y.2) := ⟨by show y.1 + 1 ≤ _; omega, by show y.2.2.length ≤ y.1 + 1; omega, y3, y4⟩
    have hb2 := sx (y.1 + 1, y.2) _ ok1 ⟨rv2, u1, u2, u3, rfl, q1, q2, q3⟩
    refine eS rfl rfl ?_
    refine eS rfl rfl ?_
    refine eINe rfl rfl (fun _ => ?_) (fun z => absurd z (neg1_ne rb))
    refine eS rfl rfl ?_
    refine eS rfl rfl ?_
    refine gGet hn rfl rfl rfl rfl ?_
    refine eS rfl rfl ?_
    refine eS rfl rfl ?_
    rw [i32_succ]
    refine gPut hn rfl rfl rfl rfl rfl rfl rfl rS_t ?_
    refine eS rfl rfl ?_
    refine eS rfl rfl ?_
    refine gVx hn rfl rfl rfl rfl rfl ⟨catOk rfl, catOk rfl⟩ rfl hb2 (fun z S2 e2 hS2 => ?_) (fun e z S' he hz hS' o h ho => by rw [show cndA ts L ps x = .error e by unfold cndA; rw [e1]; dsimp only; rw [if_pos c, he]]; exact ⟨z, S', hz, hS', ho⟩)
    obtain ⟨⟨z1, z2, z3, z4⟩, f1, f2, -, -⟩ := sumA_rd hN 4 0 (y.1 + 1, y.2) z ok1 e2
    have f1 : y.1 + 1 < z.1 := f1
    have f2 : z.2.2.length + (y.1 + 1) ≤ y.2.2.length + z.1 := f2
    obtain ⟨rv3, w1, w2, w3, rfl, r1, r2, r3⟩ := hS2
    rw [show cndA ts L ps x = .ok (z.1, z.2.1, z.2.2 ++ [(relV (kA ts y.1), 0, 0)]) by unfold cndA; rw [e1]; dsimp only; rw [if_pos c, e2]]
    refine eS rfl rfl ?_
    refine gGet hn rfl rfl rfl rfl ?_
    refine eS rfl rfl ?_
    refine eS rfl rfl ?_
    refine eS rfl rfl ?_
    refine eV1 rfl rfl (gH_at (by rcases hpa with rfl | rfl <;> decide) (by omega)) (pa_k0 hpa) rfl ⟨catOk rfl, catOk rfl⟩ (c_addTerm hn hpa (by omega) r3.1 r3.2.1 r3.2.2.1) ?_
    refine eR rfl rfl ⟨rfl, _, ⟨rv3, _, _, _, ?_, r1, r2, tmF_snoc (q := (relV (kA ts y.1), 0, 0)) r3 (by omega)⟩, rfl⟩
    rw [List.length_append, List.length_singleton]
    rfl
  · rw [if_neg c]
    have e' : cndA ts L ps x = .error (plA ts L y.1) := by unfold cndA; rw [e1]; dsimp only; rw [if_neg c]
    rw [e']
    refine eS rfl rfl ?_
    refine eS rfl rfl ?_
    refine eINe rfl rfl (fun z => absurd rfl z) (fun _ => ?_)
    refine eS rfl rfl ?_
    refine gVo hn rfl rfl rfl rfl rfl ⟨catOk rfl, catOk rfl⟩ rfl (c_refuseHere hn hT yt) (fun v h' z => by cases z.1) (fun q h' z => ⟨y, _, ⟨y1, y2, y3, y4⟩, ⟨rv2, u1, u2, u3, rfl, q1, q2, q3⟩, z⟩)
end CND
