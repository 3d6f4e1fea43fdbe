/-! a factor, a product, a sum -/
section XFA
variable {scr : List Value} {kd : Nat → Nat} {n d L pa t cv cp tc : Nat} {S0 U : Nat → List Value} {fd ld lc fs fc : Value} {ep wc : Int32} {rv rp t1 t2 t3 : List Value} {ts : List aTk} {vs ps : List (List Nat)} {dp : Nat} {sm : xSt → Except Nat xSt} {Q : aOut → aH → Prop} {tm : List (Nat × Nat × Nat)}
theorem sw_fac {v : Int32} (h1 : v ≠ 1) (h2 : v ≠ 30) (h3 : v ≠ 40) : aBr (.lookupswitch 150 #[(1, 35), (30, 78), (40, 115)]) 33 [.int v] = some (183, []) := by
  have g1 : v.toInt ≠ 1 := fun z => h1 (Int32.toInt_inj.mp z)
  have g2 : v.toInt ≠ 30 := fun z => h2 (Int32.toInt_inj.mp z)
  have g3 : v.toInt ≠ 40 := fun z => h3 (Int32.toInt_inj.mp z)
  have e : Op.lookupswitch.offset [(1, 35), (30, 78), (40, 115)] 150 v.toInt = 150 := by
    simp [Op.lookupswitch.offset, Ne.symm g1, Ne.symm g2, Ne.symm g3]
  unfold aBr
  dsimp only
  rw [if_pos (by decide)]
  show (aTgt 33 (Op.lookupswitch.offset [(1, 35), (30, 78), (40, 115)] 150 v.toInt)).map (fun t => (t, ([] : List Value))) = _
  rw [e]
  rfl
theorem c_inner {b : Int32} (hn : 67 ≤ n) (hpa : pa = 46 ∨ pa = 51) (hT : tcS S0 ts L) (hN : tsN ts) (hkA : ∀ t, kA ts t < 2 ^ 20) (hps : nmF 32 ps rp) (h3 : ps.length ≤ 3) (hpo : ∀ y ∈ ps, nmOk y) (hdp : dp ≤ 3) (hs : dp < 3 → xRd ts sm) (hsm : dp < 3 → ∀ x S, xOk ts x → (cX S0 U pa fd ld lc ep ps.length rp fs fc wc x S) → aE aM73 (d + 3) 0 [(0, .ref 22), (1, .int (Int32.ofNat (dp + 1)))] [] (gH scr kd n S) (xOut scr kd n S0 U pa fd ld lc ep ps.length rp fs fc wc ts (sm x)))
    {x : xSt} {S : Nat → List Value} (hx : xOk ts x) (hS : (cX S0 U pa fd ld lc ep ps.length rp fs fc wc x S)) (k_ok : ∀ y S', inrA ts L ps sm dp x = .ok y → (cX S0 U pa fd ld lc ep ps.length rp fs fc wc y S') → aE aM75 (d + 4) 187 [(2, .int b), (0, .ref 22), (1, .int (Int32.ofNat dp))] [] (gH scr kd n S') Q) (k_err : ∀ e x' S', inrA ts L ps sm dp x = .error e → xOk ts x' → (cX S0 U pa fd ld lc (Int32.ofNat e) ps.length rp fs fc wc x' S') → ∀ o h, thr (gH scr kd n S') o h → Q o h) : aE aM75 (d + 4) 29 [(2, .int b), (0, .ref 22), (1, .int (Int32.ofNat dp))] [] (gH scr kd n S) Q := by
  have hX := hS
  obtain ⟨rv, t1, t2, t3, rfl, hrv, h8, hF⟩ := hS
  have hl := hT.2.2.1
  have hx0 := hx
  obtain ⟨x1, x2, x3, x4⟩ := hx
  have xt : x.1 < 2 ^ 20 := by omega
  have vk : ∀ j, j < 2 ^ 20 → kA ts x.1 ≠ j → Int32.ofNat (kA ts x.1) ≠ Int32.ofNat j := fun j hj hne z => hne ((i32_eq (Nat.lt_trans (hkA _) (by decide)) (Nat.lt_trans hj (by decide))).mp z)
  by_cases c1 : kA ts x.1 = 1
  · have hlt := kA_lt c1 (by decide)
    have e : inrA ts L ps sm dp x = .ok (x.1 + 1, x.2.1, x.2.2 ++ [(1, dgA ts x.1, bhA ts x.1)]) := by unfold inrA; rw [if_pos c1]
    refine eS rfl rfl ?_
    refine gV1 hn rfl rfl rfl rfl rfl ⟨catOk rfl, catOk rfl⟩ (c_here hn hT xt) ?_
    rw [c1]
    refine eS rfl rfl ?_
    refine eS rfl rfl ?_
    refine gGet hn rfl rfl rfl rfl ?_
    refine eS rfl rfl ?_
    refine eS rfl rfl ?_
    refine gGet hn rfl rfl rfl rfl ?_
    refine eS rfl rfl ?_
    refine gGet hn rfl rfl rfl rfl ?_
    refine gV1 hn rfl rfl rfl rfl rfl ⟨catOk rfl, catOk rfl⟩ (c_digitsAt hn (rS_tk hT) xt c1) ?_
    refine eS rfl rfl ?_
    refine gGet hn rfl rfl rfl rfl ?_
    refine eS rfl rfl ?_
    refine gGet hn rfl rfl rfl rfl ?_
    refine gV1 hn rfl rfl rfl rfl rfl ⟨catOk rfl, catOk rfl⟩ (c_behindAt hn (rS_tk hT) xt c1) ?_
    refine eV1 rfl rfl (gH_at (by rcases hpa with rfl | rfl <;> decide) (by omega)) (pa_k0 hpa) rfl ⟨catOk rfl, catOk rfl⟩ (c_addTerm hn hpa (by omega) hF.1 hF.2.1 hF.2.2.1) ?_
    refine eS rfl rfl ?_
    refine eS rfl rfl ?_
    refine gGet hn rfl rfl rfl rfl ?_
    refine eS rfl rfl ?_
    refine eS rfl rfl ?_
    rw [i32_succ]
    refine gPut hn rfl rfl rfl rfl rfl rfl rfl rS_t ?_
    refine eS rfl rfl ?_
    refine k_ok _ _ e ⟨rv, _, _, _, ?_, hrv, h8, tmF_snoc (q := (1, dgA ts x.1, bhA ts x.1)) hF (by omega)⟩
    rw [List.length_append, List.length_singleton]
    rfl
  by_cases c2 : kA ts x.1 = 30
  · have hlt := kA_lt c2 (by decide)
    have hnm := nmA_ok hN c2
    have ip := c_isPar (scr := scr) (kd := kd) (d := d + 2) (S0 := S0) (U := U) (pa := pa) (fd := fd) (ld := ld) (lc := lc) (ep := ep) (cv := x.2.1.length) (rv := rv) (fs := fs) (fc := fc) (tc := x.2.2.length) (wc := wc) (t1 := t1) (t2 := t2) (t3 := t3) hn hT xt c2 hps h3 hpo hnm rfl
    have nb := c_number2 (scr := scr) (kd := kd) (d := d + 1) (U := U) (pa := pa) (fd := fd) (ld := ld) (lc := lc) (ep := ep) (fs := fs) (fc := fc) (tc := x.2.2.length) (wc := wc) (t1 := t1) (t2 := t2) (t3 := t3) hn hT xt c2 hps h3 hpo hrv x3 x4 hnm rfl h8
    cases e : slA ps x.2.1 (nmA ts x.1) with
    | none =>
      have e' : inrA ts L ps sm dp x = .error (plA ts L x.1) := by unfold inrA; rw [if_neg c1, if_pos c2, e]
      have nb := nb.2 e
      refine eS rfl rfl ?_
      refine gV1 hn rfl rfl rfl rfl rfl ⟨catOk rfl, catOk rfl⟩ (c_here hn hT xt) ?_
      rw [c2]
      refine eS rfl rfl ?_
      refine eS rfl rfl ?_
      refine gGet hn rfl rfl rfl rfl ?_
      refine eS rfl rfl ?_
      refine gV1 hn rfl rfl rfl rfl rfl ⟨catOk rfl, catOk rfl⟩ (ip) ?_
      by_cases ep : fndV 0 ps (nmA ts x.1) = -1
      · rw [if_pos ep]
        refine eEq rfl rfl (fun _ => ?_) (fun z => (z rfl).elim)
        refine eS rfl rfl ?_
        refine eS rfl rfl ?_
        refine gVo hn rfl rfl rfl rfl rfl ⟨catOk rfl, catOk rfl⟩ rfl nb (fun v h' z => by cases z.1) (fun q h' z => k_err _ x _ e' hx0 ⟨rv, t1, t2, t3, rfl, hrv, h8, hF⟩ _ _ z)
      · rw [if_neg ep]
        refine eEq rfl rfl (fun z => absurd z (by decide)) (fun _ => ?_)
        refine eS rfl rfl ?_
        refine eS rfl rfl ?_
        refine eS rfl rfl ?_
        refine gVo hn rfl rfl rfl rfl rfl ⟨catOk rfl, catOk rfl⟩ rfl nb (fun v h' z => by cases z.1) (fun q h' z => k_err _ x _ e' hx0 ⟨rv, t1, t2, t3, rfl, hrv, h8, hF⟩ _ _ z)
    | some r =>
      obtain ⟨p, k, vs'⟩ := r
      have e' : inrA ts L ps sm dp x = .ok (x.1 + 1, vs', x.2.2 ++ [(p, k, 0)]) := by unfold inrA; rw [if_neg c1, if_pos c2, e]
      obtain ⟨rv', r1, r2, nb⟩ := nb.1 p k vs' e
      have hp : Int32.ofNat p = if fndV 0 ps (nmA ts x.1) = -1 then 2 else 3 := by
        unfold slA at e
        cases e1 : ps.findIdx? (fun y => y == nmA ts x.1) with
        | some j =>
          rw [e1] at e
          cases e
          have l1 := fnd_lt e1
          rw [fndV_some e1, if_neg (neg1_ne (by omega))]
          rfl
        | none =>
          rw [e1] at e
          rw [fndV_none e1, if_pos rfl]
          dsimp only at e
          cases e2 : x.2.1.findIdx? (fun y => y == nmA ts x.1) with
          | some j => rw [e2] at e; cases e; rfl
          | none =>
            rw [e2] at e
            dsimp only at e
            by_cases lt : x.2.1.length < 8
            · rw [if_pos lt] at e; cases e; rfl
            · rw [if_neg lt] at e; cases e
      refine eS rfl rfl ?_
      refine gV1 hn rfl rfl rfl rfl rfl ⟨catOk rfl, catOk rfl⟩ (c_here hn hT xt) ?_
      rw [c2]
      refine eS rfl rfl ?_
      refine eS rfl rfl ?_
      refine gGet hn rfl rfl rfl rfl ?_
      refine eS rfl rfl ?_
      refine gV1 hn rfl rfl rfl rfl rfl ⟨catOk rfl, catOk rfl⟩ (ip) ?_
      by_cases ep : fndV 0 ps (nmA ts x.1) = -1
      · rw [if_pos ep] at hp ⊢
        refine eEq rfl rfl (fun _ => ?_) (fun z => (z rfl).elim)
        refine eS rfl rfl ?_
        rw [show Value.int (Int32.ofInt 2) = .int (Int32.ofNat p) from congrArg Value.int hp.symm]
        refine eS rfl rfl ?_
        refine gV1 hn rfl rfl rfl rfl rfl ⟨catOk rfl, catOk rfl⟩ (nb) ?_
        refine eS rfl rfl ?_
        refine eV1 rfl rfl (gH_at (by rcases hpa with rfl | rfl <;> decide) (by omega)) (pa_k0 hpa) rfl ⟨catOk rfl, catOk rfl⟩ (c_addTerm hn hpa (by omega) hF.1 hF.2.1 hF.2.2.1) ?_
        refine eS rfl rfl ?_
        refine eS rfl rfl ?_
        refine gGet hn rfl rfl rfl rfl ?_
        refine eS rfl rfl ?_
        refine eS rfl rfl ?_
        rw [i32_succ]
        refine gPut hn rfl rfl rfl rfl rfl rfl rfl rS_t ?_
        refine eS rfl rfl ?_
        refine k_ok _ _ e' ⟨rv', _, _, _, ?_, r1, r2, tmF_snoc (q := (p, k, 0)) hF (by omega)⟩
        rw [List.length_append, List.length_singleton]
        rfl
      · rw [if_neg ep] at hp ⊢
        refine eEq rfl rfl (fun z => absurd z (by decide)) (fun _ => ?_)
        refine eS rfl rfl ?_
        refine eS rfl rfl ?_
        rw [show Value.int (Int32.ofInt 3) = .int (Int32.ofNat p) from congrArg Value.int hp.symm]
        refine eS rfl rfl ?_
        refine gV1 hn rfl rfl rfl rfl rfl ⟨catOk rfl, catOk rfl⟩ (nb) ?_
        refine eS rfl rfl ?_
        refine eV1 rfl rfl (gH_at (by rcases hpa with rfl | rfl <;> decide) (by omega)) (pa_k0 hpa) rfl ⟨catOk rfl, catOk rfl⟩ (c_addTerm hn hpa (by omega) hF.1 hF.2.1 hF.2.2.1) ?_
        refine eS rfl rfl ?_
        refine eS rfl rfl ?_
        refine gGet hn rfl rfl rfl rfl ?_
        refine eS rfl rfl ?_
        refine eS rfl rfl ?_
        rw [i32_succ]
        refine gPut hn rfl rfl rfl rfl rfl rfl rfl rS_t ?_
        refine eS rfl rfl ?_
        refine k_ok _ _ e' ⟨rv', _, _, _, ?_, r1, r2, tmF_snoc (q := (p, k, 0)) hF (by omega)⟩
        rw [List.length_append, List.length_singleton]
        rfl
  by_cases c3 : kA ts x.1 = 40
  · have hlt := kA_lt c3 (by decide)
    by_cases c4 : 3 ≤ dp
    · have e' : inrA ts L ps sm dp x = .error (plA ts L x.1) := by unfold inrA; rw [if_neg c1, if_neg c2, if_pos c3, if_pos c4]
      refine eS rfl rfl ?_
      refine gV1 hn rfl rfl rfl rfl rfl ⟨catOk rfl, catOk rfl⟩ (c_here hn hT xt) ?_
      rw [c3]
      refine eS rfl rfl ?_
      refine eS rfl rfl ?_
      refine eS rfl rfl ?_
      refine eILt rfl rfl (fun z => absurd ((i32_lt (a := dp) (b := 3) (by omega) (by omega)).mp z) (by omega)) (fun _ => ?_)
      refine eS rfl rfl ?_
      refine gVo hn rfl rfl rfl rfl rfl ⟨catOk rfl, catOk rfl⟩ rfl (c_refuseHere hn hT xt) (fun v h' z => by cases z.1) (fun q h' z => k_err _ x _ e' hx0 ⟨rv, t1, t2, t3, rfl, hrv, h8, hF⟩ _ _ z)
    · have hlt3 : dp < 3 := by omega
      have ok1 : xOk ts (x.1 + 1, x.2) := ⟨by show x.1 + 1 ≤ _; omega, by show x.2.2.length ≤ x.1 + 1; omega, x3, x4⟩
      have sb := hsm hlt3 (x.1 + 1, x.2) _ ok1 ⟨rv, t1, t2, t3, rfl, hrv, h8, hF⟩
      refine eS rfl rfl ?_
      refine gV1 hn rfl rfl rfl rfl rfl ⟨catOk rfl, catOk rfl⟩ (c_here hn hT xt) ?_
      rw [c3]
      refine eS rfl rfl ?_
      refine eS rfl rfl ?_
      refine eS rfl rfl ?_
      refine eILt rfl rfl (fun _ => ?_) (fun z => absurd ((i32_lt (a := dp) (b := 3) (by omega) (by omega)).mpr hlt3) z)
      refine eS rfl rfl ?_
      refine eS rfl rfl ?_
      refine gGet hn rfl rfl rfl rfl ?_
      refine eS rfl rfl ?_
      refine eS rfl rfl ?_
      rw [i32_succ]
      refine gPut hn rfl rfl rfl rfl rfl rfl rfl rS_t ?_
      refine eS rfl rfl ?_
      refine eS rfl rfl ?_
      refine eS rfl rfl ?_
      refine eS rfl rfl ?_
      rw [i32_succ]
      refine gVx hn rfl rfl rfl rfl rfl ⟨catOk rfl, catOk rfl⟩ rfl sb (fun y S' e hS' => ?_) (fun e z S' he hz hS' o h ho => k_err e z S' (by unfold inrA; rw [if_neg c1, if_neg c2, if_pos c3, if_neg c4, he]) hz hS' o h ho)
      obtain ⟨yo, g1, g2, g3, g4⟩ := hs hlt3 (x.1 + 1, x.2) y ok1 e
      obtain ⟨rv2, u1, u2, u3, rfl, q1, q2, q3⟩ := hS'
      have yt : y.1 < 2 ^ 20 := by have := yo.1; omega
      have ex := c_expect (scr := scr) (kd := kd) (d := d + 1) (U := U) (pa := pa) (fd := fd) (ld := ld) (lc := lc) (ep := ep) (cv := y.2.1.length) (rv := rv2) (cp := ps.length) (rp := rp) (fs := fs) (fc := fc) (tc := y.2.2.length) (wc := wc) (t1 := u1) (t2 := u2) (t3 := u3) (k := 41) hn hT yt (by decide) (hkA _)
      by_cases c5 : kA ts y.1 = 41
      · simp only [if_pos c5] at ex
        refine eS rfl rfl ?_
        refine eS rfl rfl ?_
        refine gV1 hn rfl rfl rfl rfl rfl ⟨catOk rfl, catOk rfl⟩ (ex) ?_
        refine eS rfl rfl ?_
        exact k_ok (y.1 + 1, y.2) _ (by unfold inrA; rw [if_neg c1, if_neg c2, if_pos c3, if_neg c4, e]; dsimp only; rw [if_pos c5]) ⟨rv2, u1, u2, u3, rfl, q1, q2, q3⟩
      · simp only [if_neg c5] at ex
        refine eS rfl rfl ?_
        refine eS rfl rfl ?_
        refine gVo hn rfl rfl rfl rfl rfl ⟨catOk rfl, catOk rfl⟩ rfl ex (fun v h' z => by cases z.1) (fun q h' z => k_err _ y _ (by unfold inrA; rw [if_neg c1, if_neg c2, if_pos c3, if_neg c4, e]; dsimp only; rw [if_neg c5]) yo ⟨rv2, u1, u2, u3, rfl, q1, q2, q3⟩ _ _ z)
  have e' : inrA ts L ps sm dp x = .error (plA ts L x.1) := by unfold inrA; rw [if_neg c1, if_neg c2, if_neg c3]
  refine eS rfl rfl ?_
  refine gV1 hn rfl rfl rfl rfl rfl ⟨catOk rfl, catOk rfl⟩ (c_here hn hT xt) ?_
  refine eB rfl rfl rfl (sw_fac (vk 1 (by decide) c1) (vk 30 (by decide) c2) (vk 40 (by decide) c3)) ?_
  refine eS rfl rfl ?_
  refine gVo hn rfl rfl rfl rfl rfl ⟨catOk rfl, catOk rfl⟩ rfl (c_refuseHere hn hT xt) (fun v h' z => by cases z.1) (fun q h' z => k_err _ x _ e' hx0 ⟨rv, t1, t2, t3, rfl, hrv, h8, hF⟩ _ _ z)
end XFA
