/-! a definition, read whole -/
section SDG
variable {scr : List Value} {n0 d L pa n q pc i j : Nat} {kd0 kd : Nat → Nat} {U0 S0 U S : Nat → List Value} {ts : List aTk} {ps : List (List Nat)} {rp : List Value} {x y : xSt} {K : List (Nat × cAl)} {D : List (Nat × dEf)} {dp : Int32} {res : aOut → aH → Prop} {f : Bool} {Q : aOut → aH → Prop} {nm : List Nat} {a tc0 : Nat}
theorem c_def (hF : cF ts L n0 S0 pa [] rp) (h : cI0 ts L n0 kd0 U0 S0 pa [] rp x K D kd n U S) (hq : n0 + 20 ≤ q) (hq2 : q < n + 20) (nk : (∀ p ∈ K, p.1 ≠ q) ∧ ∀ p ∈ D, p.1 ≠ q) (hlast : ∀ p ∈ D, p.1 < q) (hU : U q = stV 31 0 tc0 0 .null 0 .null .null 0 .null 0 .null 0) (hk : kA ts x.1 = 31)
    (kk : ∀ (pq : Nat × List (List Nat)) (y : sRes) (kd' : Nat → Nat) (n' : Nat) (U' S' : Nat → List Value) (K' : List (Nat × cAl)) (M : List (Nat × Nat)) (rp' : List Value) (b nos : Value) (z : Int64), kA ts (x.1 + 1) = 30 → hasD (D.map (fun p => p.2)) (nmA ts (x.1 + 1)) = false → prA ts L 3 (x.1 + 2) [] = .ok pq → bkA ts L pq.2 3 (a + 2) (pq.1, x.2) = .ok y → cF ts L n0 S0 pa [] rp' → cI0 ts L n0 kd0 U0 S0 pa [] rp' y.1 (K ++ K') (D ++ [(q, (nmA ts (x.1 + 1), pq.2.length, a + 2))]) kd' n' U' S' → K'.map (fun p => p.2) = y.2.2 → ((∀ p ∈ K', (p.1, p.2.2.2.1) ∈ M) ∧ mCv K' [] M) → n ≤ n' → n' + pq.1 ≤ n + y.1.1 → (∃ l, y.1.2.2 = x.2.2 ++ l) → U' q = stV 31 pq.2.length tc0 0 b 0 .null .null z nos 0 .null 0 → uBk true 3 U' y.1.2.2 (a + 2) b y.2.1 M (n + 20) (n' + 20) → (∀ p, p < n + 20 → kd' p = kd p ∧ (p ≠ q → fr9 (U p) (U' p))) → Q (.inl none) (gH scr kd' n' S'))
    (kx : ∀ e o h', dfA ts L a (x, D.map (fun p => p.2)) = .error e → cEr scr n0 kd0 U0 S0 pa e o h' → Q o h') : aE aM91 (d + 30) 0 [(0, .ref 22), (1, .ref q)] [] (gH scr kd n S) Q := by
  have hn0 := hF.1
  have hnn := h.2.1
  have hnb := h.2.2.1
  have hn : 67 ≤ n := by omega
  have hx := h.1
  have hlt : x.1 < ts.length := kA_lt hk (by decide)
  have hkb := hF.2.2.2.2.1 (x.1 + 1)
  have k30 := i32_eq (a := kA ts (x.1 + 1)) (b := 30) (by omega) (by omega)
  refine I_tick (by omega) rfl rfl rfl rfl rfl rfl rfl h hlt (fun S2 h2 => ?_)
  obtain ⟨z, hz, az⟩ := I_nameE (d := d + 29) (scr := scr) hF h2
  refine eS rfl rfl ?_
  refine eS rfl rfl ?_
  refine I_g22 rfl hF h2 (I_22 hF h2).1 ?_
  refine eS rfl rfl ?_
  refine I_g22 rfl hF h2 (I_22 hF h2).2.2.2.2.2.1 ?_
  refine gV1 hn rfl rfl rfl rfl rfl ⟨catOk rfl, catOk rfl⟩ (az) ?_
  refine I_put rfl rfl rfl rfl rfl hF h2 hq hq2 hU (Or.inl nk) (fun U3 S3 h3 u3 v3 => ?_)
  by_cases c : kA ts (x.1 + 1) = 30
  · have hnm := nmA_ok hF.2.2.2.1 c
    have hlt2 : x.1 + 1 < ts.length := kA_lt c (by decide)
    rw [hz c] at u3
    have ad := I_defOf (d := d + 29) (scr := scr) hF h3 hnm
    cases ef : D.find? (fun p => p.2.1 == nmA ts (x.1 + 1)) with
    | some p =>
      have ev : fndD D (nmA ts (x.1 + 1)) = .ref p.1 := by unfold fndD; rw [ef]
      rw [ev] at ad
      have eh : ¬ hasD (D.map (fun p => p.2)) (nmA ts (x.1 + 1)) = false := fun e => by rw [fndD_has.1 e] at ef; cases ef
      refine eS rfl rfl ?_
      refine gV1 hn rfl rfl rfl rfl rfl ⟨catOk rfl, catOk rfl⟩ (I_here hF h3) ?_
      refine eS rfl rfl ?_
      refine eINe rfl rfl (fun z => absurd (k30.mpr c) z) (fun _ => ?_)
      refine eS rfl rfl ?_
      refine eS rfl rfl ?_
      refine I_get rfl hF h3 hq hq2 u3 rfl ?_
      refine gV1 hn rfl rfl rfl rfl rfl ⟨catOk rfl, catOk rfl⟩ (ad) ?_
      refine eS rfl rfl ?_
      refine eS rfl rfl ?_
      exact I_ref hF h3 rfl rfl ⟨catOk rfl, catOk rfl⟩ rfl (fun o h' hc => kx _ o h' (by unfold dfA; rw [if_neg (fun w => eh w.2)]) hc)
    | none =>
      have ev : fndD D (nmA ts (x.1 + 1)) = .null := by unfold fndD; rw [ef]
      rw [ev] at ad
      have eh := fndD_has.2 ef
      refine eS rfl rfl ?_
      refine gV1 hn rfl rfl rfl rfl rfl ⟨catOk rfl, catOk rfl⟩ (I_here hF h3) ?_
      refine eS rfl rfl ?_
      refine eINe rfl rfl (fun z => absurd (k30.mpr c) z) (fun _ => ?_)
      refine eS rfl rfl ?_
      refine eS rfl rfl ?_
      refine I_get rfl hF h3 hq hq2 u3 rfl ?_
      refine gV1 hn rfl rfl rfl rfl rfl ⟨catOk rfl, catOk rfl⟩ (ad) ?_
      refine eS rfl rfl ?_
      refine eS rfl rfl ?_
      refine eS rfl rfl ?_
      refine I_exp (k := 30) (by decide) (by decide) hF h3 rfl rfl ⟨catOk rfl, catOk rfl⟩ rfl (fun S4 c4 h4 => ?_) (fun o h' c4 => absurd c c4)
      refine c_linkD (c := (nmA ts (x.1 + 1), 0, a + 2)) hF h4 hq hq2 hlast ⟨hnm, by rw [u3]; rfl, by rw [u3]; rfl, by rw [u3]; rfl⟩ (by rw [u3]; rfl) (fun U5 S5 h5 u5 v5 => ?_)
      refine eS rfl rfl ?_
      refine eS rfl rfl ?_
      refine c_prLoop (d := d + 27) 3 0 [] rp (x.1 + 2, x.2) S5 rfl rfl hF h5 (fun ps' rp' t S6 j' e6 hF6 h6 => ?_) (fun e o h' he hc => kx e o h' (by unfold dfA; rw [if_pos ⟨c, eh⟩]; dsimp only; rw [he]) hc)
      have u5 := u5.trans u3
      have sq5 : S6 q = U5 q := I_87 hn0 h6 q (by omega)
      have kq := h6.2.2.2.1.2 q hq hq2
      have h7 := I_putD (c := ps'.length) hn0 h6 hq hq2 nk
      have e32 : (S6 32)[1]? = some (.int (Int32.ofNat ps'.length)) := by
        obtain ⟨-, -, -, -, ⟨fd, fc, ⟨rv, t1, t2, t3, rfl, -⟩, -⟩, -⟩ := h6
        rfl
      refine eS rfl rfl ?_
      refine eS rfl rfl ?_
      refine I_g22 rfl hF6 h6 (I_22 hF6 h6).2.1 ?_
      refine gGet hn rfl rfl rfl e32 ?_
      refine gPutO rfl (by omega) hq2 rfl kq.1 (by rw [sq5]; exact kq.2) rfl rfl rfl ?_
      have u7 : aUp U5 q ((U5 q).set 1 (.int (Int32.ofNat ps'.length))) q = stV 31 ps'.length tc0 0 .null 0 .null .null (Int64.ofNat (pk 32 (nmA ts (x.1 + 1)))) .null 0 .null 0 := by rw [aUp_same, u5]; rfl
      have v7 : ∀ p, p ≠ q → aUp U5 q ((U5 q).set 1 (.int (Int32.ofNat ps'.length))) p = U5 p := fun p hp => aUp_ne hp
      generalize aUp U5 q ((U5 q).set 1 (.int (Int32.ofNat ps'.length))) = U7 at h7 u7 v7
      have t2 : x.1 + 2 ≤ t := by
        have hr := (prA_rd hF.2.2.2.1 3 (x.1 + 2) [] (t, ps') (by omega) (fun y hy => by cases hy) e6).2.1
        exact hr
      have hbk := c_bkA (scr := scr) (d := d + 1) (f := true) hF6 (fun _ => rfl) 3 0 rfl (a + 2) (t, x.2) K kd n U7 _ h7 (by show n ≤ n0 + t; omega)
      refine eS rfl rfl ?_
      refine eS rfl rfl ?_
      refine eS rfl rfl ?_
      have ed : ∀ w, bkA ts L ps' 3 (a + 2) (t, x.2) = .error w → dfA ts L a (x, D.map (fun p => p.2)) = .error w := fun w hw => by
        unfold dfA; rw [if_pos ⟨c, eh⟩]; dsimp only; rw [e6]; dsimp only; rw [hw]
      cases eb : bkA ts L ps' 3 (a + 2) (t, x.2) with
      | error w =>
        rw [eb] at hbk
        exact gVo hn rfl rfl rfl rfl rfl ⟨catOk rfl, catOk rfl⟩ rfl hbk (fun v h' zz => (cEr_no zz).elim) (fun q h' zz => kx w _ _ (ed w eb) zz)
      | ok y =>
        rw [eb] at hbk
        refine gVo hn rfl rfl rfl rfl rfl ⟨catOk rfl, catOk rfl⟩ rfl hbk (fun v h' zz => ?_) (fun q h' zz => ?_)
        · obtain ⟨kd8, n8, U8, S8, K8, M, b, z1, rfl, z2, z3, z4, z5, z6, ⟨l', z7⟩, zv, z8, z9⟩ := zz
          cases z1
          obtain ⟨nos, u8⟩ := stV_fr u7 (z9 q hq2).2
          refine I_put rfl rfl rfl rfl (aFit_v zv) hF6 z2 hq (by omega) u8 (Or.inr rfl) (fun U9 S9 h9 u9 v9 => ?_)
          obtain ⟨S10, hF10, h10, a10⟩ := I_forget (d := d + 29) (scr := scr) hF6 h9
          refine eS rfl rfl ?_
          refine I_g22 rfl hF6 h9 (I_22 hF6 h9).2.1 ?_
          refine gV1 (by omega) rfl rfl rfl rfl rfl ⟨catOk rfl, catOk rfl⟩ a10 ?_
          have z8' := uBk_mono (U' := U9) (l := []) 3 (fun p p1 p2 => by rw [v9 p (by omega)]; exact fr9_id) z8
          rw [List.append_nil] at z8'
          refine eR rfl rfl (kk (t, ps') y kd8 n8 U9 S10 K8 M rp' b nos _ c eh e6 eb hF10 h10 z3 z4 z5 (by show n8 + t ≤ n + y.1.1; exact z6) ⟨l', z7⟩ u9 z8' (fun p hp => ⟨(z9 p hp).1, fun hpq => ?_⟩))
          have w9 := (z9 p hp).2
          rw [v7 p hpq] at w9
          have w5 := v5 p hpq
          rw [v3 p hpq] at w5
          rw [v9 p hpq]
          exact fr9_trans w5 w9
        · obtain ⟨kd8, n8, U8, S8, K8, M, b, z1, -⟩ := zz
          cases z1
  · skip
    refine eS rfl rfl ?_
    refine gV1 hn rfl rfl rfl rfl rfl ⟨catOk rfl, catOk rfl⟩ (I_here hF h3) ?_
    refine eS rfl rfl ?_
    refine eINe rfl rfl (fun _ => ?_) (fun z => absurd (k30.mp z) c)
    refine eS rfl rfl ?_
    refine eS rfl rfl ?_
    exact I_exp (k := 30) (by decide) (by decide) hF h3 rfl rfl ⟨catOk rfl, catOk rfl⟩ rfl (fun S4 c4 h4 => absurd c4 c) (fun o h' c4 hc => kx _ o h' (by unfold dfA; rw [if_neg (fun w => c w.1)]) hc)
end SDG
