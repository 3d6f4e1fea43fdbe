/-! if, read; all statements -/
section SIF
variable {scr : List Value} {n0 d L pa n q pc i j : Nat} {kd0 kd : Nat → Nat} {U0 S0 U S : Nat → List Value} {ts : List aTk} {ps : List (List Nat)} {rp : List Value} {x y : xSt} {K : List (Nat × cAl)} {D : List (Nat × dEf)} {dp : Int32} {res : aOut → aH → Prop} {f : Bool} {bl : Nat → xSt → Except Nat sRes} {g w a : Nat}
theorem c_ifEnd {y : xSt} {kd1 : Nat → Nat} {U1 S1 : Nat → List Value} (hF : cF ts L n0 S0 pa ps rp) (hbl : ∀ a x K kd n U S, cI0 ts L n0 kd0 U0 S0 pa ps rp x K D kd n U S → n ≤ n0 + x.1 → aE aM93 (d + 19) 0 [(0, .ref 22), (1, .int (dp + Int32.ofInt 1))] [] (gH scr kd n S) (bkO scr ts L n0 kd0 U0 S0 pa ps rp f g kd n U x K D a (bl a x))) (hb : n ≤ n0 + x.1) (h0 : n0 ≤ n) (hxy : x.1 < y.1) {l : List (Nat × Nat × Nat)} (hl : y.2.2 = x.2.2 ++ l) (hg : ∀ k, hgt f l k (k + 1)) (h : cI0 ts L n0 kd0 U0 S0 pa ps rp y K D kd1 (n + 1) U1 S1) (hU : U1 (n + 20) = stV 15 0 x.2.2.length y.2.2.length .null 0 .null .null 0 .null 0 .null 0) (v1 : ∀ p, p < n + 20 → kd1 p = kd p ∧ U1 p = U p) : aE aM71 (d + 20) 207 [(2, .ref (n + 20)), (0, .ref 22), (1, .int dp)] [] (gH scr kd1 (n + 1) S1) (stO scr (fun x => x) (cIb ts L n0 kd0 U0 S0 pa ps rp D) (cEr scr n0 kd0 U0 S0 pa) (stP f g) kd n U x K D a (match bl (a + 1 + (nwW x y).length + 2) y with
    | .error e => .error e
    | .ok z => if kA ts z.1.1 = 33 then
        match bl (a + 1 + (nwW x y).length + 2 + z.2.1.length + 2) (z.1.1 + 1, z.1.2) with
        | .error e => .error e
        | .ok u => .ok (u.1, 0 :: (nwW x y ++ (15 :: (a + 1 + (nwW x y).length + 2 + z.2.1.length + 2) :: (z.2.1 ++ (14 :: (a + 1 + (nwW x y).length + 2 + z.2.1.length + 2 + u.2.1.length) :: u.2.1)))), z.2.2 ++ u.2.2)
      else .ok (z.1, 0 :: (nwW x y ++ (15 :: (a + 1 + (nwW x y).length + 2 + z.2.1.length) :: z.2.1)), z.2.2))) := by
  have hn0 := hF.1
  have hbk := hbl (a + 1 + (nwW x y).length + 2) y K kd1 (n + 1) U1 S1 h (by omega)
  cases e : bl (a + 1 + (nwW x y).length + 2) y with
  | error z =>
    rw [e] at hbk
    refine eS rfl rfl ?_
    refine I_get (v := .int (Int32.ofNat 15)) rfl hF h (by omega) (by omega) hU rfl ?_
    refine eS rfl rfl ?_
    refine eIEq rfl rfl (fun z => absurd z (by decide)) (fun _ => ?_)
    refine eS rfl rfl ?_
    refine I_get (v := .int (Int32.ofNat 15)) rfl hF h (by omega) (by omega) hU rfl ?_
    refine eS rfl rfl ?_
    refine eIEq rfl rfl (fun z => absurd z (by decide)) (fun _ => ?_)
    refine eS rfl rfl ?_
    refine I_get (v := .int (Int32.ofNat 15)) rfl hF h (by omega) (by omega) hU rfl ?_
    refine eS rfl rfl ?_
    refine eINe rfl rfl (fun z => absurd rfl z) (fun _ => ?_)
    refine eS rfl rfl ?_
    refine eS rfl rfl ?_
    refine eS rfl rfl ?_
    refine eS rfl rfl ?_
    refine eS rfl rfl ?_
    exact gVo (by omega) rfl rfl rfl rfl rfl ⟨catOk rfl, catOk rfl⟩ rfl hbk (fun v h' z => (cEr_no z).elim) (fun q h' z => z)
  | ok z =>
    rw [e] at hbk
    dsimp only
    refine eS rfl rfl ?_
    refine I_get (v := .int (Int32.ofNat 15)) rfl hF h (by omega) (by omega) hU rfl ?_
    refine eS rfl rfl ?_
    refine eIEq rfl rfl (fun z => absurd z (by decide)) (fun _ => ?_)
    refine eS rfl rfl ?_
    refine I_get (v := .int (Int32.ofNat 15)) rfl hF h (by omega) (by omega) hU rfl ?_
    refine eS rfl rfl ?_
    refine eIEq rfl rfl (fun z => absurd z (by decide)) (fun _ => ?_)
    refine eS rfl rfl ?_
    refine I_get (v := .int (Int32.ofNat 15)) rfl hF h (by omega) (by omega) hU rfl ?_
    refine eS rfl rfl ?_
    refine eINe rfl rfl (fun z => absurd rfl z) (fun _ => ?_)
    refine eS rfl rfl ?_
    refine eS rfl rfl ?_
    refine eS rfl rfl ?_
    refine eS rfl rfl ?_
    refine eS rfl rfl ?_
    refine gVo (by omega) rfl rfl rfl rfl rfl ⟨catOk rfl, catOk rfl⟩ rfl hbk (fun v h' zz => ?_) (fun q h' zz => ?_)
    · obtain ⟨kd2, n2, U2, S2, K2, M, b, z1, rfl, z2, z3, z4, z5, z6, ⟨l', z7⟩, zv, z8, z9⟩ := zz
      cases z1
      obtain ⟨nos, u2⟩ := stV_fr hU (z9 (n + 20) (by omega)).2
      refine I_put rfl rfl rfl rfl (aFit_v zv) hF z2 (by omega) (by omega) u2 (Or.inr rfl) (fun U3 S3 h3 u3 v3 => ?_)
      have u3 : U3 (n + 20) = stV 15 0 x.2.2.length y.2.2.length b 0 .null .null 0 nos 0 .null 0 := u3
      have hkz := hF.2.2.2.2.1 z.1.1
      have hn2 : 67 ≤ n2 := by omega
      have k33 := i32_eq (a := kA ts z.1.1) (b := 33) (by omega) (by omega)
      by_cases c : kA ts z.1.1 = 33
      · rw [if_pos c]
        have hlz : z.1.1 < ts.length := kA_lt c (by decide)
        refine eS rfl rfl ?_
        refine I_get (v := .int (Int32.ofNat 15)) rfl hF h3 (by omega) (by omega) u3 rfl ?_
        refine eS rfl rfl ?_
        refine eINe rfl rfl (fun z => absurd rfl z) (fun _ => ?_)
        refine eS rfl rfl ?_
        refine gV1 hn2 rfl rfl rfl rfl rfl ⟨catOk rfl, catOk rfl⟩ (I_here hF h3) ?_
        refine eS rfl rfl ?_
        refine eINe rfl rfl (fun z => absurd (k33.mpr c) z) (fun _ => ?_)
        refine I_tick hn2 rfl rfl rfl rfl rfl rfl rfl h3 hlz (fun S4 h4 => ?_)
        refine eS rfl rfl ?_
        refine eS rfl rfl ?_
        refine I_put rfl rfl rfl rfl rfl hF h4 (by omega) (by omega) u3 (Or.inr rfl) (fun U5 S5 h5 u5 v5 => ?_)
        have u5 : U5 (n + 20) = stV 15 0 x.2.2.length y.2.2.length b 1 .null .null 0 nos 0 .null 0 := u5
        have hbk2 := hbl (a + 1 + (nwW x y).length + 2 + z.2.1.length + 2) (z.1.1 + 1, z.1.2) (K ++ K2) kd2 n2 U5 S5 h5 (by show n2 ≤ n0 + (z.1.1 + 1); omega)
        cases e2 : bl (a + 1 + (nwW x y).length + 2 + z.2.1.length + 2) (z.1.1 + 1, z.1.2) with
        | error u =>
          rw [e2] at hbk2
          refine eS rfl rfl ?_
          refine eS rfl rfl ?_
          refine eS rfl rfl ?_
          refine eS rfl rfl ?_
          refine eS rfl rfl ?_
          exact gVo hn2 rfl rfl rfl rfl rfl ⟨catOk rfl, catOk rfl⟩ rfl hbk2 (fun v h' z => (cEr_no z).elim) (fun q h' z => z)
        | ok u =>
          rw [e2] at hbk2
          dsimp only
          refine eS rfl rfl ?_
          refine eS rfl rfl ?_
          refine eS rfl rfl ?_
          refine eS rfl rfl ?_
          refine eS rfl rfl ?_
          refine gVo hn2 rfl rfl rfl rfl rfl ⟨catOk rfl, catOk rfl⟩ rfl hbk2 (fun v h' zz => ?_) (fun q h' zz => ?_)
          · obtain ⟨kd6, n6, U6, S6, K6, M6, b6, y1, rfl, y2, y3, y4, y5, y6, ⟨l6, y7⟩, yv, y8, y9⟩ := zz
            cases y1
            have y6 : n6 + (z.1.1 + 1) ≤ n2 + u.1.1 := y6
            have y7 : u.1.2.2 = z.1.2.2 ++ l6 := y7
            obtain ⟨nos6, u6⟩ := stV_fr u5 (y9 (n + 20) (by omega)).2
            refine I_put rfl rfl rfl rfl (aFit_v yv) hF y2 (by omega) (by omega) u6 (Or.inr rfl) (fun U7 S7 h7 u7 v7 => ?_)
            have u7 : U7 (n + 20) = stV 15 0 x.2.2.length y.2.2.length b 1 b6 .null 0 nos6 0 .null 0 := u7
            have fr : ∀ p, p ≠ n + 20 → p < n2 + 20 → fr9 (U2 p) (U7 p) := fun p hp p2 => by
              have q := (y9 p p2).2
              rw [v5 p hp, v3 p hp] at q
              rw [v7 p hp]
              exact q
            refine eS rfl rfl ?_
            refine eR rfl rfl ⟨kd6, n6, U7, S7, K2 ++ K6, [], M ++ M6, rfl, rfl, ⟨List.append_nil _, by rw [List.append_nil, ← List.append_assoc]; exact h7⟩, by rw [List.map_append, z3, y3], fun p hp => ?_, ⟨fun p hp => (by cases hp), mCv_app z4.2 y4.2⟩, by omega, by show n6 + x.1 ≤ n + u.1.1; omega, ⟨l ++ (l' ++ l6), by show u.1.2.2 = _; rw [y7, z7, hl]; simp only [List.append_assoc]⟩, by rw [u7]; rfl, ?_, fun p hp => ?_⟩
            · rcases List.mem_append.mp hp with hp | hp
              · exact List.mem_append_left _ (z4.1 p hp)
              · exact List.mem_append_right _ (y4.1 p hp)
            · refine ⟨15, 0, x.2.2.length, y.2.2.length, b, 1, b6, 0, 0, ⟨_, _, _, _, u7⟩, by rw [hl, List.length_append]; omega, by show _ ≤ u.1.2.2.length; rw [y7, z7, List.length_append, List.length_append]; omega, ?_⟩
              show uSt f _ 15 0 ((u.1.2.2.drop _).take _) b 1 b6 (n + 20) a _ (M ++ M6) (n + 20 + 1) (n6 + 20)
              have t8 := uBk_mono (U' := U7) (l := l6) g (fun p p1 p2 => fr p (by omega) p2) z8
              have t9 := uBk_mono (U' := U7) (l := []) g (fun p p1 p2 => by rw [v7 p (by omega)]; exact fr9_id) y8
              rw [List.append_nil] at t9
              rw [← y7] at t8
              have ht : (u.1.2.2.drop x.2.2.length).take (y.2.2.length - x.2.2.length) = l := by
                rw [y7, z7, hl, List.append_assoc (x.2.2 ++ l)]
                exact tk_mid rfl (by rw [List.length_append])
              rw [ht, nw_of hl]
              rw [nw_of hl] at t8 t9
              exact Or.inr (Or.inl ⟨rfl, hg, z.2.1, Or.inr ⟨rfl, u.2.1, M, M6, n2 + 20, by omega, by omega, by rw [show n + 20 + 1 = n + 1 + 20 by omega]; exact t8, t9, rfl, rfl⟩⟩)
            · have q := z9 p (by omega)
              have q1 := v1 p hp
              have q2 := y9 p (by omega)
              rw [q1.2] at q
              exact ⟨q2.1.trans (q.1.trans q1.1), fr9_trans q.2 (fr p (by omega) (by omega))⟩
          · obtain ⟨kd6, n6, U6, S6, K6, M6, b6, y1, -⟩ := zz
            cases y1
      · rw [if_neg c]
        refine eS rfl rfl ?_
        refine I_get (v := .int (Int32.ofNat 15)) rfl hF h3 (by omega) (by omega) u3 rfl ?_
        refine eS rfl rfl ?_
        refine eINe rfl rfl (fun z => absurd rfl z) (fun _ => ?_)
        refine eS rfl rfl ?_
        refine gV1 hn2 rfl rfl rfl rfl rfl ⟨catOk rfl, catOk rfl⟩ (I_here hF h3) ?_
        refine eS rfl rfl ?_
        refine eINe rfl rfl (fun _ => ?_) (fun z => absurd (k33.mp z) c)
        refine eS rfl rfl ?_
        refine eR rfl rfl ⟨kd2, n2, U3, S3, K2, [], M, rfl, rfl, ⟨List.append_nil _, by rw [List.append_nil]; exact h3⟩, z3, z4.1, ⟨fun p hp => (by cases hp), z4.2⟩, by omega, by show n2 + x.1 ≤ n + z.1.1; omega, ⟨l ++ l', by show z.1.2.2 = _; rw [z7, hl, List.append_assoc]⟩, by rw [u3]; rfl, ?_, fun p hp => ?_⟩
        · refine ⟨15, 0, x.2.2.length, y.2.2.length, b, 0, .null, 0, 0, ⟨_, _, _, _, u3⟩, by rw [hl, List.length_append]; omega, by show _ ≤ z.1.2.2.length; rw [z7, List.length_append]; omega, ?_⟩
          show uSt f _ 15 0 ((z.1.2.2.drop _).take _) b 0 .null (n + 20) a _ M (n + 20 + 1) (n2 + 20)
          rw [z7, hl, tk_mid rfl (by rw [List.length_append]), nw_of hl]
          have z8' := uBk_mono (U' := U3) (l := []) g (fun p p1 p2 => by rw [v3 p (by omega)]; exact fr9_id) z8
          rw [List.append_nil, z7, hl, nw_of hl] at z8'
          exact Or.inr (Or.inl ⟨rfl, hg, z.2.1, Or.inl ⟨rfl, rfl, by rw [show n + 20 + 1 = n + 1 + 20 by omega]; exact z8', rfl⟩⟩)
        · have q := z9 p (by omega)
          have q1 := v1 p hp
          rw [q1.2] at q
          exact ⟨q.1.trans q1.1, by rw [v3 p (by omega)]; exact q.2⟩
    · obtain ⟨kd2, n2, U2, S2, K2, M, b, z1, -⟩ := zz
      cases z1
theorem c_if (hF : cF ts L n0 S0 pa ps rp) (hf : ps ≠ [] → f = true) (h : cI0 ts L n0 kd0 U0 S0 pa ps rp x K D kd n U S) (hb : n ≤ n0 + x.1) (hbl : ∀ a x K kd n U S, cI0 ts L n0 kd0 U0 S0 pa ps rp x K D kd n U S → n ≤ n0 + x.1 → aE aM93 (d + 19) 0 [(0, .ref 22), (1, .int (dp + Int32.ofInt 1))] [] (gH scr kd n S) (bkO scr ts L n0 kd0 U0 S0 pa ps rp f g kd n U x K D a (bl a x))) (hk : kA ts x.1 = 15) : aE aM71 (d + 20) 0 [(0, .ref 22), (1, .int dp)] [] (gH scr kd n S) (stO scr (fun x => x) (cIb ts L n0 kd0 U0 S0 pa ps rp D) (cEr scr n0 kd0 U0 S0 pa) (stP f g) kd n U x K D a (ifA ts L ps bl a x)) := by
  have hn0 := hF.1
  have hnn := h.2.1
  have hx := h.1
  have hlt : x.1 < ts.length := kA_lt hk (by decide)
  have o1 := xTick hx hk (by decide)
  refine c_stBegin hF h hb (fun kd1 U1 S1 h1 u1 v1 => ?_)
  rw [hk] at u1 ⊢
  refine eB (pc' := 151) (st' := []) rfl rfl rfl rfl ?_
  refine I_tick (by omega) rfl rfl rfl rfl rfl rfl rfl h1 hlt (fun S2 h2 => ?_)
  refine eS rfl rfl ?_
  refine I_cnd hF h2 rfl rfl ⟨catOk rfl, catOk rfl⟩ rfl (fun y S3 e h3 => ?_) (fun e o h' he hc => ?_)
  · refine eS rfl rfl ?_
    obtain ⟨l, hl, hg⟩ := cndA_hg (f := f) hF.2.2.2.1 hF.2.2.2.2.2.2.2.2.2 hF.2.2.2.2.2.2.1 hf _ y o1 e
    have g1 := (cndA_rd hF.2.2.2.1 _ y o1 e).2.1
    have g1 : x.1 + 1 < y.1 := g1
    refine c_tail hF h3 (by omega) (by omega) u1 (fun U4 S4 h4 u4 v4 => ?_)
    have := c_ifEnd (a := a) hF hbl hb hnn (by omega) hl hg h4 u4 (fun p hp => ⟨(v1 p hp).1, (v4 p (by omega)).trans (v1 p hp).2⟩)
    unfold ifA
    rw [e]
    exact this
  · unfold ifA
    rw [he]
    exact hc
/-- a statement that is no definition, whatever it is -/
theorem c_stOne {k : Nat} (hF : cF ts L n0 S0 pa ps rp) (hf : ps ≠ [] → f = true) (h : cI0 ts L n0 kd0 U0 S0 pa ps rp x K D kd n U S) (hb : n ≤ n0 + x.1) (hbl : ∀ a x K kd n U S, cI0 ts L n0 kd0 U0 S0 pa ps rp x K D kd n U S → n ≤ n0 + x.1 → aE aM93 (d + 19) 0 [(0, .ref 22), (1, .int (dp + Int32.ofInt 1))] [] (gH scr kd n S) (bkO scr ts L n0 kd0 U0 S0 pa ps rp f g kd n U x K D a (bl a x))) (hd : dp = Int32.ofNat k) (hk9 : k < 2 ^ 20) (h31 : kA ts x.1 = 31 → 0 < k) : aE aM71 (d + 20) 0 [(0, .ref 22), (1, .int dp)] [] (gH scr kd n S) (stO scr (fun x => x) (cIb ts L n0 kd0 U0 S0 pa ps rp D) (cEr scr n0 kd0 U0 S0 pa) (stP f g) kd n U x K D a (stA ts L ps bl a x)) := by
  unfold stA
  by_cases c1 : 18 ≤ kA ts x.1 ∧ kA ts x.1 ≤ 22
  · rw [if_pos c1]
    exact c_one hF hf h hb c1
  rw [if_neg c1]
  by_cases c2 : kA ts x.1 = 17 ∨ (23 ≤ kA ts x.1 ∧ kA ts x.1 ≤ 26)
  · rw [if_pos c2]
    exact c_plain hF hf h hb c2
  rw [if_neg c2]
  by_cases c3 : kA ts x.1 = 32
  · rw [if_pos c3]
    exact c_letS hF hf h hb c3
  rw [if_neg c3]
  by_cases c4 : kA ts x.1 = 28
  · rw [if_pos c4]
    exact c_repeat hF hf h hb hbl c4
  rw [if_neg c4]
  by_cases c5 : kA ts x.1 = 29
  · rw [if_pos c5]
    exact c_while hF hf h hb hbl c5
  rw [if_neg c5]
  by_cases c6 : kA ts x.1 = 15
  · rw [if_pos c6]
    exact c_if hF hf h hb hbl c6
  rw [if_neg c6]
  by_cases c7 : kA ts x.1 = 30
  · rw [if_pos c7]
    exact c_callS hF hf h hb c7
  rw [if_neg c7]
  by_cases c8 : kA ts x.1 = 31
  · exact c_inTo hF hf h hb c8 hd (h31 c8) hk9
  · exact c_else hF hf h hb c1 c2 c3 c4 c5 c6 c7 c8
/-- blocks, at each depth -/
theorem c_bkA (hF : cF ts L n0 S0 pa ps rp) (hf : ps ≠ [] → f = true) : ∀ (g k : Nat), k + g = 3 → ∀ a x K kd n U S, cI0 ts L n0 kd0 U0 S0 pa ps rp x K D kd n U S → n ≤ n0 + x.1 → aE aM93 (d + 3 * g + 19) 0 [(0, .ref 22), (1, .int (Int32.ofNat k + Int32.ofInt 1))] [] (gH scr kd n S) (bkO scr ts L n0 kd0 U0 S0 pa ps rp f g kd n U x K D a (bkA ts L ps g a x))
  | 0, k, hk => fun a x K kd n U S h hb => by
    rw [i32_succ]
    exact c_blockX (d := d + 16) hF rfl (by omega) (by omega) h
  | g + 1, k, hk => fun a x K kd n U S h hb => by
    rw [i32_succ]
    exact c_block (d := d + 3 * g + 19) hF (fun a x K kd n U S h hb => c_stOne (d := d + 3 * g) hF hf h hb (fun a x K kd n U S h hb => c_bkA hF hf g (k + 1) (by omega) a x K kd n U S h hb) rfl (by omega) (fun _ => Nat.succ_pos k)) rfl (by omega) h hb
end SIF
