/-! loops and tests, read -/
section SLO
variable {scr : List Value} {n0 d L pa n q pc i j : Nat} {kd0 kd : Nat → Nat} {U0 S0 U S : Nat → List Value} {ts : List aTk} {ps : List (List Nat)} {rp : List Value} {x y : xSt} {K : List (Nat × cAl)} {D : List (Nat × dEf)} {dp : Int32} {res : aOut → aH → Prop} {f : Bool} {bl : Nat → xSt → Except Nat sRes} {g w a : Nat}
theorem tk_mid {t l l' : List (Nat × Nat × Nat)} {a b : Nat} (ha : a = t.length) (hb : b = t.length + l.length) : ((t ++ l ++ l').drop a).take (b - a) = l := by
  subst ha hb
  rw [List.append_assoc, List.drop_left, Nat.add_sub_cancel_left, List.take_left]
theorem nw_of {x y : xSt} {l : List (Nat × Nat × Nat)} (h : y.2.2 = x.2.2 ++ l) : nwW x y = wdL l := by unfold nwW; rw [h, List.drop_left]
/-- an object, but for the link to the next of its sort -/
theorem stV_fr {U1 U2 : Nat → List Value} {q kind num frm to : Nat} {body els nxt nos dfn : Value} {he tp cp : Int32} {nm : Int64} (h : U1 q = stV kind num frm to body he els nxt nm nos tp dfn cp) (hf : fr9 (U1 q) (U2 q)) : ∃ nos', U2 q = stV kind num frm to body he els nxt nm nos' tp dfn cp := by
  rw [h] at hf
  rcases hf with e | ⟨v, e⟩
  · exact ⟨nos, e⟩
  · exact ⟨v, e⟩
theorem aFit_v {v : Value} {s : String} (h : v = .null ∨ ∃ q, v = .ref q) : aFit (.object s) v = true := by
  rcases h with rfl | ⟨q, rfl⟩ <;> rfl
theorem c_loopEnd {y : xSt} {kd1 : Nat → Nat} {U1 S1 : Nat → List Value} (hw : w = 28 ∨ w = 29) (hF : cF ts L n0 S0 pa ps rp) (hbl : ∀ a x K kd n U S, cI0 ts L n0 kd0 U0 S0 pa ps rp x K D kd n U S → n ≤ n0 + x.1 → aE aM93 (d + 19) 0 [(0, .ref 22), (1, .int (dp + Int32.ofInt 1))] [] (gH scr kd n S) (bkO scr ts L n0 kd0 U0 S0 pa ps rp f g kd n U x K D a (bl a x))) (hb : n ≤ n0 + x.1) (h0 : n0 ≤ n) (hxy : x.1 < y.1) {l : List (Nat × Nat × Nat)} (hl : y.2.2 = x.2.2 ++ l) (hg : ∀ k, hgt f l k (k + 1)) (h : cI0 ts L n0 kd0 U0 S0 pa ps rp y K D kd1 (n + 1) U1 S1) (hU : U1 (n + 20) = stV w 0 x.2.2.length y.2.2.length .null 0 .null .null 0 .null 0 .null 0) (v1 : ∀ p, p < n + 20 → kd1 p = kd p ∧ U1 p = U p) : aE aM71 (d + 20) 207 [(2, .ref (n + 20)), (0, .ref 22), (1, .int dp)] [] (gH scr kd1 (n + 1) S1) (stO scr (fun x => x) (cIb ts L n0 kd0 U0 S0 pa ps rp D) (cEr scr n0 kd0 U0 S0 pa) (stP f g) kd n U x K D a (match bl (a + 1 + (nwW x y).length + 2) y with | .error e => .error e | .ok z => .ok (z.1, 0 :: (nwW x y ++ (w :: (a + 1 + (nwW x y).length + 2 + z.2.1.length + 2) :: (z.2.1 ++ [14, if w = 28 then a + 1 + (nwW x y).length else a + 1]))), z.2.2))) := by
  have hn0 := hF.1
  have hbk := hbl (a + 1 + (nwW x y).length + 2) y K kd1 (n + 1) U1 S1 h (by omega)
  have f234 : aE aM71 (d + 20) 234 [(2, .ref (n + 20)), (0, .ref 22), (1, .int dp)] [] (gH scr kd1 (n + 1) S1) (stO scr (fun x => x) (cIb ts L n0 kd0 U0 S0 pa ps rp D) (cEr scr n0 kd0 U0 S0 pa) (stP f g) kd n U x K D a (match bl (a + 1 + (nwW x y).length + 2) y with | .error e => .error e | .ok z => .ok (z.1, 0 :: (nwW x y ++ (w :: (a + 1 + (nwW x y).length + 2 + z.2.1.length + 2) :: (z.2.1 ++ [14, if w = 28 then a + 1 + (nwW x y).length else a + 1]))), z.2.2))) := by
    cases e : bl (a + 1 + (nwW x y).length + 2) y with
    | error z =>
      rw [e] at hbk
      refine eS rfl rfl ?_
      refine eS rfl rfl ?_
      refine eS rfl rfl ?_
      refine eS rfl rfl ?_
      refine eS rfl rfl ?_
      exact gVo (by omega) rfl rfl rfl rfl rfl ⟨catOk rfl, catOk rfl⟩ rfl hbk (fun v h' z => (cEr_no z).elim) (fun q h' z => z)
    | ok z =>
      rw [e] at hbk
      dsimp only
      refine eS rfl rfl ?_
      refine eS rfl rfl ?_
      refine eS rfl rfl ?_
      refine eS rfl rfl ?_
      refine eS rfl rfl ?_
      refine gVo (by omega) rfl rfl rfl rfl rfl ⟨catOk rfl, catOk rfl⟩ rfl hbk (fun v h' zz => ?_) (fun q h' zz => ?_)
      · obtain ⟨kd2, n2, U2, S2, K2, M, b, z1, rfl, z2, z3, z4, z5, z6, ⟨l', z7⟩, zv, z8, z9⟩ := zz
        cases z1
        obtain ⟨nos, u2⟩ := stV_fr hU (z9 (n + 20) (by omega)).2
        refine I_put rfl rfl rfl rfl (aFit_v zv) hF z2 (by omega) (by omega) u2 (Or.inr rfl) (fun U3 S3 h3 u3 v3 => ?_)
        have u3 : U3 (n + 20) = stV w 0 x.2.2.length y.2.2.length b 0 .null .null 0 nos 0 .null 0 := u3
        refine eS rfl rfl ?_
        refine I_get (v := .int (Int32.ofNat w)) rfl hF h3 (by omega) (by omega) u3 rfl ?_
        refine eS rfl rfl ?_
        refine eINe rfl rfl (fun _ => ?_) (fun z => absurd ((i32_eq (a := w) (b := 15) (by omega) (by omega)).mp z) (by omega))
        skip
        refine eS rfl rfl ?_
        refine eR rfl rfl ⟨kd2, n2, U3, S3, K2, [], M, rfl, rfl, ⟨List.append_nil _, by rw [List.append_nil]; exact h3⟩, z3, z4.1, ⟨fun p hp => (by cases hp), z4.2⟩, by omega, by show n2 + x.1 ≤ n + z.1.1; omega, ⟨l ++ l', by show z.1.2.2 = _; rw [z7, hl, List.append_assoc]⟩, by rw [u3]; rfl, ?_, fun p hp => ?_⟩
        · refine ⟨w, 0, x.2.2.length, y.2.2.length, b, 0, .null, 0, 0, ⟨_, _, _, _, u3⟩, by rw [hl, List.length_append]; omega, by show _ ≤ z.1.2.2.length; rw [z7, List.length_append]; omega, ?_⟩
          show uSt f _ w 0 ((z.1.2.2.drop _).take _) b 0 .null (n + 20) a _ M (n + 20 + 1) (n2 + 20)
          rw [z7, hl, tk_mid rfl (by rw [List.length_append]), nw_of hl]
          have z8' := uBk_mono (U' := U3) (l := []) g (fun p p1 p2 => by rw [v3 p (by omega)]; exact fr9_id) z8
          rw [List.append_nil, z7, hl, nw_of hl] at z8'
          exact Or.inl ⟨hw, hg, z.2.1, by rw [show n + 20 + 1 = n + 1 + 20 by omega]; exact z8', rfl⟩
        · have q := z9 p (by omega)
          have q1 := v1 p hp
          rw [q1.2] at q
          exact ⟨q.1.trans q1.1, by rw [v3 p (by omega)]; exact q.2⟩
      · obtain ⟨kd2, n2, U2, S2, K2, M, b, z1, -⟩ := zz
        cases z1
  rcases hw with rfl | rfl
  · skip
    refine eS rfl rfl ?_
    refine I_get (v := .int (Int32.ofNat 28)) rfl hF h (by omega) (by omega) hU rfl ?_
    refine eS rfl rfl ?_
    refine eIEq rfl rfl (fun _ => ?_) (fun z => absurd rfl z)
    exact f234
  · skip
    refine eS rfl rfl ?_
    refine I_get (v := .int (Int32.ofNat 29)) rfl hF h (by omega) (by omega) hU rfl ?_
    refine eS rfl rfl ?_
    refine eIEq rfl rfl (fun z => absurd z (by decide)) (fun _ => ?_)
    refine eS rfl rfl ?_
    refine I_get (v := .int (Int32.ofNat 29)) rfl hF h (by omega) (by omega) hU rfl ?_
    refine eS rfl rfl ?_
    refine eIEq rfl rfl (fun _ => ?_) (fun z => absurd rfl z)
    exact f234
theorem c_repeat (hF : cF ts L n0 S0 pa ps rp) (hf : ps ≠ [] → f = true) (h : cI0 ts L n0 kd0 U0 S0 pa ps rp x K D kd n U S) (hb : n ≤ n0 + x.1) (hbl : ∀ a x K kd n U S, cI0 ts L n0 kd0 U0 S0 pa ps rp x K D kd n U S → n ≤ n0 + x.1 → aE aM93 (d + 19) 0 [(0, .ref 22), (1, .int (dp + Int32.ofInt 1))] [] (gH scr kd n S) (bkO scr ts L n0 kd0 U0 S0 pa ps rp f g kd n U x K D a (bl a x))) (hk : kA ts x.1 = 28) : aE aM71 (d + 20) 0 [(0, .ref 22), (1, .int dp)] [] (gH scr kd n S) (stO scr (fun x => x) (cIb ts L n0 kd0 U0 S0 pa ps rp D) (cEr scr n0 kd0 U0 S0 pa) (stP f g) kd n U x K D a (loopA bl (sumA ts L ps 4 0) 28 a x)) := by
  have hn0 := hF.1
  have hnn := h.2.1
  have hx := h.1
  have hlt : x.1 < ts.length := kA_lt hk (by decide)
  have o1 := xTick hx hk (by decide)
  refine c_stBegin hF h hb (fun kd1 U1 S1 h1 u1 v1 => ?_)
  refine eB rfl rfl rfl (sw_112 (Or.inr hk)) ?_
  rw [hk] at u1
  refine I_tick (by omega) rfl rfl rfl rfl rfl rfl rfl h1 hlt (fun S2 h2 => ?_)
  refine eS rfl rfl ?_
  refine eS rfl rfl ?_
  refine I_sum hF h2 rfl rfl ⟨catOk rfl, catOk rfl⟩ rfl (fun y S3 e h3 => ?_) (fun e o h' he hc => ?_)
  · refine eS rfl rfl ?_
    obtain ⟨l, hl, hg⟩ := sumA_hg (f := f) hF.2.2.2.1 hF.2.2.2.2.2.2.2.2.2 hF.2.2.2.2.2.2.1 hf 4 0 _ y o1 e
    have g1 := (sumA_rd hF.2.2.2.1 4 0 _ y o1 e).2.1
    have g1 : x.1 + 1 < y.1 := g1
    refine c_tail hF h3 (by omega) (by omega) u1 (fun U4 S4 h4 u4 v4 => ?_)
    have := c_loopEnd (a := a) (Or.inl rfl) hF hbl hb hnn (by omega) hl hg h4 u4 (fun p hp => ⟨(v1 p hp).1, (v4 p (by omega)).trans (v1 p hp).2⟩)
    unfold loopA
    rw [e]
    exact this
  · unfold loopA
    rw [he]
    exact hc
theorem c_while (hF : cF ts L n0 S0 pa ps rp) (hf : ps ≠ [] → f = true) (h : cI0 ts L n0 kd0 U0 S0 pa ps rp x K D kd n U S) (hb : n ≤ n0 + x.1) (hbl : ∀ a x K kd n U S, cI0 ts L n0 kd0 U0 S0 pa ps rp x K D kd n U S → n ≤ n0 + x.1 → aE aM93 (d + 19) 0 [(0, .ref 22), (1, .int (dp + Int32.ofInt 1))] [] (gH scr kd n S) (bkO scr ts L n0 kd0 U0 S0 pa ps rp f g kd n U x K D a (bl a x))) (hk : kA ts x.1 = 29) : aE aM71 (d + 20) 0 [(0, .ref 22), (1, .int dp)] [] (gH scr kd n S) (stO scr (fun x => x) (cIb ts L n0 kd0 U0 S0 pa ps rp D) (cEr scr n0 kd0 U0 S0 pa) (stP f g) kd n U x K D a (loopA bl (cndA ts L ps) 29 a x)) := by
  have hn0 := hF.1
  have hnn := h.2.1
  have hx := h.1
  have hlt : x.1 < ts.length := kA_lt hk (by decide)
  have o1 := xTick hx hk (by decide)
  refine c_stBegin hF h hb (fun kd1 U1 S1 h1 u1 v1 => ?_)
  rw [hk] at u1 ⊢
  refine eB (pc' := 151) (st' := []) rfl rfl rfl rfl ?_
  refine I_tick (by omega) rfl rfl rfl rfl rfl rfl rfl h1 hlt (fun S2 h2 => ?_)
  refine eS rfl rfl ?_
  refine I_cnd hF h2 rfl rfl ⟨catOk rfl, catOk rfl⟩ rfl (fun y S3 e h3 => ?_) (fun e o h' he hc => ?_)
  · refine eS rfl rfl ?_
    obtain ⟨l, hl, hg⟩ := cndA_hg (f := f) hF.2.2.2.1 hF.2.2.2.2.2.2.2.2.2 hF.2.2.2.2.2.2.1 hf _ y o1 e
    have g1 := (cndA_rd hF.2.2.2.1 _ y o1 e).2.1
    have g1 : x.1 + 1 < y.1 := g1
    refine c_tail hF h3 (by omega) (by omega) u1 (fun U4 S4 h4 u4 v4 => ?_)
    have := c_loopEnd (a := a) (Or.inr rfl) hF hbl hb hnn (by omega) hl hg h4 u4 (fun p hp => ⟨(v1 p hp).1, (v4 p (by omega)).trans (v1 p hp).2⟩)
    unfold loopA
    rw [e]
    exact this
  · unfold loopA
    rw [he]
    exact hc
end SLO
