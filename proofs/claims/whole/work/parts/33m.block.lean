/-! blocks, read -/
def bkO (scr : List Value) (ts : List aTk) (L n0 : Nat) (kd0 : Nat → Nat) (U0 S0 : Nat → List Value) (pa : Nat) (ps : List (List Nat)) (rp : List Value) (f : Bool) (g : Nat) (kd : Nat → Nat) (n : Nat) (U : Nat → List Value) (x : xSt) (K : List (Nat × cAl)) (D : List (Nat × dEf)) (a : Nat) : Except Nat sRes → aOut → aH → Prop
  | .error e => cEr scr n0 kd0 U0 S0 pa e
  | .ok r => fun o h => ∃ (kd' : Nat → Nat) (n' : Nat) (U' S' : Nat → List Value) (K' : List (Nat × cAl)) (M : List (Nat × Nat)) (v : Value), o = .inl (some v) ∧ h = gH scr kd' n' S' ∧ cI0 ts L n0 kd0 U0 S0 pa ps rp r.1 (K ++ K') D kd' n' U' S' ∧ K'.map (fun p => p.2) = r.2.2 ∧ ((∀ p ∈ K', (p.1, p.2.2.2.1) ∈ M) ∧ mCv K' [] M) ∧ n ≤ n' ∧ n' + x.1 ≤ n + r.1.1 ∧ (∃ l, r.1.2.2 = x.2.2 ++ l) ∧ (v = .null ∨ ∃ q, v = .ref q) ∧
      uBk f g U' r.1.2.2 a v r.2.1 M (n + 20) (n' + 20) ∧ ∀ p, p < n + 20 → kd' p = kd p ∧ fr9 (U p) (U' p)
section SBL
variable {scr : List Value} {n0 d L pa n q pc i j : Nat} {kd0 kd : Nat → Nat} {U0 S0 U S : Nat → List Value} {ts : List aTk} {ps : List (List Nat)} {rp : List Value} {x y : xSt} {K : List (Nat × cAl)} {D : List (Nat × dEf)} {dp : Int32} {res : aOut → aH → Prop} {f : Bool}
theorem cIb_ok (hF : cF ts L n0 S0 pa ps rp) : iOk scr n0 d (fun x => x) (cIb ts L n0 kd0 U0 S0 pa ps rp D) (kxA ts) :=
  ⟨fun x K D' kd n U S h => ⟨hF.1, h.2.2.1, hF.2.2.2.2.1 _, I_87 hF.1 h.2, h.2.2.2.2.1.2, I_here hF h.2⟩, fun x K D' kd n U S q v h q1 q2 => ⟨h.1, I_set hF.1 h.2 q1 q2 rfl⟩⟩
theorem hLs_v {U : Nat → List Value} {P : Nat → Nat → List Nat → List (Nat × Nat) → Nat → Nat → Prop} {k : Nat} {v : Value} {a : Nat} {ws : List Nat} {M : List (Nat × Nat)} {lo hi : Nat} (h : hLs U P k v a ws M lo hi) : v = .null ∨ ∃ q, v = .ref q := by
  cases k with
  | zero => exact h.elim
  | succ k =>
    rcases h with h | ⟨q, nxt, m, ws1, ws2, M1, M2, e1, -⟩
    · exact Or.inl h.1
    · exact Or.inr ⟨q, e1⟩
theorem c_block {g k a : Nat} (hF : cF ts L n0 S0 pa ps rp) (hst : ∀ a x K kd n U S, cI0 ts L n0 kd0 U0 S0 pa ps rp x K D kd n U S → n ≤ n0 + x.1 → aE aM71 (d + 1) 0 [(0, .ref 22), (1, .int dp)] [] (gH scr kd n S) (stO scr (fun x => x) (cIb ts L n0 kd0 U0 S0 pa ps rp D) (cEr scr n0 kd0 U0 S0 pa) (stP f g) kd n U x K D a (stA ts L ps (bkA ts L ps g) a x))) (hd : dp = Int32.ofNat k) (hk3 : k ≤ 3) (h : cI0 ts L n0 kd0 U0 S0 pa ps rp x K D kd n U S) (hb : n ≤ n0 + x.1) : aE aM93 (d + 3) 0 [(0, .ref 22), (1, .int dp)] [] (gH scr kd n S) (bkO scr ts L n0 kd0 U0 S0 pa ps rp f (g + 1) kd n U x K D a (bkA ts L ps (g + 1) a x)) := by
  have hn0 := hF.1
  have hnn := h.2.1
  have hn : 67 ≤ n := by omega
  rw [bkA]
  by_cases c : kA ts x.1 = 123
  · rw [if_pos c]
    refine eS rfl rfl ?_
    refine eS rfl rfl ?_
    refine eILe rfl rfl (fun _ => ?_) (fun z => absurd (show dp ≤ 3 from by rw [hd]; exact (i32_le (a := k) (b := 3) (by omega) (by omega)).mpr hk3) z)
    refine eS rfl rfl ?_
    refine eS rfl rfl ?_
    refine I_exp (k := 123) (by decide) (by decide) hF h rfl rfl ⟨catOk rfl, catOk rfl⟩ rfl (fun S1 c1 h1 => ?_) (fun o h' c1 => absurd c c1)
    have hR := c_readAll (ek := 125) (dp := dp) (E := cEr scr n0 kd0 U0 S0 pa) (P := stP f g) (st := stA ts L ps (bkA ts L ps g)) (by decide) (cIb_ok (d := d) (scr := scr) (kd0 := kd0) (U0 := U0) (D := D) hF) (stP_ok g) (fun e v h => cEr_no) (fun a' x' K' D' kd' n' U' S' i1 i2 i3 => by have e := i1.1; have j := i1.2; rw [e] at j ⊢; exact hst a' x' K' kd' n' U' S' j i2) a (x.1 + 1, x.2) K D kd n U S1 ⟨rfl, h1⟩ (by show n ≤ n0 + (x.1 + 1); omega)
    cases e : lsA (kxA ts) (stA ts L ps (bkA ts L ps g)) 125 160 a (x.1 + 1, x.2) with
    | error z =>
      rw [e] at hR
      refine eS rfl rfl ?_
      refine eS rfl rfl ?_
      refine eS rfl rfl ?_
      exact gVo hn rfl rfl rfl rfl rfl ⟨catOk rfl, catOk rfl⟩ rfl hR (fun v h' z => (cEr_no z).elim) (fun q h' z => z)
    | ok y =>
      rw [e] at hR
      dsimp only
      refine eS rfl rfl ?_
      refine eS rfl rfl ?_
      refine eS rfl rfl ?_
      refine gVo hn rfl rfl rfl rfl rfl ⟨catOk rfl, catOk rfl⟩ rfl hR (fun v h' z => ?_) (fun q h' z => ?_)
      · obtain ⟨kd1, n1, U1, S2, K1, D1, M1, v1, kk, z1, rfl, ⟨z2, z3⟩, z4, z5, z6, z7, z8, ⟨l, z9⟩, z10, z11⟩ := z
        cases z1
        have hD1 : D1 = [] := List.append_right_eq_self.mp z2
        subst hD1
        rw [List.append_nil] at z3
        have z8 : n1 + (x.1 + 1) ≤ n + y.1.1 := z8
        have z9 : y.1.2.2 = x.2.2 ++ l := z9
        have st3 : ∀ w : Value, (w = .null ∨ ∃ q, w = .ref q) → (kk2 : w = v1) → aE aM93 (d + 3) 22 [(0, .ref 22), (1, .int dp)] [v1] (gH scr kd1 n1 S2) (bkO scr ts L n0 kd0 U0 S0 pa ps rp f (g + 1) kd n U x K D a (if kA ts y.1.1 = 125 then .ok ((y.1.1 + 1, y.1.2), y.2) else .error (plA ts L y.1.1))) := by
          intro w hw kk2
          have key : ∀ ls : aLc, aGet ls 0 = some (.ref 22) → aGet ls 2 = some v1 → ndB (ls.map (·.1)) = true → True := fun _ _ _ _ => trivial
          by_cases c2 : kA ts y.1.1 = 125
          · rw [if_pos c2]
            rcases hw with rfl | ⟨q, rfl⟩
            all_goals subst kk2
            · skip
              refine eS rfl rfl ?_
              refine eS rfl rfl ?_
              refine eS rfl rfl ?_
              refine I_exp (k := 125) (by decide) (by decide) hF z3 rfl rfl ⟨catOk rfl, catOk rfl⟩ rfl (fun S3 c3 h3 => ?_) (fun o h' c3 => absurd c2 c3)
              refine eS rfl rfl ?_
              exact eR rfl rfl ⟨kd1, n1, U1, S3, K1, M1, _, rfl, rfl, h3, z4, ⟨z5, by have zz := z6.2; rw [List.append_right_eq_self.mp z2] at zz; exact zz⟩, z7, by show n1 + x.1 ≤ n + (y.1.1 + 1); omega, ⟨l, z9⟩, Or.inl rfl, ⟨kk, z10⟩, z11⟩
            · skip
              refine eS rfl rfl ?_
              refine eS rfl rfl ?_
              refine eS rfl rfl ?_
              refine I_exp (k := 125) (by decide) (by decide) hF z3 rfl rfl ⟨catOk rfl, catOk rfl⟩ rfl (fun S3 c3 h3 => ?_) (fun o h' c3 => absurd c2 c3)
              refine eS rfl rfl ?_
              exact eR rfl rfl ⟨kd1, n1, U1, S3, K1, M1, _, rfl, rfl, h3, z4, ⟨z5, by have zz := z6.2; rw [List.append_right_eq_self.mp z2] at zz; exact zz⟩, z7, by show n1 + x.1 ≤ n + (y.1.1 + 1); omega, ⟨l, z9⟩, Or.inr ⟨_, rfl⟩, ⟨kk, z10⟩, z11⟩
          · rw [if_neg c2]
            rcases hw with rfl | ⟨q, rfl⟩
            all_goals subst kk2
            · skip
              refine eS rfl rfl ?_
              refine eS rfl rfl ?_
              refine eS rfl rfl ?_
              refine I_exp (k := 125) (by decide) (by decide) hF z3 rfl rfl ⟨catOk rfl, catOk rfl⟩ rfl (fun S3 c3 h3 => absurd c3 c2) (fun o h' c3 hc => hc)
            · skip
              refine eS rfl rfl ?_
              refine eS rfl rfl ?_
              refine eS rfl rfl ?_
              refine I_exp (k := 125) (by decide) (by decide) hF z3 rfl rfl ⟨catOk rfl, catOk rfl⟩ rfl (fun S3 c3 h3 => absurd c3 c2) (fun o h' c3 hc => hc)
        exact st3 v1 (hLs_v z10) rfl
      · obtain ⟨kd1, n1, U1, S2, K1, D1, M1, v1, kk, z1, -⟩ := z
        cases z1
  · rw [if_neg c]
    refine eS rfl rfl ?_
    refine eS rfl rfl ?_
    refine eILe rfl rfl (fun _ => ?_) (fun z => absurd (show dp ≤ 3 from by rw [hd]; exact (i32_le (a := k) (b := 3) (by omega) (by omega)).mpr hk3) z)
    refine eS rfl rfl ?_
    refine eS rfl rfl ?_
    refine I_exp (k := 123) (by decide) (by decide) hF h rfl rfl ⟨catOk rfl, catOk rfl⟩ rfl (fun S1 c1 h1 => absurd c1 c) (fun o h' c1 hc => hc)
theorem c_blockX {a k : Nat} (hF : cF ts L n0 S0 pa ps rp) (hd : dp = Int32.ofNat k) (hk3 : 3 < k) (hk9 : k < 2 ^ 20) (h : cI0 ts L n0 kd0 U0 S0 pa ps rp x K D kd n U S) : aE aM93 (d + 3) 0 [(0, .ref 22), (1, .int dp)] [] (gH scr kd n S) (bkO scr ts L n0 kd0 U0 S0 pa ps rp f 0 kd n U x K D a (bkA ts L ps 0 a x)) := by
  have hn0 := hF.1
  have hnn := h.2.1
  have hn : 67 ≤ n := by omega
  refine eS rfl rfl ?_
  refine eS rfl rfl ?_
  refine eILe rfl rfl (fun z => absurd (by rw [hd] at z; exact (i32_le (a := k) (b := 3) (by omega) (by omega)).mp z) (by omega)) (fun _ => ?_)
  refine eS rfl rfl ?_
  exact I_ref hF h rfl rfl ⟨catOk rfl, catOk rfl⟩ rfl (fun o h' hc => hc)
end SBL
