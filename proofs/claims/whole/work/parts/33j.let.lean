/-! let -/
section SLT
variable {scr : List Value} {n0 d L pa n q pc i j : Nat} {kd0 kd : Nat → Nat} {U0 S0 U S : Nat → List Value} {ts : List aTk} {ps : List (List Nat)} {rp : List Value} {x y : xSt} {K : List (Nat × cAl)} {D : List (Nat × dEf)} {dp : Int32} {res : aOut → aH → Prop} {f : Bool} {Q : aOut → aH → Prop}
theorem cEr_inr {e : Nat} {o : aOut} {h : aH} (z : cEr scr n0 kd0 U0 S0 pa e o h) : ∃ q, o = .inr q := by
  obtain ⟨kd, n, U, fd, ld, lc, t, cv, rv, cp, rp, fc, tc, t1, t2, t3, z1, z2, z3, z4, z5⟩ := z
  exact ⟨_, z5.1⟩
/-- a call in CPS, that may throw -/
theorem gVq {M : aMt} {pc i : Nat} {ls : aLc} {lk : aLk} {stk : List Value} {S : Nat → List Value} {q : Nat} {as rest : List Value} {M' : aMt} (hn : 67 ≤ n) (hf : aFind M.cd pc = some (.invokevirtual i, lk)) (ha : aArgs lk.2.1 stk = some (.ref q :: as, rest)) (hp : (Nat.ble 20 q && Nat.blt q 87) = true) (hk : gK kd q = 2 * lk.2.2.1 + 8) (hM : aP[lk.1]? = some M')
    (hc : aCat rest + M'.nl ≤ 80 ∧ aCat (.ref q :: as) ≤ M'.nl) (hh : M.hd = []) (hb : aE M' d 0 (lv_args 0 (.ref q :: as)) [] (gH scr kd n S) (fun o h' => (o = .inl none ∧ aE M (d + 1) (pc + 3) ls rest h' res) ∨ ∃ q, o = .inr q ∧ res (.inr q) h')) : aE M (d + 1) pc ls stk (gH scr kd n S) res :=
  gVo hn hf ha hp hk hM hc hh hb (fun v h' z => by
    rcases z with ⟨z1, z2⟩ | ⟨q, z1, -⟩
    · cases z1; exact z2
    · cases z1) (fun q h' z => by
    rcases z with ⟨z1, -⟩ | ⟨q', z1, z2⟩
    · cases z1
    · cases z1; exact z2)
theorem I_par (hF : cF ts L n0 S0 pa ps rp) (h : cI0 ts L n0 kd0 U0 S0 pa ps rp x K D kd n U S) (hk : kA ts x.1 = 30) : aE aM79 (d + 1) 0 [(0, .ref 22)] [] (gH scr kd n S) (aIs (some (.int (if fndV 0 ps (nmA ts x.1) = -1 then 0 else 1))) (gH scr kd n S)) := by
  obtain ⟨a1, a2, a3, a4, ⟨fd, fc, ⟨rv, t1, t2, t3, rfl, b1⟩, a6, a7⟩, a8, a9⟩ := h
  obtain ⟨f1, f2, f3, f4, f5, f6, f7, f8, f9, f10⟩ := hF
  have := a1.1
  have := f3.2.2.1
  exact c_isPar (by omega) f3 (by omega) hk f6 f7 f8 (nmA_ok f4 hk) rfl
theorem I_name (hF : cF ts L n0 S0 pa ps rp) (h : cI0 ts L n0 kd0 U0 S0 pa ps rp x K D kd n U S) (hk : kA ts x.1 = 30) : aE aM80 d 0 [(0, .ref 23), (1, .int (Int32.ofNat x.1))] [] (gH scr kd n S) (aIs (some (.long (Int64.ofNat (pk 32 (nmA ts x.1))))) (gH scr kd n S)) := by
  obtain ⟨a1, a2, a3, a4, ⟨fd, fc, ⟨rv, t1, t2, t3, rfl, b1⟩, a6, a7⟩, a8, a9⟩ := h
  obtain ⟨f1, f2, f3, f4, f5, f6, f7, f8, f9, f10⟩ := hF
  have := a1.1
  have := f3.2.2.1
  obtain ⟨z, z1, z2⟩ := c_nameAt (scr := scr) (kd := kd) (n := n) (d := d) (t := x.1) (S := rS S0 U pa fd (lstV (D.map (fun p => p.1))) (lstV (K.map (fun p => p.1))) x.1 (-1) x.2.1.length rv ps.length rp .null fc x.2.2.length 0 t1 t2 t3) (by omega) (rS_tk f3) (by omega)
  rw [z1 hk] at z2
  exact z2
theorem I_place (hF : cF ts L n0 S0 pa ps rp) (h : cI0 ts L n0 kd0 U0 S0 pa ps rp x K D kd n U S) : aE aM85 d 0 [(0, .ref 23), (1, .int (Int32.ofNat x.1))] [] (gH scr kd n S) (aIs (some (.int (Int32.ofNat (plA ts L x.1)))) (gH scr kd n S)) := by
  obtain ⟨a1, a2, a3, a4, ⟨fd, fc, ⟨rv, t1, t2, t3, rfl, b1⟩, a6, a7⟩, a8, a9⟩ := h
  obtain ⟨f1, f2, f3, f4, f5, f6, f7, f8, f9, f10⟩ := hF
  have := a1.1
  have := f3.2.2.1
  exact c_placeAt (by omega) (rS_tk f3) (by omega)
theorem I_num (hF : cF ts L n0 S0 pa ps rp) (h : cI0 ts L n0 kd0 U0 S0 pa ps rp x K D kd n U S) (hk : kA ts x.1 = 30) : (∀ p k vs', slA ps x.2.1 (nmA ts x.1) = some (p, k, vs') → ∃ S', cI0 ts L n0 kd0 U0 S0 pa ps rp (x.1, vs', x.2.2) K D kd n U S' ∧ aE aM82 (d + 2) 0 [(0, .ref 22)] [] (gH scr kd n S) (aIs (some (.int (Int32.ofNat k))) (gH scr kd n S'))) ∧ (slA ps x.2.1 (nmA ts x.1) = none → aE aM82 (d + 2) 0 [(0, .ref 22)] [] (gH scr kd n S) (cEr scr n0 kd0 U0 S0 pa (plA ts L x.1))) := by
  have h0 := h
  obtain ⟨a1, a2, a3, a4, ⟨fd, fc, ⟨rv, t1, t2, t3, rfl, b1, b2, b3⟩, a6, a7⟩, a8, a9⟩ := h
  obtain ⟨f1, f2, f3, f4, f5, f6, f7, f8, f9, f10⟩ := hF
  have := a1.1
  have := f3.2.2.1
  have hx := nmA_ok f4 hk
  obtain ⟨g1, g2⟩ := c_number2 (scr := scr) (kd := kd) (n := n) (d := d) (U := U) (pa := pa) (fd := fd) (ld := lstV (D.map (fun p => p.1))) (lc := lstV (K.map (fun p => p.1))) (ep := -1) (fs := .null) (fc := fc) (tc := x.2.2.length) (wc := 0) (t1 := t1) (t2 := t2) (t3 := t3) (by omega) f3 (t := x.1) (by omega) hk f6 f7 f8 b1 a1.2.2.1 a1.2.2.2 hx rfl b2
  refine ⟨fun p k vs' e => ?_, fun e => ?_⟩
  · obtain ⟨rv', r1, r2, r3⟩ := g1 p k vs' e
    obtain ⟨s1, s2, -, -⟩ := slA_ok a1.2.2.1 a1.2.2.2 hx e
    exact ⟨_, I_of (y := (x.1, vs', x.2.2)) h0 ⟨a1.1, a1.2.1, s1, s2⟩ (Nat.le_refl _) ⟨rv', t1, t2, t3, rfl, r1, r2, b3⟩ a6 a7, r3⟩
  · exact aE.mono (fun o h' z => cEr_of (y := x) f9 f3.2.2.1 h0 ⟨rv, t1, t2, t3, rfl, b1, b2, b3⟩ z) (g2 e)
theorem c_let {k0 tc0 : Nat} (hF : cF ts L n0 S0 pa ps rp) (h : cI0 ts L n0 kd0 U0 S0 pa ps rp x K D kd n U S) (hq : n0 + 20 ≤ q) (hq2 : q < n + 20) (nk : (∀ p ∈ K, p.1 ≠ q) ∧ ∀ p ∈ D, p.1 ≠ q) (hU : U q = stV k0 0 tc0 0 .null 0 .null .null 0 .null 0 .null 0) (hk : kA ts x.1 = 32)
    (kk : ∀ p i vs' y U' S', letA ts L ps x = .ok (y, 0 :: (nwW x y ++ [p + 2, i]), []) → slA ps x.2.1 (nmA ts (x.1 + 1)) = some (p, i, vs') → sumA ts L ps 4 0 (x.1 + 3, vs', x.2.2) = .ok y → cI0 ts L n0 kd0 U0 S0 pa ps rp y K D kd n U' S' → U' q = stV (p + 2) i tc0 0 .null 0 .null .null 0 .null 0 .null 0 → (∀ p, p ≠ q → U' p = U p) → kA ts (x.1 + 1) = 30 → xOk ts (x.1 + 3, vs', x.2.2) → Q (.inl none) (gH scr kd n S'))
    (kx : ∀ e o h', letA ts L ps x = .error e → cEr scr n0 kd0 U0 S0 pa e o h' → Q o h') : aE aM87 (d + 19) 0 [(0, .ref 22), (1, .ref q)] [] (gH scr kd n S) Q := by
  have hn0 := hF.1
  have hnn := h.2.1
  have hn : 67 ≤ n := by omega
  have hx := h.1
  have hlt : x.1 < ts.length := kA_lt hk (by decide)
  refine I_tick (by omega) rfl rfl rfl rfl rfl rfl rfl h hlt (fun S2 h2 => ?_)
  by_cases c : kA ts (x.1 + 1) = 30
  · have hlt2 : x.1 + 1 < ts.length := kA_lt c (by decide)
    have f36 : ∀ v : Nat, (∀ p i vs', slA ps x.2.1 (nmA ts (x.1 + 1)) = some (p, i, vs') → v = p + 2) → aE aM87 (d + 19) 36 [(0, .ref 22), (1, .ref q)] [.int (Int32.ofNat v), .ref q] (gH scr kd n S2) Q := by
      intro v hv
      refine I_put rfl rfl rfl rfl rfl hF h2 hq hq2 hU (Or.inl nk) (fun U3 S3 h3 u3 v3 => ?_)
      refine eS rfl rfl ?_
      refine eS rfl rfl ?_
      obtain ⟨g1, g2⟩ := I_num (d := d + 16) hF h3 c
      cases e : slA ps x.2.1 (nmA ts (x.1 + 1)) with
      | none =>
        have e' : letA ts L ps x = .error (plA ts L (x.1 + 1)) := by unfold letA; rw [if_pos c, e]
        exact gVo hn rfl rfl rfl rfl rfl ⟨catOk rfl, catOk rfl⟩ rfl (g2 e) (fun v h' z => (cEr_no z).elim) (fun q h' z => kx _ _ _ e' z)
      | some r =>
        obtain ⟨p, i, vs'⟩ := r
        obtain ⟨S4, h4, a4⟩ := g1 p i vs' e
        have hvp := hv p i vs' e
        subst hvp
        refine gV1 hn rfl rfl rfl rfl rfl ⟨catOk rfl, catOk rfl⟩ a4 ?_
        refine I_put rfl rfl rfl rfl rfl hF h4 hq hq2 u3 (Or.inl nk) (fun U5 S5 h5 u5 v5 => ?_)
        refine I_tick hn rfl rfl rfl rfl rfl rfl rfl h5 hlt2 (fun S6 h6 => ?_)
        refine eS rfl rfl ?_
        refine eS rfl rfl ?_
        refine I_exp (k := 61) (by decide) (by decide) hF h6 rfl rfl ⟨catOk rfl, catOk rfl⟩ rfl (fun S7 c2 h7 => ?_) (fun o h' c2 z => kx _ _ _ (by unfold letA; rw [if_pos c, e]; dsimp only; rw [if_neg c2]) z)
        have c2 : kA ts (x.1 + 2) = 61 := c2
        refine eS rfl rfl ?_
        refine eS rfl rfl ?_
        refine I_sum hF h7 rfl rfl ⟨catOk rfl, catOk rfl⟩ rfl (fun y S8 e8 h8 => ?_) (fun e8 o h' he hc => kx _ _ _ (by unfold letA; rw [if_pos c, e]; dsimp only; rw [if_pos c2, he]) hc)
        refine eR rfl rfl (kk p i vs' y U5 S8 (by unfold letA; rw [if_pos c, e]; dsimp only; rw [if_pos c2, e8]) e e8 h8 u5 (fun p hp => (v5 p hp).trans (v3 p hp)) c h7.1)
    refine eS rfl rfl ?_
    refine gV1 hn rfl rfl rfl rfl rfl ⟨catOk rfl, catOk rfl⟩ (I_here hF h2) ?_
    refine eS rfl rfl ?_
    refine eIEq rfl rfl (fun _ => ?_) (fun z => absurd ((i32_eq (a := kA ts (x.1 + 1)) (b := 30) (by have := hF.2.2.2.2.1 (x.1 + 1); omega) (by omega)).mpr c) z)
    refine eS rfl rfl ?_
    refine eS rfl rfl ?_
    refine gV1 hn rfl rfl rfl rfl rfl ⟨catOk rfl, catOk rfl⟩ (I_par hF h2 c) ?_
    cases e1 : ps.findIdx? (fun y => y == nmA ts (x.1 + 1)) with
    | some k =>
      have v1 : fndV 0 ps (nmA ts (x.1 + 1)) = Int32.ofNat k := fndV_some e1
      have lk := fnd_lt e1
      have h3 := hF.2.2.2.2.2.2.1
      rw [show (if fndV 0 ps (nmA ts (x.1 + 1)) = -1 then (0 : Int32) else 1) = 1 from if_neg (by rw [v1]; exact neg1_ne (by omega))]
      refine eEq rfl rfl (fun z => absurd z (by decide)) (fun _ => ?_)
      refine eS rfl rfl ?_
      refine eS rfl rfl ?_
      refine f36 5 (fun p i vs' e => ?_)
      unfold slA at e
      rw [e1] at e
      cases e
      rfl
    | none =>
      have v1 : fndV 0 ps (nmA ts (x.1 + 1)) = -1 := fndV_none e1
      rw [if_pos v1]
      refine eEq rfl rfl (fun _ => ?_) (fun z => absurd rfl z)
      refine eS rfl rfl ?_
      refine f36 4 (fun p i vs' e => ?_)
      unfold slA at e
      rw [e1] at e
      dsimp only at e
      split at e
      · cases e; rfl
      · split at e
        · cases e; rfl
        · cases e
  · skip
    refine eS rfl rfl ?_
    refine gV1 hn rfl rfl rfl rfl rfl ⟨catOk rfl, catOk rfl⟩ (I_here hF h2) ?_
    refine eS rfl rfl ?_
    refine eIEq rfl rfl (fun z => absurd ((i32_eq (a := kA ts (x.1 + 1)) (b := 30) (by have := hF.2.2.2.2.1 (x.1 + 1); omega) (by omega)).mp z) c) (fun _ => ?_)
    refine eS rfl rfl ?_
    exact I_ref hF h2 rfl rfl ⟨catOk rfl, catOk rfl⟩ rfl (fun o h' z => kx _ _ _ (by unfold letA; rw [if_neg c]) z)
theorem c_letS {a g : Nat} (hF : cF ts L n0 S0 pa ps rp) (hf : ps ≠ [] → f = true) (h : cI0 ts L n0 kd0 U0 S0 pa ps rp x K D kd n U S) (hb : n ≤ n0 + x.1) (hk : kA ts x.1 = 32) : aE aM71 (d + 20) 0 [(0, .ref 22), (1, .int dp)] [] (gH scr kd n S) (stO scr (fun x => x) (cIb ts L n0 kd0 U0 S0 pa ps rp D) (cEr scr n0 kd0 U0 S0 pa) (stP f g) kd n U x K D a (letA ts L ps x)) := by
  have hn := hF.1
  have hnn := h.2.1
  have hx := h.1
  refine c_stBegin hF h hb (fun kd1 U1 S1 h1 u1 v1 => ?_)
  have nk : (∀ p ∈ K, p.1 ≠ n + 20) ∧ ∀ p ∈ D, p.1 ≠ n + 20 := ⟨fun p hp => by have := (h.2.2.2.2.2.1 p hp).2.1; omega, fun p hp => by have := (h.2.2.2.2.2.2 p hp).2.1; omega⟩
  rw [hk]
  refine eB (pc' := 143) (st' := []) rfl rfl rfl rfl ?_
  refine eS rfl rfl ?_
  refine eS rfl rfl ?_
  refine gVq (by omega) rfl rfl rfl rfl rfl ⟨catOk rfl, catOk rfl⟩ rfl (c_let hF h1 (by omega) (by omega) nk u1 hk (fun p i vs' y U2 S2 e1 e2 e3 h2 u2 v2 hk2 o3 => Or.inl ⟨rfl, ?_⟩) (fun e o h' e1 z => ?_))
  · rw [e1]
    obtain ⟨l, hl⟩ := app_of (x := x) (sumA_rd hF.2.2.2.1 4 0) o3 e3 rfl
    obtain ⟨s1, s2, s3, s4⟩ := slA_ok hx.2.2.1 hx.2.2.2 (nmA_ok hF.2.2.2.1 hk2) e2
    have hp3 : p = 3 ∨ p = 2 := by rcases s4 with ⟨z, -⟩ | ⟨z, -⟩ <;> omega
    have h3 := hF.2.2.2.2.2.2.1
    refine eS rfl rfl ?_
    refine c_fin (R := uBk f g U y.2.2) (K' := []) (M := []) hF hnn (by rw [List.append_nil]; exact h2) u2 (by omega) (by omega) (by omega) (by omega) rfl ⟨fun p hp => (by cases hp), mCv_nil⟩ ?_ ⟨l, hl⟩ (fun p hp => ⟨(v1 p hp).1, by rw [v2 p (by omega), (v1 p hp).2]; exact fr9_id⟩) (fun U' u' => ?_)
    · have := (sumA_rd hF.2.2.2.1 4 0 _ y o3 e3).2.1
      have : x.1 + 3 < y.1 := this
      omega
    · refine ⟨p + 2, i, x.2.2.length, y.2.2.length, .null, 0, .null, 0, 0, ⟨_, _, _, _, u'⟩, by rw [hl, List.length_append]; omega, Nat.le_refl _, ?_⟩
      rw [tk_all]
      refine Or.inr (Or.inr (Or.inr (Or.inr (Or.inl ⟨?_, hg_drop (sumA_hg hF.2.2.2.1 hF.2.2.2.2.2.2.2.2.2 hF.2.2.2.2.2.2.1 hf 4 0) o3 e3 rfl, rfl, rfl⟩))))
      rcases s4 with ⟨rfl, z⟩ | ⟨rfl, z⟩
      · exact Or.inr ⟨rfl, by omega, hf (fun y => by rw [y] at z; exact absurd z (Nat.not_lt_zero _))⟩
      · exact Or.inl ⟨rfl, z⟩
  · obtain ⟨q, rfl⟩ := cEr_inr z
    rw [e1]
    exact Or.inr ⟨q, rfl, z⟩
end SLT
