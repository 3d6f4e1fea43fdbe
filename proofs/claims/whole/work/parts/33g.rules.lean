/-! steps under the invariant -/
section CRU
variable {scr : List Value} {n0 d L pa n q pc i j : Nat} {kd0 kd : Nat → Nat} {U0 S0 U S : Nat → List Value} {ts : List aTk} {ps : List (List Nat)} {rp : List Value} {x : xSt} {K : List (Nat × cAl)} {D : List (Nat × dEf)} {M : aMt} {ls : aLc} {st r rest c : List Value} {res : aOut → aH → Prop} {v : Value}
theorem I_get (hf : aFind M.cd pc = some (.getfield i, (11, j, 0, .null))) (hF : cF ts L n0 S0 pa ps rp) (h : cI0 ts L n0 kd0 U0 S0 pa ps rp x K D kd n U S) (hq : n0 + 20 ≤ q) (hq2 : q < n + 20) (hU : U q = c) (hv : c[j]? = some v) (k : aE M d (pc + 3) ls (v :: r) (gH scr kd n S) res) : aE M d pc ls (.ref q :: r) (gH scr kd n S) res :=
  gGetO hf (by have := hF.1; omega) hq2 (h.2.2.2.1.2 q hq hq2).1 ((I_87 hF.1 h q (by have := hF.1; omega)).trans hU) hv k
/-- a field of an object that is no link's yet -/
theorem I_put {c1 : vw_C × List FieldType} {ty : FieldType} (hf : aFind M.cd pc = some (.putfield i, (11, j, 0, .null))) (hc1 : aCls[11]? = some c1) (hj : Nat.blt j 13 = true) (ht : c1.2[j]? = some ty) (hv : aFit ty v = true) (hF : cF ts L n0 S0 pa ps rp) (h : cI0 ts L n0 kd0 U0 S0 pa ps rp x K D kd n U S) (hq : n0 + 20 ≤ q) (hq2 : q < n + 20) (hU : U q = c) (h1 : ((∀ p ∈ K, p.1 ≠ q) ∧ ∀ p ∈ D, p.1 ≠ q) ∨ (j == 0 || j == 1 || j == 8 || j == 9 || j == 10) = false)
    (k : ∀ U' S', cI0 ts L n0 kd0 U0 S0 pa ps rp x K D kd n U' S' → U' q = c.set j v → (∀ p, p ≠ q → U' p = U p) → aE M d (pc + 3) ls r (gH scr kd n S') res) : aE M d pc ls (v :: .ref q :: r) (gH scr kd n S) res := by
  have e : S q = U q := I_87 hF.1 h q (by have := hF.1; omega)
  have hl := (h.2.2.2.1.2 q hq hq2).2
  refine gPutO hf (by have := hF.1; omega) hq2 hc1 (h.2.2.2.1.2 q hq hq2).1 (by rw [e]; exact hl) hj ht hv ?_
  refine k (aUp U q ((U q).set j v)) _ ?_ (by rw [aUp_same, hU]) (fun p hp => aUp_ne hp)
  rcases h1 with h1 | h1
  · show cI0 ts L n0 kd0 U0 S0 pa ps rp x K D kd n _ (aUp S q ((S q).set j v))
    rw [e]
    exact I_row hF.1 h hq (by rw [List.length_set]; exact hl) (Or.inl h1)
  · exact I_set hF.1 h hq hq2 h1
/-- what an expression's or a test's reading leaves -/
theorem I_of {y : xSt} {fd fc : Value} {S' : Nat → List Value} (h : cI0 ts L n0 kd0 U0 S0 pa ps rp x K D kd n U S) (hy : xOk ts y) (hxy : x.1 ≤ y.1) (hS : cX S0 U pa fd (lstV (D.map (fun p => p.1))) (lstV (K.map (fun p => p.1))) (-1) ps.length rp .null fc 0 y S') (h1 : chF U fc (K.map (fun p => p.1))) (h2 : chF U fd (D.map (fun p => p.1))) : cI0 ts L n0 kd0 U0 S0 pa ps rp y K D kd n U S' :=
  ⟨hy, h.2.1, by have := h.2.2.1; omega, h.2.2.2.1, ⟨fd, fc, hS, h1, h2⟩, h.2.2.2.2.2⟩
theorem cEr_of {e : Nat} {fd ld lc fc : Value} {cp : Nat} {S' : Nat → List Value} {o : aOut} {h' : aH} (hr : rp.length = 3) (h160 : ts.length ≤ 160) (h : cI0 ts L n0 kd0 U0 S0 pa ps rp x K D kd n U S) {y : xSt} (hS : cX S0 U pa fd ld lc (Int32.ofNat e) cp rp .null fc 0 y S') (ht : thr (gH scr kd n S') o h') : cEr scr n0 kd0 U0 S0 pa e o h' := by
  obtain ⟨rv, t1, t2, t3, rfl, -, h8, h1, h2, h3, -⟩ := hS
  exact ⟨kd, n, U, fd, ld, lc, y.1, y.2.1.length, rv, cp, rp, fc, y.2.2.length, t1, t2, t3, ⟨h8, hr, h1, h2, h3⟩, h.2.1, by have := h.2.2.1; have := h.1.1; omega, h.2.2.2.1, ht⟩
theorem I_sum (hF : cF ts L n0 S0 pa ps rp) (h : cI0 ts L n0 kd0 U0 S0 pa ps rp x K D kd n U S) (hf : aFind M.cd pc = some (.invokevirtual i, (74, 2, 1, .null))) (ha : aArgs 2 st = some ([.ref 22, .int (Int32.ofNat 0)], rest)) (hc : aCat rest + aM73.nl ≤ 80 ∧ aCat [.ref 22, .int (Int32.ofNat 0)] ≤ aM73.nl) (hh : M.hd = [])
    (kk : ∀ y S', sumA ts L ps 4 0 x = .ok y → cI0 ts L n0 kd0 U0 S0 pa ps rp y K D kd n U S' → aE M (d + 16) (pc + 3) ls rest (gH scr kd n S') res) (kx : ∀ e o h', sumA ts L ps 4 0 x = .error e → cEr scr n0 kd0 U0 S0 pa e o h' → res o h') : aE M (d + 16) pc ls st (gH scr kd n S) res := by
  have h0 := h
  obtain ⟨a1, a2, a3, a4, ⟨fd, fc, a5, a6, a7⟩, a8, a9⟩ := h
  obtain ⟨f1, f2, f3, f4, f5, f6, f7, f8, f9, f10⟩ := hF
  have hn : 67 ≤ n := by omega
  have hb := c_sumA (d := d) (scr := scr) (kd := kd) (U := U) (fd := fd) (ld := lstV (D.map (fun p => p.1))) (lc := lstV (K.map (fun p => p.1))) (ep := -1) (fs := .null) (fc := fc) (wc := 0) hn f2 f3 f4 f5 f6 f7 f8 3 0 rfl x S a1 a5
  refine gVx (q := 22) hn hf ha rfl rfl (show aP[74]? = some aM73 from rfl) hc hh hb (fun y S' e hS => ?_) (fun e z S' he hz hS o h' ht => ?_)
  · obtain ⟨y1, y2, -⟩ := sumA_rd f4 4 0 x y a1 e
    exact kk y S' e (I_of h0 y1 (by omega) hS a6 a7)
  · exact kx e o h' he (cEr_of f9 f3.2.2.1 h0 hS ht)
theorem I_cnd (hF : cF ts L n0 S0 pa ps rp) (h : cI0 ts L n0 kd0 U0 S0 pa ps rp x K D kd n U S) (hf : aFind M.cd pc = some (.invokevirtual i, (89, 1, 1, .null))) (ha : aArgs 1 st = some ([.ref 22], rest)) (hc : aCat rest + aM88.nl ≤ 80 ∧ aCat [.ref 22] ≤ aM88.nl) (hh : M.hd = [])
    (kk : ∀ y S', cndA ts L ps x = .ok y → cI0 ts L n0 kd0 U0 S0 pa ps rp y K D kd n U S' → aE M (d + 17) (pc + 3) ls rest (gH scr kd n S') res) (kx : ∀ e o h', cndA ts L ps x = .error e → cEr scr n0 kd0 U0 S0 pa e o h' → res o h') : aE M (d + 17) pc ls st (gH scr kd n S) res := by
  have h0 := h
  obtain ⟨a1, a2, a3, a4, ⟨fd, fc, a5, a6, a7⟩, a8, a9⟩ := h
  obtain ⟨f1, f2, f3, f4, f5, f6, f7, f8, f9, f10⟩ := hF
  have hn : 67 ≤ n := by omega
  have hb := c_cond (d := d) (scr := scr) (kd := kd) (U := U) (fd := fd) (ld := lstV (D.map (fun p => p.1))) (lc := lstV (K.map (fun p => p.1))) (ep := -1) (fs := .null) (fc := fc) (wc := 0) hn f2 f3 f4 f5 f6 f7 f8 x S a1 a5
  refine gVx (q := 22) hn hf ha rfl rfl (show aP[89]? = some aM88 from rfl) hc hh hb (fun y S' e hS => ?_) (fun e z S' he hz hS o h' ht => ?_)
  · obtain ⟨y1, y2, -⟩ := cndA_rd f4 x y a1 e
    exact kk y S' e (I_of h0 y1 (by omega) hS a6 a7)
  · exact kx e o h' he (cEr_of f9 f3.2.2.1 h0 hS ht)
theorem I_ref (hF : cF ts L n0 S0 pa ps rp) (h : cI0 ts L n0 kd0 U0 S0 pa ps rp x K D kd n U S) (hf : aFind M.cd pc = some (.invokevirtual i, (85, 1, 1, .null))) (ha : aArgs 1 st = some ([.ref 22], rest)) (hc : aCat rest + aM84.nl ≤ 80 ∧ aCat [.ref 22] ≤ aM84.nl) (hh : M.hd = [])
    (kx : ∀ o h', cEr scr n0 kd0 U0 S0 pa (plA ts L x.1) o h' → res o h') : aE M (d + 2) pc ls st (gH scr kd n S) res := by
  have h0 := h
  obtain ⟨a1, a2, a3, a4, ⟨fd, fc, ⟨rv, t1, t2, t3, rfl, b1⟩, a6, a7⟩, a8, a9⟩ := h
  obtain ⟨f1, f2, f3, f4, f5, f6, f7, f8, f9, f10⟩ := hF
  have hn : 67 ≤ n := by omega
  have h160 := f3.2.2.1
  have hx := a1.1
  exact gVo hn hf ha rfl rfl (show aP[85]? = some aM84 from rfl) hc hh (c_refuseHere (d := d) hn f3 (by omega)) (fun v h' z => by cases z.1) (fun q h' z => kx _ _ (cEr_of (y := x) f9 h160 h0 ⟨rv, t1, t2, t3, rfl, b1⟩ z))
theorem I_exp {k : Nat} (hk : k < 2 ^ 20) (hk34 : k ≠ 34) (hF : cF ts L n0 S0 pa ps rp) (h : cI0 ts L n0 kd0 U0 S0 pa ps rp x K D kd n U S) (hf : aFind M.cd pc = some (.invokevirtual i, (87, 2, 1, .null))) (ha : aArgs 2 st = some ([.ref 22, .int (Int32.ofNat k)], rest)) (hc : aCat rest + aM86.nl ≤ 80 ∧ aCat [.ref 22, .int (Int32.ofNat k)] ≤ aM86.nl) (hh : M.hd = [])
    (kk : ∀ S', kA ts x.1 = k → cI0 ts L n0 kd0 U0 S0 pa ps rp (x.1 + 1, x.2) K D kd n U S' → aE M (d + 3) (pc + 3) ls rest (gH scr kd n S') res) (kx : ∀ o h', kA ts x.1 ≠ k → cEr scr n0 kd0 U0 S0 pa (plA ts L x.1) o h' → res o h') : aE M (d + 3) pc ls st (gH scr kd n S) res := by
  have h0 := h
  obtain ⟨a1, a2, a3, a4, ⟨fd, fc, ⟨rv, t1, t2, t3, rfl, b1⟩, a6, a7⟩, a8, a9⟩ := h
  obtain ⟨f1, f2, f3, f4, f5, f6, f7, f8, f9, f10⟩ := hF
  have hn : 67 ≤ n := by omega
  have h160 := f3.2.2.1
  have hx := a1.1
  have hb := c_expect (d := d) (scr := scr) (kd := kd) (k := k) (U := U) (fd := fd) (ld := lstV (D.map (fun p => p.1))) (lc := lstV (K.map (fun p => p.1))) (ep := -1) (fs := .null) (fc := fc) (wc := 0) (pa := pa) (cv := x.2.1.length) (cp := ps.length) (rv := rv) (rp := rp) (tc := x.2.2.length) (t1 := t1) (t2 := t2) (t3 := t3) (t := x.1) hn f3 (by omega) hk (f5 _)
  by_cases e : kA ts x.1 = k
  · simp only [if_pos e] at hb
    refine gVo hn hf ha rfl rfl (show aP[87]? = some aM86 from rfl) hc hh hb (fun v h' z => ?_) (fun q h' z => by cases z.1)
    obtain ⟨z1, rfl⟩ := z
    cases z1
    exact kk _ e (I_of h0 (xTick a1 e hk34) (Nat.le_succ _) ⟨rv, t1, t2, t3, rfl, b1⟩ a6 a7)
  · simp only [if_neg e] at hb
    exact gVo hn hf ha rfl rfl (show aP[87]? = some aM86 from rfl) hc hh hb (fun v h' z => by cases z.1) (fun q h' z => kx _ _ e (cEr_of (y := x) f9 h160 h0 ⟨rv, t1, t2, t3, rfl, b1⟩ z))
/-- the field "at" -/
theorem I_g22 (hf : aFind M.cd pc = some (.getfield i, (1, j, 0, .null))) (hF : cF ts L n0 S0 pa ps rp) (h : cI0 ts L n0 kd0 U0 S0 pa ps rp x K D kd n U S) (hv : (S 22)[j]? = some v) (k : aE M d (pc + 3) ls (v :: r) (gH scr kd n S) res) : aE M d pc ls (.ref 22 :: r) (gH scr kd n S) res :=
  gGet (by have := hF.1; have := h.2.1; omega) hf rfl rfl hv k
/-- how many terms there are -/
theorem I_gtc (hf : aFind M.cd pc = some (.getfield i, (9, 5, 0, .null))) (hF : cF ts L n0 S0 pa ps rp) (h : cI0 ts L n0 kd0 U0 S0 pa ps rp x K D kd n U S) (k : aE M d (pc + 3) ls (.int (Int32.ofNat x.2.2.length) :: r) (gH scr kd n S) res) : aE M d pc ls (.ref pa :: r) (gH scr kd n S) res :=
  gGet (by have := hF.1; have := h.2.1; omega) hf (pa_h0 hF.2.1) (pa_k0 hF.2.1) (I_22 hF h).2.2.2.2.2.2 k
end CRU
