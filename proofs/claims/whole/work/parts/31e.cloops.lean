/-! the class reads expressions -/
def tmF (tm : List (Nat × Nat × Nat)) (t1 t2 t3 : List Value) : Prop := t1.length = 160 ∧ t2.length = 160 ∧ t3.length = 160 ∧ ∀ (i : Nat) (q : Nat × Nat × Nat), tm[i]? = some q → t1[i]? = some (.int (Int32.ofNat q.1)) ∧ t2[i]? = some (.int (Int32.ofNat q.2.1)) ∧ t3[i]? = some (.int (Int32.ofNat q.2.2))
/-- the heap of a state -/
def cX (S0 U : Nat → List Value) (pa : Nat) (fd ld lc : Value) (ep : Int32) (cp : Nat) (rp : List Value) (fs fc : Value) (wc : Int32) (x : xSt) (S : Nat → List Value) : Prop := ∃ (rv t1 t2 t3 : List Value), S = (rS S0 U pa fd ld lc x.1 ep x.2.1.length rv cp rp fs fc x.2.2.length wc t1 t2 t3) ∧ nmF 32 x.2.1 rv ∧ rv.length = 8 ∧ tmF x.2.2 t1 t2 t3
/-- what reading ends with -/
def xOut (scr : List Value) (kd : Nat → Nat) (n : Nat) (S0 U : Nat → List Value) (pa : Nat) (fd ld lc : Value) (ep : Int32) (cp : Nat) (rp : List Value) (fs fc : Value) (wc : Int32) (ts : List aTk) : Except Nat xSt → aOut → aH → Prop
  | .ok y => fun o h => o = .inl none ∧ ∃ S, cX S0 U pa fd ld lc ep cp rp fs fc wc y S ∧ h = gH scr kd n S
  | .error e => fun o h => ∃ x S, xOk ts x ∧ cX S0 U pa fd ld lc (Int32.ofNat e) cp rp fs fc wc x S ∧ thr (gH scr kd n S) o h
section XCL
variable {scr : List Value} {kd : Nat → Nat} {n d L pa t cv cp tc : Nat} {S0 U : Nat → List Value} {fd ld lc fs fc : Value} {ep wc : Int32} {rv rp t1 t2 t3 : List Value} {ts : List aTk} {vs ps : List (List Nat)} {dp : Nat} {sm : xSt → Except Nat xSt} {Q : aOut → aH → Prop} {tm : List (Nat × Nat × Nat)}
theorem tmF_snoc {q : Nat × Nat × Nat} (h : tmF tm t1 t2 t3) (hl : tm.length < 160) : tmF (tm ++ [q]) (t1.set tm.length (.int (Int32.ofNat q.1))) (t2.set tm.length (.int (Int32.ofNat q.2.1))) (t3.set tm.length (.int (Int32.ofNat q.2.2))) := by
  obtain ⟨l1, l2, l3, hp⟩ := h
  refine ⟨by rw [List.length_set]; exact l1, by rw [List.length_set]; exact l2, by rw [List.length_set]; exact l3, fun i r hr => ?_⟩
  rcases at_snoc hr with ⟨hi, hr⟩ | ⟨rfl, rfl⟩
  · rw [st_ne i (by omega), st_ne i (by omega), st_ne i (by omega)]
    exact hp i r hr
  · exact ⟨st_at (by omega), st_at (by omega), st_at (by omega)⟩
/-- a call of a reading method: it goes on, or what was thrown is thrown -/
theorem gVx {M : aMt} {pc i : Nat} {ls : aLc} {lk : aLk} {st : List Value} {S : Nat → List Value} {res : aOut → aH → Prop} {q : Nat} {as rest : List Value} {M' : aMt} {r : Except Nat xSt} (hn : 67 ≤ n) (hf : aFind M.cd pc = some (.invokevirtual i, lk)) (ha : aArgs lk.2.1 st = some (.ref q :: as, rest)) (hp : (Nat.ble 20 q && Nat.blt q 87) = true) (hk : gK kd q = 2 * lk.2.2.1 + 8) (hM : aP[lk.1]? = some M')
    (hc : aCat rest + M'.nl ≤ 80 ∧ aCat (.ref q :: as) ≤ M'.nl) (hh : M.hd = []) (hb : aE M' d 0 (lv_args 0 (.ref q :: as)) [] (gH scr kd n S) (xOut scr kd n S0 U pa fd ld lc ep cp rp fs fc wc ts r)) (kk : ∀ y S', r = .ok y → (cX S0 U pa fd ld lc ep cp rp fs fc wc y S') → aE M (d + 1) (pc + 3) ls rest (gH scr kd n S') res) (kx : ∀ e x S', r = .error e → xOk ts x → (cX S0 U pa fd ld lc (Int32.ofNat e) cp rp fs fc wc x S') → ∀ o h, thr (gH scr kd n S') o h → res o h) : aE M (d + 1) pc ls st (gH scr kd n S) res := by
  cases r with
  | ok y => exact gVo hn hf ha hp hk hM hc hh hb (fun v h' z => by obtain ⟨z1, S', z2, rfl⟩ := z; cases z1; exact kk y S' rfl z2) (fun q h' z => by cases z.1)
  | error e => exact gVo hn hf ha hp hk hM hc hh hb (fun v h' z => by obtain ⟨x, S', z1, z2, z3, z4⟩ := z; cases z3) (fun q h' z => by obtain ⟨x, S', z1, z2, z3⟩ := z; exact kx e x S' rfl z1 z2 _ _ z3)
theorem c_prd_loop {one : xSt → Except Nat xSt} (hn : 67 ≤ n) (hpa : pa = 46 ∨ pa = 51) (hT : tcS S0 ts L) (hkA : ∀ t, kA ts t < 2 ^ 20) (h1 : xRd ts one) (hs : ∀ x S, xOk ts x → (cX S0 U pa fd ld lc ep cp rp fs fc wc x S) → aE aM75 (d + 2) 0 [(0, .ref 22), (1, .int (Int32.ofNat dp))] [] (gH scr kd n S) (xOut scr kd n S0 U pa fd ld lc ep cp rp fs fc wc ts (one x))) : ∀ (m k : Nat) (x : xSt) (S : Nat → List Value), k + m = 160 → k ≤ x.1 → xOk ts x → (cX S0 U pa fd ld lc ep cp rp fs fc wc x S) → aE aM74 (d + 3) 7 [(2, .int (Int32.ofNat k)), (0, .ref 22), (1, .int (Int32.ofNat dp))] [] (gH scr kd n S) (xOut scr kd n S0 U pa fd ld lc ep cp rp fs fc wc ts (lopA ts 42 47 8 9 one m x))
  | m, k, x, S, hm, hk, hx, hS => by
    obtain ⟨rv, t1, t2, t3, rfl, hrv, h8, hF⟩ := hS
    have hl := hT.2.2.1
    obtain ⟨x1, x2, x3, x4⟩ := hx
    have xt : x.1 < 2 ^ 20 := by omega
    have stop : ¬ (kA ts x.1 = 42 ∨ kA ts x.1 = 47) → lopA ts 42 47 8 9 one m x = .ok x := fun z => by
      cases m with
      | zero => rfl
      | succ m => rw [lopA, if_neg z]
    by_cases c : kA ts x.1 = 42 ∨ kA ts x.1 = 47
    · have hlt : x.1 < ts.length := c.elim (fun z => kA_lt z (by decide)) (fun z => kA_lt z (by decide))
      obtain ⟨m, rfl⟩ : ∃ j, m = j + 1 := ⟨m - 1, by omega⟩
      rw [lopA, if_pos c]
      have f49 : ∀ op : Nat, op = (if kA ts x.1 = 42 then 8 else 9) → aE aM74 (d + 3) 48 [(2, .int (Int32.ofNat k)), (0, .ref 22), (1, .int (Int32.ofNat dp))] [.int (Int32.ofNat op)] (gH scr kd n (rS S0 U pa fd ld lc x.1 ep x.2.1.length rv cp rp fs fc x.2.2.length wc t1 t2 t3)) (xOut scr kd n S0 U pa fd ld lc ep cp rp fs fc wc ts (match one (x.1 + 1, x.2) with | .error e => .error e | .ok y => lopA ts 42 47 8 9 one m (y.1, y.2.1, y.2.2 ++ [(if kA ts x.1 = 42 then 8 else 9, 0, 0)]))) := by
        intro op hop
        rw [← hop]
        have hb := hs (x.1 + 1, x.2) (rS S0 U pa fd ld lc (x.1 + 1) ep x.2.1.length rv cp rp fs fc x.2.2.length wc t1 t2 t3) ⟨by show x.1 + 1 ≤ _; omega, by show x.2.2.length ≤ x.1 + 1; omega, x3, x4⟩ ⟨rv, t1, t2, t3, rfl, hrv, h8, hF⟩
        refine eS rfl rfl ?_
        refine eS rfl rfl ?_
        refine eS rfl rfl ?_
        refine gGet hn rfl rfl rfl rfl ?_
        refine eS rfl rfl ?_
        refine eS rfl rfl ?_
        rw [i32_succ]
        refine gPut hn rfl rfl rfl rfl rfl rfl rfl rS_t ?_
        refine eS rfl rfl ?_
        refine eS rfl rfl ?_
        refine gVx hn rfl rfl rfl rfl rfl ⟨catOk rfl, catOk rfl⟩ rfl hb (fun y S' e hS' => ?_) (fun e z S' he hz hS' o h ho => by rw [he]; exact ⟨z, S', hz, hS', ho⟩)
        obtain ⟨⟨y1, y2, y3, y4⟩, g1, g2, g3, g4⟩ := h1 (x.1 + 1, x.2) y ⟨by show x.1 + 1 ≤ _; omega, by show x.2.2.length ≤ x.1 + 1; omega, x3, x4⟩ e
        have g1 : x.1 + 1 < y.1 := g1
        have g2 : y.2.2.length + (x.1 + 1) ≤ x.2.2.length + y.1 := g2
        rw [e]
        dsimp only
        obtain ⟨rv2, u1, u2, u3, rfl, q1, q2, q3⟩ := hS'
        refine eS rfl rfl ?_
        refine gGet hn rfl rfl rfl rfl ?_
        refine eS rfl rfl ?_
        refine eS rfl rfl ?_
        refine eS rfl rfl ?_
        refine eV1 rfl rfl (gH_at (by rcases hpa with rfl | rfl <;> decide) (by omega)) (pa_k0 hpa) rfl ⟨catOk rfl, catOk rfl⟩ (c_addTerm hn hpa (by omega) q3.1 q3.2.1 q3.2.2.1) ?_
        refine eS rfl rfl ?_
        refine eS rfl rfl ?_
        rw [i32_succ]
        refine eLoc (l' := [(2, .int (Int32.ofNat (k + 1))), (0, .ref 22), (1, .int (Int32.ofNat dp))]) rfl ⟨rfl, rfl, rfl, trivial⟩ ?_
        refine c_prd_loop hn hpa hT hkA h1 hs m (k + 1) (y.1, y.2.1, y.2.2 ++ [(op, 0, 0)]) _ (by omega) (by show k + 1 ≤ y.1; omega) ⟨y1, by rw [List.length_append, List.length_singleton]; show _ ≤ y.1; omega, y3, y4⟩ ⟨rv2, _, _, _, ?_, q1, q2, (tmF_snoc (q := (op, 0, 0)) q3 (by omega))⟩
        rw [List.length_append, List.length_singleton]
        rfl
      by_cases ca : kA ts x.1 = 42
      · skip
        refine eS rfl rfl ?_
        refine eS rfl rfl ?_
        refine eIGe rfl rfl (fun z => absurd ((i32_le (a := 160) (b := k) (by omega) (by omega)).mp z) (by omega)) (fun _ => ?_)
        refine eS rfl rfl ?_
        refine gV1 hn rfl rfl rfl rfl rfl ⟨catOk rfl, catOk rfl⟩ (c_here hn hT xt) ?_
        refine eS rfl rfl ?_
        refine eIEq rfl rfl (fun _ => ?_) (fun z => absurd ((i32_eq (a := kA ts x.1) (b := 42) (Nat.lt_trans (hkA _) (by decide)) (by decide)).mpr ca) z)
        refine eS rfl rfl ?_
        refine gV1 hn rfl rfl rfl rfl rfl ⟨catOk rfl, catOk rfl⟩ (c_here hn hT xt) ?_
        refine eS rfl rfl ?_
        refine eINe rfl rfl (fun z => absurd ((i32_eq (a := kA ts x.1) (b := 42) (Nat.lt_trans (hkA _) (by decide)) (by decide)).mpr ca) z) (fun _ => ?_)
        refine eS rfl rfl ?_
        refine eS rfl rfl ?_
        exact eLoc (l' := [(2, .int (Int32.ofNat k)), (0, .ref 22), (1, .int (Int32.ofNat dp))]) rfl ⟨rfl, rfl, rfl, trivial⟩ (f49 8 (if_pos ca).symm)
      · have cb := c.resolve_left ca
        refine eS rfl rfl ?_
        refine eS rfl rfl ?_
        refine eIGe rfl rfl (fun z => absurd ((i32_le (a := 160) (b := k) (by omega) (by omega)).mp z) (by omega)) (fun _ => ?_)
        refine eS rfl rfl ?_
        refine gV1 hn rfl rfl rfl rfl rfl ⟨catOk rfl, catOk rfl⟩ (c_here hn hT xt) ?_
        refine eS rfl rfl ?_
        refine eIEq rfl rfl (fun z => absurd ((i32_eq (a := kA ts x.1) (b := 42) (Nat.lt_trans (hkA _) (by decide)) (by decide)).mp z) ca) (fun _ => ?_)
        refine eS rfl rfl ?_
        refine gV1 hn rfl rfl rfl rfl rfl ⟨catOk rfl, catOk rfl⟩ (c_here hn hT xt) ?_
        refine eS rfl rfl ?_
        refine eINe rfl rfl (fun z => absurd ((i32_eq (a := kA ts x.1) (b := 47) (Nat.lt_trans (hkA _) (by decide)) (by decide)).mpr cb) z) (fun _ => ?_)
        refine eS rfl rfl ?_
        refine gV1 hn rfl rfl rfl rfl rfl ⟨catOk rfl, catOk rfl⟩ (c_here hn hT xt) ?_
        refine eS rfl rfl ?_
        refine eINe rfl rfl (fun _ => ?_) (fun z => absurd ((i32_eq (a := kA ts x.1) (b := 42) (Nat.lt_trans (hkA _) (by decide)) (by decide)).mp z) ca)
        refine eS rfl rfl ?_
        exact eLoc (l' := [(2, .int (Int32.ofNat k)), (0, .ref 22), (1, .int (Int32.ofNat dp))]) rfl ⟨rfl, rfl, rfl, trivial⟩ (f49 9 (if_neg ca).symm)
    · rw [stop c]
      have fin : aE aM74 (d + 3) 80 [(2, .int (Int32.ofNat k)), (0, .ref 22), (1, .int (Int32.ofNat dp))] [] (gH scr kd n (rS S0 U pa fd ld lc x.1 ep x.2.1.length rv cp rp fs fc x.2.2.length wc t1 t2 t3)) (xOut scr kd n S0 U pa fd ld lc ep cp rp fs fc wc ts (.ok x)) := eR rfl rfl ⟨rfl, _, ⟨rv, t1, t2, t3, rfl, hrv, h8, hF⟩, rfl⟩
      by_cases k160 : k < 160
      · skip
        refine eS rfl rfl ?_
        refine eS rfl rfl ?_
        refine eIGe rfl rfl (fun z => absurd ((i32_le (a := 160) (b := k) (by omega) (by omega)).mp z) (by omega)) (fun _ => ?_)
        refine eS rfl rfl ?_
        refine gV1 hn rfl rfl rfl rfl rfl ⟨catOk rfl, catOk rfl⟩ (c_here hn hT xt) ?_
        refine eS rfl rfl ?_
        refine eIEq rfl rfl (fun z => absurd (Or.inl ((i32_eq (a := kA ts x.1) (b := 42) (Nat.lt_trans (hkA _) (by decide)) (by decide)).mp z)) c) (fun _ => ?_)
        refine eS rfl rfl ?_
        refine gV1 hn rfl rfl rfl rfl rfl ⟨catOk rfl, catOk rfl⟩ (c_here hn hT xt) ?_
        refine eS rfl rfl ?_
        refine eINe rfl rfl (fun _ => ?_) (fun z => absurd (Or.inr ((i32_eq (a := kA ts x.1) (b := 47) (Nat.lt_trans (hkA _) (by decide)) (by decide)).mp z)) c)
        exact fin
      · skip
        refine eS rfl rfl ?_
        refine eS rfl rfl ?_
        refine eIGe rfl rfl (fun _ => ?_) (fun z => absurd ((i32_le (a := 160) (b := k) (by omega) (by omega)).mpr (by omega)) z)
        exact fin
theorem c_sum_loop {one : xSt → Except Nat xSt} (hn : 67 ≤ n) (hpa : pa = 46 ∨ pa = 51) (hT : tcS S0 ts L) (hkA : ∀ t, kA ts t < 2 ^ 20) (h1 : xRd ts one) (hs : ∀ x S, xOk ts x → (cX S0 U pa fd ld lc ep cp rp fs fc wc x S) → aE aM74 (d + 2) 0 [(0, .ref 22), (1, .int (Int32.ofNat dp))] [] (gH scr kd n S) (xOut scr kd n S0 U pa fd ld lc ep cp rp fs fc wc ts (one x))) : ∀ (m k : Nat) (x : xSt) (S : Nat → List Value), k + m = 160 → k ≤ x.1 → xOk ts x → (cX S0 U pa fd ld lc ep cp rp fs fc wc x S) → aE aM73 (d + 3) 7 [(2, .int (Int32.ofNat k)), (0, .ref 22), (1, .int (Int32.ofNat dp))] [] (gH scr kd n S) (xOut scr kd n S0 U pa fd ld lc ep cp rp fs fc wc ts (lopA ts 43 45 6 7 one m x))
  | m, k, x, S, hm, hk, hx, hS => by
    obtain ⟨rv, t1, t2, t3, rfl, hrv, h8, hF⟩ := hS
    have hl := hT.2.2.1
    obtain ⟨x1, x2, x3, x4⟩ := hx
    have xt : x.1 < 2 ^ 20 := by omega
    have stop : ¬ (kA ts x.1 = 43 ∨ kA ts x.1 = 45) → lopA ts 43 45 6 7 one m x = .ok x := fun z => by
      cases m with
      | zero => rfl
      | succ m => rw [lopA, if_neg z]
    by_cases c : kA ts x.1 = 43 ∨ kA ts x.1 = 45
    · have hlt : x.1 < ts.length := c.elim (fun z => kA_lt z (by decide)) (fun z => kA_lt z (by decide))
      obtain ⟨m, rfl⟩ : ∃ j, m = j + 1 := ⟨m - 1, by omega⟩
      rw [lopA, if_pos c]
      have f49 : ∀ op : Nat, op = (if kA ts x.1 = 43 then 6 else 7) → aE aM73 (d + 3) 48 [(2, .int (Int32.ofNat k)), (0, .ref 22), (1, .int (Int32.ofNat dp))] [.int (Int32.ofNat op)] (gH scr kd n (rS S0 U pa fd ld lc x.1 ep x.2.1.length rv cp rp fs fc x.2.2.length wc t1 t2 t3)) (xOut scr kd n S0 U pa fd ld lc ep cp rp fs fc wc ts (match one (x.1 + 1, x.2) with | .error e => .error e | .ok y => lopA ts 43 45 6 7 one m (y.1, y.2.1, y.2.2 ++ [(if kA ts x.1 = 43 then 6 else 7, 0, 0)]))) := by
        intro op hop
        rw [← hop]
        have hb := hs (x.1 + 1, x.2) (rS S0 U pa fd ld lc (x.1 + 1) ep x.2.1.length rv cp rp fs fc x.2.2.length wc t1 t2 t3) ⟨by show x.1 + 1 ≤ _; omega, by show x.2.2.length ≤ x.1 + 1; omega, x3, x4⟩ ⟨rv, t1, t2, t3, rfl, hrv, h8, hF⟩
        refine eS rfl rfl ?_
        refine eS rfl rfl ?_
        refine eS rfl rfl ?_
        refine gGet hn rfl rfl rfl rfl ?_
        refine eS rfl rfl ?_
        refine eS rfl rfl ?_
        rw [i32_succ]
        refine gPut hn rfl rfl rfl rfl rfl rfl rfl rS_t ?_
        refine eS rfl rfl ?_
        refine eS rfl rfl ?_
        refine gVx hn rfl rfl rfl rfl rfl ⟨catOk rfl, catOk rfl⟩ rfl hb (fun y S' e hS' => ?_) (fun e z S' he hz hS' o h ho => by rw [he]; exact ⟨z, S', hz, hS', ho⟩)
        obtain ⟨⟨y1, y2, y3, y4⟩, g1, g2, g3, g4⟩ := h1 (x.1 + 1, x.2) y ⟨by show x.1 + 1 ≤ _; omega, by show x.2.2.length ≤ x.1 + 1; omega, x3, x4⟩ e
        have g1 : x.1 + 1 < y.1 := g1
        have g2 : y.2.2.length + (x.1 + 1) ≤ x.2.2.length + y.1 := g2
        rw [e]
        dsimp only
        obtain ⟨rv2, u1, u2, u3, rfl, q1, q2, q3⟩ := hS'
        refine eS rfl rfl ?_
        refine gGet hn rfl rfl rfl rfl ?_
        refine eS rfl rfl ?_
        refine eS rfl rfl ?_
        refine eS rfl rfl ?_
        refine eV1 rfl rfl (gH_at (by rcases hpa with rfl | rfl <;> decide) (by omega)) (pa_k0 hpa) rfl ⟨catOk rfl, catOk rfl⟩ (c_addTerm hn hpa (by omega) q3.1 q3.2.1 q3.2.2.1) ?_
        refine eS rfl rfl ?_
        refine eS rfl rfl ?_
        rw [i32_succ]
        refine eLoc (l' := [(2, .int (Int32.ofNat (k + 1))), (0, .ref 22), (1, .int (Int32.ofNat dp))]) rfl ⟨rfl, rfl, rfl, trivial⟩ ?_
        refine c_sum_loop hn hpa hT hkA h1 hs m (k + 1) (y.1, y.2.1, y.2.2 ++ [(op, 0, 0)]) _ (by omega) (by show k + 1 ≤ y.1; omega) ⟨y1, by rw [List.length_append, List.length_singleton]; show _ ≤ y.1; omega, y3, y4⟩ ⟨rv2, _, _, _, ?_, q1, q2, (tmF_snoc (q := (op, 0, 0)) q3 (by omega))⟩
        rw [List.length_append, List.length_singleton]
        rfl
      by_cases ca : kA ts x.1 = 43
      · skip
        refine eS rfl rfl ?_
        refine eS rfl rfl ?_
        refine eIGe rfl rfl (fun z => absurd ((i32_le (a := 160) (b := k) (by omega) (by omega)).mp z) (by omega)) (fun _ => ?_)
        refine eS rfl rfl ?_
        refine gV1 hn rfl rfl rfl rfl rfl ⟨catOk rfl, catOk rfl⟩ (c_here hn hT xt) ?_
        refine eS rfl rfl ?_
        refine eIEq rfl rfl (fun _ => ?_) (fun z => absurd ((i32_eq (a := kA ts x.1) (b := 43) (Nat.lt_trans (hkA _) (by decide)) (by decide)).mpr ca) z)
        refine eS rfl rfl ?_
        refine gV1 hn rfl rfl rfl rfl rfl ⟨catOk rfl, catOk rfl⟩ (c_here hn hT xt) ?_
        refine eS rfl rfl ?_
        refine eINe rfl rfl (fun z => absurd ((i32_eq (a := kA ts x.1) (b := 43) (Nat.lt_trans (hkA _) (by decide)) (by decide)).mpr ca) z) (fun _ => ?_)
        refine eS rfl rfl ?_
        refine eS rfl rfl ?_
        exact eLoc (l' := [(2, .int (Int32.ofNat k)), (0, .ref 22), (1, .int (Int32.ofNat dp))]) rfl ⟨rfl, rfl, rfl, trivial⟩ (f49 6 (if_pos ca).symm)
      · have cb := c.resolve_left ca
        refine eS rfl rfl ?_
        refine eS rfl rfl ?_
        refine eIGe rfl rfl (fun z => absurd ((i32_le (a := 160) (b := k) (by omega) (by omega)).mp z) (by omega)) (fun _ => ?_)
        refine eS rfl rfl ?_
        refine gV1 hn rfl rfl rfl rfl rfl ⟨catOk rfl, catOk rfl⟩ (c_here hn hT xt) ?_
        refine eS rfl rfl ?_
        refine eIEq rfl rfl (fun z => absurd ((i32_eq (a := kA ts x.1) (b := 43) (Nat.lt_trans (hkA _) (by decide)) (by decide)).mp z) ca) (fun _ => ?_)
        refine eS rfl rfl ?_
        refine gV1 hn rfl rfl rfl rfl rfl ⟨catOk rfl, catOk rfl⟩ (c_here hn hT xt) ?_
        refine eS rfl rfl ?_
        refine eINe rfl rfl (fun z => absurd ((i32_eq (a := kA ts x.1) (b := 45) (Nat.lt_trans (hkA _) (by decide)) (by decide)).mpr cb) z) (fun _ => ?_)
        refine eS rfl rfl ?_
        refine gV1 hn rfl rfl rfl rfl rfl ⟨catOk rfl, catOk rfl⟩ (c_here hn hT xt) ?_
        refine eS rfl rfl ?_
        refine eINe rfl rfl (fun _ => ?_) (fun z => absurd ((i32_eq (a := kA ts x.1) (b := 43) (Nat.lt_trans (hkA _) (by decide)) (by decide)).mp z) ca)
        refine eS rfl rfl ?_
        exact eLoc (l' := [(2, .int (Int32.ofNat k)), (0, .ref 22), (1, .int (Int32.ofNat dp))]) rfl ⟨rfl, rfl, rfl, trivial⟩ (f49 7 (if_neg ca).symm)
    · rw [stop c]
      have fin : aE aM73 (d + 3) 80 [(2, .int (Int32.ofNat k)), (0, .ref 22), (1, .int (Int32.ofNat dp))] [] (gH scr kd n (rS S0 U pa fd ld lc x.1 ep x.2.1.length rv cp rp fs fc x.2.2.length wc t1 t2 t3)) (xOut scr kd n S0 U pa fd ld lc ep cp rp fs fc wc ts (.ok x)) := eR rfl rfl ⟨rfl, _, ⟨rv, t1, t2, t3, rfl, hrv, h8, hF⟩, rfl⟩
      by_cases k160 : k < 160
      · skip
        refine eS rfl rfl ?_
        refine eS rfl rfl ?_
        refine eIGe rfl rfl (fun z => absurd ((i32_le (a := 160) (b := k) (by omega) (by omega)).mp z) (by omega)) (fun _ => ?_)
        refine eS rfl rfl ?_
        refine gV1 hn rfl rfl rfl rfl rfl ⟨catOk rfl, catOk rfl⟩ (c_here hn hT xt) ?_
        refine eS rfl rfl ?_
        refine eIEq rfl rfl (fun z => absurd (Or.inl ((i32_eq (a := kA ts x.1) (b := 43) (Nat.lt_trans (hkA _) (by decide)) (by decide)).mp z)) c) (fun _ => ?_)
        refine eS rfl rfl ?_
        refine gV1 hn rfl rfl rfl rfl rfl ⟨catOk rfl, catOk rfl⟩ (c_here hn hT xt) ?_
        refine eS rfl rfl ?_
        refine eINe rfl rfl (fun _ => ?_) (fun z => absurd (Or.inr ((i32_eq (a := kA ts x.1) (b := 45) (Nat.lt_trans (hkA _) (by decide)) (by decide)).mp z)) c)
        exact fin
      · skip
        refine eS rfl rfl ?_
        refine eS rfl rfl ?_
        refine eIGe rfl rfl (fun _ => ?_) (fun z => absurd ((i32_le (a := 160) (b := k) (by omega) (by omega)).mpr (by omega)) z)
        exact fin
end XCL
