section MCM
variable {scr : List Value} {kd : Nat → Nat} {n d L md t vr pr lv df cl : Nat} {S0 A : Nat → List Value} {w0 : Value} {wr tk : Int32} {rest : List Value} {ts : List aTk} {vs ps : List (List Nat)} {A0 S : Nat → List Value} {st dr r : List Nat} {s dp : Nat} {mi : Int32} {sm one : xSt → Except Nat xSt} {Q : aOut → aH → Prop}
/-- a call in CPS: the callee ends with what goes on -/
theorem gVk {M : aMt} {pc i : Nat} {ls : aLc} {lk : aLk} {stk : List Value} {S : Nat → List Value} {res : aOut → aH → Prop} {q : Nat} {as rest : List Value} {M' : aMt} (hn : 67 ≤ n) (hf : aFind M.cd pc = some (.invokevirtual i, lk)) (ha : aArgs lk.2.1 stk = some (.ref q :: as, rest)) (hp : (Nat.ble 20 q && Nat.blt q 87) = true) (hk : gK kd q = 2 * lk.2.2.1 + 8) (hM : aP[lk.1]? = some M')
    (hc : aCat rest + M'.nl ≤ 80 ∧ aCat (.ref q :: as) ≤ M'.nl) (hh : M.hd = []) (hb : aE M' d 0 (lv_args 0 (.ref q :: as)) [] (gH scr kd n S) (fun o h' => o = .inl none ∧ aE M (d + 1) (pc + 3) ls rest h' res)) : aE M (d + 1) pc ls stk (gH scr kd n S) res :=
  gVo hn hf ha hp hk hM hc hh hb (fun v h' z => by obtain ⟨z1, z2⟩ := z; cases z1; exact z2) (fun q h' z => by cases z.1)
/-- the error's state, with more room -/
def mErB (scr : List Value) (kd : Nat → Nat) (n d L : Nat) (S0 : Nat → List Value) (w0 : Value) (tk : Int32) (lv df cl : Nat) (rest : List Value) (A0 : Nat → List Value) (ts : List aTk) (ps : List (List Nat)) (Q : aOut → aH → Prop) (e : Nat) : Prop := ∀ (t : Nat) (vs : List (List Nat)) (dr st : List Nat) (S : Nat → List Value), (mX S0 w0 L tk ps.length lv df cl rest A0 ts (Int32.ofNat e) t vs dr st S) → t ≤ ts.length + 2 → vs.length ≤ 8 → dr.length ≤ 650 → Q (.inl none) (gH scr kd n S)
theorem m_isE {k : Int32} (hn : 67 ≤ n) (ht : t ≤ ts.length + 1) (hS : (mX S0 w0 L tk ps.length lv df cl rest A0 ts wr t vs dr st S)) : ∃ r : Int32, (r = 0 ∨ r = 1) ∧ aE aM178 d 0 [(0, .ref 56), (1, .int k)] [] (gH scr kd n S) (aIs (some (.int r)) (gH scr kd n S)) := by
  obtain ⟨A, rfl, hT, hh⟩ := hS
  have h160 := hT.2.2.2.2.1
  obtain ⟨v, hv⟩ := hT.2.2.2.1.2.2.2.2 t (by omega)
  refine ⟨_, ?_, m_isx hn (by omega) hv⟩
  by_cases e : v = k
  · rw [if_pos e]; exact Or.inr rfl
  · rw [if_neg e]; exact Or.inl rfl
theorem m_failE {u : Int32} (hn : 67 ≤ n) (hw : wr ≠ -1) (hS : (mX S0 w0 L tk ps.length lv df cl rest A0 ts wr t vs dr st S)) : aE aM186 d 0 [(0, .ref 56), (1, .int u)] [] (gH scr kd n S) (aIs none (gH scr kd n S)) := by
  obtain ⟨A, rfl, -⟩ := hS
  exact m_fail2 hn hw
theorem mX_wr (hS : (mX S0 w0 L tk ps.length lv df cl rest A0 ts wr t vs dr st S)) : (S 56)[3]? = some (.int wr) ∧ (S 56)[11]? = some (.int (Int32.ofNat t)) := by
  obtain ⟨A, rfl, -⟩ := hS
  exact ⟨rfl, rfl⟩
set_option maxRecDepth 4000 in
theorem m_cmpE (hn : 67 ≤ n) (hw : wr ≠ -1) (ht : t ≤ ts.length + 1) (hd : dr.length < 800) (hS : (mX S0 w0 L tk ps.length lv df cl rest A0 ts wr t vs dr st S)) (k : ∀ (v : Nat) S', (mX S0 w0 L tk ps.length lv df cl rest A0 ts wr (t + 1) vs (dr ++ [v]) st S') → Q (.inl none) (gH scr kd n S')) : aE aM197 (d + 5) 4 [(0, .ref 56)] [] (gH scr kd n S) Q := by
  obtain ⟨r1, c1, i1⟩ := m_isE (d := d + 4) (scr := scr) (kd := kd) (k := .ofNat 60) hn ht hS
  obtain ⟨r2, c2, i2⟩ := m_isE (d := d + 4) (scr := scr) (kd := kd) (k := .ofNat 62) hn ht hS
  obtain ⟨r3, c3, i3⟩ := m_isE (d := d + 4) (scr := scr) (kd := kd) (k := .ofNat 61) hn ht hS
  have fl := fun u => m_failE (d := d + 4) (scr := scr) (kd := kd) (u := u) hn hw hS
  have e11 := (mX_wr hS).2
  have f70 : ∀ v : Nat, aE aM197 (d + 5) 70 [(1, .int (Int32.ofNat v)), (0, .ref 56)] [] (gH scr kd n S) Q := by
    intro v
    obtain ⟨A, rfl, X3⟩ := mX_tick hS
    obtain ⟨S4, X4, a4⟩ := m_emitX (d := d + 4) (scr := scr) (kd := kd) (v := v) hn hd X3
    refine eS rfl rfl ?_
    refine eS rfl rfl ?_
    refine gGet hn rfl rfl rfl rfl ?_
    refine eS rfl rfl ?_
    refine eS rfl rfl ?_
    rw [show Int32.ofNat t + Int32.ofInt 1 = Int32.ofNat (t + 1) from i32_succ]
    refine gPut hn rfl rfl rfl rfl rfl rfl rfl me_t ?_
    refine eS rfl rfl ?_
    refine gGet hn rfl rfl rfl rfl ?_
    refine eS rfl rfl ?_
    refine eINe rfl rfl (fun _ => ?_) (fun z => absurd z hw)
    refine eS rfl rfl ?_
    refine eS rfl rfl ?_
    refine gV1 hn rfl rfl rfl rfl rfl ⟨catOk rfl, catOk rfl⟩ (a4) ?_
    exact eR rfl rfl (k v S4 X4)
  have f35 : ∀ v : Nat, aE aM197 (d + 5) 35 [(1, .int (Int32.ofNat v)), (0, .ref 56)] [] (gH scr kd n S) Q := by
    intro v
    rcases c1 with rfl | rfl
    · rcases c2 with rfl | rfl
      · rcases c3 with rfl | rfl
        · skip
          refine eS rfl rfl ?_
          refine eS rfl rfl ?_
          refine gV1 hn rfl rfl rfl rfl rfl ⟨catOk rfl, catOk rfl⟩ (i1) ?_
          refine eNe rfl rfl (fun z => absurd rfl z) (fun _ => ?_)
          refine eS rfl rfl ?_
          refine eS rfl rfl ?_
          refine gV1 hn rfl rfl rfl rfl rfl ⟨catOk rfl, catOk rfl⟩ (i2) ?_
          refine eNe rfl rfl (fun z => absurd rfl z) (fun _ => ?_)
          refine eS rfl rfl ?_
          refine eS rfl rfl ?_
          refine gV1 hn rfl rfl rfl rfl rfl ⟨catOk rfl, catOk rfl⟩ (i3) ?_
          refine eNe rfl rfl (fun z => absurd rfl z) (fun _ => ?_)
          refine eS rfl rfl ?_
          refine eS rfl rfl ?_
          refine gGet hn rfl rfl rfl e11 ?_
          refine gV1 hn rfl rfl rfl rfl rfl ⟨catOk rfl, catOk rfl⟩ (fl _) ?_
          exact f70 v
        · skip
          refine eS rfl rfl ?_
          refine eS rfl rfl ?_
          refine gV1 hn rfl rfl rfl rfl rfl ⟨catOk rfl, catOk rfl⟩ (i1) ?_
          refine eNe rfl rfl (fun z => absurd rfl z) (fun _ => ?_)
          refine eS rfl rfl ?_
          refine eS rfl rfl ?_
          refine gV1 hn rfl rfl rfl rfl rfl ⟨catOk rfl, catOk rfl⟩ (i2) ?_
          refine eNe rfl rfl (fun z => absurd rfl z) (fun _ => ?_)
          refine eS rfl rfl ?_
          refine eS rfl rfl ?_
          refine gV1 hn rfl rfl rfl rfl rfl ⟨catOk rfl, catOk rfl⟩ (i3) ?_
          refine eNe rfl rfl (fun _ => ?_) (fun z => absurd z (by decide))
          exact f70 v
      · skip
        refine eS rfl rfl ?_
        refine eS rfl rfl ?_
        refine gV1 hn rfl rfl rfl rfl rfl ⟨catOk rfl, catOk rfl⟩ (i1) ?_
        refine eNe rfl rfl (fun z => absurd rfl z) (fun _ => ?_)
        refine eS rfl rfl ?_
        refine eS rfl rfl ?_
        refine gV1 hn rfl rfl rfl rfl rfl ⟨catOk rfl, catOk rfl⟩ (i2) ?_
        refine eNe rfl rfl (fun _ => ?_) (fun z => absurd z (by decide))
        exact f70 v
    · skip
      refine eS rfl rfl ?_
      refine eS rfl rfl ?_
      refine gV1 hn rfl rfl rfl rfl rfl ⟨catOk rfl, catOk rfl⟩ (i1) ?_
      refine eNe rfl rfl (fun _ => ?_) (fun z => absurd z (by decide))
      exact f70 v
  rcases c1 with rfl | rfl
  · rcases c2 with rfl | rfl
    · skip
      refine eS rfl rfl ?_
      refine eS rfl rfl ?_
      refine gV1 hn rfl rfl rfl rfl rfl ⟨catOk rfl, catOk rfl⟩ (i1) ?_
      refine eEq rfl rfl (fun _ => ?_) (fun z => (z rfl).elim)
      refine eS rfl rfl ?_
      refine eS rfl rfl ?_
      refine gV1 hn rfl rfl rfl rfl rfl ⟨catOk rfl, catOk rfl⟩ (i2) ?_
      refine eEq rfl rfl (fun _ => ?_) (fun z => (z rfl).elim)
      refine eS rfl rfl ?_
      refine eS rfl rfl ?_
      exact eLoc (l' := [(1, .int (Int32.ofNat 13)), (0, .ref 56)]) rfl ⟨rfl, rfl, trivial⟩ (f35 13)
    · skip
      refine eS rfl rfl ?_
      refine eS rfl rfl ?_
      refine gV1 hn rfl rfl rfl rfl rfl ⟨catOk rfl, catOk rfl⟩ (i1) ?_
      refine eEq rfl rfl (fun _ => ?_) (fun z => (z rfl).elim)
      refine eS rfl rfl ?_
      refine eS rfl rfl ?_
      refine gV1 hn rfl rfl rfl rfl rfl ⟨catOk rfl, catOk rfl⟩ (i2) ?_
      refine eEq rfl rfl (fun z => absurd z (by decide)) (fun _ => ?_)
      refine eS rfl rfl ?_
      refine eS rfl rfl ?_
      refine eS rfl rfl ?_
      exact eLoc (l' := [(1, .int (Int32.ofNat 12)), (0, .ref 56)]) rfl ⟨rfl, rfl, trivial⟩ (f35 12)
  · skip
    refine eS rfl rfl ?_
    refine eS rfl rfl ?_
    refine gV1 hn rfl rfl rfl rfl rfl ⟨catOk rfl, catOk rfl⟩ (i1) ?_
    refine eEq rfl rfl (fun z => absurd z (by decide)) (fun _ => ?_)
    refine eS rfl rfl ?_
    refine eS rfl rfl ?_
    refine eS rfl rfl ?_
    exact eLoc (l' := [(1, .int (Int32.ofNat 11)), (0, .ref 56)]) rfl ⟨rfl, rfl, trivial⟩ (f35 11)
end MCM
