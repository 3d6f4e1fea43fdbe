section MEZ
variable {scr : List Value} {kd : Nat → Nat} {n d L md t vr pr lv df cl : Nat} {S0 A : Nat → List Value} {w0 : Value} {wr tk : Int32} {rest : List Value} {ts : List aTk} {vs ps : List (List Nat)} {A0 S : Nat → List Value} {st dr : List Nat} {s dp : Nat} {mi : Int32} {x : List Nat} {Q : aOut → aH → Prop}
theorem ex_op6 (hn : 67 ≤ n) (hk : kA ts t = 43) (hl : dr.length + st.length ≤ 800) (h4 : st.length < 400) (hw : ∀ w ∈ st, w < 2 ^ 20) (hp : (porL 1 st).length < 400) (hS : (mX S0 w0 L tk ps.length lv df cl rest A0 ts (-1) t vs dr st S)) (k : ∀ S', (mX S0 w0 L tk ps.length lv df cl rest A0 ts (-1) (t + 1) vs (dr ++ porE 1 st) (6 :: porL 1 st) S') → aE aM190 (d + 4) 12 (exL ((porL 1 st).length + 1) dp 1 0) [] (gH scr kd n S') Q) : aE aM190 (d + 4) 12 (exL st.length dp 0 0) [] (gH scr kd n S) Q := by
  have ht : t ≤ ts.length := Nat.le_of_lt (kA_lt hk (by decide))
  have e56 : (S 56)[3]? = some (.int (-1)) := by
    obtain ⟨A, rfl, -⟩ := hS
    rfl
  have i43 := m_isSX (d := d + 3) (scr := scr) (kd := kd) (k := 43) hn ht (by decide) (by decide) hS
  rw [if_pos hk] at i43
  have i45 := m_isSX (d := d + 3) (scr := scr) (kd := kd) (k := 45) hn ht (by decide) (by decide) hS
  rw [if_neg (by omega)] at i45
  have i42 := m_isSX (d := d + 3) (scr := scr) (kd := kd) (k := 42) hn ht (by decide) (by decide) hS
  rw [if_neg (by omega)] at i42
  have i47 := m_isSX (d := d + 3) (scr := scr) (kd := kd) (k := 47) hn ht (by decide) (by decide) hS
  rw [if_neg (by omega)] at i47
  obtain ⟨S2, X2, a2⟩ := m_pourX (d := d + 2) (scr := scr) (kd := kd) (s := 1) hn (by decide) hl (Nat.le_of_lt h4) hw hS
  obtain ⟨A, rfl, h65, hX⟩ := mX_push (w := 6) X2 hp
  refine eS rfl rfl ?_
  refine eEq rfl rfl (fun z => absurd z (by decide)) (fun _ => ?_)
  refine eS rfl rfl ?_
  refine gGet hn rfl rfl rfl e56 ?_
  refine eS rfl rfl ?_
  refine eINe rfl rfl (fun z => absurd rfl z) (fun _ => ?_)
  refine eS rfl rfl ?_
  refine eEq rfl rfl (fun _ => ?_) (fun z => (z rfl).elim)
  refine eS rfl rfl ?_
  refine eS rfl rfl ?_
  refine gV1 hn rfl rfl rfl rfl rfl ⟨catOk rfl, catOk rfl⟩ (i43) ?_
  refine eNe rfl rfl (fun _ => ?_) (fun z => absurd z (by decide))
  refine eS rfl rfl ?_
  refine eS rfl rfl ?_
  refine gV1 hn rfl rfl rfl rfl rfl ⟨catOk rfl, catOk rfl⟩ (i43) ?_
  refine eEq rfl rfl (fun z => absurd z (by decide)) (fun _ => ?_)
  refine eS rfl rfl ?_
  refine eS rfl rfl ?_
  refine eS rfl rfl ?_
  refine eS rfl rfl ?_
  refine eS rfl rfl ?_
  refine eS rfl rfl ?_
  refine eC1 rfl rfl rfl ⟨catOk rfl, catOk rfl⟩ ((show aE aM194 (d + 3) 0 [(0, .int (Int32.ofNat 6))] [] (gH scr kd n S) (aIs (some (.int (Int32.ofNat 1))) (gH scr kd n S)) from m_strength (by decide))) ?_
  refine gV1 hn rfl rfl rfl rfl rfl ⟨catOk rfl, catOk rfl⟩ (a2) ?_
  refine eS rfl rfl ?_
  refine eS rfl rfl ?_
  refine gGet hn rfl rfl rfl rfl ?_
  refine eS rfl rfl ?_
  refine eS rfl rfl ?_
  refine gWr0 hn rfl rfl rfl (porL 1 st).length (by omega) (by show (porL 1 st).length < (A 65).length; omega) (mt_up rfl) ?_
  refine eS rfl rfl ?_
  refine eS rfl rfl ?_
  refine eS rfl rfl ?_
  refine eS rfl rfl ?_
  refine eS rfl rfl ?_
  refine gGet hn rfl rfl rfl rfl ?_
  refine eS rfl rfl ?_
  refine eS rfl rfl ?_
  rw [show Int32.ofNat t + Int32.ofInt 1 = Int32.ofNat (t + 1) from i32_succ]
  refine gPut hn rfl rfl rfl rfl rfl rfl rfl me_t ?_
  refine eS rfl rfl ?_
  exact eLoc (l' := exL ((porL 1 st).length + 1) dp 1 0) rfl ⟨rfl, congrArg (fun z => some (Value.int z)) i32_succ, rfl, rfl, rfl, rfl, trivial⟩ (k _ hX)
theorem ex_op7 (hn : 67 ≤ n) (hk : kA ts t = 45) (hl : dr.length + st.length ≤ 800) (h4 : st.length < 400) (hw : ∀ w ∈ st, w < 2 ^ 20) (hp : (porL 1 st).length < 400) (hS : (mX S0 w0 L tk ps.length lv df cl rest A0 ts (-1) t vs dr st S)) (k : ∀ S', (mX S0 w0 L tk ps.length lv df cl rest A0 ts (-1) (t + 1) vs (dr ++ porE 1 st) (7 :: porL 1 st) S') → aE aM190 (d + 4) 12 (exL ((porL 1 st).length + 1) dp 1 0) [] (gH scr kd n S') Q) : aE aM190 (d + 4) 12 (exL st.length dp 0 0) [] (gH scr kd n S) Q := by
  have ht : t ≤ ts.length := Nat.le_of_lt (kA_lt hk (by decide))
  have e56 : (S 56)[3]? = some (.int (-1)) := by
    obtain ⟨A, rfl, -⟩ := hS
    rfl
  have i43 := m_isSX (d := d + 3) (scr := scr) (kd := kd) (k := 43) hn ht (by decide) (by decide) hS
  rw [if_neg (by omega)] at i43
  have i45 := m_isSX (d := d + 3) (scr := scr) (kd := kd) (k := 45) hn ht (by decide) (by decide) hS
  rw [if_pos hk] at i45
  have i42 := m_isSX (d := d + 3) (scr := scr) (kd := kd) (k := 42) hn ht (by decide) (by decide) hS
  rw [if_neg (by omega)] at i42
  have i47 := m_isSX (d := d + 3) (scr := scr) (kd := kd) (k := 47) hn ht (by decide) (by decide) hS
  rw [if_neg (by omega)] at i47
  obtain ⟨S2, X2, a2⟩ := m_pourX (d := d + 2) (scr := scr) (kd := kd) (s := 1) hn (by decide) hl (Nat.le_of_lt h4) hw hS
  obtain ⟨A, rfl, h65, hX⟩ := mX_push (w := 7) X2 hp
  refine eS rfl rfl ?_
  refine eEq rfl rfl (fun z => absurd z (by decide)) (fun _ => ?_)
  refine eS rfl rfl ?_
  refine gGet hn rfl rfl rfl e56 ?_
  refine eS rfl rfl ?_
  refine eINe rfl rfl (fun z => absurd rfl z) (fun _ => ?_)
  refine eS rfl rfl ?_
  refine eEq rfl rfl (fun _ => ?_) (fun z => (z rfl).elim)
  refine eS rfl rfl ?_
  refine eS rfl rfl ?_
  refine gV1 hn rfl rfl rfl rfl rfl ⟨catOk rfl, catOk rfl⟩ (i43) ?_
  refine eNe rfl rfl (fun z => absurd rfl z) (fun _ => ?_)
  refine eS rfl rfl ?_
  refine eS rfl rfl ?_
  refine gV1 hn rfl rfl rfl rfl rfl ⟨catOk rfl, catOk rfl⟩ (i45) ?_
  refine eNe rfl rfl (fun _ => ?_) (fun z => absurd z (by decide))
  refine eS rfl rfl ?_
  refine eS rfl rfl ?_
  refine gV1 hn rfl rfl rfl rfl rfl ⟨catOk rfl, catOk rfl⟩ (i43) ?_
  refine eEq rfl rfl (fun _ => ?_) (fun z => (z rfl).elim)
  refine eS rfl rfl ?_
  refine eS rfl rfl ?_
  refine gV1 hn rfl rfl rfl rfl rfl ⟨catOk rfl, catOk rfl⟩ (i45) ?_
  refine eEq rfl rfl (fun z => absurd z (by decide)) (fun _ => ?_)
  refine eS rfl rfl ?_
  refine eS rfl rfl ?_
  refine eS rfl rfl ?_
  refine eS rfl rfl ?_
  refine eS rfl rfl ?_
  refine eS rfl rfl ?_
  refine eC1 rfl rfl rfl ⟨catOk rfl, catOk rfl⟩ ((show aE aM194 (d + 3) 0 [(0, .int (Int32.ofNat 7))] [] (gH scr kd n S) (aIs (some (.int (Int32.ofNat 1))) (gH scr kd n S)) from m_strength (by decide))) ?_
  refine gV1 hn rfl rfl rfl rfl rfl ⟨catOk rfl, catOk rfl⟩ (a2) ?_
  refine eS rfl rfl ?_
  refine eS rfl rfl ?_
  refine gGet hn rfl rfl rfl rfl ?_
  refine eS rfl rfl ?_
  refine eS rfl rfl ?_
  refine gWr0 hn rfl rfl rfl (porL 1 st).length (by omega) (by show (porL 1 st).length < (A 65).length; omega) (mt_up rfl) ?_
  refine eS rfl rfl ?_
  refine eS rfl rfl ?_
  refine eS rfl rfl ?_
  refine eS rfl rfl ?_
  refine eS rfl rfl ?_
  refine gGet hn rfl rfl rfl rfl ?_
  refine eS rfl rfl ?_
  refine eS rfl rfl ?_
  rw [show Int32.ofNat t + Int32.ofInt 1 = Int32.ofNat (t + 1) from i32_succ]
  refine gPut hn rfl rfl rfl rfl rfl rfl rfl me_t ?_
  refine eS rfl rfl ?_
  exact eLoc (l' := exL ((porL 1 st).length + 1) dp 1 0) rfl ⟨rfl, congrArg (fun z => some (Value.int z)) i32_succ, rfl, rfl, rfl, rfl, trivial⟩ (k _ hX)
theorem ex_op8 (hn : 67 ≤ n) (hk : kA ts t = 42) (hl : dr.length + st.length ≤ 800) (h4 : st.length < 400) (hw : ∀ w ∈ st, w < 2 ^ 20) (hp : (porL 2 st).length < 400) (hS : (mX S0 w0 L tk ps.length lv df cl rest A0 ts (-1) t vs dr st S)) (k : ∀ S', (mX S0 w0 L tk ps.length lv df cl rest A0 ts (-1) (t + 1) vs (dr ++ porE 2 st) (8 :: porL 2 st) S') → aE aM190 (d + 4) 12 (exL ((porL 2 st).length + 1) dp 1 0) [] (gH scr kd n S') Q) : aE aM190 (d + 4) 12 (exL st.length dp 0 0) [] (gH scr kd n S) Q := by
  have ht : t ≤ ts.length := Nat.le_of_lt (kA_lt hk (by decide))
  have e56 : (S 56)[3]? = some (.int (-1)) := by
    obtain ⟨A, rfl, -⟩ := hS
    rfl
  have i43 := m_isSX (d := d + 3) (scr := scr) (kd := kd) (k := 43) hn ht (by decide) (by decide) hS
  rw [if_neg (by omega)] at i43
  have i45 := m_isSX (d := d + 3) (scr := scr) (kd := kd) (k := 45) hn ht (by decide) (by decide) hS
  rw [if_neg (by omega)] at i45
  have i42 := m_isSX (d := d + 3) (scr := scr) (kd := kd) (k := 42) hn ht (by decide) (by decide) hS
  rw [if_pos hk] at i42
  have i47 := m_isSX (d := d + 3) (scr := scr) (kd := kd) (k := 47) hn ht (by decide) (by decide) hS
  rw [if_neg (by omega)] at i47
  obtain ⟨S2, X2, a2⟩ := m_pourX (d := d + 2) (scr := scr) (kd := kd) (s := 2) hn (by decide) hl (Nat.le_of_lt h4) hw hS
  obtain ⟨A, rfl, h65, hX⟩ := mX_push (w := 8) X2 hp
  refine eS rfl rfl ?_
  refine eEq rfl rfl (fun z => absurd z (by decide)) (fun _ => ?_)
  refine eS rfl rfl ?_
  refine gGet hn rfl rfl rfl e56 ?_
  refine eS rfl rfl ?_
  refine eINe rfl rfl (fun z => absurd rfl z) (fun _ => ?_)
  refine eS rfl rfl ?_
  refine eEq rfl rfl (fun _ => ?_) (fun z => (z rfl).elim)
  refine eS rfl rfl ?_
  refine eS rfl rfl ?_
  refine gV1 hn rfl rfl rfl rfl rfl ⟨catOk rfl, catOk rfl⟩ (i43) ?_
  refine eNe rfl rfl (fun z => absurd rfl z) (fun _ => ?_)
  refine eS rfl rfl ?_
  refine eS rfl rfl ?_
  refine gV1 hn rfl rfl rfl rfl rfl ⟨catOk rfl, catOk rfl⟩ (i45) ?_
  refine eNe rfl rfl (fun z => absurd rfl z) (fun _ => ?_)
  refine eS rfl rfl ?_
  refine eS rfl rfl ?_
  refine gV1 hn rfl rfl rfl rfl rfl ⟨catOk rfl, catOk rfl⟩ (i42) ?_
  refine eNe rfl rfl (fun _ => ?_) (fun z => absurd z (by decide))
  refine eS rfl rfl ?_
  refine eS rfl rfl ?_
  refine gV1 hn rfl rfl rfl rfl rfl ⟨catOk rfl, catOk rfl⟩ (i43) ?_
  refine eEq rfl rfl (fun _ => ?_) (fun z => (z rfl).elim)
  refine eS rfl rfl ?_
  refine eS rfl rfl ?_
  refine gV1 hn rfl rfl rfl rfl rfl ⟨catOk rfl, catOk rfl⟩ (i45) ?_
  refine eEq rfl rfl (fun _ => ?_) (fun z => (z rfl).elim)
  refine eS rfl rfl ?_
  refine eS rfl rfl ?_
  refine gV1 hn rfl rfl rfl rfl rfl ⟨catOk rfl, catOk rfl⟩ (i42) ?_
  refine eEq rfl rfl (fun z => absurd z (by decide)) (fun _ => ?_)
  refine eS rfl rfl ?_
  refine eS rfl rfl ?_
  refine eS rfl rfl ?_
  refine eS rfl rfl ?_
  refine eS rfl rfl ?_
  refine eS rfl rfl ?_
  refine eC1 rfl rfl rfl ⟨catOk rfl, catOk rfl⟩ ((show aE aM194 (d + 3) 0 [(0, .int (Int32.ofNat 8))] [] (gH scr kd n S) (aIs (some (.int (Int32.ofNat 2))) (gH scr kd n S)) from m_strength (by decide))) ?_
  refine gV1 hn rfl rfl rfl rfl rfl ⟨catOk rfl, catOk rfl⟩ (a2) ?_
  refine eS rfl rfl ?_
  refine eS rfl rfl ?_
  refine gGet hn rfl rfl rfl rfl ?_
  refine eS rfl rfl ?_
  refine eS rfl rfl ?_
  refine gWr0 hn rfl rfl rfl (porL 2 st).length (by omega) (by show (porL 2 st).length < (A 65).length; omega) (mt_up rfl) ?_
  refine eS rfl rfl ?_
  refine eS rfl rfl ?_
  refine eS rfl rfl ?_
  refine eS rfl rfl ?_
  refine eS rfl rfl ?_
  refine gGet hn rfl rfl rfl rfl ?_
  refine eS rfl rfl ?_
  refine eS rfl rfl ?_
  rw [show Int32.ofNat t + Int32.ofInt 1 = Int32.ofNat (t + 1) from i32_succ]
  refine gPut hn rfl rfl rfl rfl rfl rfl rfl me_t ?_
  refine eS rfl rfl ?_
  exact eLoc (l' := exL ((porL 2 st).length + 1) dp 1 0) rfl ⟨rfl, congrArg (fun z => some (Value.int z)) i32_succ, rfl, rfl, rfl, rfl, trivial⟩ (k _ hX)
theorem ex_op9 (hn : 67 ≤ n) (hk : kA ts t = 47) (hl : dr.length + st.length ≤ 800) (h4 : st.length < 400) (hw : ∀ w ∈ st, w < 2 ^ 20) (hp : (porL 2 st).length < 400) (hS : (mX S0 w0 L tk ps.length lv df cl rest A0 ts (-1) t vs dr st S)) (k : ∀ S', (mX S0 w0 L tk ps.length lv df cl rest A0 ts (-1) (t + 1) vs (dr ++ porE 2 st) (9 :: porL 2 st) S') → aE aM190 (d + 4) 12 (exL ((porL 2 st).length + 1) dp 1 0) [] (gH scr kd n S') Q) : aE aM190 (d + 4) 12 (exL st.length dp 0 0) [] (gH scr kd n S) Q := by
  have ht : t ≤ ts.length := Nat.le_of_lt (kA_lt hk (by decide))
  have e56 : (S 56)[3]? = some (.int (-1)) := by
    obtain ⟨A, rfl, -⟩ := hS
    rfl
  have i43 := m_isSX (d := d + 3) (scr := scr) (kd := kd) (k := 43) hn ht (by decide) (by decide) hS
  rw [if_neg (by omega)] at i43
  have i45 := m_isSX (d := d + 3) (scr := scr) (kd := kd) (k := 45) hn ht (by decide) (by decide) hS
  rw [if_neg (by omega)] at i45
  have i42 := m_isSX (d := d + 3) (scr := scr) (kd := kd) (k := 42) hn ht (by decide) (by decide) hS
  rw [if_neg (by omega)] at i42
  have i47 := m_isSX (d := d + 3) (scr := scr) (kd := kd) (k := 47) hn ht (by decide) (by decide) hS
  rw [if_pos hk] at i47
  obtain ⟨S2, X2, a2⟩ := m_pourX (d := d + 2) (scr := scr) (kd := kd) (s := 2) hn (by decide) hl (Nat.le_of_lt h4) hw hS
  obtain ⟨A, rfl, h65, hX⟩ := mX_push (w := 9) X2 hp
  refine eS rfl rfl ?_
  refine eEq rfl rfl (fun z => absurd z (by decide)) (fun _ => ?_)
  refine eS rfl rfl ?_
  refine gGet hn rfl rfl rfl e56 ?_
  refine eS rfl rfl ?_
  refine eINe rfl rfl (fun z => absurd rfl z) (fun _ => ?_)
  refine eS rfl rfl ?_
  refine eEq rfl rfl (fun _ => ?_) (fun z => (z rfl).elim)
  refine eS rfl rfl ?_
  refine eS rfl rfl ?_
  refine gV1 hn rfl rfl rfl rfl rfl ⟨catOk rfl, catOk rfl⟩ (i43) ?_
  refine eNe rfl rfl (fun z => absurd rfl z) (fun _ => ?_)
  refine eS rfl rfl ?_
  refine eS rfl rfl ?_
  refine gV1 hn rfl rfl rfl rfl rfl ⟨catOk rfl, catOk rfl⟩ (i45) ?_
  refine eNe rfl rfl (fun z => absurd rfl z) (fun _ => ?_)
  refine eS rfl rfl ?_
  refine eS rfl rfl ?_
  refine gV1 hn rfl rfl rfl rfl rfl ⟨catOk rfl, catOk rfl⟩ (i42) ?_
  refine eNe rfl rfl (fun z => absurd rfl z) (fun _ => ?_)
  refine eS rfl rfl ?_
  refine eS rfl rfl ?_
  refine gV1 hn rfl rfl rfl rfl rfl ⟨catOk rfl, catOk rfl⟩ (i47) ?_
  refine eEq rfl rfl (fun z => absurd z (by decide)) (fun _ => ?_)
  refine eS rfl rfl ?_
  refine eS rfl rfl ?_
  refine gV1 hn rfl rfl rfl rfl rfl ⟨catOk rfl, catOk rfl⟩ (i43) ?_
  refine eEq rfl rfl (fun _ => ?_) (fun z => (z rfl).elim)
  refine eS rfl rfl ?_
  refine eS rfl rfl ?_
  refine gV1 hn rfl rfl rfl rfl rfl ⟨catOk rfl, catOk rfl⟩ (i45) ?_
  refine eEq rfl rfl (fun _ => ?_) (fun z => (z rfl).elim)
  refine eS rfl rfl ?_
  refine eS rfl rfl ?_
  refine gV1 hn rfl rfl rfl rfl rfl ⟨catOk rfl, catOk rfl⟩ (i42) ?_
  refine eEq rfl rfl (fun _ => ?_) (fun z => (z rfl).elim)
  refine eS rfl rfl ?_
  refine eS rfl rfl ?_
  refine eS rfl rfl ?_
  refine eS rfl rfl ?_
  refine eS rfl rfl ?_
  refine eC1 rfl rfl rfl ⟨catOk rfl, catOk rfl⟩ ((show aE aM194 (d + 3) 0 [(0, .int (Int32.ofNat 9))] [] (gH scr kd n S) (aIs (some (.int (Int32.ofNat 2))) (gH scr kd n S)) from m_strength (by decide))) ?_
  refine gV1 hn rfl rfl rfl rfl rfl ⟨catOk rfl, catOk rfl⟩ (a2) ?_
  refine eS rfl rfl ?_
  refine eS rfl rfl ?_
  refine gGet hn rfl rfl rfl rfl ?_
  refine eS rfl rfl ?_
  refine eS rfl rfl ?_
  refine gWr0 hn rfl rfl rfl (porL 2 st).length (by omega) (by show (porL 2 st).length < (A 65).length; omega) (mt_up rfl) ?_
  refine eS rfl rfl ?_
  refine eS rfl rfl ?_
  refine eS rfl rfl ?_
  refine eS rfl rfl ?_
  refine eS rfl rfl ?_
  refine gGet hn rfl rfl rfl rfl ?_
  refine eS rfl rfl ?_
  refine eS rfl rfl ?_
  rw [show Int32.ofNat t + Int32.ofInt 1 = Int32.ofNat (t + 1) from i32_succ]
  refine gPut hn rfl rfl rfl rfl rfl rfl rfl me_t ?_
  refine eS rfl rfl ?_
  exact eLoc (l' := exL ((porL 2 st).length + 1) dp 1 0) rfl ⟨rfl, congrArg (fun z => some (Value.int z)) i32_succ, rfl, rfl, rfl, rfl, trivial⟩ (k _ hX)
end MEZ
