section MEW
variable {scr : List Value} {kd : Nat → Nat} {n d L md t vr pr lv df cl : Nat} {S0 A : Nat → List Value} {w0 : Value} {wr tk : Int32} {rest : List Value} {ts : List aTk} {vs ps : List (List Nat)} {A0 S : Nat → List Value} {st dr r : List Nat} {s dp : Nat} {mi wa on : Int32} {x : List Nat} {Q : aOut → aH → Prop}
theorem mX_pop {w : Nat} (h : (mX S0 w0 L tk ps.length lv df cl rest A0 ts wr t vs dr (w :: r) S)) : (mX S0 w0 L tk ps.length lv df cl rest A0 ts wr t vs dr r S) := by
  obtain ⟨A, e, hT, h62, hD, h63, hV, h65, hW, hR⟩ := h
  exact ⟨A, e, hT, h62, hD, h63, hV, h65, wtF_pop hW, hR⟩
set_option maxRecDepth 4000 in
theorem ex_close (hn : 67 ≤ n) (hk : kA ts t = 41) (hdp : dp ≤ 3) (hl : dr.length + st.length ≤ 800) (h4 : st.length < 400) (hw : ∀ w ∈ st, w < 2 ^ 20) (hr : porL 1 st = 40 :: r) (hl2 : (dr ++ porE 1 st).length + r.length ≤ 800) (hr4 : r.length ≤ 400) (hrw : ∀ w ∈ r, w < 2 ^ 20) (hS : (mX S0 w0 L tk ps.length lv df cl rest A0 ts (-1) t vs dr st S)) (k : ∀ S', (mX S0 w0 L tk ps.length lv df cl rest A0 ts (-1) (t + 1) vs (dr ++ porE 1 st ++ porE 3 r) (porL 3 r) S') → aE aM190 (d + 4) 12 (exL (porL 3 r).length dp 0 0) [] (gH scr kd n S') Q) : aE aM190 (d + 4) 12 (exL st.length (dp + 1) 0 0) [] (gH scr kd n S) Q := by
  have ht : t ≤ ts.length := Nat.le_of_lt (kA_lt hk (by decide))
  have e56 : (S 56)[3]? = some (.int (-1)) := by
    obtain ⟨A, rfl, -⟩ := hS
    rfl
  have i43 := m_isSX (d := d + 3) (scr := scr) (kd := kd) (k := 43) hn ht (by decide) (by decide) hS
  rw [if_neg (by omega)] at i43
  have i45 := m_isSX (d := d + 3) (scr := scr) (kd := kd) (k := 45) hn ht (by decide) (by decide) hS
  rw [if_neg (by omega)] at i45
  have i42 := m_isSX (d := d + 3) (scr := scr) (kd := kd) (k := 42) hn ht (by decide) (by decide) hS
  rw [if_neg (by omega)] at i42
  have i47 := m_isSX (d := d + 3) (scr := scr) (kd := kd) (k := 47) hn ht (by decide) (by decide) hS
  rw [if_neg (by omega)] at i47
  have i41 := m_isSX (d := d + 3) (scr := scr) (kd := kd) (k := 41) hn ht (by decide) (by decide) hS
  rw [if_pos hk] at i41
  obtain ⟨S1, X1, a1⟩ := m_pourX (d := d + 2) (scr := scr) (kd := kd) (s := 1) hn (by decide) hl (Nat.le_of_lt h4) hw hS
  rw [hr] at X1 a1
  rw [show (40 :: r).length = r.length + 1 from rfl] at a1
  obtain ⟨S2, X2, a2⟩ := m_pourX (d := d + 2) (scr := scr) (kd := kd) (s := 3) hn (by decide) hl2 hr4 hrw (mX_pop X1)
  obtain ⟨A, rfl, X3⟩ := mX_tick X2
  refine eS rfl rfl ?_
  refine eEq rfl rfl (fun z => absurd z (by decide)) (fun _ => ?_)
  refine eS rfl rfl ?_
  refine gGet hn rfl rfl rfl e56 ?_
  refine eS rfl rfl ?_
  refine eINe rfl rfl (fun z => absurd rfl z) (fun _ => ?_)
  refine eS rfl rfl ?_
  refine eEq rfl rfl (fun _ => ?_) (fun z => (z rfl).elim)
  refine eS rfl rfl ?_
  refine eS rfl rfl ?_
  refine gV1 hn rfl rfl rfl rfl rfl ⟨catOk rfl, catOk rfl⟩ (i43) ?_
  refine eNe rfl rfl (fun z => absurd rfl z) (fun _ => ?_)
  refine eS rfl rfl ?_
  refine eS rfl rfl ?_
  refine gV1 hn rfl rfl rfl rfl rfl ⟨catOk rfl, catOk rfl⟩ (i45) ?_
  refine eNe rfl rfl (fun z => absurd rfl z) (fun _ => ?_)
  refine eS rfl rfl ?_
  refine eS rfl rfl ?_
  refine gV1 hn rfl rfl rfl rfl rfl ⟨catOk rfl, catOk rfl⟩ (i42) ?_
  refine eNe rfl rfl (fun z => absurd rfl z) (fun _ => ?_)
  refine eS rfl rfl ?_
  refine eS rfl rfl ?_
  refine gV1 hn rfl rfl rfl rfl rfl ⟨catOk rfl, catOk rfl⟩ (i47) ?_
  refine eEq rfl rfl (fun _ => ?_) (fun z => (z rfl).elim)
  refine eS rfl rfl ?_
  refine eS rfl rfl ?_
  refine gV1 hn rfl rfl rfl rfl rfl ⟨catOk rfl, catOk rfl⟩ (i41) ?_
  refine eEq rfl rfl (fun z => absurd z (by decide)) (fun _ => ?_)
  refine eS rfl rfl ?_
  refine eLe rfl rfl (fun z => absurd ((i32_le (a := dp + 1) (b := 0) (by omega) (by omega)).mp z) (by omega)) (fun _ => ?_)
  refine eS rfl rfl ?_
  refine eS rfl rfl ?_
  refine eS rfl rfl ?_
  refine gV1 hn rfl rfl rfl rfl rfl ⟨catOk rfl, catOk rfl⟩ (a1) ?_
  refine eS rfl rfl ?_
  refine eS rfl rfl ?_
  rw [i32_pre]
  refine eS rfl rfl ?_
  refine eS rfl rfl ?_
  refine eS rfl rfl ?_
  refine eS rfl rfl ?_
  refine eS rfl rfl ?_
  refine gV1 hn rfl rfl rfl rfl rfl ⟨catOk rfl, catOk rfl⟩ (a2) ?_
  refine eS rfl rfl ?_
  refine eS rfl rfl ?_
  refine eS rfl rfl ?_
  refine gGet hn rfl rfl rfl rfl ?_
  refine eS rfl rfl ?_
  refine eS rfl rfl ?_
  rw [show Int32.ofNat t + Int32.ofInt 1 = Int32.ofNat (t + 1) from i32_succ]
  refine gPut hn rfl rfl rfl rfl rfl rfl rfl me_t ?_
  refine eS rfl rfl ?_
  exact eLoc (l' := exL (porL 3 r).length dp 0 0) rfl ⟨rfl, rfl, congrArg (fun z => some (Value.int z)) (i32_dec.trans i32_pred), rfl, rfl, rfl, trivial⟩ (k _ X3)
set_option maxRecDepth 4000 in
theorem ex_exit {ls : aLc} (hn : 67 ≤ n) (hl : dr.length + st.length ≤ 800) (h4 : st.length ≤ 400) (hw : ∀ w ∈ st, w < 2 ^ 20) (hS : (mX S0 w0 L tk ps.length lv df cl rest A0 ts wr t vs dr st S)) (hd : ndB (ls.map (·.1)) = true) (hls : lkA ls [(0, .ref 56), (1, .int (Int32.ofNat st.length))]) (k : ∀ S', (mX S0 w0 L tk ps.length lv df cl rest A0 ts wr t vs (dr ++ porE 1 st) (porL 1 st) S') → Q (.inl none) (gH scr kd n S')) : aE aM190 (d + 4) 347 ls [] (gH scr kd n S) Q := by
  obtain ⟨S1, X1, a1⟩ := m_pourX (d := d + 2) (scr := scr) (kd := kd) (s := 1) hn (by decide) hl h4 hw hS
  refine eLoc hd hls ?_
  refine eS rfl rfl ?_
  refine eS rfl rfl ?_
  refine eS rfl rfl ?_
  refine gV1 hn rfl rfl rfl rfl rfl ⟨catOk rfl, catOk rfl⟩ (a1) ?_
  refine eS rfl rfl ?_
  exact eR rfl rfl (k _ X1)
set_option maxRecDepth 4000 in
theorem ex_out (hn : 67 ≤ n) (hwr : wr ≠ -1) (hl : dr.length + st.length ≤ 800) (h4 : st.length ≤ 400) (hw : ∀ w ∈ st, w < 2 ^ 20) (hS : (mX S0 w0 L tk ps.length lv df cl rest A0 ts wr t vs dr st S)) (k : ∀ S', (mX S0 w0 L tk ps.length lv df cl rest A0 ts wr t vs (dr ++ porE 1 st) (porL 1 st) S') → Q (.inl none) (gH scr kd n S')) : aE aM190 (d + 4) 12 [(0, .ref 56), (1, .int (Int32.ofNat st.length)), (5, .int 1)] [] (gH scr kd n S) Q := by
  have e56 : (S 56)[3]? = some (.int wr) := by
    obtain ⟨A, rfl, -⟩ := hS
    rfl
  refine eS rfl rfl ?_
  refine eEq rfl rfl (fun z => absurd z (by decide)) (fun _ => ?_)
  refine eS rfl rfl ?_
  refine gGet hn rfl rfl rfl e56 ?_
  refine eS rfl rfl ?_
  refine eINe rfl rfl (fun _ => ?_) (fun z => absurd z hwr)
  exact ex_exit hn hl h4 hw hS rfl ⟨rfl, rfl, trivial⟩ k
end MEW
