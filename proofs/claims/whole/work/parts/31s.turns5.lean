section MEV
variable {scr : List Value} {kd : Nat → Nat} {n d L md t vr pr lv df cl : Nat} {S0 A : Nat → List Value} {w0 : Value} {wr tk : Int32} {rest : List Value} {ts : List aTk} {vs ps : List (List Nat)} {A0 S : Nat → List Value} {st dr r : List Nat} {s dp : Nat} {mi wa on : Int32} {x : List Nat} {Q : aOut → aH → Prop}
set_option maxRecDepth 4000 in
theorem ex_end (hn : 67 ≤ n) (ht : t ≤ ts.length) (hk : kA ts t ≠ 43 ∧ kA ts t ≠ 45 ∧ kA ts t ≠ 42 ∧ kA ts t ≠ 47) (hl : dr.length + st.length ≤ 800) (h4 : st.length ≤ 400) (hw : ∀ w ∈ st, w < 2 ^ 20) (hS : (mX S0 w0 L tk ps.length lv df cl rest A0 ts (-1) t vs dr st S)) (k : ∀ S', (mX S0 w0 L tk ps.length lv df cl rest A0 ts (-1) t vs (dr ++ porE 1 st) (porL 1 st) S') → Q (.inl none) (gH scr kd n S')) : aE aM190 (d + 4) 12 (exL st.length 0 0 0) [] (gH scr kd n S) Q := by
  have e56 : (S 56)[3]? = some (.int (-1)) := by
    obtain ⟨A, rfl, -⟩ := hS
    rfl
  obtain ⟨k1, k2, k3, k4⟩ := hk
  have i43 := m_isSX (d := d + 3) (scr := scr) (kd := kd) (k := 43) hn ht (by decide) (by decide) hS
  rw [if_neg (by assumption)] at i43
  have i45 := m_isSX (d := d + 3) (scr := scr) (kd := kd) (k := 45) hn ht (by decide) (by decide) hS
  rw [if_neg (by assumption)] at i45
  have i42 := m_isSX (d := d + 3) (scr := scr) (kd := kd) (k := 42) hn ht (by decide) (by decide) hS
  rw [if_neg (by assumption)] at i42
  have i47 := m_isSX (d := d + 3) (scr := scr) (kd := kd) (k := 47) hn ht (by decide) (by decide) hS
  rw [if_neg (by assumption)] at i47
  have i41 := m_isSX (d := d + 3) (scr := scr) (kd := kd) (k := 41) hn ht (by decide) (by decide) hS
  have f329 : aE aM190 (d + 4) 329 (exL st.length 0 0 0) [] (gH scr kd n S) Q := by
    refine eS rfl rfl ?_
    refine eLe rfl rfl (fun _ => ?_) (fun z => absurd (show Int32.ofNat 0 ≤ 0 by decide) z)
    refine eS rfl rfl ?_
    refine eS rfl rfl ?_
    refine eS rfl rfl ?_
    refine eS rfl rfl ?_
    refine eEq rfl rfl (fun _ => ?_) (fun z => (z rfl).elim)
    exact ex_exit hn hl h4 hw hS rfl ⟨rfl, rfl, trivial⟩ k
  by_cases c : kA ts t = 41
  · rw [if_pos c] at i41
    refine eS rfl rfl ?_
    refine eEq rfl rfl (fun z => absurd z (by decide)) (fun _ => ?_)
    refine eS rfl rfl ?_
    refine gGet hn rfl rfl rfl e56 ?_
    refine eS rfl rfl ?_
    refine eINe rfl rfl (fun z => absurd rfl z) (fun _ => ?_)
    refine eS rfl rfl ?_
    refine eEq rfl rfl (fun _ => ?_) (fun z => (z rfl).elim)
    refine eS rfl rfl ?_
    refine eS rfl rfl ?_
    refine gV1 hn rfl rfl rfl rfl rfl ⟨catOk rfl, catOk rfl⟩ (i43) ?_
    refine eNe rfl rfl (fun z => absurd rfl z) (fun _ => ?_)
    refine eS rfl rfl ?_
    refine eS rfl rfl ?_
    refine gV1 hn rfl rfl rfl rfl rfl ⟨catOk rfl, catOk rfl⟩ (i45) ?_
    refine eNe rfl rfl (fun z => absurd rfl z) (fun _ => ?_)
    refine eS rfl rfl ?_
    refine eS rfl rfl ?_
    refine gV1 hn rfl rfl rfl rfl rfl ⟨catOk rfl, catOk rfl⟩ (i42) ?_
    refine eNe rfl rfl (fun z => absurd rfl z) (fun _ => ?_)
    refine eS rfl rfl ?_
    refine eS rfl rfl ?_
    refine gV1 hn rfl rfl rfl rfl rfl ⟨catOk rfl, catOk rfl⟩ (i47) ?_
    refine eEq rfl rfl (fun _ => ?_) (fun z => (z rfl).elim)
    refine eS rfl rfl ?_
    refine eS rfl rfl ?_
    refine gV1 hn rfl rfl rfl rfl rfl ⟨catOk rfl, catOk rfl⟩ (i41) ?_
    refine eEq rfl rfl (fun z => absurd z (by decide)) (fun _ => ?_)
    refine eS rfl rfl ?_
    refine eLe rfl rfl (fun _ => ?_) (fun z => absurd (show Int32.ofNat 0 ≤ 0 by decide) z)
    exact f329
  · rw [if_neg c] at i41
    refine eS rfl rfl ?_
    refine eEq rfl rfl (fun z => absurd z (by decide)) (fun _ => ?_)
    refine eS rfl rfl ?_
    refine gGet hn rfl rfl rfl e56 ?_
    refine eS rfl rfl ?_
    refine eINe rfl rfl (fun z => absurd rfl z) (fun _ => ?_)
    refine eS rfl rfl ?_
    refine eEq rfl rfl (fun _ => ?_) (fun z => (z rfl).elim)
    refine eS rfl rfl ?_
    refine eS rfl rfl ?_
    refine gV1 hn rfl rfl rfl rfl rfl ⟨catOk rfl, catOk rfl⟩ (i43) ?_
    refine eNe rfl rfl (fun z => absurd rfl z) (fun _ => ?_)
    refine eS rfl rfl ?_
    refine eS rfl rfl ?_
    refine gV1 hn rfl rfl rfl rfl rfl ⟨catOk rfl, catOk rfl⟩ (i45) ?_
    refine eNe rfl rfl (fun z => absurd rfl z) (fun _ => ?_)
    refine eS rfl rfl ?_
    refine eS rfl rfl ?_
    refine gV1 hn rfl rfl rfl rfl rfl ⟨catOk rfl, catOk rfl⟩ (i42) ?_
    refine eNe rfl rfl (fun z => absurd rfl z) (fun _ => ?_)
    refine eS rfl rfl ?_
    refine eS rfl rfl ?_
    refine gV1 hn rfl rfl rfl rfl rfl ⟨catOk rfl, catOk rfl⟩ (i47) ?_
    refine eEq rfl rfl (fun _ => ?_) (fun z => (z rfl).elim)
    refine eS rfl rfl ?_
    refine eS rfl rfl ?_
    refine gV1 hn rfl rfl rfl rfl rfl ⟨catOk rfl, catOk rfl⟩ (i41) ?_
    refine eEq rfl rfl (fun _ => ?_) (fun z => (z rfl).elim)
    exact f329
set_option maxRecDepth 4000 in
theorem ex_endE (hn : 67 ≤ n) (ht : t ≤ ts.length) (hk : kA ts t ≠ 43 ∧ kA ts t ≠ 45 ∧ kA ts t ≠ 42 ∧ kA ts t ≠ 47) (h41 : kA ts t ≠ 41) (hdp : dp ≤ 3) (hl : dr.length + st.length ≤ 800) (h4 : st.length ≤ 400) (hw : ∀ w ∈ st, w < 2 ^ 20) (hS : (mX S0 w0 L tk ps.length lv df cl rest A0 ts (-1) t vs dr st S)) (k : ∀ S', (mX S0 w0 L tk ps.length lv df cl rest A0 ts (Int32.ofNat (plA ts L t)) t vs (dr ++ porE 1 st) (porL 1 st) S') → Q (.inl none) (gH scr kd n S')) : aE aM190 (d + 4) 12 (exL st.length (dp + 1) 0 0) [] (gH scr kd n S) Q := by
  have e56 : (S 56)[3]? = some (.int (-1)) := by
    obtain ⟨A, rfl, -⟩ := hS
    rfl
  obtain ⟨k1, k2, k3, k4⟩ := hk
  have i43 := m_isSX (d := d + 3) (scr := scr) (kd := kd) (k := 43) hn ht (by decide) (by decide) hS
  rw [if_neg (by assumption)] at i43
  have i45 := m_isSX (d := d + 3) (scr := scr) (kd := kd) (k := 45) hn ht (by decide) (by decide) hS
  rw [if_neg (by assumption)] at i45
  have i42 := m_isSX (d := d + 3) (scr := scr) (kd := kd) (k := 42) hn ht (by decide) (by decide) hS
  rw [if_neg (by assumption)] at i42
  have i47 := m_isSX (d := d + 3) (scr := scr) (kd := kd) (k := 47) hn ht (by decide) (by decide) hS
  rw [if_neg (by assumption)] at i47
  have i41 := m_isSX (d := d + 3) (scr := scr) (kd := kd) (k := 41) hn ht (by decide) (by decide) hS
  rw [if_neg h41] at i41
  obtain ⟨A, rfl, hT, hh⟩ := hS
  have fl := m_fail (d := d + 3) (scr := scr) (kd := kd) (t := t) (md := dr.length) (vr := vs.length) (pr := ps.length) (lv := lv) (df := df) (cl := cl) (S0 := S0) (w0 := w0) (tk := tk) (rest := rest) hn hT ht
  refine eS rfl rfl ?_
  refine eEq rfl rfl (fun z => absurd z (by decide)) (fun _ => ?_)
  refine eS rfl rfl ?_
  refine gGet hn rfl rfl rfl e56 ?_
  refine eS rfl rfl ?_
  refine eINe rfl rfl (fun z => absurd rfl z) (fun _ => ?_)
  refine eS rfl rfl ?_
  refine eEq rfl rfl (fun _ => ?_) (fun z => (z rfl).elim)
  refine eS rfl rfl ?_
  refine eS rfl rfl ?_
  refine gV1 hn rfl rfl rfl rfl rfl ⟨catOk rfl, catOk rfl⟩ (i43) ?_
  refine eNe rfl rfl (fun z => absurd rfl z) (fun _ => ?_)
  refine eS rfl rfl ?_
  refine eS rfl rfl ?_
  refine gV1 hn rfl rfl rfl rfl rfl ⟨catOk rfl, catOk rfl⟩ (i45) ?_
  refine eNe rfl rfl (fun z => absurd rfl z) (fun _ => ?_)
  refine eS rfl rfl ?_
  refine eS rfl rfl ?_
  refine gV1 hn rfl rfl rfl rfl rfl ⟨catOk rfl, catOk rfl⟩ (i42) ?_
  refine eNe rfl rfl (fun z => absurd rfl z) (fun _ => ?_)
  refine eS rfl rfl ?_
  refine eS rfl rfl ?_
  refine gV1 hn rfl rfl rfl rfl rfl ⟨catOk rfl, catOk rfl⟩ (i47) ?_
  refine eEq rfl rfl (fun _ => ?_) (fun z => (z rfl).elim)
  refine eS rfl rfl ?_
  refine eS rfl rfl ?_
  refine gV1 hn rfl rfl rfl rfl rfl ⟨catOk rfl, catOk rfl⟩ (i41) ?_
  refine eEq rfl rfl (fun _ => ?_) (fun z => (z rfl).elim)
  refine eS rfl rfl ?_
  refine eLe rfl rfl (fun z => absurd ((i32_le (a := dp + 1) (b := 0) (by omega) (by omega)).mp z) (by omega)) (fun _ => ?_)
  refine eS rfl rfl ?_
  refine eS rfl rfl ?_
  refine gGet hn rfl rfl rfl rfl ?_
  refine gV1 hn rfl rfl rfl rfl rfl ⟨catOk rfl, catOk rfl⟩ (fl) ?_
  refine eS rfl rfl ?_
  refine eS rfl rfl ?_
  refine eS rfl rfl ?_
  refine eS rfl rfl ?_
  refine eEq rfl rfl (fun _ => ?_) (fun z => (z rfl).elim)
  exact ex_exit (wr := Int32.ofNat (plA ts L t)) (t := t) hn hl h4 hw ⟨A, rfl, hT, hh⟩ rfl ⟨rfl, rfl, trivial⟩ k
end MEV
