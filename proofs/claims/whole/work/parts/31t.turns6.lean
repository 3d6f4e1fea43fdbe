section MEU
variable {scr : List Value} {kd : Nat → Nat} {n d L md t vr pr lv df cl : Nat} {S0 A : Nat → List Value} {w0 : Value} {wr tk : Int32} {rest : List Value} {ts : List aTk} {vs ps : List (List Nat)} {A0 S : Nat → List Value} {st dr r : List Nat} {s dp : Nat} {mi wa on : Int32} {x : List Nat} {Q : aOut → aH → Prop}
theorem plA_lt (hT : mTok ts L A) : plA ts L t < 2 ^ 20 := by
  unfold plA
  cases e : ts[t]? with
  | none =>
    have := hT.2.2.2.2.2.1
    show L < 2 ^ 20
    omega
  | some u =>
    have h1 := (hT.2.2.2.2.2.2 t u e).1
    have := hT.2.2.2.2.2.1
    show u.2.1 < 2 ^ 20
    omega
set_option maxRecDepth 4000 in
theorem ex_fail (hn : 67 ≤ n) (ht : t ≤ ts.length) (hk : kA ts t ≠ 1 ∧ kA ts t ≠ 30) (h45 : kA ts t = 45 → mi ≠ 0) (h40 : kA ts t = 40 → 3 ≤ dp) (hdp : dp ≤ 3) (hl : dr.length + st.length ≤ 800) (h4 : st.length ≤ 400) (hw : ∀ w ∈ st, w < 2 ^ 20) (hS : (mX S0 w0 L tk ps.length lv df cl rest A0 ts (-1) t vs dr st S)) (k : ∀ S', (mX S0 w0 L tk ps.length lv df cl rest A0 ts (Int32.ofNat (plA ts L t)) (t + 1) vs (dr ++ porE 1 st) (porL 1 st) S') → Q (.inl none) (gH scr kd n S')) : aE aM190 (d + 4) 12 (exL st.length dp 1 mi) [] (gH scr kd n S) Q := by
  refine ex_pre hn ht hS ?_
  have i45 := m_isSX (d := d + 3) (scr := scr) (kd := kd) (k := 45) hn ht (by decide) (by decide) hS
  rw [if_neg (show ¬ (kA ts t = 1 ∨ kA ts t = 30) by omega)]
  obtain ⟨A, rfl, hT, hh⟩ := hS
  have fl := m_fail (d := d + 3) (scr := scr) (kd := kd) (t := t) (md := dr.length) (vr := vs.length) (pr := ps.length) (lv := lv) (df := df) (cl := cl) (S0 := S0) (w0 := w0) (tk := tk) (rest := rest) hn hT ht
  have f144 : ∀ op : Int32, aE aM190 (d + 4) 144 (exM st.length dp 1 mi op 0) [] (gH scr kd n (mtS S0 (mE w0 L (-1) tk dr.length t vs.length ps.length lv df cl rest) A)) Q := by
    intro op
    refine eS rfl rfl ?_
    refine eS rfl rfl ?_
    refine gGet hn rfl rfl rfl rfl ?_
    refine gV1 hn rfl rfl rfl rfl rfl ⟨catOk rfl, catOk rfl⟩ (fl) ?_
    refine eS rfl rfl ?_
    refine eS rfl rfl ?_
    refine gGet hn rfl rfl rfl rfl ?_
    refine eS rfl rfl ?_
    refine eS rfl rfl ?_
    rw [show Int32.ofNat t + Int32.ofInt 1 = Int32.ofNat (t + 1) from i32_succ]
    refine gPut hn rfl rfl rfl rfl rfl rfl rfl me_t ?_
    refine eS rfl rfl ?_
    exact eLoc (l' := [(0, .ref 56), (1, .int (Int32.ofNat st.length)), (5, .int 1)]) rfl ⟨rfl, rfl, rfl, trivial⟩ (ex_out (wr := Int32.ofNat (plA ts L t)) (t := t + 1) hn (neg1_ne (plA_lt hT)) hl h4 hw ⟨A, rfl, hT, hh⟩ k)
  have f120 : ∀ op : Int32, aE aM190 (d + 4) 120 (exM st.length dp 1 mi op 0) [] (gH scr kd n (mtS S0 (mE w0 L (-1) tk dr.length t vs.length ps.length lv df cl rest) A)) Q := by
    intro op
    refine eS rfl rfl ?_
    refine eEq rfl rfl (fun _ => ?_) (fun z => (z rfl).elim)
    exact f144 op
  have f90 : aE aM190 (d + 4) 90 (exM st.length dp 1 mi (if kA ts t = 40 then 1 else 0) 0) [] (gH scr kd n (mtS S0 (mE w0 L (-1) tk dr.length t vs.length ps.length lv df cl rest) A)) Q := by
    by_cases c : kA ts t = 40
    · rw [if_pos c]
      refine eS rfl rfl ?_
      refine eEq rfl rfl (fun z => absurd z (by decide)) (fun _ => ?_)
      refine eS rfl rfl ?_
      refine eS rfl rfl ?_
      refine eIGe rfl rfl (fun _ => ?_) (fun z => absurd ((i32_le (a := 3) (b := dp) (by omega) (by omega)).mpr (h40 c)) z)
      exact f120 _
    · rw [if_neg c]
      refine eS rfl rfl ?_
      refine eEq rfl rfl (fun _ => ?_) (fun z => (z rfl).elim)
      exact f120 _
  by_cases c : kA ts t = 45
  · rw [if_pos c] at i45
    refine eS rfl rfl ?_
    refine eS rfl rfl ?_
    refine gV1 hn rfl rfl rfl rfl rfl ⟨catOk rfl, catOk rfl⟩ (i45) ?_
    refine eEq rfl rfl (fun z => absurd z (by decide)) (fun _ => ?_)
    refine eS rfl rfl ?_
    refine eNe rfl rfl (fun _ => ?_) (fun z => absurd z (h45 c))
    exact f90
  · rw [if_neg c] at i45
    refine eS rfl rfl ?_
    refine eS rfl rfl ?_
    refine gV1 hn rfl rfl rfl rfl rfl ⟨catOk rfl, catOk rfl⟩ (i45) ?_
    refine eEq rfl rfl (fun _ => ?_) (fun z => (z rfl).elim)
    exact f90
end MEU
