section MET
variable {scr : List Value} {kd : Nat → Nat} {n d L md t vr pr lv df cl : Nat} {S0 A : Nat → List Value} {w0 : Value} {wr tk : Int32} {rest : List Value} {ts : List aTk} {vs ps : List (List Nat)} {A0 S : Nat → List Value} {st dr r : List Nat} {s dp : Nat} {mi wa on : Int32} {x : List Nat} {Q : aOut → aH → Prop}
set_option maxRecDepth 4000 in
theorem ex_opndE {S1 : Nat → List Value} (hn : 67 ≤ n) (hk : kA ts t = 30) (hl : (dr ++ [2, 0]).length + st.length ≤ 800) (h4 : st.length ≤ 400) (hw : ∀ w ∈ st, w < 2 ^ 20) (hl2 : (dr ++ [2, 0] ++ porE 3 st).length + (porL 3 st).length ≤ 800) (h42 : (porL 3 st).length ≤ 400) (hw2 : ∀ w ∈ porL 3 st, w < 2 ^ 20) (hS : (mX S0 w0 L tk ps.length lv df cl rest A0 ts (-1) t vs dr st S)) (hS1 : (mX S0 w0 L tk ps.length lv df cl rest A0 ts (Int32.ofNat (plA ts L t)) t vs (dr ++ [2, 0]) st S1)) (ho : aE aM191 (d + 3) 0 [(0, .ref 56)] [] (gH scr kd n S) (aIs none (gH scr kd n S1))) (k : ∀ S', (mX S0 w0 L tk ps.length lv df cl rest A0 ts (Int32.ofNat (plA ts L t)) (t + 1) vs (dr ++ [2, 0] ++ porE 3 st ++ porE 1 (porL 3 st)) (porL 1 (porL 3 st)) S') → Q (.inl none) (gH scr kd n S')) : aE aM190 (d + 4) 12 (exL st.length dp 1 mi) [] (gH scr kd n S) Q := by
  have ht : t ≤ ts.length := Nat.le_of_lt (kA_lt hk (by decide))
  refine ex_pre hn ht hS ?_
  have i45 := m_isSX (d := d + 3) (scr := scr) (kd := kd) (k := 45) hn ht (by decide) (by decide) hS
  rw [if_neg (by omega)] at i45
  rw [if_pos (show kA ts t = 1 ∨ kA ts t = 30 from Or.inr hk), if_neg (show ¬ kA ts t = 40 by omega)]
  obtain ⟨S2, X2, a2⟩ := m_pourX (d := d + 2) (scr := scr) (kd := kd) (s := 3) hn (by decide) hl h4 hw hS1
  obtain ⟨A, rfl, X3⟩ := mX_tick X2
  have pl : plA ts L t < 2 ^ 20 := by
    obtain ⟨A', -, hT, -⟩ := hS
    exact plA_lt hT
  refine eS rfl rfl ?_
  refine eS rfl rfl ?_
  refine gV1 hn rfl rfl rfl rfl rfl ⟨catOk rfl, catOk rfl⟩ (i45) ?_
  refine eEq rfl rfl (fun _ => ?_) (fun z => (z rfl).elim)
  refine eS rfl rfl ?_
  refine eEq rfl rfl (fun _ => ?_) (fun z => (z rfl).elim)
  refine eS rfl rfl ?_
  refine eEq rfl rfl (fun z => absurd z (by decide)) (fun _ => ?_)
  refine eS rfl rfl ?_
  refine gV1 hn rfl rfl rfl rfl rfl ⟨catOk rfl, catOk rfl⟩ (ho) ?_
  refine eS rfl rfl ?_
  refine eS rfl rfl ?_
  refine eS rfl rfl ?_
  refine gV1 hn rfl rfl rfl rfl rfl ⟨catOk rfl, catOk rfl⟩ (a2) ?_
  refine eS rfl rfl ?_
  refine eS rfl rfl ?_
  refine eS rfl rfl ?_
  refine eS rfl rfl ?_
  refine eS rfl rfl ?_
  refine eS rfl rfl ?_
  refine eS rfl rfl ?_
  refine eS rfl rfl ?_
  refine gGet hn rfl rfl rfl rfl ?_
  refine eS rfl rfl ?_
  refine eS rfl rfl ?_
  rw [show Int32.ofNat t + Int32.ofInt 1 = Int32.ofNat (t + 1) from i32_succ]
  refine gPut hn rfl rfl rfl rfl rfl rfl rfl me_t ?_
  refine eS rfl rfl ?_
  exact eLoc (l' := [(0, .ref 56), (1, .int (Int32.ofNat (porL 3 st).length)), (5, .int 1)]) rfl ⟨rfl, rfl, rfl, trivial⟩ (ex_out hn (neg1_ne pl) hl2 h42 hw2 X3 k)
end MET
