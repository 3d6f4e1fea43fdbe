/-! the model reads a definition's head -/
section MSN
variable {scr : List Value} {kd : Nat → Nat} {n d L t lv df cl : Nat} {fr : List (Nat × Nat × Nat)} {ds : List dEf} {cs : List cAl} {S0 A A0 S : Nat → List Value} {w0 : Value} {wr tk : Int32} {rest : List Value} {ts : List aTk} {vs ps : List (List Nat)} {dr st : List Nat} {s : Nat} {x : xSt} {nm : List Nat} {Q : aOut → aH → Prop}
theorem m_dfTail {j : Int32} (hn : 67 ≤ n) (hd : dr.length < 700) (hdf : df < 28) (h70 : (A0 70).length = 28) (h71 : (A0 71).length = 28) (hS : (mX S0 w0 L tk ps.length lv df cl rest A0 ts wr t vs dr st S)) (kk : ∀ S', (mX S0 w0 L tk ps.length lv (df + 1) cl rest (aUp (aUp A0 70 ((A0 70).set df (.int (Int32.ofNat ps.length)))) 71 ((A0 71).set df (.int (Int32.ofNat (dr.length + 2))))) ts wr t vs (dr ++ [14, 0]) st S') → aE aM187 (d + 3) 248 [(2, .int (Int32.ofNat (dr.length + 1))), (1, .int 1), (0, .ref 56)] [] (gH scr kd n S') Q) : aE aM187 (d + 3) 205 [(2, .int j), (1, .int 1), (0, .ref 56)] [] (gH scr kd n S) Q := by
  obtain ⟨r7, r22, r15, r23, r24⟩ := mX_refs hS
  obtain ⟨X1, e70⟩ := mX_row (q := 70) (b := (A0 70).set df (.int (Int32.ofNat ps.length))) (by decide) hS
  obtain ⟨S2, X2, a2⟩ := m_jump (w := 14) (d := d + 1) (scr := scr) (kd := kd) (ps := ps) hn (by omega) X1
  have ln : (dr ++ [14, 0]).length = dr.length + 2 := by rw [List.length_append]; rfl
  obtain ⟨X3, e71⟩ := mX_row (q := 71) (b := (A0 71).set df (.int (Int32.ofNat (dr.length + 2)))) (by decide) X2
  obtain ⟨X4, l4⟩ := mX_df (u := df + 1) X3
  obtain ⟨-, -, -, -, q24⟩ := mX_refs X2
  have e71 : S2 71 = A0 71 := e71.trans (aUp_ne (by decide))
  refine eS rfl rfl ?_
  refine gGet hn rfl rfl rfl r23 ?_
  refine eS rfl rfl ?_
  refine gGet hn rfl rfl rfl (mX_f hS).2.2.2.2.2.1 ?_
  refine eS rfl rfl ?_
  refine gGet hn rfl rfl rfl (mX_f hS).2.2.2.1 ?_
  refine gWr0 hn rfl rfl rfl df (by omega) (by rw [e70]; omega) (by rw [e70]) ?_
  refine eS rfl rfl ?_
  refine eS rfl rfl ?_
  refine gV1 hn rfl rfl rfl rfl rfl ⟨catOk rfl, catOk rfl⟩ (a2) ?_
  refine eS rfl rfl ?_
  refine eS rfl rfl ?_
  refine gGet hn rfl rfl rfl q24 ?_
  refine eS rfl rfl ?_
  refine gGet hn rfl rfl rfl (mX_f X2).2.2.2.2.2.1 ?_
  refine eS rfl rfl ?_
  refine gGet hn rfl rfl rfl (mX_f X2).2.1 ?_
  rw [ln]
  refine gWr0 hn rfl rfl rfl df (by omega) (by rw [e71]; omega) (by rw [e71]) ?_
  refine eS rfl rfl ?_
  refine eS rfl rfl ?_
  refine gGet hn rfl rfl rfl (mX_f X3).2.2.2.2.2.1 ?_
  refine eS rfl rfl ?_
  refine eS rfl rfl ?_
  rw [i32_succ]
  refine gPut hn rfl rfl rfl rfl (by rw [l4]; exact Nat.blt_eq.mpr (by show 21 < _; omega)) rfl rfl rfl ?_
  exact eLoc (l' := [(2, .int (Int32.ofNat (dr.length + 1))), (1, .int 1), (0, .ref 56)]) rfl ⟨rfl, rfl, rfl, trivial⟩ (kk _ X4)
theorem mX_lv {u : Nat} (hS : (mX S0 w0 L tk ps.length lv df cl rest A0 ts wr t vs dr st S)) : (mX S0 w0 L tk ps.length u df cl rest A0 ts wr t vs dr st (aUp S 56 ((S 56).set 17 (.int (Int32.ofNat u))))) := by
  obtain ⟨A, rfl, h⟩ := hS
  exact ⟨A, me_lv, h⟩
theorem m_openE {e : Nat} {f : Nat × Nat × Nat} (hn : 67 ≤ n) (he : e < 2 ^ 20) (ht : t ≤ ts.length) (hl : lv ≤ 3) (hR : rLn A0) (hd : dr.length ≤ 720) (hcl : cl < 2 ^ 20) (hS : (mX S0 w0 L tk ps.length lv df cl rest A0 ts (Int32.ofNat e) t vs dr st S)) : ∃ S', mEz S0 w0 L tk rest e S' ∧ aE aM185 (d + 1) 0 [(0, .ref 56), (1, .int (Int32.ofNat f.1)), (2, .int (Int32.ofNat f.2.1)), (3, .int (Int32.ofNat f.2.2))] [] (gH scr kd n S) (aIs none (gH scr kd n S')) := by
  have is := m_isSX (d := d) (scr := scr) (kd := kd) (k := 123) (ps := ps) hn ht (by decide) (by decide) hS
  have hw := neg1_ne he
  have fl := fun u => m_failE (d := d) (scr := scr) (kd := kd) (u := u) hn hw hS
  have k3 := i32_eq (a := lv) (b := 3) (by omega) (by omega)
  by_cases c : kA ts t = 123
  · rw [if_pos c] at is
    by_cases c3 : lv = 3
    · refine ⟨S, mEz_of hS hR hd hcl, ?_⟩
      refine eS rfl rfl ?_
      refine eS rfl rfl ?_
      refine gV1 hn rfl rfl rfl rfl rfl ⟨catOk rfl, catOk rfl⟩ (is) ?_
      refine eEq rfl rfl (fun z => absurd z (by decide)) (fun _ => ?_)
      refine eS rfl rfl ?_
      refine gGet hn rfl rfl rfl (mX_f hS).2.2.2.2.1 ?_
      refine eS rfl rfl ?_
      refine eINe rfl rfl (fun z => absurd (k3.mpr c3) z) (fun _ => ?_)
      refine eS rfl rfl ?_
      refine eS rfl rfl ?_
      refine gGet hn rfl rfl rfl (mX_f hS).2.2.1 ?_
      refine gV1 hn rfl rfl rfl rfl rfl ⟨catOk rfl, catOk rfl⟩ (fl _) ?_
      exact eR rfl rfl ⟨rfl, rfl⟩
    · obtain ⟨A, rfl, X0⟩ := mX_tick hS
      obtain ⟨X1, e66⟩ := mX_row (q := 66) (b := (A0 66).set lv (.int (Int32.ofNat f.1))) (by decide) X0
      obtain ⟨X2, e67⟩ := mX_row (q := 67) (b := (A0 67).set lv (.int (Int32.ofNat f.2.1))) (by decide) X1
      obtain ⟨X3, e68⟩ := mX_row (q := 68) (b := (A0 68).set lv (.int (Int32.ofNat f.2.2))) (by decide) X2
      have e67 := e67.trans (aUp_ne (by decide))
      have e68 := (e68.trans (aUp_ne (by decide))).trans (aUp_ne (by decide))
      have X4 := mX_lv (u := lv + 1) X3
      obtain ⟨r64, r66, r67, r68, r69⟩ := hR
      have hR' : rLn (aUp (aUp (aUp A0 66 ((A0 66).set lv (.int (Int32.ofNat f.1)))) 67 ((A0 67).set lv (.int (Int32.ofNat f.2.1)))) 68 ((A0 68).set lv (.int (Int32.ofNat f.2.2)))) := by
        refine ⟨r64, ?_, ?_, ?_, r69⟩
        · show ((A0 66).set lv _).length = 4
          rw [List.length_set]; exact r66
        · show ((A0 67).set lv _).length = 4
          rw [List.length_set]; exact r67
        · show ((A0 68).set lv _).length = 4
          rw [List.length_set]; exact r68
      refine ⟨_, mEz_of X4 hR' hd hcl, ?_⟩
      refine eS rfl rfl ?_
      refine eS rfl rfl ?_
      refine gV1 hn rfl rfl rfl rfl rfl ⟨catOk rfl, catOk rfl⟩ (is) ?_
      refine eEq rfl rfl (fun z => absurd z (by decide)) (fun _ => ?_)
      refine eS rfl rfl ?_
      refine gGet hn rfl rfl rfl rfl ?_
      refine eS rfl rfl ?_
      refine eINe rfl rfl (fun _ => ?_) (fun z => absurd (k3.mp z) c3)
      refine eS rfl rfl ?_
      refine eS rfl rfl ?_
      refine gGet hn rfl rfl rfl rfl ?_
      refine eS rfl rfl ?_
      refine eS rfl rfl ?_
      rw [i32_succ]
      refine gPut hn rfl rfl rfl rfl rfl rfl rfl me_t ?_
      refine eS rfl rfl ?_
      refine gGet hn rfl rfl rfl (show (_ : List Value)[18]? = some (.ref 66) by obtain ⟨A, e, -⟩ := X0; rw [e]; rfl) ?_
      refine eS rfl rfl ?_
      refine gGet hn rfl rfl rfl (mX_f X0).2.2.2.2.1 ?_
      refine eS rfl rfl ?_
      refine gWr0 hn rfl rfl rfl lv (by omega) (by rw [e66]; omega) (by rw [e66]) ?_
      refine eS rfl rfl ?_
      refine gGet hn rfl rfl rfl (show (_ : List Value)[19]? = some (.ref 67) by obtain ⟨A, e, -⟩ := X1; rw [e]; rfl) ?_
      refine eS rfl rfl ?_
      refine gGet hn rfl rfl rfl (mX_f X1).2.2.2.2.1 ?_
      refine eS rfl rfl ?_
      refine gWr0 hn rfl rfl rfl lv (by omega) (by rw [e67]; omega) (by rw [e67]) ?_
      refine eS rfl rfl ?_
      refine gGet hn rfl rfl rfl (show (_ : List Value)[20]? = some (.ref 68) by obtain ⟨A, e, -⟩ := X2; rw [e]; rfl) ?_
      refine eS rfl rfl ?_
      refine gGet hn rfl rfl rfl (mX_f X2).2.2.2.2.1 ?_
      refine eS rfl rfl ?_
      refine gWr0 hn rfl rfl rfl lv (by omega) (by rw [e68]; omega) (by rw [e68]) ?_
      refine eS rfl rfl ?_
      refine eS rfl rfl ?_
      refine gGet hn rfl rfl rfl (mX_f X3).2.2.2.2.1 ?_
      refine eS rfl rfl ?_
      refine eS rfl rfl ?_
      rw [i32_succ]
      refine gPut hn rfl rfl rfl rfl (by obtain ⟨A, e, -⟩ := X3; rw [e]; rfl) rfl rfl rfl ?_
      exact eR rfl rfl ⟨rfl, rfl⟩
  · rw [if_neg c] at is
    refine ⟨S, mEz_of hS hR hd hcl, ?_⟩
    refine eS rfl rfl ?_
    refine eS rfl rfl ?_
    refine gV1 hn rfl rfl rfl rfl rfl ⟨catOk rfl, catOk rfl⟩ (is) ?_
    refine eEq rfl rfl (fun _ => ?_) (fun z => absurd rfl z)
    refine eS rfl rfl ?_
    refine eS rfl rfl ?_
    refine gGet hn rfl rfl rfl (mX_f hS).2.2.1 ?_
    refine gV1 hn rfl rfl rfl rfl rfl ⟨catOk rfl, catOk rfl⟩ (fl _) ?_
    exact eR rfl rfl ⟨rfl, rfl⟩
end MSN
