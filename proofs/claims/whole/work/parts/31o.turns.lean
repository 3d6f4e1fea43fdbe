/-! the turns of the model's expression -/
def exL (n dp : Nat) (wants minus : Int32) : aLc := [(0, .ref 56), (1, .int (Int32.ofNat n)), (2, .int (Int32.ofNat dp)), (3, .int wants), (4, .int minus), (5, .int 1)]
def exM (n dp : Nat) (wants minus : Int32) (op tk : Int32) : aLc := [(7, .int tk), (6, .int op), (0, .ref 56), (1, .int (Int32.ofNat n)), (2, .int (Int32.ofNat dp)), (3, .int wants), (4, .int minus), (5, .int 1)]
section MEX
variable {scr : List Value} {kd : Nat → Nat} {n d L md t vr pr lv df cl : Nat} {S0 A : Nat → List Value} {w0 : Value} {wr tk : Int32} {rest : List Value} {ts : List aTk} {vs ps : List (List Nat)} {A0 S : Nat → List Value} {st dr : List Nat} {s dp : Nat} {mi : Int32} {x : List Nat} {Q : aOut → aH → Prop}
theorem m_isNameX (hn : 67 ≤ n) (ht : t ≤ ts.length) (hS : (mX S0 w0 L tk ps.length lv df cl rest A0 ts wr t vs dr st S)) : aE aM188 (d + 2) 0 [(0, .ref 56)] [] (gH scr kd n S) (aIs (some (.int (if kA ts t = 30 then 1 else 0))) (gH scr kd n S)) := by
  obtain ⟨A, rfl, hT, -⟩ := hS
  exact m_isName hn hT ht
theorem is_sg {c : Nat} (hc : 40 ≤ c) : (if mkA ts t = c then (1 : Int32) else 0) = if kA ts t = c then 1 else 0 := by
  by_cases e : kA ts t = c
  · rw [if_pos e, if_pos ((mkA_sg hc).mpr e)]
  · rw [if_neg e, if_neg (fun z => e ((mkA_sg hc).mp z))]
theorem m_isSX {k : Nat} (hn : 67 ≤ n) (ht : t ≤ ts.length) (hk : k < 2 ^ 20) (h40 : 40 ≤ k) (hS : (mX S0 w0 L tk ps.length lv df cl rest A0 ts wr t vs dr st S)) : aE aM178 d 0 [(0, .ref 56), (1, .int (Int32.ofNat k))] [] (gH scr kd n S) (aIs (some (.int (if kA ts t = k then 1 else 0))) (gH scr kd n S)) := by
  have := m_isX (d := d) (scr := scr) (kd := kd) hn ht hk hS
  rw [is_sg h40] at this
  exact this
theorem m_is2X (hn : 67 ≤ n) (ht : t ≤ ts.length) (hS : (mX S0 w0 L tk ps.length lv df cl rest A0 ts wr t vs dr st S)) : aE aM178 d 0 [(0, .ref 56), (1, .int (Int32.ofNat 2))] [] (gH scr kd n S) (aIs (some (.int (if kA ts t = 1 then 1 else 0))) (gH scr kd n S)) := by
  have := m_isX (d := d) (scr := scr) (kd := kd) (k := 2) hn ht (by decide) hS
  by_cases e : kA ts t = 1
  · rw [if_pos (mkA_2.mpr e)] at this
    rw [if_pos e]
    exact this
  · rw [if_neg (fun z => e (mkA_2.mp z))] at this
    rw [if_neg e]
    exact this
theorem ex_pre (hn : 67 ≤ n) (ht : t ≤ ts.length) (hS : (mX S0 w0 L tk ps.length lv df cl rest A0 ts (-1) t vs dr st S)) (k : aE aM190 (d + 4) 59 (exM st.length dp 1 mi (if kA ts t = 40 then 1 else 0) (if kA ts t = 1 ∨ kA ts t = 30 then 1 else 0)) [] (gH scr kd n S) Q) : aE aM190 (d + 4) 12 (exL st.length dp 1 mi) [] (gH scr kd n S) Q := by
  have i40 := m_isSX (d := d + 3) (scr := scr) (kd := kd) (k := 40) hn ht (by decide) (by decide) hS
  have i2 := m_is2X (d := d + 3) (scr := scr) (kd := kd) hn ht hS
  have iN := m_isNameX (d := d + 1) (scr := scr) (kd := kd) hn ht hS
  have e56 : (S 56)[3]? = some (.int (-1)) := by
    obtain ⟨A, rfl, -⟩ := hS
    rfl
  by_cases c1 : kA ts t = 1
  · rw [if_pos (Or.inl c1)] at k
    rw [if_pos c1] at i2
    refine eS rfl rfl ?_
    refine eEq rfl rfl (fun z => absurd z (by decide)) (fun _ => ?_)
    refine eS rfl rfl ?_
    refine gGet hn rfl rfl rfl e56 ?_
    refine eS rfl rfl ?_
    refine eINe rfl rfl (fun z => absurd rfl z) (fun _ => ?_)
    refine eS rfl rfl ?_
    refine eEq rfl rfl (fun z => absurd z (by decide)) (fun _ => ?_)
    refine eS rfl rfl ?_
    refine eS rfl rfl ?_
    refine gV1 hn rfl rfl rfl rfl rfl ⟨catOk rfl, catOk rfl⟩ (i40) ?_
    refine eS rfl rfl ?_
    refine eS rfl rfl ?_
    refine eS rfl rfl ?_
    refine gV1 hn rfl rfl rfl rfl rfl ⟨catOk rfl, catOk rfl⟩ (i2) ?_
    refine eNe rfl rfl (fun _ => ?_) (fun z => absurd z (by decide))
    refine eS rfl rfl ?_
    refine eS rfl rfl ?_
    refine eS rfl rfl ?_
    exact eLoc (l' := exM st.length dp 1 mi (if kA ts t = 40 then 1 else 0) 1) rfl ⟨rfl, rfl, rfl, rfl, rfl, rfl, rfl, rfl, trivial⟩ k
  · rw [if_neg c1] at i2
    by_cases c2 : kA ts t = 30
    · rw [if_pos (Or.inr c2)] at k
      rw [if_pos c2] at iN
      refine eS rfl rfl ?_
      refine eEq rfl rfl (fun z => absurd z (by decide)) (fun _ => ?_)
      refine eS rfl rfl ?_
      refine gGet hn rfl rfl rfl e56 ?_
      refine eS rfl rfl ?_
      refine eINe rfl rfl (fun z => absurd rfl z) (fun _ => ?_)
      refine eS rfl rfl ?_
      refine eEq rfl rfl (fun z => absurd z (by decide)) (fun _ => ?_)
      refine eS rfl rfl ?_
      refine eS rfl rfl ?_
      refine gV1 hn rfl rfl rfl rfl rfl ⟨catOk rfl, catOk rfl⟩ (i40) ?_
      refine eS rfl rfl ?_
      refine eS rfl rfl ?_
      refine eS rfl rfl ?_
      refine gV1 hn rfl rfl rfl rfl rfl ⟨catOk rfl, catOk rfl⟩ (i2) ?_
      refine eNe rfl rfl (fun z => absurd rfl z) (fun _ => ?_)
      refine eS rfl rfl ?_
      refine gV1 hn rfl rfl rfl rfl rfl ⟨catOk rfl, catOk rfl⟩ (iN) ?_
      refine eEq rfl rfl (fun z => absurd z (by decide)) (fun _ => ?_)
      refine eS rfl rfl ?_
      refine eS rfl rfl ?_
      refine eS rfl rfl ?_
      exact eLoc (l' := exM st.length dp 1 mi (if kA ts t = 40 then 1 else 0) 1) rfl ⟨rfl, rfl, rfl, rfl, rfl, rfl, rfl, rfl, trivial⟩ k
    · rw [if_neg (show ¬ (kA ts t = 1 ∨ kA ts t = 30) from fun z => z.elim c1 c2)] at k
      rw [if_neg c2] at iN
      refine eS rfl rfl ?_
      refine eEq rfl rfl (fun z => absurd z (by decide)) (fun _ => ?_)
      refine eS rfl rfl ?_
      refine gGet hn rfl rfl rfl e56 ?_
      refine eS rfl rfl ?_
      refine eINe rfl rfl (fun z => absurd rfl z) (fun _ => ?_)
      refine eS rfl rfl ?_
      refine eEq rfl rfl (fun z => absurd z (by decide)) (fun _ => ?_)
      refine eS rfl rfl ?_
      refine eS rfl rfl ?_
      refine gV1 hn rfl rfl rfl rfl rfl ⟨catOk rfl, catOk rfl⟩ (i40) ?_
      refine eS rfl rfl ?_
      refine eS rfl rfl ?_
      refine eS rfl rfl ?_
      refine gV1 hn rfl rfl rfl rfl rfl ⟨catOk rfl, catOk rfl⟩ (i2) ?_
      refine eNe rfl rfl (fun z => absurd rfl z) (fun _ => ?_)
      refine eS rfl rfl ?_
      refine gV1 hn rfl rfl rfl rfl rfl ⟨catOk rfl, catOk rfl⟩ (iN) ?_
      refine eEq rfl rfl (fun _ => ?_) (fun z => (z rfl).elim)
      refine eS rfl rfl ?_
      refine eS rfl rfl ?_
      exact eLoc (l' := exM st.length dp 1 mi (if kA ts t = 40 then 1 else 0) 0) rfl ⟨rfl, rfl, rfl, rfl, rfl, rfl, rfl, rfl, trivial⟩ k
/-- an operator waits, a token is taken -/
theorem mX_push {w : Nat} (hS : (mX S0 w0 L tk ps.length lv df cl rest A0 ts (-1) t vs dr st S)) (hl : st.length < 400) : ∃ A, S = (mtS S0 (mE w0 L (-1) tk dr.length t vs.length ps.length lv df cl rest) A) ∧ (A 65).length = 400 ∧ (mX S0 w0 L tk ps.length lv df cl rest A0 ts (-1) (t + 1) vs dr (w :: st) (mtS S0 (mE w0 L (-1) tk dr.length (t + 1) vs.length ps.length lv df cl rest) (aUp A 65 ((A 65).set st.length (.int (Int32.ofNat w)))))) := by
  obtain ⟨A, rfl, hT, h62, hD, h63, hV, h65, hW, hR⟩ := hS
  refine ⟨A, rfl, h65, ⟨_, rfl, hT, h62, hD, h63, hV, ?_, ?_, fun q q1 q2 q3 => (aUp_ne q3).trans (hR q q1 q2 q3)⟩⟩
  · rw [aUp_same, List.length_set]; exact h65
  · rw [aUp_same]; exact wtF_push hW (by omega)
theorem ex_minus (hn : 67 ≤ n) (hk : kA ts t = 45) (hl : st.length < 400) (hS : (mX S0 w0 L tk ps.length lv df cl rest A0 ts (-1) t vs dr st S)) (k : ∀ S', (mX S0 w0 L tk ps.length lv df cl rest A0 ts (-1) (t + 1) vs dr (10 :: st) S') → aE aM190 (d + 4) 12 (exL (st.length + 1) dp 1 1) [] (gH scr kd n S') Q) : aE aM190 (d + 4) 12 (exL st.length dp 1 0) [] (gH scr kd n S) Q := by
  have ht : t ≤ ts.length := Nat.le_of_lt (kA_lt hk (by decide))
  refine ex_pre hn ht hS ?_
  have i45 := m_isSX (d := d + 3) (scr := scr) (kd := kd) (k := 45) hn ht (by decide) (by decide) hS
  rw [if_pos hk] at i45
  obtain ⟨A, rfl, h65, hX⟩ := mX_push (w := 10) hS hl
  refine eS rfl rfl ?_
  refine eS rfl rfl ?_
  refine gV1 hn rfl rfl rfl rfl rfl ⟨catOk rfl, catOk rfl⟩ (i45) ?_
  refine eEq rfl rfl (fun z => absurd z (by decide)) (fun _ => ?_)
  refine eS rfl rfl ?_
  refine eNe rfl rfl (fun z => absurd rfl z) (fun _ => ?_)
  refine eS rfl rfl ?_
  refine gGet hn rfl rfl rfl rfl ?_
  refine eS rfl rfl ?_
  refine eS rfl rfl ?_
  refine gWr0 hn rfl rfl rfl st.length (by omega) (by show st.length < (A 65).length; omega) (mt_up rfl) ?_
  refine eS rfl rfl ?_
  refine eS rfl rfl ?_
  refine eS rfl rfl ?_
  refine eS rfl rfl ?_
  refine eS rfl rfl ?_
  refine eS rfl rfl ?_
  refine gGet hn rfl rfl rfl rfl ?_
  refine eS rfl rfl ?_
  refine eS rfl rfl ?_
  rw [show Int32.ofNat t + Int32.ofInt 1 = Int32.ofNat (t + 1) from i32_succ]
  refine gPut hn rfl rfl rfl rfl rfl rfl rfl me_t ?_
  refine eS rfl rfl ?_
  exact eLoc (l' := exL (st.length + 1) dp 1 1) rfl ⟨rfl, congrArg (fun z => some (Value.int z)) i32_succ, rfl, rfl, rfl, rfl, trivial⟩ (k _ hX)
theorem ex_open (hn : 67 ≤ n) (hk : kA ts t = 40) (hdp : dp < 3) (hl : st.length < 400) (hS : (mX S0 w0 L tk ps.length lv df cl rest A0 ts (-1) t vs dr st S)) (k : ∀ S', (mX S0 w0 L tk ps.length lv df cl rest A0 ts (-1) (t + 1) vs dr (40 :: st) S') → aE aM190 (d + 4) 12 (exL (st.length + 1) (dp + 1) 1 0) [] (gH scr kd n S') Q) : aE aM190 (d + 4) 12 (exL st.length dp 1 mi) [] (gH scr kd n S) Q := by
  have ht : t ≤ ts.length := Nat.le_of_lt (kA_lt hk (by decide))
  refine ex_pre hn ht hS ?_
  have i45 := m_isSX (d := d + 3) (scr := scr) (kd := kd) (k := 45) hn ht (by decide) (by decide) hS
  rw [if_neg (by omega)] at i45
  rw [if_pos hk]
  obtain ⟨A, rfl, h65, hX⟩ := mX_push (w := 40) hS hl
  refine eS rfl rfl ?_
  refine eS rfl rfl ?_
  refine gV1 hn rfl rfl rfl rfl rfl ⟨catOk rfl, catOk rfl⟩ (i45) ?_
  refine eEq rfl rfl (fun _ => ?_) (fun z => (z rfl).elim)
  refine eS rfl rfl ?_
  refine eEq rfl rfl (fun z => absurd z (by decide)) (fun _ => ?_)
  refine eS rfl rfl ?_
  refine eS rfl rfl ?_
  refine eIGe rfl rfl (fun z => absurd ((i32_le (a := 3) (b := dp) (by omega) (by omega)).mp z) (by omega)) (fun _ => ?_)
  refine eS rfl rfl ?_
  refine gGet hn rfl rfl rfl rfl ?_
  refine eS rfl rfl ?_
  refine eS rfl rfl ?_
  refine gWr0 hn rfl rfl rfl st.length (by omega) (by show st.length < (A 65).length; omega) (mt_up rfl) ?_
  refine eS rfl rfl ?_
  refine eS rfl rfl ?_
  refine eS rfl rfl ?_
  refine eS rfl rfl ?_
  refine eS rfl rfl ?_
  refine eS rfl rfl ?_
  refine eS rfl rfl ?_
  refine gGet hn rfl rfl rfl rfl ?_
  refine eS rfl rfl ?_
  refine eS rfl rfl ?_
  rw [show Int32.ofNat t + Int32.ofInt 1 = Int32.ofNat (t + 1) from i32_succ]
  refine gPut hn rfl rfl rfl rfl rfl rfl rfl me_t ?_
  refine eS rfl rfl ?_
  exact eLoc (l' := exL (st.length + 1) (dp + 1) 1 0) rfl ⟨rfl, congrArg (fun z => some (Value.int z)) i32_succ, congrArg (fun z => some (Value.int z)) i32_succ, rfl, rfl, rfl, trivial⟩ (k _ hX)
end MEX
