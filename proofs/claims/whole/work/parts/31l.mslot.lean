/-! the model's slot and operand -/
section MSL
variable {scr : List Value} {kd : Nat → Nat} {n d L md t vr pr lv df cl : Nat} {S0 A : Nat → List Value} {w0 : Value} {wr tk : Int32} {rest : List Value} {ts : List aTk} {vs ps : List (List Nat)} {st dr : List Nat} {s : Nat} {x : List Nat} {Q : aOut → aH → Prop}
theorem m_slp (hn : 67 ≤ n) (hw : (A 60)[t]? = some (.long (Int64.ofNat (pk 27 x)))) (ht : t < 2 ^ 20) (hF : nmF 27 ps (A 64)) (h8 : ps.length ≤ 8) (hv : ∀ y ∈ ps, nmOk y) (hx : nmOk x) : ∀ (k i : Nat), i + k = ps.length → (∀ j, (ps.drop i).findIdx? (fun y => y == x) = some j → Q (.inl (some (.int (Int32.ofNat (i + j)))) ) (gH scr kd n (mtS S0 (mE w0 L wr tk md t vr ps.length lv df cl rest) A))) → ((ps.drop i).findIdx? (fun y => y == x) = none → aE aM192 (d + 1) 37 [(1, .int (Int32.ofNat ps.length)), (0, .ref 56)] [] (gH scr kd n (mtS S0 (mE w0 L wr tk md t vr ps.length lv df cl rest) A)) Q) → aE aM192 (d + 1) 2 [(1, .int (Int32.ofNat i)), (0, .ref 56)] [] (gH scr kd n (mtS S0 (mE w0 L wr tk md t vr ps.length lv df cl rest) A)) Q
  | 0, i, hk, hit, miss => by
    obtain rfl : i = ps.length := by omega
    have miss := miss (by rw [List.drop_length]; rfl)
    refine eS rfl rfl ?_
    refine eS rfl rfl ?_
    refine gGet hn rfl rfl rfl rfl ?_
    refine eIGe rfl rfl (fun _ => ?_) (fun z => absurd ((i32_le (a := ps.length) (b := ps.length) (by omega) (by omega)).mpr (Nat.le_refl _)) z)
    exact miss
  | k + 1, i, hk, hit, miss => by
    have hi : i < ps.length := by omega
    have hr := hF i _ (List.getElem?_eq_getElem hi)
    have hy := hv _ (List.getElem_mem hi)
    rw [List.drop_eq_getElem_cons hi, List.findIdx?_cons] at hit miss
    by_cases e : ps[i] = x
    · have hit := hit 0 (by rw [e, beq_self_eq_true]; rfl)
      refine eS rfl rfl ?_
      refine eS rfl rfl ?_
      refine gGet hn rfl rfl rfl rfl ?_
      refine eIGe rfl rfl (fun z => absurd ((i32_le (a := ps.length) (b := i) (by omega) (by omega)).mp z) (by omega)) (fun _ => ?_)
      refine eS rfl rfl ?_
      refine gGet hn rfl rfl rfl rfl ?_
      refine eS rfl rfl ?_
      refine gRd2 hn rfl rfl rfl i (by omega) hr ?_
      refine eS rfl rfl ?_
      refine gGet hn rfl rfl rfl rfl ?_
      refine eS rfl rfl ?_
      refine gGet hn rfl rfl rfl rfl ?_
      refine gRd2 hn rfl rfl rfl t (by omega) hw ?_
      refine eS rfl rfl ?_
      refine eNe rfl rfl (fun z => absurd (lg_eq.mpr ((nm_eq (Or.inl rfl) hy hx).mpr e)) z) (fun _ => ?_)
      refine eS rfl rfl ?_
      exact eR rfl rfl hit
    · have ne : (ps[i] == x) = false := by rw [beq_eq_false_iff_ne]; exact e
      have nx := m_slp hn hw ht hF h8 hv hx k (i + 1) (by omega) (fun j hj => by
        have := hit (j + 1) (by rw [ne, hj]; rfl)
        rw [show i + (j + 1) = i + 1 + j by omega] at this
        exact this) (fun hj => miss (by rw [ne, hj]; rfl))
      refine eS rfl rfl ?_
      refine eS rfl rfl ?_
      refine gGet hn rfl rfl rfl rfl ?_
      refine eIGe rfl rfl (fun z => absurd ((i32_le (a := ps.length) (b := i) (by omega) (by omega)).mp z) (by omega)) (fun _ => ?_)
      refine eS rfl rfl ?_
      refine gGet hn rfl rfl rfl rfl ?_
      refine eS rfl rfl ?_
      refine gRd2 hn rfl rfl rfl i (by omega) hr ?_
      refine eS rfl rfl ?_
      refine gGet hn rfl rfl rfl rfl ?_
      refine eS rfl rfl ?_
      refine gGet hn rfl rfl rfl rfl ?_
      refine gRd2 hn rfl rfl rfl t (by omega) hw ?_
      refine eS rfl rfl ?_
      refine eNe rfl rfl (fun _ => ?_) (fun z => absurd ((nm_eq (Or.inl rfl) hy hx).mp (lg_eq.mp z)) e)
      refine eS rfl rfl ?_
      refine eS rfl rfl ?_
      rw [i32_succ]
      exact nx
theorem m_slv (hn : 67 ≤ n) (hw : (A 60)[t]? = some (.long (Int64.ofNat (pk 27 x)))) (ht : t < 2 ^ 20) (hF : nmF 27 vs (A 63)) (h8 : vs.length ≤ 8) (hv : ∀ y ∈ vs, nmOk y) (hx : nmOk x) : ∀ (k i : Nat), i + k = vs.length → (∀ j, (vs.drop i).findIdx? (fun y => y == x) = some j → Q (.inl (some (.int (Int32.ofNat (4 + (i + j))))) ) (gH scr kd n (mtS S0 (mE w0 L wr tk md t vs.length pr lv df cl rest) A))) → ((vs.drop i).findIdx? (fun y => y == x) = none → aE aM192 (d + 1) 76 [(1, .int (Int32.ofNat vs.length)), (0, .ref 56)] [] (gH scr kd n (mtS S0 (mE w0 L wr tk md t vs.length pr lv df cl rest) A)) Q) → aE aM192 (d + 1) 39 [(1, .int (Int32.ofNat i)), (0, .ref 56)] [] (gH scr kd n (mtS S0 (mE w0 L wr tk md t vs.length pr lv df cl rest) A)) Q
  | 0, i, hk, hit, miss => by
    obtain rfl : i = vs.length := by omega
    have miss := miss (by rw [List.drop_length]; rfl)
    refine eS rfl rfl ?_
    refine eS rfl rfl ?_
    refine gGet hn rfl rfl rfl rfl ?_
    refine eIGe rfl rfl (fun _ => ?_) (fun z => absurd ((i32_le (a := vs.length) (b := vs.length) (by omega) (by omega)).mpr (Nat.le_refl _)) z)
    exact miss
  | k + 1, i, hk, hit, miss => by
    have hi : i < vs.length := by omega
    have hr := hF i _ (List.getElem?_eq_getElem hi)
    have hy := hv _ (List.getElem_mem hi)
    rw [List.drop_eq_getElem_cons hi, List.findIdx?_cons] at hit miss
    by_cases e : vs[i] = x
    · have hit := hit 0 (by rw [e, beq_self_eq_true]; rfl)
      refine eS rfl rfl ?_
      refine eS rfl rfl ?_
      refine gGet hn rfl rfl rfl rfl ?_
      refine eIGe rfl rfl (fun z => absurd ((i32_le (a := vs.length) (b := i) (by omega) (by omega)).mp z) (by omega)) (fun _ => ?_)
      refine eS rfl rfl ?_
      refine gGet hn rfl rfl rfl rfl ?_
      refine eS rfl rfl ?_
      refine gRd2 hn rfl rfl rfl i (by omega) hr ?_
      refine eS rfl rfl ?_
      refine gGet hn rfl rfl rfl rfl ?_
      refine eS rfl rfl ?_
      refine gGet hn rfl rfl rfl rfl ?_
      refine gRd2 hn rfl rfl rfl t (by omega) hw ?_
      refine eS rfl rfl ?_
      refine eNe rfl rfl (fun z => absurd (lg_eq.mpr ((nm_eq (Or.inl rfl) hy hx).mpr e)) z) (fun _ => ?_)
      refine eS rfl rfl ?_
      refine eS rfl rfl ?_
      refine eS rfl rfl ?_
      rw [show Int32.ofInt 4 + Int32.ofNat i = Int32.ofNat (4 + (i + 0)) from i32_add]
      exact eR rfl rfl hit
    · have ne : (vs[i] == x) = false := by rw [beq_eq_false_iff_ne]; exact e
      have nx := m_slv hn hw ht hF h8 hv hx k (i + 1) (by omega) (fun j hj => by
        have := hit (j + 1) (by rw [ne, hj]; rfl)
        rw [show i + (j + 1) = i + 1 + j by omega] at this
        exact this) (fun hj => miss (by rw [ne, hj]; rfl))
      refine eS rfl rfl ?_
      refine eS rfl rfl ?_
      refine gGet hn rfl rfl rfl rfl ?_
      refine eIGe rfl rfl (fun z => absurd ((i32_le (a := vs.length) (b := i) (by omega) (by omega)).mp z) (by omega)) (fun _ => ?_)
      refine eS rfl rfl ?_
      refine gGet hn rfl rfl rfl rfl ?_
      refine eS rfl rfl ?_
      refine gRd2 hn rfl rfl rfl i (by omega) hr ?_
      refine eS rfl rfl ?_
      refine gGet hn rfl rfl rfl rfl ?_
      refine eS rfl rfl ?_
      refine gGet hn rfl rfl rfl rfl ?_
      refine gRd2 hn rfl rfl rfl t (by omega) hw ?_
      refine eS rfl rfl ?_
      refine eNe rfl rfl (fun _ => ?_) (fun z => absurd ((nm_eq (Or.inl rfl) hy hx).mp (lg_eq.mp z)) e)
      refine eS rfl rfl ?_
      refine eS rfl rfl ?_
      rw [i32_succ]
      exact nx
theorem m_slot (hn : 67 ≤ n) (hT : mTok ts L A) (ht : t < ts.length) (hw : (A 60)[t]? = some (.long (Int64.ofNat (pk 27 x)))) (hP : nmF 27 ps (A 64)) (h3 : ps.length ≤ 3) (hpo : ∀ y ∈ ps, nmOk y) (hV : nmF 27 vs (A 63)) (h63 : (A 63).length = 8) (h8 : vs.length ≤ 8) (hvo : ∀ y ∈ vs, nmOk y) (hx : nmOk x) :
    (∀ p k vs', slA ps vs x = some (p, k, vs') → ∃ A', (∀ q, q ≠ 63 → A' q = A q) ∧ (A' 63).length = 8 ∧ nmF 27 vs' (A' 63) ∧ aE aM192 (d + 1) 0 [(0, .ref 56)] [] (gH scr kd n (mtS S0 (mE w0 L (-1) tk md t vs.length ps.length lv df cl rest) A)) (aIs (some (.int (Int32.ofNat (if p = 3 then k else 4 + k)))) (gH scr kd n (mtS S0 (mE w0 L (-1) tk md t vs'.length ps.length lv df cl rest) A')))) ∧
    (slA ps vs x = none → aE aM192 (d + 1) 0 [(0, .ref 56)] [] (gH scr kd n (mtS S0 (mE w0 L (-1) tk md t vs.length ps.length lv df cl rest) A)) (aIs (some (.int (Int32.ofNat 4))) (gH scr kd n (mtS S0 (mE w0 L (Int32.ofNat (plA ts L t)) tk md t vs.length ps.length lv df cl rest) A)))) := by
  have h160 := hT.2.2.2.2.1
  have start : ∀ (Q : aOut → aH → Prop), (∀ j, ps.findIdx? (fun y => y == x) = some j → Q (.inl (some (.int (Int32.ofNat (0 + j))))) (gH scr kd n (mtS S0 (mE w0 L (-1) tk md t vs.length ps.length lv df cl rest) A))) → (ps.findIdx? (fun y => y == x) = none → ∀ j, vs.findIdx? (fun y => y == x) = some j → Q (.inl (some (.int (Int32.ofNat (4 + (0 + j)))))) (gH scr kd n (mtS S0 (mE w0 L (-1) tk md t vs.length ps.length lv df cl rest) A))) → (ps.findIdx? (fun y => y == x) = none → vs.findIdx? (fun y => y == x) = none → aE aM192 (d + 1) 76 [(1, .int (Int32.ofNat vs.length)), (0, .ref 56)] [] (gH scr kd n (mtS S0 (mE w0 L (-1) tk md t vs.length ps.length lv df cl rest) A)) Q) → aE aM192 (d + 1) 0 [(0, .ref 56)] [] (gH scr kd n (mtS S0 (mE w0 L (-1) tk md t vs.length ps.length lv df cl rest) A)) Q := fun Q q1 q2 q3 =>
    eS rfl rfl (eS rfl rfl (m_slp (vr := vs.length) hn hw (by omega) hP (by omega) hpo hx ps.length 0 (Nat.zero_add _) q1 (fun e1 => eS rfl rfl (eS rfl rfl (eLoc (l' := [(1, .int (Int32.ofNat 0)), (0, .ref 56)]) rfl ⟨rfl, rfl, trivial⟩ (m_slv (pr := ps.length) hn hw (by omega) hV h8 hvo hx vs.length 0 (Nat.zero_add _) (q2 e1) (q3 e1)))))))
  unfold slA
  cases e1 : ps.findIdx? (fun y => y == x) with
  | some j =>
    refine ⟨fun p k vs' h => ?_, fun h => by cases h⟩
    cases h
    refine ⟨A, fun _ _ => rfl, h63, hV, start _ (fun i hi => ?_) (fun z => ?_) (fun z => ?_)⟩
    · rw [e1] at hi; cases hi
      rw [Nat.zero_add]
      exact ⟨rfl, rfl⟩
    · rw [e1] at z; cases z
    · rw [e1] at z; cases z
  | none =>
    cases e2 : vs.findIdx? (fun y => y == x) with
    | some j =>
      refine ⟨fun p k vs' h => ?_, fun h => by cases h⟩
      cases h
      refine ⟨A, fun _ _ => rfl, h63, hV, start _ (fun i hi => ?_) (fun _ i hi => ?_) (fun _ z => ?_)⟩
      · rw [e1] at hi; cases hi
      · rw [e2] at hi; cases hi
        rw [Nat.zero_add]
        exact ⟨rfl, rfl⟩
      · rw [e2] at z; cases z
    | none =>
      by_cases lt : vs.length < 8
      · dsimp only
        rw [if_pos lt]
        refine ⟨fun p k vs' h => ?_, fun h => by cases h⟩
        cases h
        refine ⟨aUp A 63 ((A 63).set vs.length (.long (Int64.ofNat (pk 27 x)))), fun q hq => aUp_ne hq, by rw [aUp_same, List.length_set]; exact h63, by rw [aUp_same]; exact nmF_snoc hV (by omega), start _ (fun i hi => ?_) (fun _ i hi => ?_) (fun _ _ => ?_)⟩
        · rw [e1] at hi; cases hi
        · rw [e2] at hi; cases hi
        · rw [List.length_append, List.length_singleton, if_neg (by decide)]
          refine eS rfl rfl ?_
          refine gGet hn rfl rfl rfl rfl ?_
          refine eS rfl rfl ?_
          refine eINe rfl rfl (fun _ => ?_) (fun z => absurd ((i32_eq (a := vs.length) (b := 8) (by omega) (by omega)).mp z) (by omega))
          refine eS rfl rfl ?_
          refine gGet hn rfl rfl rfl rfl ?_
          refine eS rfl rfl ?_
          refine gGet hn rfl rfl rfl rfl ?_
          refine eS rfl rfl ?_
          refine gGet hn rfl rfl rfl rfl ?_
          refine eS rfl rfl ?_
          refine gGet hn rfl rfl rfl rfl ?_
          refine gRd2 hn rfl rfl rfl t (by omega) hw ?_
          refine gWr2 hn rfl rfl rfl vs.length (by omega) (by show vs.length < (A 63).length; omega) (mt_up rfl) ?_
          refine eS rfl rfl ?_
          refine eS rfl rfl ?_
          refine gGet hn rfl rfl rfl rfl ?_
          refine eS rfl rfl ?_
          refine eS rfl rfl ?_
          rw [i32_succ]
          refine gPut hn rfl rfl rfl rfl rfl rfl rfl me_vr ?_
          refine eS rfl rfl ?_
          refine eS rfl rfl ?_
          refine gGet hn rfl rfl rfl rfl ?_
          refine eS rfl rfl ?_
          rw [show Int32.ofInt 3 + Int32.ofNat (vs.length + 1) = Int32.ofNat (4 + vs.length) from (i32_add (a := 3)).trans (congrArg Int32.ofNat (by omega))]
          exact eR rfl rfl ⟨rfl, rfl⟩
      · dsimp only
        rw [if_neg lt]
        have e8 : vs.length = 8 := by omega
        refine ⟨fun p k vs' h => (by cases h), fun _ => start _ (fun i hi => ?_) (fun _ i hi => ?_) (fun _ _ => ?_)⟩
        · rw [e1] at hi; cases hi
        · rw [e2] at hi; cases hi
        · skip
          refine eS rfl rfl ?_
          refine gGet hn rfl rfl rfl rfl ?_
          refine eS rfl rfl ?_
          refine eINe rfl rfl (fun z => absurd (by rw [e8]; rfl) z) (fun _ => ?_)
          refine eS rfl rfl ?_
          refine eS rfl rfl ?_
          refine gGet hn rfl rfl rfl rfl ?_
          refine gV1 hn rfl rfl rfl rfl rfl ⟨catOk rfl, catOk rfl⟩ (m_fail hn hT (Nat.le_of_lt ht)) ?_
          refine eS rfl rfl ?_
          exact eR rfl rfl ⟨rfl, rfl⟩
end MSL
