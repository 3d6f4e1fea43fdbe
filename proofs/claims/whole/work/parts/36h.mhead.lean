/-! the head of the model's loop -/
section MSH
variable {scr : List Value} {kd : Nat → Nat} {n d L t lv df cl : Nat} {fr : List (Nat × Nat × Nat)} {ds : List dEf} {cs : List cAl} {S0 A A0 S : Nat → List Value} {w0 : Value} {wr tk : Int32} {rest : List Value} {ts : List aTk} {vs ps : List (List Nat)} {dr st : List Nat} {s : Nat} {x : xSt} {Q : aOut → aH → Prop}
/-- what an error leaves in the end -/
def mEn (S0 : Nat → List Value) (w0 : Value) (L : Nat) (tk : Int32) (rest : List Value) (e : Nat) (S : Nat → List Value) : Prop := ∃ (A : Nat → List Value) (md t vr pr lv df cl : Nat), S = mtS S0 (mE w0 L (Int32.ofNat e) tk md t vr pr lv df cl rest) A ∧ mkL A ∧ (A 62).length = 800 ∧ (A 63).length = 8 ∧ (A 65).length = 400 ∧ rLn A
theorem m_hdErr {e : Nat} (hn : 67 ≤ n) (he : e < 2 ^ 20) (h : mEz S0 w0 L tk rest e S) (k : ∀ S', mEn S0 w0 L tk rest e S' → Q (.inl none) (gH scr kd n S')) : aE aM177 (d + 7) 35 [(0, .ref 56)] [] (gH scr kd n S) Q := by
  obtain ⟨A, md, t, vr, pr, lv, df, cl, rfl, h1, h62, h63, h65, hR, hmd, hcl⟩ := h
  have hw := neg1_ne he
  have a1 := m_emit (d := d + 6) (scr := scr) (kd := kd) (n := n) (v := Int32.ofNat 27) (S0 := S0) (w0 := w0) (L := L) (wr := Int32.ofNat e) (tk := tk) (t := t) (vr := vr) (pr := pr) (lv := lv) (df := df) (cl := cl) (rest := rest) hn h62 (by omega : md < 800)
  have F := k _ ⟨aUp A 62 ((A 62).set md (.int (Int32.ofNat 27))), md + 1, t, vr, pr, lv, df, cl, rfl, h1, by rw [aUp_same, List.length_set]; exact h62, h63, h65, hR⟩
  have lk : aE aM199 (d + 6) 0 [(0, .ref 56)] [] (gH scr kd n (mtS S0 (mE w0 L (Int32.ofNat e) tk (md + 1) t vr pr lv df cl rest) (aUp A 62 ((A 62).set md (.int (Int32.ofNat 27)))))) (aIs none (gH scr kd n (mtS S0 (mE w0 L (Int32.ofNat e) tk (md + 1) t vr pr lv df cl rest) (aUp A 62 ((A 62).set md (.int (Int32.ofNat 27))))))) := by
    by_cases c : cl = 0
    · subst c
      refine eS rfl rfl ?_
      refine eS rfl rfl ?_
      refine eS rfl rfl ?_
      refine eS rfl rfl ?_
      refine gGet hn rfl rfl rfl rfl ?_
      refine eIGe rfl rfl (fun _ => ?_) (fun z => absurd (by decide) z)
      exact eR rfl rfl ⟨rfl, rfl⟩
    · have b := i32_le (a := cl) (b := 0) (by omega) (by omega)
      refine eS rfl rfl ?_
      refine eS rfl rfl ?_
      refine eS rfl rfl ?_
      refine eS rfl rfl ?_
      refine gGet hn rfl rfl rfl rfl ?_
      refine eIGe rfl rfl (fun z => absurd (b.mp z) (by omega)) (fun _ => ?_)
      refine eS rfl rfl ?_
      refine gGet hn rfl rfl rfl rfl ?_
      refine eS rfl rfl ?_
      refine eINe rfl rfl (fun _ => ?_) (fun z => absurd z hw)
      exact eR rfl rfl ⟨rfl, rfl⟩
  refine eS rfl rfl ?_
  refine gGet hn rfl rfl rfl rfl ?_
  refine eS rfl rfl ?_
  refine eINe rfl rfl (fun _ => ?_) (fun z => absurd z hw)
  refine eS rfl rfl ?_
  refine eS rfl rfl ?_
  refine gV1 hn rfl rfl rfl rfl rfl ⟨catOk rfl, catOk rfl⟩ (a1) ?_
  refine eS rfl rfl ?_
  refine gV1 hn rfl rfl rfl rfl rfl ⟨catOk rfl, catOk rfl⟩ (lk) ?_
  exact eR rfl rfl F
/-- a statement stands there -/
theorem m_hdSt (hn : 67 ≤ n) (hx : x.1 ≤ ts.length) (hfr : fr.length ≤ 3) (h : mY S0 w0 L tk rest ts ps x dr fr ds cs S) (hc : (fr ≠ [] ∧ kA ts x.1 ≠ 125) ∨ (fr = [] ∧ kA ts x.1 ≠ 34 ∧ kA ts x.1 ≠ 31)) (kk : aE aM189 (d + 6) 0 [(0, .ref 56)] [] (gH scr kd n S) (fun o h' => o = .inl none ∧ aE aM177 (d + 7) 35 [(0, .ref 56)] [] h' Q)) : aE aM177 (d + 7) 35 [(0, .ref 56)] [] (gH scr kd n S) Q := by
  obtain ⟨A0, X, hR⟩ := h
  have i0 := m_isX (d := d + 6) (scr := scr) (kd := kd) (k := 0) (ps := ps) hn hx (by decide) X
  have is := m_isSX (d := d + 6) (scr := scr) (kd := kd) (k := 125) (ps := ps) hn hx (by decide) (by decide) X
  have ky := m_keyX (d := d + 4) (scr := scr) (kd := kd) (ps := ps) hn hx X
  have f103 : aE aM177 (d + 7) 103 [(0, .ref 56)] [] (gH scr kd n S) Q := by
    refine eS rfl rfl ?_
    exact gVk hn rfl rfl rfl rfl rfl ⟨catOk rfl, catOk rfl⟩ rfl (aE.mono (fun o h' z => ⟨z.1, eS rfl rfl z.2⟩) kk)
  rcases hc with ⟨c1, c2⟩ | ⟨rfl, c2, c3⟩
  · have l0 : 0 < fr.length := by
      cases fr with
      | nil => exact absurd rfl c1
      | cons a r => exact Nat.succ_pos _
    have b1 := i32_lt (a := 0) (b := fr.length) (by omega) (by omega)
    have b2 := i32_eq (a := fr.length) (b := 0) (by omega) (by omega)
    rw [if_neg c2] at is
    refine eS rfl rfl ?_
    refine gGet hn rfl rfl rfl (mX_f X).1 ?_
    refine eS rfl rfl ?_
    refine eINe rfl rfl (fun z => absurd rfl z) (fun _ => ?_)
    refine eS rfl rfl ?_
    refine gGet hn rfl rfl rfl (mX_f X).2.2.2.2.1 ?_
    refine eGt rfl rfl (fun _ => ?_) (fun z => absurd (b1.mpr l0) z)
    refine eS rfl rfl ?_
    refine eS rfl rfl ?_
    refine gV1 hn rfl rfl rfl rfl rfl ⟨catOk rfl, catOk rfl⟩ (is) ?_
    refine eEq rfl rfl (fun _ => ?_) (fun z => absurd rfl z)
    refine eS rfl rfl ?_
    refine gGet hn rfl rfl rfl (mX_f X).2.2.2.2.1 ?_
    refine eNe rfl rfl (fun _ => ?_) (fun z => absurd (b2.mp z) (by omega))
    exact f103
  · have m0 : mkA ts x.1 ≠ 0 := by
      obtain ⟨A, rfl, hT, -⟩ := X
      intro z
      have := (mkA_0 hT.2.2.2.2.2.2).mp z
      apply c2
      unfold kA
      rw [List.getElem?_eq_none this]
    have k1 : keyOf (kA ts x.1) ≠ 1 := by
      unfold keyOf
      intro z
      split at z
      · next i e =>
        obtain ⟨hl, h1, -⟩ := List.findIdx?_eq_some_iff_getElem.mp e
        obtain rfl : i = 0 := by omega
        have : (31 : Nat) = kA ts x.1 := eq_of_beq h1
        omega
      · cases z
    have kb : keyOf (kA ts x.1) < 2 ^ 20 := by
      unfold keyOf
      split
      · next i e =>
        have := (List.findIdx?_eq_some_iff_getElem.mp e).1
        have : kwds.length = 16 := rfl
        omega
      · decide
    have b1 := i32_eq (a := keyOf (kA ts x.1)) (b := 1) (by omega) (by omega)
    rw [if_neg m0] at i0
    have f81 : aE aM177 (d + 7) 81 [(0, .ref 56)] [] (gH scr kd n S) Q := by
      refine eS rfl rfl ?_
      refine gGet hn rfl rfl rfl (mX_f X).2.2.2.2.1 ?_
      refine eNe rfl rfl (fun z => absurd rfl z) (fun _ => ?_)
      refine eS rfl rfl ?_
      refine gV1 hn rfl rfl rfl rfl rfl ⟨catOk rfl, catOk rfl⟩ (ky) ?_
      refine eS rfl rfl ?_
      refine eINe rfl rfl (fun _ => ?_) (fun z => absurd (b1.mp z) k1)
      exact f103
    by_cases c4 : kA ts x.1 = 125
    · rw [if_pos c4] at is
      refine eS rfl rfl ?_
      refine gGet hn rfl rfl rfl (mX_f X).1 ?_
      refine eS rfl rfl ?_
      refine eINe rfl rfl (fun z => absurd rfl z) (fun _ => ?_)
      refine eS rfl rfl ?_
      refine gGet hn rfl rfl rfl (mX_f X).2.2.2.2.1 ?_
      refine eGt rfl rfl (fun z => absurd z (by decide)) (fun _ => ?_)
      refine eS rfl rfl ?_
      refine eS rfl rfl ?_
      refine gV1 hn rfl rfl rfl rfl rfl ⟨catOk rfl, catOk rfl⟩ (i0) ?_
      refine eNe rfl rfl (fun z => absurd rfl z) (fun _ => ?_)
      refine eS rfl rfl ?_
      refine eS rfl rfl ?_
      refine gV1 hn rfl rfl rfl rfl rfl ⟨catOk rfl, catOk rfl⟩ (is) ?_
      refine eEq rfl rfl (fun z => absurd z (by decide)) (fun _ => ?_)
      refine eS rfl rfl ?_
      refine gGet hn rfl rfl rfl (mX_f X).2.2.2.2.1 ?_
      refine eLe rfl rfl (fun _ => ?_) (fun z => absurd (by decide) z)
      exact f81
    · rw [if_neg c4] at is
      refine eS rfl rfl ?_
      refine gGet hn rfl rfl rfl (mX_f X).1 ?_
      refine eS rfl rfl ?_
      refine eINe rfl rfl (fun z => absurd rfl z) (fun _ => ?_)
      refine eS rfl rfl ?_
      refine gGet hn rfl rfl rfl (mX_f X).2.2.2.2.1 ?_
      refine eGt rfl rfl (fun z => absurd z (by decide)) (fun _ => ?_)
      refine eS rfl rfl ?_
      refine eS rfl rfl ?_
      refine gV1 hn rfl rfl rfl rfl rfl ⟨catOk rfl, catOk rfl⟩ (i0) ?_
      refine eNe rfl rfl (fun z => absurd rfl z) (fun _ => ?_)
      refine eS rfl rfl ?_
      refine eS rfl rfl ?_
      refine gV1 hn rfl rfl rfl rfl rfl ⟨catOk rfl, catOk rfl⟩ (is) ?_
      refine eEq rfl rfl (fun _ => ?_) (fun z => absurd rfl z)
      exact f81
/-- a block's end stands there -/
theorem m_hdClose (hn : 67 ≤ n) (hx : x.1 ≤ ts.length) (hfr : fr.length ≤ 3) (h0 : fr ≠ []) (h : mY S0 w0 L tk rest ts ps x dr fr ds cs S) (hk : kA ts x.1 = 125) (kk : aE aM179 (d + 6) 0 [(0, .ref 56)] [] (gH scr kd n S) (fun o h' => o = .inl none ∧ aE aM177 (d + 7) 35 [(0, .ref 56)] [] h' Q)) : aE aM177 (d + 7) 35 [(0, .ref 56)] [] (gH scr kd n S) Q := by
  obtain ⟨A0, X, hR⟩ := h
  have is := m_isSX (d := d + 6) (scr := scr) (kd := kd) (k := 125) (ps := ps) hn hx (by decide) (by decide) X
  rw [if_pos hk] at is
  have l0 : 0 < fr.length := by
    cases fr with
    | nil => exact absurd rfl h0
    | cons a r => exact Nat.succ_pos _
  have b1 := i32_lt (a := 0) (b := fr.length) (by omega) (by omega)
  have b2 := i32_le (a := fr.length) (b := 0) (by omega) (by omega)
  refine eS rfl rfl ?_
  refine gGet hn rfl rfl rfl (mX_f X).1 ?_
  refine eS rfl rfl ?_
  refine eINe rfl rfl (fun z => absurd rfl z) (fun _ => ?_)
  refine eS rfl rfl ?_
  refine gGet hn rfl rfl rfl (mX_f X).2.2.2.2.1 ?_
  refine eGt rfl rfl (fun _ => ?_) (fun z => absurd (b1.mpr l0) z)
  refine eS rfl rfl ?_
  refine eS rfl rfl ?_
  refine gV1 hn rfl rfl rfl rfl rfl ⟨catOk rfl, catOk rfl⟩ (is) ?_
  refine eEq rfl rfl (fun z => absurd z (by decide)) (fun _ => ?_)
  refine eS rfl rfl ?_
  refine gGet hn rfl rfl rfl (mX_f X).2.2.2.2.1 ?_
  refine eLe rfl rfl (fun z => absurd (b2.mp z) (by omega)) (fun _ => ?_)
  refine eS rfl rfl ?_
  exact gVk hn rfl rfl rfl rfl rfl ⟨catOk rfl, catOk rfl⟩ rfl (aE.mono (fun o h' z => ⟨z.1, eS rfl rfl z.2⟩) kk)
/-- a definition stands there -/
theorem m_hdDef (hn : 67 ≤ n) (hx : x.1 ≤ ts.length) (h : mY S0 w0 L tk rest ts ps x dr [] ds cs S) (hk : kA ts x.1 = 31) (kk : aE aM187 (d + 6) 0 [(0, .ref 56)] [] (gH scr kd n S) (fun o h' => o = .inl none ∧ aE aM177 (d + 7) 35 [(0, .ref 56)] [] h' Q)) : aE aM177 (d + 7) 35 [(0, .ref 56)] [] (gH scr kd n S) Q := by
  obtain ⟨A0, X, hR⟩ := h
  have i0 := m_isX (d := d + 6) (scr := scr) (kd := kd) (k := 0) (ps := ps) hn hx (by decide) X
  have is := m_isSX (d := d + 6) (scr := scr) (kd := kd) (k := 125) (ps := ps) hn hx (by decide) (by decide) X
  have ky := m_keyX (d := d + 4) (scr := scr) (kd := kd) (ps := ps) hn hx X
  rw [hk] at ky
  rw [if_neg (by omega)] at is
  have m0 : mkA ts x.1 ≠ 0 := by
    obtain ⟨A, rfl, hT, -⟩ := X
    intro z
    have := (mkA_0 hT.2.2.2.2.2.2).mp z
    have := kA_lt hk (by decide)
    omega
  rw [if_neg m0] at i0
  refine eS rfl rfl ?_
  refine gGet hn rfl rfl rfl (mX_f X).1 ?_
  refine eS rfl rfl ?_
  refine eINe rfl rfl (fun z => absurd rfl z) (fun _ => ?_)
  refine eS rfl rfl ?_
  refine gGet hn rfl rfl rfl (mX_f X).2.2.2.2.1 ?_
  refine eGt rfl rfl (fun z => absurd z (by decide)) (fun _ => ?_)
  refine eS rfl rfl ?_
  refine eS rfl rfl ?_
  refine gV1 hn rfl rfl rfl rfl rfl ⟨catOk rfl, catOk rfl⟩ (i0) ?_
  refine eNe rfl rfl (fun z => absurd rfl z) (fun _ => ?_)
  refine eS rfl rfl ?_
  refine eS rfl rfl ?_
  refine gV1 hn rfl rfl rfl rfl rfl ⟨catOk rfl, catOk rfl⟩ (is) ?_
  refine eEq rfl rfl (fun _ => ?_) (fun z => absurd rfl z)
  refine eS rfl rfl ?_
  refine gGet hn rfl rfl rfl (mX_f X).2.2.2.2.1 ?_
  refine eNe rfl rfl (fun z => absurd rfl z) (fun _ => ?_)
  refine eS rfl rfl ?_
  refine gV1 hn rfl rfl rfl rfl rfl ⟨catOk rfl, catOk rfl⟩ (ky) ?_
  refine eS rfl rfl ?_
  refine eINe rfl rfl (fun z => absurd rfl z) (fun _ => ?_)
  refine eS rfl rfl ?_
  exact gVk hn rfl rfl rfl rfl rfl ⟨catOk rfl, catOk rfl⟩ rfl (aE.mono (fun o h' z => ⟨z.1, eS rfl rfl z.2⟩) kk)
/-- the text's end stands there -/
theorem m_hdEnd (hn : 67 ≤ n) (hx : x.1 ≤ ts.length) (h : mY S0 w0 L tk rest ts ps x dr [] ds cs S) (hk : kA ts x.1 = 34) (kk : aE aM177 (d + 7) 110 [(0, .ref 56)] [] (gH scr kd n S) Q) : aE aM177 (d + 7) 35 [(0, .ref 56)] [] (gH scr kd n S) Q := by
  obtain ⟨A0, X, hR⟩ := h
  have i0 := m_isX (d := d + 6) (scr := scr) (kd := kd) (k := 0) (ps := ps) hn hx (by decide) X
  have m0 : mkA ts x.1 = 0 := by
    obtain ⟨A, rfl, hT, -⟩ := X
    refine (mkA_0 hT.2.2.2.2.2.2).mpr (Nat.le_of_not_lt (fun y => ?_))
    unfold kA at hk
    rw [List.getElem?_eq_getElem y] at hk
    have hk : (ts[x.1]).1 = 34 := hk
    rcases kA_kind hT.2.2.2.2.2.2 (List.getElem?_eq_getElem y) with g | ⟨g1, g2⟩ | ⟨g1, g2, g3, g4⟩
    · omega
    · omega
    · rcases kwd_tab (l := (ts[x.1]).2.2.1) with ⟨q, hq, hq2⟩ | ⟨g, -⟩
      · rw [hk, ← hq2] at g1
        exact absurd g1.symm ((show ∀ q ∈ kwds, kwd q.1 ≠ 34 by decide) q hq)
      · omega
  rw [if_pos m0] at i0
  refine eS rfl rfl ?_
  refine gGet hn rfl rfl rfl (mX_f X).1 ?_
  refine eS rfl rfl ?_
  refine eINe rfl rfl (fun z => absurd rfl z) (fun _ => ?_)
  refine eS rfl rfl ?_
  refine gGet hn rfl rfl rfl (mX_f X).2.2.2.2.1 ?_
  refine eGt rfl rfl (fun z => absurd z (by decide)) (fun _ => ?_)
  refine eS rfl rfl ?_
  refine eS rfl rfl ?_
  refine gV1 hn rfl rfl rfl rfl rfl ⟨catOk rfl, catOk rfl⟩ (i0) ?_
  refine eNe rfl rfl (fun _ => ?_) (fun z => absurd z (by decide))
  exact kk
end MSH
