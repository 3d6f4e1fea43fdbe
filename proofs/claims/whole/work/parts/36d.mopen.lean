/-! the model reads statements -/
def mY (S0 : Nat → List Value) (w0 : Value) (L : Nat) (tk : Int32) (rest : List Value) (ts : List aTk) (ps : List (List Nat)) (x : xSt) (dr : List Nat) (fr : List (Nat × Nat × Nat)) (ds : List dEf) (cs : List cAl) (S : Nat → List Value) : Prop := ∃ A0, (mX S0 w0 L tk ps.length fr.length ds.length cs.length rest A0 ts (-1) x.1 x.2.1 dr [] S) ∧ mRw ps fr ds cs A0
/-- a block is opened -/
def oAup (A : Nat → List Value) (lv : Nat) (f : Nat × Nat × Nat) : Nat → List Value := aUp (aUp (aUp A 66 ((A 66).set lv (.int (Int32.ofNat f.1)))) 67 ((A 67).set lv (.int (Int32.ofNat f.2.1)))) 68 ((A 68).set lv (.int (Int32.ofNat f.2.2)))
section MSD
variable {scr : List Value} {kd : Nat → Nat} {n d L t lv df cl : Nat} {fr : List (Nat × Nat × Nat)} {ds : List dEf} {cs : List cAl} {S0 A A0 S : Nat → List Value} {w0 : Value} {wr tk : Int32} {rest : List Value} {ts : List aTk} {vs ps : List (List Nat)} {dr st : List Nat} {s : Nat} {x : xSt} {Q : aOut → aH → Prop}
theorem oAup_at {f : Nat × Nat × Nat} {A : Nat → List Value} : oAup A lv f 66 = (A 66).set lv (.int (Int32.ofNat f.1)) ∧ oAup A lv f 67 = (A 67).set lv (.int (Int32.ofNat f.2.1)) ∧ oAup A lv f 68 = (A 68).set lv (.int (Int32.ofNat f.2.2)) ∧ ∀ q, q < 66 ∨ 68 < q → oAup A lv f q = A q := by
  refine ⟨rfl, rfl, rfl, fun q hq => ?_⟩
  unfold oAup
  rw [aUp_ne (by omega), aUp_ne (by omega), aUp_ne (by omega)]
theorem oAup_rw {f : Nat × Nat × Nat} (h : mRw ps fr ds cs A0) (hl : fr.length < 4) : mRw ps (fr ++ [f]) ds cs (oAup A0 fr.length f) := by
  obtain ⟨e1, e2, e3, e5⟩ := oAup_at (A := A0) (lv := fr.length) (f := f)
  obtain ⟨h1, h2, h3, h4⟩ := h
  unfold mRw rP rF rD rC at *
  rw [e1, e2, e3, e5 64 (by decide), e5 69 (by decide), e5 70 (by decide), e5 71 (by decide), e5 72 (by decide), e5 73 (by decide), e5 74 (by decide), e5 75 (by decide)]
  refine ⟨h1, ⟨by rw [List.length_set]; exact h2.1, by rw [List.length_set]; exact h2.2.1, by rw [List.length_set]; exact h2.2.2.1, fun i f' hf => ?_⟩, h3, h4⟩
  rcases at_snoc hf with ⟨hi, hf⟩ | ⟨rfl, rfl⟩
  · rw [List.getElem?_set_ne (by omega), List.getElem?_set_ne (by omega), List.getElem?_set_ne (by omega)]
    exact h2.2.2.2 i f' hf
  · rw [List.getElem?_set_self (by omega), List.getElem?_set_self (by omega), List.getElem?_set_self (by omega)]
    exact ⟨rfl, rfl, rfl⟩
/-- opening a block -/
theorem m_open {f : Nat × Nat × Nat} (hn : 67 ≤ n) (hx : x.1 ≤ ts.length) (hfr : fr.length ≤ 3) (h : mY S0 w0 L tk rest ts ps x dr fr ds cs S) : (kA ts x.1 = 123 ∧ fr.length < 3 → ∃ S', mY S0 w0 L tk rest ts ps (x.1 + 1, x.2) dr (fr ++ [f]) ds cs S' ∧ aE aM185 (d + 1) 0 [(0, .ref 56), (1, .int (Int32.ofNat f.1)), (2, .int (Int32.ofNat f.2.1)), (3, .int (Int32.ofNat f.2.2))] [] (gH scr kd n S) (aIs none (gH scr kd n S'))) ∧ (¬ (kA ts x.1 = 123 ∧ fr.length < 3) → dr.length ≤ 720 → cs.length < 2 ^ 20 → ∃ S', mEz S0 w0 L tk rest (plA ts L x.1) S' ∧ aE aM185 (d + 1) 0 [(0, .ref 56), (1, .int (Int32.ofNat f.1)), (2, .int (Int32.ofNat f.2.1)), (3, .int (Int32.ofNat f.2.2))] [] (gH scr kd n S) (aIs none (gH scr kd n S'))) := by
  obtain ⟨A0, hX, hR⟩ := h
  have is := m_isSX (d := d) (scr := scr) (kd := kd) (k := 123) (ps := ps) hn hx (by decide) (by decide) hX
  have k3 := i32_eq (a := fr.length) (b := 3) (by omega) (by omega)
  have fail : ¬ (kA ts x.1 = 123 ∧ fr.length < 3) → dr.length ≤ 720 → cs.length < 2 ^ 20 → ∃ S', mEz S0 w0 L tk rest (plA ts L x.1) S' ∧ aE aM185 (d + 1) 17 [(0, .ref 56), (1, .int (Int32.ofNat f.1)), (2, .int (Int32.ofNat f.2.1)), (3, .int (Int32.ofNat f.2.2))] [] (gH scr kd n S) (aIs none (gH scr kd n S')) := fun _ h1 h2 => by
    obtain ⟨S3, X3, a3⟩ := m_failX (d := d) (scr := scr) (kd := kd) (ps := ps) hn (u := x.1) hx hX
    refine ⟨S3, mEz_of X3 (mRw_ln hR) h1 h2, ?_⟩
    refine eS rfl rfl ?_
    refine eS rfl rfl ?_
    refine gGet hn rfl rfl rfl (mX_f hX).2.2.1 ?_
    refine gV1 hn rfl rfl rfl rfl rfl ⟨catOk rfl, catOk rfl⟩ (a3) ?_
    exact eR rfl rfl ⟨rfl, rfl⟩
  refine ⟨fun c => ?_, fun c h1 h2 => ?_⟩
  · rw [if_pos c.1] at is
    obtain ⟨A, rfl, hT, h62, hD, h63, hV, h65, hW, h⟩ := hX
    have l66 : (A 66).length = 4 := by rw [h 66 (by decide) (by decide) (by decide)]; exact hR.2.1.1
    have l67 : (A 67).length = 4 := by rw [h 67 (by decide) (by decide) (by decide)]; exact hR.2.1.2.1
    have l68 : (A 68).length = 4 := by rw [h 68 (by decide) (by decide) (by decide)]; exact hR.2.1.2.2.1
    refine ⟨mtS S0 (mE w0 L (-1) tk dr.length (x.1 + 1) x.2.1.length ps.length (fr.length + 1) ds.length cs.length rest) (oAup A fr.length f), ⟨oAup A0 fr.length f, ⟨oAup A fr.length f, by rw [List.length_append, List.length_singleton], ?_, ?_, ?_, ?_, ?_, ?_, ?_, fun i h1 h2 h3 => ?_⟩, oAup_rw hR (by omega)⟩, ?_⟩
    · exact mTok_tr (oAup_at.2.2.2 58 (by decide)) (oAup_at.2.2.2 59 (by decide)) (oAup_at.2.2.2 60 (by decide)) (oAup_at.2.2.2 61 (by decide)) hT
    · rw [oAup_at.2.2.2 62 (by decide)]; exact h62
    · rw [oAup_at.2.2.2 62 (by decide)]; exact hD
    · rw [oAup_at.2.2.2 63 (by decide)]; exact h63
    · rw [oAup_at.2.2.2 63 (by decide)]; exact hV
    · rw [oAup_at.2.2.2 65 (by decide)]; exact h65
    · rw [oAup_at.2.2.2 65 (by decide)]; exact hW
    · have c1 := oAup_at (A := A) (lv := fr.length) (f := f)
      have c2 := oAup_at (A := A0) (lv := fr.length) (f := f)
      by_cases e72 : i = 66
      · rw [e72, c1.1, c2.1, h 66 (by decide) (by decide) (by decide)]
      by_cases e73 : i = 67
      · rw [e73, c1.2.1, c2.2.1, h 67 (by decide) (by decide) (by decide)]
      by_cases e74 : i = 68
      · rw [e74, c1.2.2.1, c2.2.2.1, h 68 (by decide) (by decide) (by decide)]
      rw [c1.2.2.2 i (by omega), c2.2.2.2 i (by omega), h i h1 h2 h3]
    refine eS rfl rfl ?_
    refine eS rfl rfl ?_
    refine gV1 hn rfl rfl rfl rfl rfl ⟨catOk rfl, catOk rfl⟩ (is) ?_
    refine eEq rfl rfl (fun z => absurd z (by decide)) (fun _ => ?_)
    refine eS rfl rfl ?_
    refine gGet hn rfl rfl rfl rfl ?_
    refine eS rfl rfl ?_
    refine eINe rfl rfl (fun _ => ?_) (fun z => absurd (k3.mp z) (by omega))
    refine eS rfl rfl ?_
    refine eS rfl rfl ?_
    refine gGet hn rfl rfl rfl rfl ?_
    refine eS rfl rfl ?_
    refine eS rfl rfl ?_
    rw [i32_succ]
    refine gPut hn rfl rfl rfl rfl rfl rfl rfl me_t ?_
    refine eS rfl rfl ?_
    refine gGet hn rfl rfl rfl rfl ?_
    refine eS rfl rfl ?_
    refine gGet hn rfl rfl rfl rfl ?_
    refine eS rfl rfl ?_
    refine gWr0 hn rfl rfl rfl fr.length (by omega) (by show fr.length < (A 66).length; omega) (mt_up rfl) ?_
    refine eS rfl rfl ?_
    refine gGet hn rfl rfl rfl rfl ?_
    refine eS rfl rfl ?_
    refine gGet hn rfl rfl rfl rfl ?_
    refine eS rfl rfl ?_
    refine gWr0 hn rfl rfl rfl fr.length (by omega) (by show fr.length < (A 67).length; omega) (mt_up rfl) ?_
    refine eS rfl rfl ?_
    refine gGet hn rfl rfl rfl rfl ?_
    refine eS rfl rfl ?_
    refine gGet hn rfl rfl rfl rfl ?_
    refine eS rfl rfl ?_
    refine gWr0 hn rfl rfl rfl fr.length (by omega) (by show fr.length < (A 68).length; omega) (mt_up rfl) ?_
    refine eS rfl rfl ?_
    refine eS rfl rfl ?_
    refine gGet hn rfl rfl rfl rfl ?_
    refine eS rfl rfl ?_
    refine eS rfl rfl ?_
    rw [i32_succ]
    refine gPut hn rfl rfl rfl rfl rfl rfl rfl me_lv ?_
    exact eR rfl rfl ⟨rfl, rfl⟩
  · obtain ⟨S', z1, z2⟩ := fail c h1 h2
    refine ⟨S', z1, ?_⟩
    by_cases c1 : kA ts x.1 = 123
    · rw [if_pos c1] at is
      refine eS rfl rfl ?_
      refine eS rfl rfl ?_
      refine gV1 hn rfl rfl rfl rfl rfl ⟨catOk rfl, catOk rfl⟩ (is) ?_
      refine eEq rfl rfl (fun z => absurd z (by decide)) (fun _ => ?_)
      refine eS rfl rfl ?_
      refine gGet hn rfl rfl rfl (mX_f hX).2.2.2.2.1 ?_
      refine eS rfl rfl ?_
      refine eINe rfl rfl (fun z => absurd (k3.mpr (by omega)) z) (fun _ => ?_)
      exact z2
    · rw [if_neg c1] at is
      refine eS rfl rfl ?_
      refine eS rfl rfl ?_
      refine gV1 hn rfl rfl rfl rfl rfl ⟨catOk rfl, catOk rfl⟩ (is) ?_
      refine eEq rfl rfl (fun _ => ?_) (fun z => absurd rfl z)
      exact z2
end MSD
