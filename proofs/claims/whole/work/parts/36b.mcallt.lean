/-! the model: rows of calls, definitions, blocks; what an error leaves; calls -/
def rP (ps : List (List Nat)) (A : Nat → List Value) : Prop := nmF 27 ps (A 64) ∧ (A 64).length = 3
def rF (fr : List (Nat × Nat × Nat)) (A : Nat → List Value) : Prop := (A 66).length = 4 ∧ (A 67).length = 4 ∧ (A 68).length = 4 ∧ ∀ (i : Nat) (f : Nat × Nat × Nat), fr[i]? = some f → (A 66)[i]? = some (.int (Int32.ofNat f.1)) ∧ (A 67)[i]? = some (.int (Int32.ofNat f.2.1)) ∧ (A 68)[i]? = some (.int (Int32.ofNat f.2.2))
def rD (ds : List dEf) (A : Nat → List Value) : Prop := (A 69).length = 28 ∧ (A 70).length = 28 ∧ (A 71).length = 28 ∧ ∀ (i : Nat) (f : dEf), ds[i]? = some f → (A 69)[i]? = some (.long (Int64.ofNat (pk 27 f.1))) ∧ (A 70)[i]? = some (.int (Int32.ofNat f.2.1)) ∧ (A 71)[i]? = some (.int (Int32.ofNat f.2.2))
def rC (cs : List cAl) (A : Nat → List Value) : Prop := (A 72).length = 60 ∧ (A 73).length = 60 ∧ (A 74).length = 60 ∧ (A 75).length = 60 ∧ ∀ (i : Nat) (f : cAl), cs[i]? = some f → (A 72)[i]? = some (.long (Int64.ofNat (pk 27 f.1))) ∧ (A 73)[i]? = some (.int (Int32.ofNat f.2.1)) ∧ (A 74)[i]? = some (.int (Int32.ofNat f.2.2.1)) ∧ (A 75)[i]? = some (.int (Int32.ofNat f.2.2.2))
def rLn (A : Nat → List Value) : Prop := (A 64).length = 3 ∧ (A 66).length = 4 ∧ (A 67).length = 4 ∧ (A 68).length = 4 ∧ (A 69).length = 28 ∧ (A 70).length = 28 ∧ (A 71).length = 28 ∧ (A 72).length = 60 ∧ (A 73).length = 60 ∧ (A 74).length = 60 ∧ (A 75).length = 60
def mRw (ps : List (List Nat)) (fr : List (Nat × Nat × Nat)) (ds : List dEf) (cs : List cAl) (A : Nat → List Value) : Prop := rP ps A ∧ rF fr A ∧ rD ds A ∧ rC cs A
theorem mRw_ln {ps : List (List Nat)} {fr : List (Nat × Nat × Nat)} {ds : List dEf} {cs : List cAl} {A : Nat → List Value} (h : mRw ps fr ds cs A) : rLn A := ⟨h.1.2, h.2.1.1, h.2.1.2.1, h.2.1.2.2.1, h.2.2.1.1, h.2.2.1.2.1, h.2.2.1.2.2.1, h.2.2.2.1, h.2.2.2.2.1, h.2.2.2.2.2.1, h.2.2.2.2.2.2.1⟩
/-- what an error leaves: the place, rows of their lengths -/
def mEz (S0 : Nat → List Value) (w0 : Value) (L : Nat) (tk : Int32) (rest : List Value) (e : Nat) (S : Nat → List Value) : Prop := ∃ (A : Nat → List Value) (md t vr pr lv df cl : Nat), S = mtS S0 (mE w0 L (Int32.ofNat e) tk md t vr pr lv df cl rest) A ∧ mkL A ∧ (A 62).length = 800 ∧ (A 63).length = 8 ∧ (A 65).length = 400 ∧ rLn A ∧ md ≤ 720 ∧ cl < 2 ^ 20
/-- a call is noted -/
def cAup (A : Nat → List Value) (cl : Nat) (nm : List Nat) (c a i : Nat) : Nat → List Value := aUp (aUp (aUp (aUp A 72 ((A 72).set cl (.long (Int64.ofNat (pk 27 nm))))) 73 ((A 73).set cl (.int (Int32.ofNat c)))) 74 ((A 74).set cl (.int (Int32.ofNat a)))) 75 ((A 75).set cl (.int (Int32.ofNat i)))
section MCB
variable {scr : List Value} {kd : Nat → Nat} {n d L t lv df cl : Nat} {S0 A A0 S : Nat → List Value} {w0 : Value} {wr tk : Int32} {rest : List Value} {ts : List aTk} {vs ps : List (List Nat)} {dr st : List Nat} {s : Nat} {x : xSt} {Q : aOut → aH → Prop}
theorem mEz_of {e : Nat} (hS : (mX S0 w0 L tk ps.length lv df cl rest A0 ts (Int32.ofNat e) t vs dr st S)) (hR : rLn A0) (hd : dr.length ≤ 720) (hc : cl < 2 ^ 20) : mEz S0 w0 L tk rest e S := by
  obtain ⟨A, rfl, hT, h62, hD, h63, hV, h65, hW, h⟩ := hS
  have q := fun i h1 h2 h3 => h i h1 h2 h3
  refine ⟨A, _, _, _, _, _, _, _, rfl, hT.2.2.2.1, h62, h63, h65, ?_, hd, hc⟩
  unfold rLn at hR ⊢
  rw [q 64 (by decide) (by decide) (by decide), q 66 (by decide) (by decide) (by decide), q 67 (by decide) (by decide) (by decide), q 68 (by decide) (by decide) (by decide), q 69 (by decide) (by decide) (by decide), q 70 (by decide) (by decide) (by decide), q 71 (by decide) (by decide) (by decide), q 72 (by decide) (by decide) (by decide), q 73 (by decide) (by decide) (by decide), q 74 (by decide) (by decide) (by decide), q 75 (by decide) (by decide) (by decide)]
  exact hR
theorem cAup_at {nm : List Nat} {c a i : Nat} {A : Nat → List Value} : cAup A cl nm c a i 72 = (A 72).set cl (.long (Int64.ofNat (pk 27 nm))) ∧ cAup A cl nm c a i 73 = (A 73).set cl (.int (Int32.ofNat c)) ∧ cAup A cl nm c a i 74 = (A 74).set cl (.int (Int32.ofNat a)) ∧ cAup A cl nm c a i 75 = (A 75).set cl (.int (Int32.ofNat i)) ∧ ∀ q, q < 72 ∨ 75 < q → cAup A cl nm c a i q = A q := by
  refine ⟨rfl, rfl, rfl, rfl, fun q hq => ?_⟩
  unfold cAup
  rw [aUp_ne (by omega), aUp_ne (by omega), aUp_ne (by omega), aUp_ne (by omega)]
theorem cAup_ln {nm : List Nat} {c a i : Nat} (h : rLn A0) : rLn (cAup A0 cl nm c a i) := by
  obtain ⟨e1, e2, e3, e4, e5⟩ := cAup_at (A := A0) (cl := cl) (nm := nm) (c := c) (a := a) (i := i)
  unfold rLn at h ⊢
  rw [e1, e2, e3, e4, e5 64 (by decide), e5 66 (by decide), e5 67 (by decide), e5 68 (by decide), e5 69 (by decide), e5 70 (by decide), e5 71 (by decide), List.length_set, List.length_set, List.length_set, List.length_set]
  exact h
theorem cAup_rw {fr : List (Nat × Nat × Nat)} {ds : List dEf} {cs : List cAl} {c : cAl} (h : mRw ps fr ds cs A0) (hl : cs.length < 60) : mRw ps fr ds (cs ++ [c]) (cAup A0 cs.length c.1 c.2.1 c.2.2.1 c.2.2.2) := by
  obtain ⟨e1, e2, e3, e4, e5⟩ := cAup_at (A := A0) (cl := cs.length) (nm := c.1) (c := c.2.1) (a := c.2.2.1) (i := c.2.2.2)
  obtain ⟨h1, h2, h3, h4⟩ := h
  unfold mRw rP rF rD rC at *
  rw [e1, e2, e3, e4, e5 64 (by decide), e5 66 (by decide), e5 67 (by decide), e5 68 (by decide), e5 69 (by decide), e5 70 (by decide), e5 71 (by decide)]
  refine ⟨h1, h2, h3, by rw [List.length_set]; exact h4.1, by rw [List.length_set]; exact h4.2.1, by rw [List.length_set]; exact h4.2.2.1, by rw [List.length_set]; exact h4.2.2.2.1, fun i f hf => ?_⟩
  rcases at_snoc hf with ⟨hi, hf⟩ | ⟨rfl, rfl⟩
  · rw [List.getElem?_set_ne (by omega), List.getElem?_set_ne (by omega), List.getElem?_set_ne (by omega), List.getElem?_set_ne (by omega)]
    exact h4.2.2.2.2 i f hf
  · rw [List.getElem?_set_self (by omega), List.getElem?_set_self (by omega), List.getElem?_set_self (by omega), List.getElem?_set_self (by omega)]
    exact ⟨rfl, rfl, rfl, rfl⟩
theorem m_callTail {v3 : Int32} {at' c : Nat} (hn : 67 ≤ n) (hk : kA ts at' = 30) (hd : dr.length + 3 ≤ 790) (hR : rLn A0) (hcl : cl < 60) (hc : c < 2 ^ 20) (hS : (mX S0 w0 L tk ps.length lv df cl rest A0 ts wr t vs dr st S)) (k : ∀ S', (mX S0 w0 L tk ps.length lv df (cl + 1) rest (cAup A0 cl (nmA ts at') c (dr.length + 1) at') ts wr t vs (dr ++ [16, 0, c]) st S') → Q (.inl none) (gH scr kd n S')) : aE aM198 (d + 1) 116 [(3, .int v3), (2, .int (Int32.ofNat c)), (1, .int (Int32.ofNat at')), (0, .ref 56)] [] (gH scr kd n S) Q := by
  have hat := kA_lt hk (by decide)
  obtain ⟨S2, h2, a2⟩ := m_emitX (v := 16) (d := d) (scr := scr) (kd := kd) hn (by omega) hS
  obtain ⟨S3, h3, a3⟩ := m_emitX (v := 0) (d := d) (scr := scr) (kd := kd) hn (by rw [List.length_append, List.length_singleton]; omega) h2
  obtain ⟨S4, h4, a4⟩ := m_emitX (v := c) (d := d) (scr := scr) (kd := kd) hn (by rw [List.length_append, List.length_append]; simp only [List.length_singleton]; omega) h3
  rw [List.append_assoc, List.append_assoc] at h4
  obtain ⟨A, rfl, hT, h62, hD, h63, hV, h65, hW, h⟩ := h4
  have h160 := hT.2.2.2.2.1
  obtain ⟨tk1', htk, htk1⟩ := kA_in hk (by decide)
  have hw : (A 60)[at']? = some (.long (Int64.ofNat (pk 27 (nmA ts at')))) := by
    have := (hT.1 at' tk1' htk).2.2.1
    rw [show nmA ts at' = tk1'.2.2.1 by unfold nmA; rw [htk]]
    rw [show mwd tk1' = pk 27 tk1'.2.2.1 by unfold mwd; simp [htk1]] at this
    exact this
  have q := fun i h1 h2 h3 => h i h1 h2 h3
  have e : (dr ++ ([16] ++ ([0] ++ [c]))).length = dr.length + 3 := by rw [List.length_append]; rfl
  have l72 : (A 72).length = 60 := by rw [q 72 (by decide) (by decide) (by decide)]; exact hR.2.2.2.2.2.2.2.1
  have l73 : (A 73).length = 60 := by rw [q 73 (by decide) (by decide) (by decide)]; exact hR.2.2.2.2.2.2.2.2.1
  have l74 : (A 74).length = 60 := by rw [q 74 (by decide) (by decide) (by decide)]; exact hR.2.2.2.2.2.2.2.2.2.1
  have l75 : (A 75).length = 60 := by rw [q 75 (by decide) (by decide) (by decide)]; exact hR.2.2.2.2.2.2.2.2.2.2
  have e2 : Int32.ofNat (dr ++ ([16] ++ ([0] ++ [c]))).length - Int32.ofInt 2 = Int32.ofNat (dr.length + 1) := by
    rw [e]
    exact i32_sub (a := dr.length + 3) (b := 2) (by omega)
  refine eS rfl rfl ?_
  refine eS rfl rfl ?_
  refine gV1 hn rfl rfl rfl rfl rfl ⟨catOk rfl, catOk rfl⟩ (a2) ?_
  refine eS rfl rfl ?_
  refine eS rfl rfl ?_
  refine gV1 hn rfl rfl rfl rfl rfl ⟨catOk rfl, catOk rfl⟩ (a3) ?_
  refine eS rfl rfl ?_
  refine eS rfl rfl ?_
  refine gV1 hn rfl rfl rfl rfl rfl ⟨catOk rfl, catOk rfl⟩ (a4) ?_
  refine eS rfl rfl ?_
  refine gGet hn rfl rfl rfl rfl ?_
  refine eS rfl rfl ?_
  refine gGet hn rfl rfl rfl rfl ?_
  refine eS rfl rfl ?_
  refine gGet hn rfl rfl rfl rfl ?_
  refine eS rfl rfl ?_
  refine gRd2 hn rfl rfl rfl at' (by omega) hw ?_
  refine gWr2 hn rfl rfl rfl cl (by omega) (by show cl < (A 72).length; omega) (mt_up rfl) ?_
  refine eS rfl rfl ?_
  refine gGet hn rfl rfl rfl rfl ?_
  refine eS rfl rfl ?_
  refine gGet hn rfl rfl rfl rfl ?_
  refine eS rfl rfl ?_
  refine gWr0 hn rfl rfl rfl cl (by omega) (by show cl < (A 73).length; omega) (mt_up rfl) ?_
  refine eS rfl rfl ?_
  refine gGet hn rfl rfl rfl rfl ?_
  refine eS rfl rfl ?_
  refine gGet hn rfl rfl rfl rfl ?_
  refine eS rfl rfl ?_
  refine gGet hn rfl rfl rfl rfl ?_
  refine eS rfl rfl ?_
  refine eS rfl rfl ?_
  rw [e2]
  refine gWr0 hn rfl rfl rfl cl (by omega) (by show cl < (A 74).length; omega) (mt_up rfl) ?_
  refine eS rfl rfl ?_
  refine gGet hn rfl rfl rfl rfl ?_
  refine eS rfl rfl ?_
  refine gGet hn rfl rfl rfl rfl ?_
  refine eS rfl rfl ?_
  refine gWr0 hn rfl rfl rfl cl (by omega) (by show cl < (A 75).length; omega) (mt_up rfl) ?_
  refine eS rfl rfl ?_
  refine eS rfl rfl ?_
  refine gGet hn rfl rfl rfl rfl ?_
  refine eS rfl rfl ?_
  refine eS rfl rfl ?_
  rw [i32_succ]
  refine gPut hn rfl rfl rfl rfl rfl rfl rfl me_cl ?_
  refine eR rfl rfl (k _ ⟨cAup A cl (nmA ts at') c (dr.length + 1) at', rfl, ?_, ?_, ?_, ?_, ?_, ?_, ?_, fun i h1 h2 h3 => ?_⟩)
  · exact mTok_tr (cAup_at.2.2.2.2 58 (by decide)) (cAup_at.2.2.2.2 59 (by decide)) (cAup_at.2.2.2.2 60 (by decide)) (cAup_at.2.2.2.2 61 (by decide)) hT
  · rw [cAup_at.2.2.2.2 62 (by decide)]; exact h62
  · rw [cAup_at.2.2.2.2 62 (by decide)]; exact hD
  · rw [cAup_at.2.2.2.2 63 (by decide)]; exact h63
  · rw [cAup_at.2.2.2.2 63 (by decide)]; exact hV
  · rw [cAup_at.2.2.2.2 65 (by decide)]; exact h65
  · rw [cAup_at.2.2.2.2 65 (by decide)]; exact hW
  · have c1 := cAup_at (A := A) (cl := cl) (nm := nmA ts at') (c := c) (a := dr.length + 1) (i := at')
    have c2 := cAup_at (A := A0) (cl := cl) (nm := nmA ts at') (c := c) (a := dr.length + 1) (i := at')
    by_cases e72 : i = 72
    · rw [e72, c1.1, c2.1, q 72 (by decide) (by decide) (by decide)]
    by_cases e73 : i = 73
    · rw [e73, c1.2.1, c2.2.1, q 73 (by decide) (by decide) (by decide)]
    by_cases e74 : i = 74
    · rw [e74, c1.2.2.1, c2.2.2.1, q 74 (by decide) (by decide) (by decide)]
    by_cases e75 : i = 75
    · rw [e75, c1.2.2.2.1, c2.2.2.2.1, q 75 (by decide) (by decide) (by decide)]
    rw [c1.2.2.2.2 i (by omega), c2.2.2.2.2 i (by omega), h i h1 h2 h3]
end MCB
