/-! the model closes a block -/
section MSG
variable {scr : List Value} {kd : Nat → Nat} {n d L t lv df cl : Nat} {fr : List (Nat × Nat × Nat)} {ds : List dEf} {cs : List cAl} {S0 A A0 S : Nat → List Value} {w0 : Value} {wr tk : Int32} {rest : List Value} {ts : List aTk} {vs ps : List (List Nat)} {dr st : List Nat} {s : Nat} {x : xSt} {Q : aOut → aH → Prop}
theorem drF_set {dr : List Nat} {a : List Value} {m v : Nat} (h : drF dr a) (hm : m < a.length) : drF (dr.set m v) (a.set m (.int (Int32.ofNat v))) := by
  intro i x hx
  by_cases e : m = i
  · subst e
    have hl : m < dr.length := by
      have := (List.getElem?_eq_some_iff.mp hx).1
      rw [List.length_set] at this
      exact this
    rw [List.getElem?_set_self hl] at hx
    cases hx
    exact List.getElem?_set_self hm
  · rw [List.getElem?_set_ne e] at hx
    rw [List.getElem?_set_ne e]
    exact h i x hx
theorem mX_set {m v : Nat} (hm : m < 800) (hS : (mX S0 w0 L tk ps.length lv df cl rest A0 ts wr t vs dr st S)) : (mX S0 w0 L tk ps.length lv df cl rest A0 ts wr t vs (dr.set m v) st (aUp S 62 ((S 62).set m (.int (Int32.ofNat v))))) ∧ (S 62).length = 800 := by
  obtain ⟨A, rfl, hT, h62, hD, h63, hV, h65, hW, hR⟩ := hS
  refine ⟨⟨aUp A 62 ((A 62).set m (.int (Int32.ofNat v))), by rw [List.length_set]; exact mt_up rfl, hT, by rw [aUp_same, List.length_set]; exact h62, by rw [aUp_same]; exact drF_set hD (by omega), h63, hV, h65, hW, fun q q1 q2 q3 => (aUp_ne q1).trans (hR q q1 q2 q3)⟩, h62⟩
theorem mRw_pop {f : Nat × Nat × Nat} (h : mRw ps (fr ++ [f]) ds cs A0) : mRw ps fr ds cs A0 ∧ (A0 66)[fr.length]? = some (.int (Int32.ofNat f.1)) ∧ (A0 67)[fr.length]? = some (.int (Int32.ofNat f.2.1)) ∧ (A0 68)[fr.length]? = some (.int (Int32.ofNat f.2.2)) := by
  obtain ⟨h1, ⟨a1, a2, a3, a4⟩, h3⟩ := h
  exact ⟨⟨h1, ⟨a1, a2, a3, fun i g hg => a4 i g ((List.getElem?_append_left (List.getElem?_eq_some_iff.mp hg).1).trans hg)⟩, h3⟩, a4 fr.length f (by rw [List.getElem?_append_right (Nat.le_refl _), Nat.sub_self]; rfl)⟩
theorem m_closePre {f : Nat × Nat × Nat} (hn : 67 ≤ n) (hx : x.1 < ts.length) (hfr : fr.length ≤ 3) (h : mY S0 w0 L tk rest ts ps x dr (fr ++ [f]) ds cs S) : ∃ S' A0, (mX S0 w0 L tk ps.length fr.length ds.length cs.length rest A0 ts (-1) (x.1 + 1) x.2.1 dr [] S') ∧ mRw ps fr ds cs A0 ∧ (A0 68)[fr.length]? = some (.int (Int32.ofNat f.2.2)) ∧ ∀ Q, aE aM179 d 40 [(2, .int (Int32.ofNat f.2.1)), (1, .int (Int32.ofNat f.1)), (0, .ref 56)] [] (gH scr kd n S') Q → aE aM179 d 0 [(0, .ref 56)] [] (gH scr kd n S) Q := by
  obtain ⟨A0, hX, hR⟩ := h
  obtain ⟨hR2, r66, r67, r68⟩ := mRw_pop hR
  obtain ⟨A, rfl, hT, h62, hD, h63, hV, h65, hW, h⟩ := hX
  refine ⟨mtS S0 (mE w0 L (-1) tk dr.length (x.1 + 1) x.2.1.length ps.length fr.length ds.length cs.length rest) A, A0, ⟨A, rfl, hT, h62, hD, h63, hV, h65, hW, h⟩, hR2, r68, fun Q kk => ?_⟩
  have e66 : (A 66)[fr.length]? = some (.int (Int32.ofNat f.1)) := by rw [h 66 (by decide) (by decide) (by decide)]; exact r66
  have e67 : (A 67)[fr.length]? = some (.int (Int32.ofNat f.2.1)) := by rw [h 67 (by decide) (by decide) (by decide)]; exact r67
  have el : Int32.ofNat (fr ++ [f]).length - Int32.ofInt 1 = Int32.ofNat fr.length := by rw [List.length_append, List.length_singleton]; exact i32_pre
  refine eS rfl rfl ?_
  refine eS rfl rfl ?_
  refine gGet hn rfl rfl rfl rfl ?_
  refine eS rfl rfl ?_
  refine eS rfl rfl ?_
  rw [i32_succ]
  refine gPut hn rfl rfl rfl rfl rfl rfl rfl me_t ?_
  refine eS rfl rfl ?_
  refine eS rfl rfl ?_
  refine gGet hn rfl rfl rfl rfl ?_
  refine eS rfl rfl ?_
  refine eS rfl rfl ?_
  rw [el]
  refine gPut hn rfl rfl rfl rfl rfl rfl rfl me_lv ?_
  refine eS rfl rfl ?_
  refine gGet hn rfl rfl rfl rfl ?_
  refine eS rfl rfl ?_
  refine gGet hn rfl rfl rfl rfl ?_
  refine gRd0 hn rfl rfl rfl fr.length (by omega) e66 ?_
  refine eS rfl rfl ?_
  refine eS rfl rfl ?_
  refine gGet hn rfl rfl rfl rfl ?_
  refine eS rfl rfl ?_
  refine gGet hn rfl rfl rfl rfl ?_
  refine gRd0 hn rfl rfl rfl fr.length (by omega) e67 ?_
  refine eS rfl rfl ?_
  exact kk
theorem m_closeLoop {f : Nat × Nat × Nat} (hn : 67 ≤ n) (hx : x.1 < ts.length) (hfr : fr.length ≤ 3) (hf : f.1 = 1 ∨ f.1 = 2) (hf2 : f.2.2 < 2 ^ 20) (hm : f.2.1 < 800) (hd : dr.length < 700) (h : mY S0 w0 L tk rest ts ps x dr (fr ++ [f]) ds cs S) (k : ∀ S', mY S0 w0 L tk rest ts ps (x.1 + 1, x.2) ((dr ++ [14, f.2.2]).set f.2.1 (dr.length + 2)) fr ds cs S' → Q (.inl none) (gH scr kd n S')) : aE aM179 (d + 3) 0 [(0, .ref 56)] [] (gH scr kd n S) Q := by
  obtain ⟨S1, A0, X1, hR, r68, a1⟩ := m_closePre (d := d + 3) (scr := scr) (kd := kd) hn hx hfr h
  obtain ⟨S2, X2, a2⟩ := m_emitX (v := 14) (d := d + 2) (scr := scr) (kd := kd) hn (by omega) X1
  obtain ⟨S3, X3, a3⟩ := m_emitX (v := f.2.2) (d := d + 2) (scr := scr) (kd := kd) hn (by rw [List.length_append, List.length_singleton]; omega) X2
  rw [List.append_assoc] at X3
  have ln : (dr ++ ([14] ++ [f.2.2])).length = dr.length + 2 := by rw [List.length_append]; rfl
  obtain ⟨X4, l62⟩ := mX_set (v := dr.length + 2) hm X3
  have s68 : (S2 68)[fr.length]? = some (.int (Int32.ofNat f.2.2)) := by
    obtain ⟨A, rfl, hT, h62, hD, h63, hV, h65, hW, h⟩ := X2
    show (A 68)[fr.length]? = _
    rw [h 68 (by decide) (by decide) (by decide)]
    exact r68
  have F := k _ ⟨A0, X4, hR⟩
  refine a1 _ ?_
  have s206 := (mX_f X2).2.2.2.2.1
  rcases hf with hf | hf
  · rw [hf]
    refine eS rfl rfl ?_
    refine eNe rfl rfl (fun _ => ?_) (fun z => absurd z (by decide))
    refine eS rfl rfl ?_
    refine eS rfl rfl ?_
    refine eIEq rfl rfl (fun _ => ?_) (fun z => absurd rfl z)
    refine eS rfl rfl ?_
    refine eS rfl rfl ?_
    refine gV1 hn rfl rfl rfl rfl rfl ⟨catOk rfl, catOk rfl⟩ (a2) ?_
    refine eS rfl rfl ?_
    refine eS rfl rfl ?_
    refine gGet hn rfl rfl rfl (show (S2 56)[20]? = some (.ref 68) by obtain ⟨A, rfl, -⟩ := X2; rfl) ?_
    refine eS rfl rfl ?_
    refine gGet hn rfl rfl rfl (mX_f X2).2.2.2.2.1 ?_
    refine gRd0 hn rfl rfl rfl fr.length (by omega) s68 ?_
    refine gV1 hn rfl rfl rfl rfl rfl ⟨catOk rfl, catOk rfl⟩ (a3) ?_
    refine eS rfl rfl ?_
    refine eS rfl rfl ?_
    refine eINe rfl rfl (fun _ => ?_) (fun z => absurd z (by decide))
    refine eS rfl rfl ?_
    refine gGet hn rfl rfl rfl (show (S3 56)[10]? = some (.ref 62) by obtain ⟨A, rfl, -⟩ := X3; rfl) ?_
    refine eS rfl rfl ?_
    refine eS rfl rfl ?_
    refine gGet hn rfl rfl rfl (mX_f X3).2.1 ?_
    rw [ln]
    refine gWr0 hn rfl rfl rfl f.2.1 (by omega) (by rw [l62]; exact hm) rfl ?_
    exact eR rfl rfl F
  · rw [hf]
    refine eS rfl rfl ?_
    refine eNe rfl rfl (fun _ => ?_) (fun z => absurd z (by decide))
    refine eS rfl rfl ?_
    refine eS rfl rfl ?_
    refine eIEq rfl rfl (fun z => absurd z (by decide)) (fun _ => ?_)
    refine eS rfl rfl ?_
    refine eS rfl rfl ?_
    refine eINe rfl rfl (fun z => absurd rfl z) (fun _ => ?_)
    refine eS rfl rfl ?_
    refine eS rfl rfl ?_
    refine gV1 hn rfl rfl rfl rfl rfl ⟨catOk rfl, catOk rfl⟩ (a2) ?_
    refine eS rfl rfl ?_
    refine eS rfl rfl ?_
    refine gGet hn rfl rfl rfl (show (S2 56)[20]? = some (.ref 68) by obtain ⟨A, rfl, -⟩ := X2; rfl) ?_
    refine eS rfl rfl ?_
    refine gGet hn rfl rfl rfl (mX_f X2).2.2.2.2.1 ?_
    refine gRd0 hn rfl rfl rfl fr.length (by omega) s68 ?_
    refine gV1 hn rfl rfl rfl rfl rfl ⟨catOk rfl, catOk rfl⟩ (a3) ?_
    refine eS rfl rfl ?_
    refine eS rfl rfl ?_
    refine eINe rfl rfl (fun _ => ?_) (fun z => absurd z (by decide))
    refine eS rfl rfl ?_
    refine gGet hn rfl rfl rfl (show (S3 56)[10]? = some (.ref 62) by obtain ⟨A, rfl, -⟩ := X3; rfl) ?_
    refine eS rfl rfl ?_
    refine eS rfl rfl ?_
    refine gGet hn rfl rfl rfl (mX_f X3).2.1 ?_
    rw [ln]
    refine gWr0 hn rfl rfl rfl f.2.1 (by omega) (by rw [l62]; exact hm) rfl ?_
    exact eR rfl rfl F
theorem m_closeElse {f : Nat × Nat × Nat} (hn : 67 ≤ n) (hx : x.1 < ts.length) (hfr : fr.length ≤ 3) (hf : f.1 = 4) (hm : f.2.1 < 800) (hd : dr.length < 700) (h : mY S0 w0 L tk rest ts ps x dr (fr ++ [f]) ds cs S) (k : ∀ S', mY S0 w0 L tk rest ts ps (x.1 + 1, x.2) (dr.set f.2.1 dr.length) fr ds cs S' → Q (.inl none) (gH scr kd n S')) : aE aM179 (d + 3) 0 [(0, .ref 56)] [] (gH scr kd n S) Q := by
  obtain ⟨S1, A0, X1, hR, r68, a1⟩ := m_closePre (d := d + 3) (scr := scr) (kd := kd) hn hx hfr h
  obtain ⟨X4, l62⟩ := mX_set (v := dr.length) hm X1
  have F := k _ ⟨A0, X4, hR⟩
  refine a1 _ ?_
  rw [hf]
  refine eS rfl rfl ?_
  refine eNe rfl rfl (fun _ => ?_) (fun z => absurd z (by decide))
  refine eS rfl rfl ?_
  refine eS rfl rfl ?_
  refine eIEq rfl rfl (fun z => absurd z (by decide)) (fun _ => ?_)
  refine eS rfl rfl ?_
  refine eS rfl rfl ?_
  refine eINe rfl rfl (fun _ => ?_) (fun z => absurd z (by decide))
  refine eS rfl rfl ?_
  refine eS rfl rfl ?_
  refine eINe rfl rfl (fun _ => ?_) (fun z => absurd z (by decide))
  refine eS rfl rfl ?_
  refine gGet hn rfl rfl rfl (show (S1 56)[10]? = some (.ref 62) by obtain ⟨A, rfl, -⟩ := X1; rfl) ?_
  refine eS rfl rfl ?_
  refine eS rfl rfl ?_
  refine gGet hn rfl rfl rfl (mX_f X1).2.1 ?_
  refine gWr0 hn rfl rfl rfl f.2.1 (by omega) (by rw [l62]; exact hm) rfl ?_
  exact eR rfl rfl F
theorem m_closeTo {f : Nat × Nat × Nat} (hn : 67 ≤ n) (hx : x.1 < ts.length) (hfr : fr.length ≤ 3) (hf : f.1 = 0) (hm : f.2.1 < 800) (hd : dr.length < 700) (h : mY S0 w0 L tk rest ts ps x dr (fr ++ [f]) ds cs S) (k : ∀ S', mY S0 w0 L tk rest ts [] (x.1 + 1, x.2) ((dr ++ [17]).set f.2.1 (dr.length + 1)) fr ds cs S' → Q (.inl none) (gH scr kd n S')) : aE aM179 (d + 3) 0 [(0, .ref 56)] [] (gH scr kd n S) Q := by
  obtain ⟨S1, A0, X1, hR, r68, a1⟩ := m_closePre (d := d + 3) (scr := scr) (kd := kd) hn hx hfr h
  obtain ⟨S2, X2, a2⟩ := m_emitX (v := 17) (d := d + 2) (scr := scr) (kd := kd) hn (by omega) X1
  have ln : (dr ++ [17]).length = dr.length + 1 := by rw [List.length_append]; rfl
  obtain ⟨A, rfl, hT, h62, hD, h63, hV, h65, hW, h⟩ := X2
  have X3 : (mX S0 w0 L tk ([] : List (List Nat)).length fr.length ds.length cs.length rest A0 ts (-1) (x.1 + 1) x.2.1 (dr ++ [17]) [] (mtS S0 (mE w0 L (-1) tk (dr ++ [17]).length (x.1 + 1) x.2.1.length 0 fr.length ds.length cs.length rest) A)) := ⟨A, rfl, hT, h62, hD, h63, hV, h65, hW, h⟩
  obtain ⟨X4, l62⟩ := mX_set (v := dr.length + 1) hm X3
  have F := k _ ⟨A0, X4, ⟨fun i y hy => (by cases hy), hR.1.2⟩, hR.2⟩
  rw [ln] at F l62
  refine a1 _ ?_
  rw [hf]
  refine eS rfl rfl ?_
  refine eNe rfl rfl (fun z => absurd rfl z) (fun _ => ?_)
  refine eS rfl rfl ?_
  refine eS rfl rfl ?_
  refine gV1 hn rfl rfl rfl rfl rfl ⟨catOk rfl, catOk rfl⟩ (a2) ?_
  refine eS rfl rfl ?_
  refine eS rfl rfl ?_
  refine gPut hn rfl rfl rfl rfl rfl rfl rfl (me_pr (u := 0)) ?_
  refine eS rfl rfl ?_
  refine eS rfl rfl ?_
  refine eIEq rfl rfl (fun z => absurd z (by decide)) (fun _ => ?_)
  refine eS rfl rfl ?_
  refine eS rfl rfl ?_
  refine eINe rfl rfl (fun _ => ?_) (fun z => absurd z (by decide))
  refine eS rfl rfl ?_
  refine eS rfl rfl ?_
  refine eINe rfl rfl (fun _ => ?_) (fun z => absurd z (by decide))
  refine eS rfl rfl ?_
  refine gGet hn rfl rfl rfl rfl ?_
  refine eS rfl rfl ?_
  refine eS rfl rfl ?_
  refine gGet hn rfl rfl rfl rfl ?_
  rw [ln]
  refine gWr0 hn rfl rfl rfl f.2.1 (by omega) (by rw [l62]; exact hm) rfl ?_
  exact eR rfl rfl F
theorem key_16 {k : Nat} (h : k ≠ 33) : keyOf k ≠ 16 := by
  unfold keyOf
  intro z
  split at z
  · next i e =>
    obtain ⟨hl, h1, -⟩ := List.findIdx?_eq_some_iff_getElem.mp e
    obtain rfl : i = 15 := by omega
    have : (33 : Nat) = k := eq_of_beq h1
    omega
  · cases z
theorem m_closeIf {f : Nat × Nat × Nat} (hn : 67 ≤ n) (hx : x.1 < ts.length) (hfr : fr.length ≤ 3) (hf : f.1 = 3) (hm : f.2.1 < 800) (hd : dr.length < 700) (hcs : cs.length < 2 ^ 20) (h : mY S0 w0 L tk rest ts ps x dr (fr ++ [f]) ds cs S) (k1 : kA ts (x.1 + 1) ≠ 33 → ∀ S', mY S0 w0 L tk rest ts ps (x.1 + 1, x.2) (dr.set f.2.1 dr.length) fr ds cs S' → Q (.inl none) (gH scr kd n S')) (k2 : kA ts (x.1 + 1) = 33 → kA ts (x.1 + 2) = 123 → fr.length < 3 → ∀ S', mY S0 w0 L tk rest ts ps (x.1 + 3, x.2) ((dr ++ [14, 0]).set f.2.1 (dr.length + 2)) (fr ++ [(4, dr.length + 1, 0)]) ds cs S' → Q (.inl none) (gH scr kd n S')) (ke : kA ts (x.1 + 1) = 33 → ¬ (kA ts (x.1 + 2) = 123 ∧ fr.length < 3) → ∀ S', mEz S0 w0 L tk rest (plA ts L (x.1 + 2)) S' → Q (.inl none) (gH scr kd n S')) : aE aM179 (d + 3) 0 [(0, .ref 56)] [] (gH scr kd n S) Q := by
  obtain ⟨S1, A0, X1, hR, r68, a1⟩ := m_closePre (d := d + 3) (scr := scr) (kd := kd) hn hx hfr h
  have ky := m_keyX (d := d) (scr := scr) (kd := kd) (ps := ps) hn (t := x.1 + 1) (by omega) X1
  refine a1 _ ?_
  rw [hf]
  by_cases c : kA ts (x.1 + 1) = 33
  · rw [c] at ky
    have hlt := kA_lt c (by decide)
    obtain ⟨S2, X2, a2⟩ := m_jump (w := 14) (d := d + 1) (scr := scr) (kd := kd) (ps := ps) hn (by omega) X1
    have ln : (dr ++ [14, 0]).length = dr.length + 2 := by rw [List.length_append]; rfl
    obtain ⟨X3, l62⟩ := mX_set (v := dr.length + 2) hm X2
    refine eS rfl rfl ?_
    refine eNe rfl rfl (fun _ => ?_) (fun z => absurd z (by decide))
    refine eS rfl rfl ?_
    refine eS rfl rfl ?_
    refine eIEq rfl rfl (fun z => absurd z (by decide)) (fun _ => ?_)
    refine eS rfl rfl ?_
    refine eS rfl rfl ?_
    refine eINe rfl rfl (fun _ => ?_) (fun z => absurd z (by decide))
    refine eS rfl rfl ?_
    refine eS rfl rfl ?_
    refine eINe rfl rfl (fun z => absurd rfl z) (fun _ => ?_)
    refine eS rfl rfl ?_
    refine gV1 hn rfl rfl rfl rfl rfl ⟨catOk rfl, catOk rfl⟩ (ky) ?_
    refine eS rfl rfl ?_
    refine eINe rfl rfl (fun z => absurd rfl z) (fun _ => ?_)
    refine eS rfl rfl ?_
    refine eS rfl rfl ?_
    refine gV1 hn rfl rfl rfl rfl rfl ⟨catOk rfl, catOk rfl⟩ (a2) ?_
    refine eS rfl rfl ?_
    refine eS rfl rfl ?_
    refine gGet hn rfl rfl rfl (show (S2 56)[10]? = some (.ref 62) by obtain ⟨A, rfl, -⟩ := X2; rfl) ?_
    refine eS rfl rfl ?_
    refine eS rfl rfl ?_
    refine gGet hn rfl rfl rfl (mX_f X2).2.1 ?_
    rw [ln]
    refine gWr0 hn rfl rfl rfl f.2.1 (by omega) (by rw [l62]; exact hm) rfl ?_
    refine M_tick hn rfl rfl rfl rfl rfl rfl rfl X3 (fun S4 X4 => ?_)
    obtain ⟨o1, o2⟩ := m_open (x := (x.1 + 2, x.2)) (f := (4, dr.length + 1, 0)) (d := d + 1) (scr := scr) (kd := kd) hn (by show x.1 + 2 ≤ ts.length; omega) hfr ⟨A0, X4, hR⟩
    by_cases c2 : kA ts (x.1 + 2) = 123 ∧ fr.length < 3
    · obtain ⟨S5, X5, a5⟩ := o1 c2
      refine eS rfl rfl ?_
      refine eS rfl rfl ?_
      refine eS rfl rfl ?_
      refine eS rfl rfl ?_
      refine gV1 hn rfl rfl rfl rfl rfl ⟨catOk rfl, catOk rfl⟩ (a5) ?_
      exact eR rfl rfl (k2 c c2.1 c2.2 S5 X5)
    · obtain ⟨S5, X5, a5⟩ := o2 c2 (by rw [List.length_set, ln]; omega) hcs
      refine eS rfl rfl ?_
      refine eS rfl rfl ?_
      refine eS rfl rfl ?_
      refine eS rfl rfl ?_
      refine gV1 hn rfl rfl rfl rfl rfl ⟨catOk rfl, catOk rfl⟩ (a5) ?_
      exact eR rfl rfl (ke c c2 S5 X5)
  · obtain ⟨X4, l62⟩ := mX_set (v := dr.length) hm X1
    have F := k1 c _ ⟨A0, X4, hR⟩
    have kb : keyOf (kA ts (x.1 + 1)) < 2 ^ 20 := by
      unfold keyOf
      split
      · next i e =>
        have := (List.findIdx?_eq_some_iff_getElem.mp e).1
        have : kwds.length = 16 := rfl
        omega
      · decide
    have k16 := i32_eq (a := keyOf (kA ts (x.1 + 1))) (b := 16) (by omega) (by omega)
    refine eS rfl rfl ?_
    refine eNe rfl rfl (fun _ => ?_) (fun z => absurd z (by decide))
    refine eS rfl rfl ?_
    refine eS rfl rfl ?_
    refine eIEq rfl rfl (fun z => absurd z (by decide)) (fun _ => ?_)
    refine eS rfl rfl ?_
    refine eS rfl rfl ?_
    refine eINe rfl rfl (fun _ => ?_) (fun z => absurd z (by decide))
    refine eS rfl rfl ?_
    refine eS rfl rfl ?_
    refine eINe rfl rfl (fun z => absurd rfl z) (fun _ => ?_)
    refine eS rfl rfl ?_
    refine gV1 hn rfl rfl rfl rfl rfl ⟨catOk rfl, catOk rfl⟩ (ky) ?_
    refine eS rfl rfl ?_
    refine eINe rfl rfl (fun _ => ?_) (fun z => absurd (k16.mp z) (key_16 c))
    refine eS rfl rfl ?_
    refine gGet hn rfl rfl rfl (show (S1 56)[10]? = some (.ref 62) by obtain ⟨A, rfl, -⟩ := X1; rfl) ?_
    refine eS rfl rfl ?_
    refine eS rfl rfl ?_
    refine gGet hn rfl rfl rfl (mX_f X1).2.1 ?_
    refine gWr0 hn rfl rfl rfl f.2.1 (by omega) (by rw [l62]; exact hm) rfl ?_
    exact eR rfl rfl F
end MSG
