section ONE
variable {scr : List Value} {Q : aOut → aH → Prop} {a b w : Int32}
theorem one_compile (hw : w &&& 15 = Int32.ofNat 2) (fin : aFin scr Q) : aE aMlaw 800 44 (aL0 (Int32.ofNat 0)) [.int (w &&& 15)] (hA scr) Q := by
  have e4 : ((0, scr) :: hX4)[56]? = some (36, vs0) := c_56.1
  have e6 : ((0, scr) :: hX6)[56]? = some (36, (vs5.set 0 (.int 0)).set 30 (.int 1)) := (gN (l := hX5.set 55 _) (p := 75) (q := 55) (o := (0, cd1)) (by decide)).trans (gS (catOk rfl))
  refine law_compile hw e4 e6 (s_lcompile_fresh scr) (s_mcompile_fresh scr) (s_thrown e6 rfl) (fun _ => rfl) ?_
  refine fin _ rfl (by rw [show ((0, scr) :: hX6).length = hX6.length + 1 from rfl, hX_sz.2.2.2.2.2]; decide) ?_
  have h1 : aSzs aCls ((0, scr) :: hX6) = aSz aCls (0, scr) + aSzs aCls hX6 := rfl
  have h2 : aSzs aCls (hA scr) = aSz aCls (0, scr) + aSzs aCls hX := rfl
  rw [h1, h2, hX_sz.2.2.2.1]
  omega
theorem ref_0 (o : aO) : (hA scr ++ [o])[0]? = some (0, scr) := rfl
theorem ref_56 (o : aO) : (hA scr ++ [o])[56]? = some (36, vs0) := push_at hA_56
theorem ref_mT {o : aO} {t : Int32} : (mT (hA scr ++ [o]) vs0 t)[56]? = some (36, vs0.set 0 (.int t)) := gS (by rw [List.length_append, hA_len]; show 56 < 87 + 1; decide)
theorem ref_th {o : aO} {t : Int32} {d : Nat} : aE aM164 d 0 [(0, .ref 56)] [] (mT (hA scr ++ [o]) vs0 t) (aIs (some (.int t)) (mT (hA scr ++ [o]) vs0 t)) := s_thrown ref_mT rfl
theorem ref_len (o : aO) : 57 ≤ (hA scr ++ [o]).length := by rw [List.length_append, hA_len]; show 57 ≤ 87 + 1; decide
theorem one_word (hL : scr.length = 3) (hw : w &&& 15 = Int32.ofNat 5) (ha : scr[0 + 1]? = some (.int a)) (fin : aFin scr Q) : aE aMlaw 800 44 (aL0 (Int32.ofNat 0)) [.int (w &&& 15)] (hA scr) Q := by
  have hb : a < 0 ∨ 0 ≤ a := by
    by_cases h : a < 0
    · exact Or.inl h
    · exact Or.inr (Int32.not_lt.mp h)
  have hb2 : a < 0 ∨ (0 : Int32) - 1 < a := by
    rcases hb with h | h
    · exact Or.inl h
    · refine Or.inr ?_
      rw [Int32.lt_iff_toInt_lt]
      rw [Int32.le_iff_toInt_le] at h
      have h : 0 ≤ a.toInt := h
      show -1 < a.toInt
      omega
  exact law_word rfl (ref_0 _) (by rw [hL]; decide) (by rw [hL]; decide) hw ha (ref_56 _) ref_mT (s_lword_bad hA_20 (s_word_bad (catOk rfl) hA_20 rfl hA_46 rfl hb)) (s_mword_bad (ref_len _) (ref_56 _) vs0_len rfl hb2) ref_th (fun z => absurd z (by decide)) (ref_fin (show aSz aCls (34, []) ≤ 13 by decide) fin)
theorem one_restart (hw : w &&& 15 = Int32.ofNat 6) (fin : aFin scr Q) : aE aMlaw 800 44 (aL0 (Int32.ofNat 0)) [.int (w &&& 15)] (hA scr) Q :=
  law_restart hw (ref_56 _) ref_mT (s_lrestart_no hA_20 (s_needProgram_no (catOk rfl) hA_20 rfl hA_46 rfl)) (s_mrestart_no (ref_len _) (ref_56 _) vs0_len rfl) ref_th (ref_fin (show aSz aCls (32, []) ≤ 13 by decide) fin)
theorem one_run (hL : scr.length = 3) (hw : w &&& 15 = Int32.ofNat 7) (ha : scr[0 + 1]? = some (.int a)) (fin : aFin scr Q) : aE aMlaw 800 44 (aL0 (Int32.ofNat 0)) [.int (w &&& 15)] (hA scr) Q := by
  by_cases hb : a < 1 ∨ 2000 < a
  · exact law_run rfl (ref_0 _) (by rw [hL]; decide) (by rw [hL]; decide) hw ha (ref_56 _) ref_mT (s_lrun_bad (catOk rfl) hA_20 hb) (s_mrun_ref (by decide) (ref_len _) (ref_56 _) vs0_len (s_wrongFuel_bad hb)) ref_th (fun z => absurd z (by decide)) (ref_fin (show aSz aCls (28, []) ≤ 13 by decide) fin)
  · have h1 : ¬ a < 1 := fun z => hb (Or.inl z)
    have h2 : ¬ 2000 < a := fun z => hb (Or.inr z)
    exact law_run rfl (ref_0 _) (by rw [hL]; decide) (by rw [hL]; decide) hw ha (ref_56 _) ref_mT (s_lrun_no hA_20 h1 h2 (s_needProgram_no (catOk rfl) hA_20 rfl hA_46 rfl)) (s_mrun_ref (by decide) (ref_len _) (ref_56 _) vs0_len (s_wrongFuel_no h1 h2 (ref_56 _) rfl)) ref_th (fun z => absurd z (by decide)) (ref_fin (show aSz aCls (32, []) ≤ 13 by decide) fin)
theorem one_interpret (hL : scr.length = 3) (hw : w &&& 15 = Int32.ofNat 8) (ha : scr[0 + 1]? = some (.int a)) (fin : aFin scr Q) : aE aMlaw 800 44 (aL0 (Int32.ofNat 0)) [.int (w &&& 15)] (hA scr) Q := by
  by_cases hb : a < 1 ∨ 2000 < a
  · exact law_interpret rfl (ref_0 _) (by rw [hL]; decide) (by rw [hL]; decide) hw ha (ref_56 _) ref_mT (s_linterpret_bad (catOk rfl) hA_20 hb) (s_minterpret_ref (by decide) (ref_len _) (ref_56 _) vs0_len (s_wrongFuel_bad hb)) ref_th (fun z => absurd z (by decide)) (ref_fin (show aSz aCls (28, []) ≤ 13 by decide) fin)
  · have h1 : ¬ a < 1 := fun z => hb (Or.inl z)
    have h2 : ¬ 2000 < a := fun z => hb (Or.inr z)
    exact law_interpret rfl (ref_0 _) (by rw [hL]; decide) (by rw [hL]; decide) hw ha (ref_56 _) ref_mT (s_linterpret_no hA_20 h1 h2 (s_needProgram_no (catOk rfl) hA_20 rfl hA_46 rfl)) (s_minterpret_ref (by decide) (ref_len _) (ref_56 _) vs0_len (s_wrongFuel_no h1 h2 (ref_56 _) rfl)) ref_th (fun z => absurd z (by decide)) (ref_fin (show aSz aCls (32, []) ≤ 13 by decide) fin)
theorem one_value (hL : scr.length = 3) (hw : w &&& 15 = Int32.ofNat 13) (ha : scr[0 + 1]? = some (.int a)) (fin : aFin scr Q) : aE aMlaw 800 44 (aL0 (Int32.ofNat 0)) [.int (w &&& 15)] (hA scr) Q := by
  by_cases hb : a < 0 ∨ 7 < a
  · exact law_value rfl (ref_0 _) (by rw [hL]; decide) (by rw [hL]; decide) hw ha (ref_56 _) ref_mT (s_lvalue_bad hA_20 (s_value_bad (catOk rfl) hb)) (s_mvalue_bad (ref_len _) (ref_56 _) vs0_len hb) ref_th (fun z => absurd z (by decide)) (ref_fin (show aSz aCls (34, []) ≤ 13 by decide) fin)
  · obtain ⟨k, hk, rfl⟩ := i32_bnd (n := 7) (a := a) (fun z => hb (Or.inl z)) (fun z => hb (Or.inr z)) (by decide)
    have hv : (List.replicate 8 (Value.float 0))[k]? = some (.float 0) := by
      rw [List.getElem?_replicate, if_pos (by omega)]
    have e56 : ((hA scr).set 86 (4, [.double (FP.f2d 0)]))[56]? = some (36, vs0) := (gN (by decide)).trans hA_56
    have e2 : (mT ((hA scr).set 86 (4, [.double (FP.f2d 0)])) vs0 0)[56]? = some (36, vs0.set 0 (.int 0)) := gS (by rw [List.length_set]; exact catOk rfl)
    refine law_value rfl ((gN (by decide)).trans rfl) (by rw [hL]; decide) (by rw [hL]; decide) hw ha e56 e2 (s_lvalue_ok hA_20 hA_86 f16_ok.2.2.2.2.1 (s_value_ok (by omega) hA_20 rfl hA_35 rfl hA_37 hv))
      (s_mvalue_ok (by omega) (by rw [List.length_set]; exact catOk rfl) e56 vs0_len rfl ((gN (by decide)).trans hA_81) hv) (s_thrown e2 rfl) (fun _ => ⟨(gN (by decide)).trans (gS (catOk rfl)), f16_ok.2.2.2.2.1, f16_ok.2.2.2.2.2⟩) ?_
    refine mT_fin e56 fin ((gN (by decide)).trans rfl) (by rw [List.length_set, hA_len]; decide) ?_
    rw [sz_set (b := [.double (FP.f2d 0)]) hA_86 rfl]
    omega
theorem law_one (hL : scr.length = 3) (hw : scr[0]? = some (.int w)) (ha : scr[0 + 1]? = some (.int a)) (hb : scr[0 + 2]? = some (.int b)) (fin : aFin scr Q) : aE aMlaw 800 28 (aL0 (Int32.ofNat 0)) [] (hA scr) Q := by
  refine law_pre rfl (by rw [hL]; decide) (by rw [hL]; decide) hw ?_
  obtain ⟨c, hc, e⟩ := and15 w
  match c, hc, e with
  | 0, _, e => exact one_put hL e ha hb fin
  | 1, _, e => exact one_clear e fin
  | 2, _, e => exact one_compile e fin
  | 3, _, e => exact one_error e fin
  | 4, _, e => exact one_size e fin
  | 5, _, e => exact one_word hL e ha fin
  | 6, _, e => exact one_restart e fin
  | 7, _, e => exact one_run hL e ha fin
  | 8, _, e => exact one_interpret hL e ha fin
  | 9, _, e => exact one_pixel hL e ha hb fin
  | 10, _, e => exact one_x e fin
  | 11, _, e => exact one_y e fin
  | 12, _, e => exact one_heading e fin
  | 13, _, e => exact one_value hL e ha fin
  | 14, _, e => exact law_skip (by rw [e]; decide) (fin _ rfl (by rw [hA_len]; decide) (by omega))
  | 15, _, e => exact law_skip (by rw [e]; decide) (fin _ rfl (by rw [hA_len]; decide) (by omega))
  | c + 16, hc, _ => omega
end ONE
/-- scripts of at most three ints -/
theorem aGoal_3 (L : Nat) (xs : Nat → Int32) (hL : L ≤ 3) : ∃ (n : Nat) (h' : aH), aRun aCls aKn aP n aMlaw 800 0 [(0, .ref 0)] [] (aH0 ((List.range L).map (fun j => .int (xs j)))) = some (.inl (some (.int 1)), h') ∧
    h'.length ≤ 20 + 70 ∧ aSzs aCls h' ≤ aSzs aCls (aH0 ((List.range L).map (fun j => .int (xs j)))) + 9100 := by
  have hl : ((List.range L).map (fun j => Value.int (xs j))).length = L := by rw [List.length_map, List.length_range]
  have hsz : ∀ scr : List Value, aSzs aCls (hA scr) ≤ aSzs aCls (aH0 scr) + 9000 := by
    intro scr
    have h1 : aSzs aCls (aH0 scr) = aSz aCls (0, scr) + aSzs aCls aH0t := rfl
    have h2 : aSzs aCls (hA scr) = aSz aCls (0, scr) + aSzs aCls hX := rfl
    have := hX_sz.1
    omega
  have key : aE aMlaw 800 0 [(0, .ref 0)] [] (aH0 ((List.range L).map (fun j => .int (xs j)))) (fun r h' => r = .inl (some (.int 1)) ∧ h'.length ≤ 20 + 70 ∧ aSzs aCls h' ≤ aSzs aCls (aH0 ((List.range L).map (fun j => .int (xs j)))) + 9100) := by
    refine aLaw_head ?_
    by_cases h3 : L = 3
    · subst h3
      refine law_one (w := xs 0) (a := xs 1) (b := xs 2) rfl rfl rfl rfl ?_
      intro h2 e0 e1 e2
      refine law_exit (i := 3) e0 (by rw [hl]; decide) (by decide) (by rw [hl]; decide) ⟨rfl, e1, ?_⟩
      have := hsz ((List.range 3).map (fun j => .int (xs j)))
      omega
    · refine law_exit (i := 0) (h := hA _) rfl (by rw [hl]; omega) (by decide) (by rw [hl]; omega) ⟨rfl, ?_, ?_⟩
      · rw [hA_len]; decide
      · have := hsz ((List.range L).map (fun j => .int (xs j)))
        omega
  obtain ⟨n, r, h', e, rfl, q1, q2⟩ := key
  exact ⟨n, h', e, q1, q2⟩
