/-! tests, calls and returns, under the walker -/
section WTST
variable {scr : List Value} {kd : Nat → Nat} {n pa d cc l pc pc' : Nat} {S S0 : Nat → List Value} {st : Int32} {f0 : UInt32} {r stk par vrs : List UInt32} {fr : aFr} {t : aTu}
theorem w_zero (hn : 67 ≤ n) (hs : (f0 :: r).length ≤ 24) (hg : gF f0) (hR : wRep S0 pa cc (l, 0, pc, f0 :: r, fr, par, vrs, t) st S) : ∃ S', wRep S0 pa cc (l, 0, pc', r, fr, par, vrs, t) st S' ∧ aE aM123 (d + 1) 0 [(0, .ref 35)] [] (gH scr kd n S) (aIs (some (.int (if FP.fcmp f0 0 = some .eq then 1 else 0))) (gH scr kd n S')) := by
  obtain ⟨ht, pcv, a36, a39, a40, a44, rc, e0, q36, q39, q40, q44, qi, q0⟩ := hR
  obtain ⟨rfl, hc, ⟨g, rfl⟩, gh⟩ := q0 rfl
  refine ⟨_, ⟨Int32.ofNat r.length, pcv, fA r (.float f0 :: g), a39, a40, a44, rc, rfl, by rw [fA_cons] at q36; exact q36, q39, q40, q44, qi, fun _ => ⟨rfl, hc, ⟨_, rfl⟩, gh⟩⟩, ?_⟩
  rw [e0]
  exact c_takeIsZero hn (by simp at hs; omega) hg
theorem w_turn (hn : 67 ≤ n) (hs : (f0 :: r).length ≤ 24) (hg : gF f0) (hR : wRep S0 pa cc (l, 0, pc, f0 :: r, fr, par, vrs, t) st S) : ∃ S', wRep S0 pa cc (l, 0, pc', (turnA f0 r).2, fr, par, vrs, t) st S' ∧ aE aM125 (d + 1) 0 [(0, .ref 35)] [] (gH scr kd n S) (aIs (some (.int (if (turnA f0 r).1 then 1 else 0))) (gH scr kd n S')) := by
  obtain ⟨ht, pcv, a36, a39, a40, a44, rc, e0, q36, q39, q40, q44, qi, q0⟩ := hR
  obtain ⟨rfl, hc, ⟨g, rfl⟩, gh⟩ := q0 rfl
  obtain ⟨g', b1, e⟩ := c_takeTurn (d := d) (scr := scr) (kd := kd) (S0 := aUp S0 45 (kW pa l st)) (a37 := vrs.map Value.float) (a38 := par.map Value.float) (a39 := a39) (a40 := a40) (a44 := a44) (x := t.1) (y := t.2.1) (hd := t.2.2.1) (co := t.2.2.2.1) (dn := t.2.2.2.2.1) (rc := rc) (px := t.2.2.2.2.2) (g := g) (cl := Int32.ofNat cc) (pc := pcv) (an := 0) (f := f0) (stk := r) hn (by simp at hs; omega) hg
  refine ⟨_, ⟨Int32.ofNat (turnA f0 r).2.length, pcv, fA (turnA f0 r).2 g', a39, a40, a44, rc, rfl, fA_len.trans (b1.trans (by rw [← fA_len]; exact q36)), q39, q40, q44, qi, fun _ => ⟨rfl, hc, ⟨_, rfl⟩, gh⟩⟩, ?_⟩
  rw [e0]
  exact e
theorem iA_int {l : List Nat} {g : List Value} {j : Nat} (h : j < l.length) : ∃ z : Int32, (iA l g)[j]? = some (.int z) := by
  unfold iA
  rw [List.getElem?_append_left (by rw [List.length_map, List.length_reverse]; exact h), List.getElem?_map, List.getElem?_eq_getElem (by rw [List.length_reverse]; exact h)]
  exact ⟨_, rfl⟩
theorem w_enter {c pb : Nat} (hn : 67 ≤ n) (h3 : c ≤ 3) (hc : cc ≤ 2) (hs : c ≤ stk.length) (hp : par.length = 9) (hR : wRep S0 pa cc (l, 0, pc, stk, fr, par, vrs, t) st S) : ∃ S', wRep S0 pa (cc + 1) (l, 0, pc', (entA c (3 * fr.length) stk par).1, (pb, (entA c (3 * fr.length) stk par).1.length) :: fr, (entA c (3 * fr.length) stk par).2, vrs, t) st S' ∧
    aE aM127 (d + 1) 0 [(0, .ref 35), (1, .int (Int32.ofNat c)), (2, .int (Int32.ofNat 0))] [] (gH scr kd n S) (aIs (some (.int 1)) (gH scr kd n S')) := by
  obtain ⟨ht, pcv, a36, a39, a40, a44, rc, e0, q36, q39, q40, q44, qi, q0⟩ := hR
  obtain ⟨rfl, hcc, ⟨g, rfl⟩, gh, rfl⟩ := q0 rfl
  dsimp only at hcc q36 q39 q40 qi e0
  subst hcc
  have hg : stk.length + g.length = 24 := by rw [← fA_len]; exact q36
  have hgh : fr.length + gh.length = 3 := by rw [iA_len, List.length_map] at q40; exact q40
  -- the places behind, whatever they are, as so many that live
  obtain ⟨pbs, gp, l1, rfl⟩ : ∃ (pbs : List Int32) (gp : List Value), pbs.length = fr.length ∧ a39 = pbs.map Value.int ++ gp := by
    have : ∀ (k : Nat), k ≤ fr.length → ∃ (pbs : List Int32), pbs.length = k ∧ a39.take k = pbs.map Value.int := by
      intro k
      induction k with
      | zero => exact fun _ => ⟨[], rfl, rfl⟩
      | succ k ih =>
        intro hk
        obtain ⟨pbs, m1, m2⟩ := ih (by omega)
        obtain ⟨y, z, hy, -⟩ := qi k (by omega)
        refine ⟨pbs ++ [y], by simp [m1], ?_⟩
        rw [List.take_add_one, m2, hy]
        simp
    obtain ⟨pbs, m1, m2⟩ := this fr.length (Nat.le_refl _)
    exact ⟨pbs, a39.drop fr.length, m1, by rw [← m2]; exact (List.take_append_drop ..).symm⟩
  have hgp : fr.length + gp.length = 3 := by rw [List.length_append, List.length_map] at q39; omega
  obtain ⟨g', b1, e⟩ := c_enter_loop (d := d) (scr := scr) (kd := kd) (S0 := aUp S0 45 (kW pa l st)) (a37 := vrs.map Value.float) (a39 := pbs.map Value.int ++ gp) (a40 := iA (fr.map (·.2)) gh) (a41 := kT t.1 t.2.1 (Int32.ofNat t.2.2.1) t.2.2.2.1 t.2.2.2.2.1) (a42 := kPi rc) (a43 := t.2.2.2.2.2.map Value.int) (a44 := a44) (pc := pcv) (an := 0) (x1 := Int32.ofNat c) (x2 := Int32.ofNat 0) (cl := fr.length) hn hc c stk g par h3 hs hg hp
  obtain ⟨v1, gp', rfl⟩ : ∃ v g', gp = v :: g' := by
    cases gp with
    | nil => simp at hgp; omega
    | cons v g' => exact ⟨v, g', rfl⟩
  obtain ⟨v2, gh', rfl⟩ : ∃ v g', gh = v :: g' := by
    cases gh with
    | nil => simp at hgh; omega
    | cons v g' => exact ⟨v, g', rfl⟩
  have es : (pbs.map Value.int ++ v1 :: gp').set fr.length (.int (Int32.ofNat 0)) = (pbs ++ [Int32.ofNat 0]).map Value.int ++ gp' := by
    rw [List.set_append_right _ _ (by rw [List.length_map]; omega), List.length_map, l1, Nat.sub_self]
    simp
  refine ⟨_, ⟨Int32.ofNat (entA c (3 * fr.length) stk par).1.length, pcv, fA _ g', (pbs ++ [Int32.ofNat 0]).map Value.int ++ gp', iA ((entA c (3 * fr.length) stk par).1.length :: fr.map (·.2)) gh', a44, rc, rfl, fA_len.trans b1, ?_, ?_, q44, ?_, fun _ => ⟨rfl, rfl, ⟨_, rfl⟩, ⟨_, rfl⟩⟩⟩, ?_⟩
  · rw [← es, List.length_set]
    exact q39
  · rw [iA_len]
    simp at hgh ⊢
    omega
  · intro j hj
    obtain ⟨z, hz⟩ := iA_int (l := (entA c (3 * fr.length) stk par).1.length :: fr.map (·.2)) (g := gh') (j := j) (by simp; omega)
    refine ⟨(pbs ++ [Int32.ofNat 0])[j]'(by simp; omega), z, ?_, hz⟩
    rw [List.getElem?_append_left (by simp; omega), List.getElem?_map, List.getElem?_eq_getElem (by simp; omega)]
    rfl
  have em : (if (Int32.ofInt 3 : Int32) < Int32.ofNat c then Int32.ofInt 3 else Int32.ofNat c) = Int32.ofNat c := if_neg (fun z => absurd ((i32_lt (a := 3) (b := c) (by decide) (by omega)).mp z) (by omega))
  have e1 : Int32.ofNat c - Int32.ofInt 1 = Int32.ofInt ((c : Int) - 1) := zi_sub (a := (c : Int)) (b := 1)
  rw [e0]
  refine eS rfl rfl ?_
  refine gGet hn rfl rfl rfl rfl ?_
  refine eS rfl rfl ?_
  refine eILt rfl rfl (fun _ => ?_) (fun z => absurd ((i32_lt (a := fr.length) (b := 3) (by omega) (by decide)).mpr (by omega)) z)
  refine eS rfl rfl ?_
  refine eS rfl rfl ?_
  refine eC1 rfl rfl rfl ⟨catOk rfl, catOk rfl⟩ (s_min) ?_
  rw [em]
  refine eS rfl rfl ?_
  refine eS rfl rfl ?_
  rw [e1]
  refine eS rfl rfl ?_
  refine e _ ?_
  refine eS rfl rfl ?_
  refine gGet hn rfl rfl rfl rfl ?_
  refine eS rfl rfl ?_
  refine gGet hn rfl rfl rfl rfl ?_
  refine eS rfl rfl ?_
  refine gWr0 hn rfl rfl rfl fr.length (by omega) (by show fr.length < (pbs.map Value.int ++ v1 :: gp').length; rw [List.length_append, List.length_map]; simp only [List.length_cons]; omega) (cS_39.trans (congrArg (fun z => cS _ _ _ _ _ z _ _ _ _ _) es)) ?_
  refine eS rfl rfl ?_
  refine gGet hn rfl rfl rfl rfl ?_
  refine eS rfl rfl ?_
  refine gGet hn rfl rfl rfl rfl ?_
  refine eS rfl rfl ?_
  refine gGet hn rfl rfl rfl rfl ?_
  refine gWr0 hn rfl rfl rfl fr.length (by omega) (by show fr.length < (iA (fr.map (·.2)) (v2 :: gh')).length; rw [iA_len, List.length_map]; simp only [List.length_cons]; omega) (cS_40.trans (congrArg (fun z => cS _ _ _ _ _ _ z _ _ _ _) (iA_set2 (by rw [List.length_map])))) ?_
  refine eS rfl rfl ?_
  refine eS rfl rfl ?_
  refine gGet hn rfl rfl rfl rfl ?_
  refine eS rfl rfl ?_
  refine eS rfl rfl ?_
  refine gPut hn rfl rfl rfl rfl rfl rfl rfl cS_35 ?_
  refine eS rfl rfl ?_
  exact eR rfl rfl ⟨rfl, by rw [← i32_succ]; rfl⟩
theorem w_enter_no {c : Nat} (hn : 67 ≤ n) (hc : cc = 3) (hR : wRep S0 pa cc (l, 0, pc, stk, fr, par, vrs, t) st S) : ∃ S', wRep S0 pa cc (l, 14, pc', stk, fr, par, vrs, t) st S' ∧
    aE aM127 (d + 1) 0 [(0, .ref 35), (1, .int (Int32.ofNat c)), (2, .int (Int32.ofNat 0))] [] (gH scr kd n S) (aIs (some (.int 0)) (gH scr kd n S')) := by
  obtain ⟨ht, pcv, a36, a39, a40, a44, rc, e0, q36, q39, q40, q44, qi, q0⟩ := hR
  subst hc
  refine ⟨_, ⟨ht, pcv, a36, a39, a40, a44, rc, rfl, q36, q39, q40, q44, qi, fun z => absurd (show (14 : Int32) = 0 from z) (by decide)⟩, ?_⟩
  rw [e0]
  exact c_enter_no hn
/-- a call ends, also when all has ended -/
theorem w_leave {x : aSx} {b h : Nat} {fr' : aFr} (hn : 67 ≤ n) (hc : cc ≤ 2) (hf : x.2.1 = 0 → x.2.2.2.2.1 = (b, h) :: fr') (hh : x.2.1 = 0 → h ≤ x.2.2.2.1.length) (hR : wRep S0 pa (cc + 1) x st S) : ∃ S' y, wRep S0 pa cc (x.1, x.2.1, pc', x.2.2.2.1.drop (x.2.2.2.1.length - h), fr', x.2.2.2.2.2) st S' ∧ aE aM128 (d + 1) 0 [(0, .ref 35)] [] (gH scr kd n S) (aIs (some (.int y)) (gH scr kd n S')) := by
  obtain ⟨ht, pcv, a36, a39, a40, a44, rc, e0, q36, q39, q40, q44, qi, q0⟩ := hR
  obtain ⟨y, z, hy, hz⟩ := qi cc (by omega)
  refine ⟨_, y, ⟨z, pcv, a36, a39, a40, a44, rc, rfl, q36, q39, q40, q44, fun j hj => qi j (by omega), fun h0 => ?_⟩, ?_⟩
  · obtain ⟨e1, e2, ⟨g, e3⟩, gh, e4⟩ := q0 h0
    rw [hf h0] at e2 e4
    have e2 : cc = fr'.length := by simp at e2; exact e2
    refine ⟨?_, e2, ⟨_, e3.trans fA_drop⟩, ⟨_, e4.trans iA_cons⟩⟩
    rw [e4, List.map_cons, iA_cons, e2, show fr'.length = (fr'.map (·.2)).length by rw [List.length_map], iA_get] at hz
    have hz2 := hh h0
    show z = Int32.ofNat (x.2.2.2.1.drop (x.2.2.2.1.length - h)).length
    rw [List.length_drop, show x.2.2.2.1.length - (x.2.2.2.1.length - h) = h by omega]
    cases hz
    rfl
  rw [e0]
  refine eS rfl rfl ?_
  refine gGet hn rfl rfl rfl rfl ?_
  refine eNe rfl rfl (fun _ => ?_) (fun z => absurd z (i32_ne0 (by omega) (by omega)))
  refine eS rfl rfl ?_
  refine eS rfl rfl ?_
  refine gGet hn rfl rfl rfl rfl ?_
  refine eS rfl rfl ?_
  refine eS rfl rfl ?_
  rw [i32_pre]
  refine gPut hn rfl rfl rfl rfl rfl rfl rfl cS_35 ?_
  refine eS rfl rfl ?_
  refine eS rfl rfl ?_
  refine gGet hn rfl rfl rfl rfl ?_
  refine eS rfl rfl ?_
  refine gGet hn rfl rfl rfl rfl ?_
  refine gRd0 hn rfl rfl rfl cc (by omega) hz ?_
  refine gPut hn rfl rfl rfl rfl rfl rfl rfl cS_35 ?_
  refine eS rfl rfl ?_
  refine gGet hn rfl rfl rfl rfl ?_
  refine eS rfl rfl ?_
  refine gGet hn rfl rfl rfl rfl ?_
  refine gRd0 hn rfl rfl rfl cc (by omega) hy ?_
  exact eR rfl rfl ⟨rfl, rfl⟩
end WTST
