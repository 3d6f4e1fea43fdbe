set_option maxHeartbeats 4000000 in
theorem aWorld {s0 : State} {b L : Nat} {xs : Nat → Int32} (hts : ∀ w ∈ lw_tbl, w.before #[Value.ref b] s0 = true) (hlaw : (Cond.code x code maxLocals ret).before #[Value.ref b] s0 = true) (hgv : (Jvm.Cond.and given_1 narrow_1).before #[Value.ref b] s0 = true)
    (hX : va_X b L xs s0 s0.heap) (hbl : b < s0.heap.size) :
    ∃ (D : va_G) (ad : Nat → Nat) (unk : Nat → Value), aAd ad aKn ∧ (∀ i, (unk i).category = 1) ∧ s0.heap.size = ad aKn ∧ ad 0 = b ∧ (∀ U : State, s0.WarmedH U.vm → aAll s0 D aCls ad unk aKn aP U) ∧ (∀ M ∈ aP, M.hd ≠ [] → aThr s0 D M) ∧
      (∀ U : State, s0.WarmedH U.vm → (∀ q : Nat, q < ad aKn → U.heap[q]? = s0.heap[q]?) → ∀ (args : Array Value) (own cls : String) (ic : Nat), ∀ w ∈ Bundle.ownAtoms own ic cls ["java/lang/RuntimeException", "java/lang/Exception"], aRefW w = true → w.before args U = true) ∧
      aRel s0 D aCls ad unk aKn (aH0 ((List.range L).map (fun j => .int (xs j)))) s0.heap := by
  have hT : ∀ U : State, s0.WarmedH U.vm → aTb U := aTb_of hts
  have hT0 := hT s0 (State.WarmedH.refl s0)
  have hf : ∀ w ∈ aNar, w.before #[Value.ref b] s0 = true := flat_of_before _ hgv
  have hA : ∀ a : Nat, a < s0.heap.size → ¬ (fun q => s0.heap.size ≤ q) a := fun a h z => by
    have z : s0.heap.size ≤ a := z
    omega
  obtain ⟨⟨l1, l2, l3, l4, l5, l6, l7, l8⟩, i1, i2, i3, i4⟩ := aL_st
  obtain ⟨n1, n2, n3, n4, n5, n6, n7, n8, n9⟩ := aN_st
  -- RESERVED_KINDS
  obtain ⟨r, hr, hrT⟩ := va_Tof (s := s0) (tm := .static "TurtleDesk" "RESERVED_KINDS" "[I") (ty := .int) (N := 16) (f := fun j => .int (aResK.getD j 0)) (A := fun q => s0.heap.size ≤ q) (by decide) (hf _ n1) (va_eqt (hf _ n2)) (fun j hj => va_eqt (hf _ (co_dec aN_re hj))) hA
  have zR := va_Zref (hts _ l1) (hts _ i1) hr hA
  have zC := va_Zof (hts _ l2) (hts _ i2) (va_eqi (hf _ n3)) hA
  have zA := va_Zof (hts _ l3) (hts _ i3) (va_eqi (hf _ n4)) hA
  have zH := va_Zof (hts _ l4) (hts _ i3) (va_eqi (hf _ n5)) hA
  have zL := va_Zof (hts _ l5) (hts _ i3) (va_eqi (hf _ n6)) hA
  obtain ⟨u, hu1, zS⟩ : ∃ u : Value, u.category = 1 ∧ va_Z "jdk/internal/util/Preconditions" "SIOOBE_FORMATTER" "Ljava/util/function/BiFunction;" u (fun q => s0.heap.size ≤ q) s0 s0.heap := by
    rcases va_Zqof (hts _ l6) (hts _ i4) (hf _ n7) hA with h | ⟨t, h⟩
    · exact ⟨_, rfl, h⟩
    · exact ⟨_, rfl, h⟩
  -- String constants
  obtain ⟨kK, kV, hS, hSt⟩ := vk_Sof (s := s0) (N := 9) (tm := aTm) (len := aLenS) (byt := aByt) (A := fun q => s0.heap.size ≤ q) (by decide +kernel) (fun i hi => hf _ (aN_ex hi)) (fun i hi => hf _ (aN_co hi)) (fun i hi => hf _ (aN_ar hi)) (fun i hi => hf _ (aN_le hi))
    (fun i hi j hj => hf _ (aN_el hi hj))
    (fun i j hi hj hij => by
      rcases Nat.lt_or_gt_of_ne hij with h | h
      · exact Or.inl (hf _ (aN_ne hj h))
      · exact Or.inr (hf _ (aN_ne hi h))) hA
  -- the classes
  have own : ∀ i : Nat, ∃ q : ClassId × (Nat → Nat), ∀ rr, aCls[i]? = some rr → aOwn rr → u_Kn s0 rr.1.1 rr.1.2.1 rr.1.2.2 q.1 q.2 := by
    intro i
    cases hc : aCls[i]? with
    | none => exact ⟨(0, fun _ => 0), fun rr h => by cases h⟩
    | some rr =>
      by_cases ho : aOwn rr
      · have := (aClsB_ok aCls_rows i rr hc).2.2.2 ho s0 hT0 #[Value.ref b]
        obtain ⟨cC, iS, hK⟩ := u_known (ws := u_ws rr.1.1 rr.1.2.1 rr.1.2.2) (s := s0) (args := #[Value.ref b]) this.2 (fun w hw => hw) this.1
        exact ⟨(cC, iS), fun r' h _ => by cases h; exact hK⟩
      · exact ⟨(0, fun _ => 0), fun r' h ho' => by cases h; exact absurd ho' ho⟩
  obtain ⟨DD, hDD⟩ := Classical.axiomOfChoice own
  obtain ⟨⟨sc0, sh1, sh2, sh3, -⟩, ⟨fc1, fk1, fi1, f1, -, fe1, fo1, -⟩, ⟨fc2, fk2, fi2, f2, -, fe2, fo2, -⟩, -⟩ := hS.1 0 (by decide)
  have hvF : ∀ U : State, s0.WarmedH U.vm → ∀ cf kf fi f, U.fieldFound? "java/lang/String" "value" "[B" = some (cf, kf, fi, f) → f.isStatic = false := by
    intro U hW cf kf fi f hf
    obtain ⟨k', hk', -⟩ := State.fieldFound?_setVm hW.alike fe2
    cases (show U.fieldFound? "java/lang/String" "value" "[B" = _ from hk').symm.trans hf
    exact fo2
  have hcF : ∀ U : State, s0.WarmedH U.vm → ∀ cf kf fi f, U.fieldFound? "java/lang/String" "coder" "B" = some (cf, kf, fi, f) → f.isStatic = false := by
    intro U hW cf kf fi f hf
    obtain ⟨k', hk', -⟩ := State.fieldFound?_setVm hW.alike fe1
    cases (show U.fieldFound? "java/lang/String" "coder" "B" = _ from hk').symm.trans hf
    exact fo1
  have hKU : ∀ U : State, s0.WarmedH U.vm → aK (aDof DD sc0.cls f2.slot f1.slot) aCls U := fun U hW => aWK hDD sh3 ⟨_, _, _, _, fe2, rfl⟩ ⟨_, _, _, _, fe1, rfl⟩ hW
  have hrl : r < s0.heap.size := by
    obtain ⟨cell, h1, -⟩ := hrT
    exact (Array.getElem?_eq_some_iff.mp h1).1
  have hKV : ∀ i, i < 9 → kK i < s0.heap.size ∧ kV i < s0.heap.size := by
    intro i hi
    obtain ⟨⟨c1, g1, -⟩, -, -, ⟨c2, g2, -⟩⟩ := hS.1 i hi
    exact ⟨(Array.getElem?_eq_some_iff.mp g1).1, (Array.getElem?_eq_some_iff.mp g2).1⟩
  have hAd : aAd (aAdr b r s0.heap.size kK kV) aKn := aAdr_ok hbl hrl hKV
  have hsz : s0.heap.size = aAdr b r s0.heap.size kK kV aKn := rfl
  have adK : ∀ i, i < 9 → aAdr b r s0.heap.size kK kV (2 + 2 * i) = kK i ∧ aAdr b r s0.heap.size kK kV (3 + 2 * i) = kV i := by
    intro i hi
    unfold aAdr
    rw [if_neg (by omega), if_neg (by omega), if_pos (by omega), if_pos (by omega), if_neg (by omega), if_neg (by omega), if_pos (by omega), if_neg (by omega), show (2 + 2 * i - 2) / 2 = i by omega, show (3 + 2 * i - 3) / 2 = i by omega]
    exact ⟨rfl, rfl⟩
  have hst : ∀ q ∈ aSts, va_Z q.1 q.2.1 q.2.2.1 (aV (aAdr b r s0.heap.size kK kV) (fun _ => u) q.2.2.2) (fun q => aAdr b r s0.heap.size kK kV aKn ≤ q) s0 s0.heap := by
    intro q hq
    simp only [aSts, List.mem_cons, List.not_mem_nil, or_false] at hq
    rcases hq with rfl | rfl | rfl | rfl | rfl | rfl
    · exact zR
    · exact zC
    · exact zA
    · exact zH
    · exact zL
    · exact zS
  refine ⟨aDof DD sc0.cls f2.slot f1.slot, aAdr b r s0.heap.size kK kV, fun _ => u, hAd, fun _ => hu1, hsz, rfl, ?_, aWThr hT hKU hf, aHS_of (hts _ l7) (hts _ l8) (hf _ n8) (hf _ n9) hsz, ?_⟩
  · intro U hW
    refine aWAll hlaw (hT U hW) hW (hKU U hW) (aWC (s0 := s0) (hT U hW) (hKU U hW) (hvF U hW) (hcF U hW)) hst (fun q hq => ?_)
    obtain ⟨i, hi, e1, e2⟩ := aStrs_at hq
    have h1 := hSt i hi
    rw [e2] at h1
    rw [e1, (adK i hi).1]
    exact vk_R.warm hW (vk_R.of (hts _ (of_decide_eq_true (List.all_eq_true.mp aL_sr q hq))) h1)
  · refine ⟨Nat.le_refl _, rfl, fun _ _ => rfl, fun p o ho => ?_⟩
    have hp : p < 20 := (List.getElem?_eq_some_iff.mp ho).1
    match p, hp, ho with
    | 0, _, ho =>
      cases Option.some.inj ho
      obtain ⟨scr, g1, g2, g3, g4, g5⟩ := hX
      refine ⟨scr, g1, g3, aNst g2, (fun z => by cases z), Or.inl ⟨by show 0 < 8; decide, g2, ⟨by simp [g4], by simp [g4]⟩, fun j v hj => ?_⟩⟩
      have hj' : ((List.range L).map (fun j => Value.int (xs j)))[j]? = some v := hj
      rw [List.getElem?_map] at hj'
      obtain ⟨j', e1, rfl⟩ := Option.map_eq_some_iff.mp hj'
      have hjl : j < L := by simpa using (List.getElem?_eq_some_iff.mp e1).1
      rw [List.getElem?_range hjl] at e1
      cases e1
      exact g5 j hjl
    | 1, _, ho =>
      cases Option.some.inj ho
      exact va_T_at (kd := 0) (by decide) (by decide) hrT rfl (fun j v hj => by
        have hj' : (aResK.map Value.int)[j]? = some v := hj
        rw [List.getElem?_map] at hj'
        obtain ⟨z, e1, rfl⟩ := Option.map_eq_some_iff.mp hj'
        show Value.int (aResK.getD j 0) = .int z
        rw [List.getD_eq_getElem?_getD, e1]; rfl)
    | p + 2, hp, ho =>
      have ho : aH0t[p + 1]? = some o := ho
      have hi : p / 2 < 9 := by omega
      have hc := List.all_eq_true.mp aH0_str (p / 2) (List.mem_range.mpr hi)
      simp only [Bool.and_eq_true, decide_eq_true_eq] at hc
      obtain ⟨⟨c1, c2⟩, c3⟩ := hc
      obtain ⟨⟨c0, g1, g2, g3, -⟩, ⟨x1, x2, x3, x4, cA, x5, -, x6, x7, x8, -⟩, ⟨y1, y2, y3, y4, cB, y5, -, y6, y7, y8, -⟩, hB⟩ := hS.1 (p / 2) hi
      by_cases h2 : p % 2 = 0
      · rw [show 1 + 2 * (p / 2) = p + 1 by omega] at c1
        cases Option.some.inj (c1.symm.trans ho)
        rw [show p + 2 = 2 + 2 * (p / 2) by omega]
        cases Option.some.inj (g1.symm.trans x6)
        cases Option.some.inj (g1.symm.trans y6)
        have ecls := Option.some.inj (sh3.symm.trans g3)
        cases Option.some.inj (fe1.symm.trans x5)
        cases Option.some.inj (fe2.symm.trans y5)
        refine ⟨c0, by rw [(adK _ hi).1]; exact g1, x7, g2, fun z => by
          have z : 20 ≤ 2 + 2 * (p / 2) := z
          omega, Or.inr (Or.inl ⟨15, aStrRow, rfl, aCls_str, ?_, fun k v hk hv => ?_⟩)⟩
        · exact ecls.symm
        · have hk : k < 2 := hk
          match k, hk with
          | 0, _ =>
            cases Option.some.inj hv
            show c0.slots[f2.slot]? = some (.ref (aAdr b r s0.heap.size kK kV (3 + 2 * (p / 2))))
            rw [(adK _ hi).2]
            exact y8
          | 1, _ =>
            cases Option.some.inj hv
            exact x8
      · rw [show 2 + 2 * (p / 2) = p + 1 by omega] at c2
        cases Option.some.inj (c2.symm.trans ho)
        rw [show p + 2 = 3 + 2 * (p / 2) by omega]
        refine va_T_at (kd := 5) (by decide) (by show _ < 20; omega) (by rw [(adK _ hi).2]; exact hB) (by rw [List.length_map, c3]) (fun j v hj => ?_)
        rw [List.getElem?_map] at hj
        obtain ⟨z, e1, rfl⟩ := Option.map_eq_some_iff.mp hj
        show Value.int ((aByt.getD (p / 2) []).getD j 0) = .int z
        rw [List.getD_eq_getElem?_getD, e1]; rfl
