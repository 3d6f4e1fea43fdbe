set_option maxHeartbeats 4000000 in
theorem aWorld {s0 : State} {b L : Nat} {xs : Nat → Int32} (hts : ∀ w ∈ lw_tbl, w.before #[Value.ref b] s0 = true) (hlaw : (Cond.code x code maxLocals ret).before #[Value.ref b] s0 = true) (hgv : (Jvm.Cond.and given_1 narrow_1).before #[Value.ref b] s0 = true)
    (hX : va_X b L xs s0 s0.heap) (hbl : b < s0.heap.size) :
    ∃ (D : va_G) (ad : Nat → Nat) (unk : Nat → Value), aAd ad aKn ∧ (∀ i, (unk i).category = 1) ∧ s0.heap.size = ad aKn ∧ ad 0 = b ∧ (∀ U : State, s0.WarmedH U.vm → aAll s0 D aCls ad unk aKn aP U) ∧ (∀ M ∈ aP, M.hd ≠ [] → aThr s0 D M) ∧
      (∀ U : State, s0.WarmedH U.vm → (∀ q : Nat, q < ad aKn → U.heap[q]? = s0.heap[q]?) → ∀ (args : Array Value) (own cls : String) (ic : Nat), ∀ w ∈ Bundle.ownAtoms own ic cls ["java/lang/RuntimeException", "java/lang/Exception"], aRefW w = true → w.before args U = true) ∧
      aRel s0 D aCls ad unk aKn (aH0 ((List.range L).map (fun j => .int (xs j)))) s0.heap := by
  have hT : ∀ U : State, s0.WarmedH U.vm → aTb U := aTb_of hts
  have hT0 := hT s0 (State.WarmedH.refl s0)
  have hf := flat_of_before _ hgv
  have hA : ∀ a : Nat, a < s0.heap.size → ¬ (fun q => s0.heap.size ≤ q) a := fun a h z => by
    have z : s0.heap.size ≤ a := z
    omega
  obtain ⟨⟨l1, l2, l3, l4, l5, l6, l7, l8⟩, i1, i2, i3, i4⟩ := aL_st
  obtain ⟨n1, n2, n3, n4, n5, n6, n7, n8, n9⟩ := aN_st
  -- RESERVED_KINDS
  obtain ⟨r, hr, hrT⟩ := va_Tof (s := s0) (tm := .static "TurtleDesk" "RESERVED_KINDS" "[I") (ty := .int) (N := 16) (f := fun j => .int (aResK.getD j 0)) (A := fun q => s0.heap.size ≤ q) (by decide) (hf _ n1) (va_eqt (hf _ n2)) (fun j hj => va_eqt (hf _ (co_dec aN_re hj))) hA
  have zR := va_Zref (hts _ l1) (hts _ i1) hr hA
  have zC := va_Zof (hts _ l2) (hts _ i2) (va_eqi (hf _ n3)) hA
  have zA := va_Zof (hts _ l3) (hts _ i3) (va_eqi (hf _ n4)) hA
  have zH := va_Zof (hts _ l4) (hts _ i3) (va_eqi (hf _ n5)) hA
  have zL := va_Zof (hts _ l5) (hts _ i3) (va_eqi (hf _ n6)) hA
  obtain ⟨u, hu1, zS⟩ : ∃ u : Value, u.category = 1 ∧ va_Z "jdk/internal/util/Preconditions" "SIOOBE_FORMATTER" "Ljava/util/function/BiFunction;" u (fun q => s0.heap.size ≤ q) s0 s0.heap := by
    rcases va_Zqof (hts _ l6) (hts _ i4) (hf _ n7) hA with h | ⟨t, h⟩
    · exact ⟨_, rfl, h⟩
    · exact ⟨_, rfl, h⟩
  -- String constants
  obtain ⟨aK, aV, hS, hSt⟩ := vk_Sof (s := s0) (N := 9) (tm := aTm) (len := aLenS) (byt := aByt) (A := fun q => s0.heap.size ≤ q) (by decide +kernel) (fun i hi => hf _ (co_dec aN_ex hi)) (fun i hi => hf _ (co_dec aN_co hi)) (fun i hi => hf _ (co_dec aN_ar hi)) (fun i hi => hf _ (co_dec aN_le hi))
    (fun i hi j hj => hf _ (by
      have := List.all_eq_true.mp (List.all_eq_true.mp aN_el i (List.mem_range.mpr hi)) j (List.mem_range.mpr hj)
      simpa using this))
    (fun i j hi hj hij => by
      have := List.all_eq_true.mp (List.all_eq_true.mp aN_ne i (List.mem_range.mpr hi)) j (List.mem_range.mpr hj)
      simp only [Bool.or_eq_true, beq_iff_eq, decide_eq_true_eq] at this
      rcases this with (h | h) | h
      · exact absurd h hij
      · exact Or.inl (hf _ h)
      · exact Or.inr (hf _ h)) hA
  -- the classes
  have own : ∀ i : Nat, ∃ q : ClassId × (Nat → Nat), ∀ rr, aCls[i]? = some rr → aOwn rr → u_Kn s0 rr.1.1 rr.1.2.1 rr.1.2.2 q.1 q.2 := by
    intro i
    cases hc : aCls[i]? with
    | none => exact ⟨(0, fun _ => 0), fun rr h => by cases h⟩
    | some rr =>
      by_cases ho : aOwn rr
      · have := (aClsB_ok aCls_rows i rr hc).2.2.2 ho s0 hT0 #[Value.ref b]
        obtain ⟨cC, iS, hK⟩ := u_known (ws := u_ws rr.1.1 rr.1.2.1 rr.1.2.2) (s := s0) (args := #[Value.ref b]) this.2 (fun w hw => hw) this.1
        exact ⟨(cC, iS), fun r' h _ => by cases h; exact hK⟩
      · exact ⟨(0, fun _ => 0), fun r' h ho' => by cases h; exact absurd ho' ho⟩
  obtain ⟨DD, hDD⟩ := Classical.axiomOfChoice own
  obtain ⟨⟨sc0, sh1, sh2, sh3, -⟩, ⟨fc1, fk1, fi1, f1, fe1, fo1, ft1, -, -, -, -⟩, ⟨fc2, fk2, fi2, f2, fe2, fo2, ft2, -, -, -, -⟩, -⟩ := hS.1 0 (by decide)
  sorry
