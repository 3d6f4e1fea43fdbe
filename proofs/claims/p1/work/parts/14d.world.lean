/-! the start's world: what the tables say of the classes, the methods and the constants, for the small machine -/
abbrev aStrRow : vw_C × List FieldType := (("java/lang/String", aT15, 2), [.array .byte, .byte])
theorem aCls_lt {i : Nat} {r : vw_C × List FieldType} (h : aCls[i]? = some r) : (i < 15 ∧ aOwn r) ∨ (i = 15 ∧ r = aStrRow) := by
  have hl : i < 16 := by rw [← aCls_len]; exact (List.getElem?_eq_some_iff.mp h).1
  by_cases h15 : i < 15
  · have := List.all_eq_true.mp aCls_own i (List.mem_range.mpr h15)
    rw [h] at this
    exact Or.inl ⟨h15, of_decide_eq_true this⟩
  · have : i = 15 := by omega
    subst this
    exact Or.inr ⟨rfl, Option.some.inj (h.symm.trans aCls_str)⟩
abbrev aDof (DD : Nat → ClassId × (Nat → Nat)) (cS : ClassId) (v c : Nat) : va_G := (fun i => if i < 15 then (DD i).1 else cS, fun i k => if i < 15 then (DD i).2 k else if k = 0 then v else c)
theorem aWK {s0 : State} {DD : Nat → ClassId × (Nat → Nat)} {cS : ClassId} {v c : Nat} (hDD : ∀ i rr, aCls[i]? = some rr → aOwn rr → u_Kn s0 rr.1.1 rr.1.2.1 rr.1.2.2 (DD i).1 (DD i).2) (hcS : s0.vm.findClass "java/lang/String" = some cS)
    (hv : SlotIs s0 "java/lang/String" "value" "[B" v) (hc : SlotIs s0 "java/lang/String" "coder" "B" c) {U : State} (hW : s0.WarmedH U.vm) : aK (aDof DD cS v c) aCls U := by
  intro i r hr
  rcases aCls_lt hr with ⟨hi, ho⟩ | ⟨rfl, rfl⟩
  · have hK := u_Kn_moved hW.alike (hDD i r hr ho)
    simp only [hi, if_true]
    exact ⟨hK.1, hK.2.1, fun _ => hK.2.2⟩
  · refine ⟨fun k hk => ?_, ?_, fun z => absurd rfl z⟩
    · have hk : k < 2 := hk
      match k, hk with
      | 0, _ => exact slotIs_moved hW.alike hv
      | 1, _ => exact slotIs_moved hW.alike hc
    · show U.vm.findClass "java/lang/String" = some cS
      rw [hW.alike.findClass]
      exact hcS
theorem aWC {s0 U : State} (hT : aTb U) {DD : Nat → ClassId × (Nat → Nat)} {cS : ClassId} {v c : Nat} (hK : aK (aDof DD cS v c) aCls U) (hv : ∀ cf kf fi f, U.fieldFound? "java/lang/String" "value" "[B" = some (cf, kf, fi, f) → f.isStatic = false)
    (hc : ∀ cf kf fi f, U.fieldFound? "java/lang/String" "coder" "B" = some (cf, kf, fi, f) → f.isStatic = false) : aClOK aCls U := by
  intro i r hr
  obtain ⟨h1, h2, h3, h4⟩ := aClsB_ok aCls_rows i r hr
  refine ⟨?_, h1, h2, h3, fun ho w hw A => (h4 ho U hT A).2 w hw⟩
  rcases aCls_lt hr with ⟨hi, ho⟩ | ⟨rfl, rfl⟩
  · intro k hk cf kf fi f hf
    have hu := hK.u hr ho
    obtain ⟨hfc, kC, hkC, -⟩ := hu.2
    exact (u_facts (args := #[]) hfc hkC (u_lays (fun w hw => (h4 ho U hT #[]).2 w hw) (fun w hw => hw) hk) hf).1
  · intro k hk cf kf fi f hf
    have hk : k < 2 := hk
    match k, hk with
    | 0, _ => exact hv cf kf fi f hf
    | 1, _ => exact hc cf kf fi f hf
theorem aWlaw {s0 : State} {A : Array Value} (h : (Cond.code x code maxLocals ret).before A s0 = true) {U : State} (hW : s0.WarmedH U.vm) : aMeth U aMlaw := by
  refine aMeth_of (by decide +kernel) (fun _ => ?_) (fun z => absurd rfl z)
  exact word_at hW (good_of_word rfl) h
theorem aWM {s0 : State} {A : Array Value} (hlaw : (Cond.code x code maxLocals ret).before A s0 = true) {U : State} (hT : aTb U) (hW : s0.WarmedH U.vm) : ∀ M ∈ aP, aMeth U M := by
  intro M hM
  rcases List.mem_cons.mp hM with rfl | hM
  · exact aWlaw hlaw hW
  · obtain ⟨h1, h2⟩ := aMeths_ok M hM
    have h2 := h2 U hT #[]
    refine aMeth_of h1 (fun hh => ?_) (fun hh => ?_)
    · rw [aMwd_no hh] at h2
      exact h2
    · rw [aMwd_hd hh] at h2
      exact ⟨_, h2⟩
theorem aWAll {s0 : State} {A : Array Value} (hlaw : (Cond.code x code maxLocals ret).before A s0 = true) {U : State} (hT : aTb U) (hW : s0.WarmedH U.vm) {D : va_G} {ad : Nat → Nat} {unk : Nat → Value} (hK : aK D aCls U) (hC : aClOK aCls U)
    (hst : ∀ r ∈ aSts, va_Z r.1 r.2.1 r.2.2.1 (aV ad unk r.2.2.2) (fun q => ad aKn ≤ q) s0 s0.heap) (hstr : ∀ r ∈ aStrs, vk_R r.1 r.2.1 r.2.2.1 (ad r.2.2.2) U) : aAll s0 D aCls ad unk aKn aP U := by
  refine ⟨hC, hK, fun M hM => ⟨aWM hlaw hT hW M hM, fun pc I lk hf => ?_⟩⟩
  obtain ⟨qs, hq⟩ := aRs M hM
  obtain ⟨h1, q, h2⟩ := aRowsB_ok hq pc I lk hf
  exact ⟨h1, fun args => aChk_ok h2 hT hst hstr args⟩
theorem aWThr {s0 : State} (hT : ∀ U : State, s0.WarmedH U.vm → aTb U) {D : va_G} (hK : ∀ U : State, s0.WarmedH U.vm → aK D aCls U) {A : Array Value} (hf : ∀ w ∈ aNar, w.before A s0 = true) : ∀ M ∈ aP, M.hd ≠ [] → aThr s0 D M := by
  intro M hM hne
  rcases List.mem_cons.mp hM with rfl | hM
  · exact absurd rfl hne
  have hB := List.all_eq_true.mp aHd_rows M hM
  obtain ⟨r10, h10, e10⟩ := aCls_10
  obtain ⟨r12, h12, e12⟩ := aCls_12
  obtain ⟨r13, h13, e13⟩ := aCls_13
  have c10 := (hK s0 (State.WarmedH.refl s0) 10 r10 h10).2.1
  have c12 := (hK s0 (State.WarmedH.refl s0) 12 r12 h12).2.1
  have c13 := (hK s0 (State.WarmedH.refl s0) 13 r13 h13).2.1
  rw [e10] at c10
  rw [e12] at c12
  rw [e13] at c13
  obtain ⟨l1, l2, l3⟩ := aCl_13
  obtain ⟨⟨n1, n2⟩, ⟨n3, n4⟩, n5, n6⟩ := aN_nc
  refine @aThr_of s0 D aCls M (aHs M.hd) (aHs_fst _) hK (fun U hW => ?_) (fun q hq => ?_) (fun q hq q' hq' hne => ?_)
  · have h2 := (aMeths_ok M hM).2 U (hT U hW) #[]
    rw [aMwd_hd hne] at h2
    exact h2
  · obtain ⟨hc, ⟨k1, k2⟩ | ⟨k1, k2⟩ | ⟨k1, k2⟩⟩ := aHdB_ok hB hq
    · refine ⟨by rw [k2]; decide, r10, by rw [k1]; exact h10, by rw [aOwn, e10]; decide, fun U hW => ?_⟩
      rw [hc, k2, e10]
      exact hT U hW _ l1 (by decide) _
    · refine ⟨by rw [k2]; decide, r12, by rw [k1]; exact h12, by rw [aOwn, e12]; decide, fun U hW => ?_⟩
      rw [hc, k2, e12]
      exact hT U hW _ l2 (by decide) _
    · refine ⟨by rw [k2]; decide, r13, by rw [k1]; exact h13, by rw [aOwn, e13]; decide, fun U hW => ?_⟩
      rw [hc, k2, e13]
      exact hT U hW _ l3 (by decide) _
  · obtain ⟨-, h1⟩ := aHdB_ok hB hq
    obtain ⟨-, h2⟩ := aHdB_ok hB hq'
    rcases h1 with ⟨k1, -⟩ | ⟨k1, -⟩ | ⟨k1, -⟩ <;> rcases h2 with ⟨k2, -⟩ | ⟨k2, -⟩ | ⟨k2, -⟩ <;> first | exact absurd (k1.trans k2.symm) hne | (rw [k1, k2])
    · exact aCast (hf _ n1) c10 c12
    · exact aCast (hf _ n2) c10 c13
    · exact aCast (hf _ n3) c12 c10
    · exact aCast (hf _ n4) c12 c13
    · exact aCast (hf _ n5) c13 c10
    · exact aCast (hf _ n6) c13 c12
