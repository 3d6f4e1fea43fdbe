/-! what holds besides: at the very beginning, and when all begins anew -/
section EXTB
variable {S S' : Nat → List Value} {s : aSt} {w : Nat → Value} {nn : Int32} {W : Nat → Nat} {pa N : Nat}
theorem okS_0 {par : List UInt32} (h9 : par.length = 9) (hg : ∀ f ∈ par, gF f) : okS (s0A par) := by
  refine ⟨h9, hg, List.length_replicate, fun f hf => ?_, show gX 1098907648 by unfold gX; decide, show gX 1094713344 by unfold gX; decide, show 0 < 24 by decide, show (1 : Int32) ≠ -1 by decide, Or.inr rfl, List.length_replicate, fun c hc => ?_⟩
  · rw [List.eq_of_mem_replicate hf]
    exact gF_0
  · rw [List.eq_of_mem_replicate hc]
    decide
theorem okL_0 {P : Nat → Nat → Bool → Prop} {par : List UInt32} (hP : P 0 0 false) : okL P (s0A par) := ⟨Nat.zero_le _, (fun f hf => by cases hf), Nat.zero_le _, hP⟩
/-- the class's machine in S, given piece by piece -/
theorem cRep_of {ht cl pc : Int32} {a36 a39 a40 a44 : List Value} {rc : Int32} (e35 : S 35 = kM ht cl pc s.1) (e36 : S 36 = a36) (e37 : S 37 = s.2.2.2.2.2.1.map Value.float) (e38 : S 38 = s.2.2.2.2.1.map Value.float) (e39 : S 39 = a39) (e40 : S 40 = a40) (e41 : S 41 = kT s.2.2.2.2.2.2.1 s.2.2.2.2.2.2.2.1 (Int32.ofNat s.2.2.2.2.2.2.2.2.1) s.2.2.2.2.2.2.2.2.2.1 s.2.2.2.2.2.2.2.2.2.2.1) (e42 : S 42 = kPi rc) (e43 : S 43 = s.2.2.2.2.2.2.2.2.2.2.2.map Value.int) (e44 : S 44 = a44)
    (rest : a36.length = 24 ∧ a39.length = 3 ∧ a40.length = 3 ∧ a44.length = 768 ∧ (s.1 = 0 → ht = Int32.ofNat s.2.2.1.length ∧ cl = Int32.ofNat s.2.2.2.1.length ∧ pc = Int32.ofNat s.2.1 ∧ (∃ g, a36 = fA s.2.2.1 g) ∧ (∃ g, a39 = iA (s.2.2.2.1.map (·.1)) g) ∧ ∃ g, a40 = iA (s.2.2.2.1.map (·.2)) g)) : cRep S s S := by
  refine ⟨ht, cl, pc, a36, a39, a40, a44, rc, ?_, rest⟩
  refine Eq.trans cS_id.symm ?_
  rw [e35, e36, e37, e38, e39, e40, e41, e42, e43, e44]
theorem mRep_of {hi un pcv : Int32} {a77 a79 a80 a83 : List Value} (e56 : S 56 = mM w nn pcv s.1 hi un s.2.2.2.2.2.2.1 s.2.2.2.2.2.2.2.1 (Int32.ofNat s.2.2.2.2.2.2.2.2.1) s.2.2.2.2.2.2.2.2.2.1 s.2.2.2.2.2.2.2.2.2.2.1) (e77 : S 77 = a77) (e78 : S 78 = s.2.2.2.2.1.map Value.float) (e79 : S 79 = a79) (e80 : S 80 = a80) (e81 : S 81 = s.2.2.2.2.2.1.map Value.float) (e82 : S 82 = s.2.2.2.2.2.2.2.2.2.2.2.map Value.int) (e83 : S 83 = a83)
    (rest : a77.length = 24 ∧ a79.length = 3 ∧ a80.length = 3 ∧ a83.length = 768 ∧ (s.1 = 0 → hi = Int32.ofNat s.2.2.1.length ∧ un = Int32.ofNat s.2.2.2.1.length ∧ pcv = Int32.ofNat s.2.1 ∧ (∃ g, a77 = fA s.2.2.1 g) ∧ (∃ g, a79 = iA (s.2.2.2.1.map (·.1)) g) ∧ ∃ g, a80 = iA (s.2.2.2.1.map (·.2)) g)) : mRep S w nn s S := by
  refine ⟨hi, un, pcv, a77, a79, a80, a83, ?_, rest⟩
  refine Eq.trans mS_id.symm ?_
  rw [e56, e77, e78, e79, e80, e81, e82, e83]
theorem fl_rep {k : Nat} {v : UInt32} : (List.replicate k v).map Value.float = List.replicate k (.float v) := List.map_replicate
theorem il_rep {k : Nat} {v : Int32} : (List.replicate k v).map Value.int = List.replicate k (.int v) := List.map_replicate
theorem iExt_bg : eBg iExt := by
  intro S h h' hE l35 l41 l56 ht
  obtain ⟨e1, e2, e3, pa, N, W, p1, p2, p3, ⟨s, w, P, m1, m2, m3, m4, m5⟩, p5⟩ := hE
  have hpa := p1.1
  have n : ∀ q, q ≠ 35 → q ≠ 37 → q ≠ 41 → q ≠ 43 → q ≠ 56 → q ≠ 81 → q ≠ 82 → sBg S q = S q := fun q a b c d e f g => by
    unfold sBg
    rw [if_neg a, if_neg b, if_neg c, if_neg d, if_neg e, if_neg f, if_neg g]
  obtain ⟨ct, cl, pc, a36, a39, a40, a44, rc, ce, c36, c39, c40, c44, -⟩ := m1
  obtain ⟨hi, un, pcv, a77, a79, a80, a83, me, d77, d79, d80, d83, -⟩ := m2
  have cq : ∀ p, S p = _ := fun p => congrFun ce p
  have mq : ∀ p, S p = _ := fun p => congrFun me p
  have hn : ∃ P' : Nat → Nat → Bool → Prop, P' 0 0 false ∧ (N = 0 ∨ cOk W N P') := by
    rcases m5 with z | z
    · exact ⟨fun _ _ _ => True, trivial, Or.inl z⟩
    · exact ⟨P, z.1, Or.inr z⟩
  obtain ⟨P', hP0, hP'⟩ := hn
  have k37 : List.replicate 8 (Value.float 0) = (List.replicate 8 (0 : UInt32)).map Value.float := fl_rep.symm
  have k43 : List.replicate 768 (Value.int 0) = (List.replicate 768 (0 : Int32)).map Value.int := il_rep.symm
  refine ⟨(n 84 (by decide) (by decide) (by decide) (by decide) (by decide) (by decide) (by decide)).trans e1, ⟨(n 29 (by decide) (by decide) (by decide) (by decide) (by decide) (by decide) (by decide)).trans e2.1, tyR_tr (n 26 (by decide) (by decide) (by decide) (by decide) (by decide) (by decide) (by decide)) (n 58 (by decide) (by decide) (by decide) (by decide) (by decide) (by decide) (by decide)) e2.2⟩, by rw [n 45 (by decide) (by decide) (by decide) (by decide) (by decide) (by decide) (by decide)]; exact e3, pa, N, W,
    prgS_tr (n _ (by omega) (by omega) (by omega) (by omega) (by omega) (by omega) (by omega)) (n _ (by omega) (by omega) (by omega) (by omega) (by omega) (by omega) (by omega)) p1, prgM_tr (n 76 (by decide) (by decide) (by decide) (by decide) (by decide) (by decide) (by decide)) p2, by rw [n 20 (by decide) (by decide) (by decide) (by decide) (by decide) (by decide) (by decide)]; exact p3,
    ⟨s0A s.2.2.2.2.1, wT w 0, P', cRep_of (ht := 0) (cl := 0) (pc := 0) (a36 := a36) (a39 := a39) (a40 := a40) (a44 := a44) (rc := rc) ?_ ?_ ?_ ?_ ?_ ?_ ?_ ?_ ?_ ?_ ⟨c36, c39, c40, c44, fun _ => ⟨rfl, rfl, rfl, ⟨a36, rfl⟩, ⟨a39, rfl⟩, ⟨a40, rfl⟩⟩⟩, mRep_of (hi := 0) (un := 0) (pcv := 0) (a77 := a77) (a79 := a79) (a80 := a80) (a83 := a83) ?_ ?_ ?_ ?_ ?_ ?_ ?_ ?_ ⟨d77, d79, d80, d83, fun _ => ⟨rfl, rfl, rfl, ⟨a77, rfl⟩, ⟨a79, rfl⟩, ⟨a80, rfl⟩⟩⟩, okS_0 m3.1 m3.2.1, fun _ => okL_0 hP0, hP'⟩, ?_⟩
  · show mcBeg (S 35) = _
    rw [cq 35]
    rfl
  · exact (n 36 (by decide) (by decide) (by decide) (by decide) (by decide) (by decide) (by decide)).trans (cq 36)
  · exact k37
  · exact (n 38 (by decide) (by decide) (by decide) (by decide) (by decide) (by decide) (by decide)).trans (cq 38)
  · exact (n 39 (by decide) (by decide) (by decide) (by decide) (by decide) (by decide) (by decide)).trans (cq 39)
  · exact (n 40 (by decide) (by decide) (by decide) (by decide) (by decide) (by decide) (by decide)).trans (cq 40)
  · show tuBeg (S 41) = _
    rw [cq 41]
    rfl
  · exact (n 42 (by decide) (by decide) (by decide) (by decide) (by decide) (by decide) (by decide)).trans (cq 42)
  · exact k43
  · exact (n 44 (by decide) (by decide) (by decide) (by decide) (by decide) (by decide) (by decide)).trans (cq 44)
  · show mBeg ((S 56).set 0 (.int 0)) = _
    rw [mq 56]
    rfl
  · exact (n 77 (by decide) (by decide) (by decide) (by decide) (by decide) (by decide) (by decide)).trans (mq 77)
  · exact (n 78 (by decide) (by decide) (by decide) (by decide) (by decide) (by decide) (by decide)).trans (mq 78)
  · exact (n 79 (by decide) (by decide) (by decide) (by decide) (by decide) (by decide) (by decide)).trans (mq 79)
  · exact (n 80 (by decide) (by decide) (by decide) (by decide) (by decide) (by decide) (by decide)).trans (mq 80)
  · exact k37
  · exact k43
  · exact (n 83 (by decide) (by decide) (by decide) (by decide) (by decide) (by decide) (by decide)).trans (mq 83)
  · rcases p5 with z | ⟨T, tc, first, z1, z2, z3⟩
    · exact Or.inl z
    · exact Or.inr ⟨T, tc, first, trmS_tr (n _ (by omega) (by omega) (by omega) (by omega) (by omega) (by omega) (by omega)) (n _ (by omega) (by omega) (by omega) (by omega) (by omega) (by omega) (by omega)) (n _ (by omega) (by omega) (by omega) (by omega) (by omega) (by omega) (by omega)) (n _ (by omega) (by omega) (by omega) (by omega) (by omega) (by omega) (by omega)) z1, by rw [n _ (by omega) (by omega) (by omega) (by omega) (by omega) (by omega) (by omega)]; exact z2, tPrg_mono ht z3⟩
theorem iExt_0 (scr : List Value) : iExt aS0 (hA scr) := by
  have r : aS0 84 = sinL ∧ aS0 35 = kM 0 0 0 0 ∧ aS0 37 = List.replicate 8 (.float 0) ∧ aS0 38 = List.replicate 9 (.float 0) ∧ aS0 41 = kT 1098907648 1094713344 0 1 1 ∧ aS0 42 = kPi 0 ∧ aS0 43 = List.replicate 768 (.int 0) ∧ (aS0 36).length = 24 ∧ (aS0 39).length = 3 ∧ (aS0 40).length = 3 ∧ (aS0 44).length = 768 := by decide +kernel
  obtain ⟨r84, r35, r37, r38, r41, r42, r43, l36, l39, l40, l44⟩ := r
  have q : aS0 78 = List.replicate 9 (.float 0) ∧ aS0 81 = List.replicate 8 (.float 0) ∧ aS0 82 = List.replicate 768 (.int 0) ∧ (aS0 77).length = 24 ∧ (aS0 79).length = 3 ∧ (aS0 80).length = 3 ∧ (aS0 83).length = 768 := by decide +kernel
  obtain ⟨r78, r81, r82, l77, l79, l80, l83⟩ := q
  have r56 : aS0 56 = mM (fun i => (aS0 56).getD i .null) 0 0 0 0 0 1098907648 1094713344 0 1 1 := by decide +kernel
  have r45 : ∃ v0 v1 v2 v3, aS0 45 = [v0, v1, v2, v3] := ⟨_, _, _, _, rfl⟩
  have r26 : aS0 26 = List.replicate 160 (.long 0) ∧ aS0 58 = List.replicate 162 (.int 0) := by decide +kernel
  refine ⟨r84, ⟨rfl, fun j hj => ⟨0, ?_⟩, fun j hj => ⟨0, ?_⟩⟩, r45, 46, 0, fun _ => 27, ⟨Or.inl rfl, by decide, rfl, rfl, fun j hj => absurd hj (by omega), fun _ _ => rfl⟩, ⟨by decide, fun j hj => absurd hj (by omega)⟩, rfl, ⟨s0A (List.replicate 9 0), _, fun _ _ _ => True,
    cRep_of (ht := 0) (cl := 0) (pc := 0) r35 rfl (by rw [r37]; exact fl_rep.symm) (by rw [r38]; exact fl_rep.symm) rfl rfl r41 r42 (by rw [r43]; exact il_rep.symm) rfl ⟨l36, l39, l40, l44, fun _ => ⟨rfl, rfl, rfl, ⟨_, rfl⟩, ⟨_, rfl⟩, ⟨_, rfl⟩⟩⟩,
    mRep_of (hi := 0) (un := 0) (pcv := 0) r56 rfl (by rw [r78]; exact fl_rep.symm) rfl rfl (by rw [r81]; exact fl_rep.symm) (by rw [r82]; exact il_rep.symm) rfl ⟨l77, l79, l80, l83, fun _ => ⟨rfl, rfl, rfl, ⟨_, rfl⟩, ⟨_, rfl⟩, ⟨_, rfl⟩⟩⟩, okS_0 List.length_replicate (fun f hf => by rw [List.eq_of_mem_replicate hf]; exact gF_0), fun _ => okL_0 trivial, Or.inl rfl⟩, Or.inl rfl⟩
  · rw [r26.1, List.getElem?_replicate, if_pos hj]
  · rw [r26.2, List.getElem?_replicate, if_pos hj]
end EXTB
