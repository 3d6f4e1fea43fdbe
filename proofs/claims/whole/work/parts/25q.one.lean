/-! one word of the machine, on the class's side -/
section ONE
variable {W : Nat → Nat} {pc : Nat} {stk par vrs : List UInt32} {fr : aFr} {t : aTu} {an : Int32}
theorem oneA_st (hw : W pc = 0) : oneA W (an, pc, stk, fr, par, vrs, t) = (0, pc + 1, stk, fr, par, vrs, t) := by
  unfold oneA
  dsimp only
  rw [if_pos hw]
theorem oneA_jmp (hw : W pc = 14) : oneA W (an, pc, stk, fr, par, vrs, t) = (0, W (pc + 1), stk, fr, par, vrs, t) := by
  unfold oneA
  dsimp only
  rw [if_neg (by omega), if_pos hw]
theorem oneA_ret0 (hw : W pc = 17) : oneA W (an, pc, stk, [], par, vrs, t) = (1, pc, stk, [], par, vrs, t) := by
  unfold oneA
  dsimp only
  rw [if_neg (by omega), if_neg (by omega), if_pos hw]
theorem oneA_ret {b h : Nat} (hw : W pc = 17) : oneA W (an, pc, stk, (b, h) :: fr, par, vrs, t) = (0, b, stk.drop (stk.length - h), fr, par, vrs, t) := by
  unfold oneA
  dsimp only
  rw [if_neg (by omega), if_neg (by omega), if_pos hw]
theorem oneA_halt (hw : W pc = 27) : oneA W (an, pc, stk, fr, par, vrs, t) = (1, pc, stk, fr, par, vrs, t) := by
  unfold oneA
  dsimp only
  rw [if_neg (by omega), if_neg (by omega), if_neg (by omega), if_pos hw]
theorem oneA_call3 (hw : W pc = 16) (h3 : fr.length = 3) : oneA W (an, pc, stk, fr, par, vrs, t) = (14, pc, stk, fr, par, vrs, t) := by
  unfold oneA
  dsimp only
  rw [if_neg (by omega), if_neg (by omega), if_neg (by omega), if_neg (by omega), if_pos hw, if_pos h3]
theorem oneA_call (hw : W pc = 16) (h3 : ¬ fr.length = 3) : oneA W (an, pc, stk, fr, par, vrs, t) = (0, W (pc + 1), (entA (W (pc + 2)) (3 * fr.length) stk par).1, (pc + 3, (entA (W (pc + 2)) (3 * fr.length) stk par).1.length) :: fr, (entA (W (pc + 2)) (3 * fr.length) stk par).2, vrs, t) := by
  unfold oneA
  dsimp only
  rw [if_neg (by omega), if_neg (by omega), if_neg (by omega), if_neg (by omega), if_pos hw, if_neg h3]
theorem oneA_mov (hw : 18 ≤ W pc ∧ W pc ≤ 26) : oneA W (an, pc, stk, fr, par, vrs, t) = ((movA (W pc) stk t).1, pc + 1, (movA (W pc) stk t).2.1, fr, par, vrs, (movA (W pc) stk t).2.2) := by
  unfold oneA
  dsimp only
  rw [if_neg (by omega), if_neg (by omega), if_neg (by omega), if_neg (by omega), if_neg (by omega), if_pos hw]
theorem oneA_if {f : UInt32} (hw : W pc = 15 ∨ W pc = 29) : oneA W (an, pc, f :: stk, fr, par, vrs, t) = (0, if FP.fcmp f 0 = some .eq then W (pc + 1) else pc + 2, stk, fr, par, vrs, t) := by
  unfold oneA
  dsimp only
  rw [if_neg (by omega), if_neg (by omega), if_neg (by omega), if_neg (by omega), if_neg (by omega), if_neg (by omega), if_pos hw]
theorem oneA_rep {f : UInt32} (hw : W pc = 28) : oneA W (an, pc, f :: stk, fr, par, vrs, t) = (0, if (turnA f stk).1 then pc + 2 else W (pc + 1), (turnA f stk).2, fr, par, vrs, t) := by
  unfold oneA
  dsimp only
  rw [if_neg (by omega), if_neg (by omega), if_neg (by omega), if_neg (by omega), if_neg (by omega), if_neg (by omega), if_neg (by omega), if_pos hw]
theorem oneA_op (hw : 1 ≤ W pc ∧ W pc ≤ 13) : oneA W (an, pc, stk, fr, par, vrs, t) = ((opA (W pc) (W (pc + 1)) (W (pc + 2)) fr.length stk par vrs).1, pc + lenA (W pc), (opA (W pc) (W (pc + 1)) (W (pc + 2)) fr.length stk par vrs).2.1, fr, (opA (W pc) (W (pc + 1)) (W (pc + 2)) fr.length stk par vrs).2.2.1, (opA (W pc) (W (pc + 1)) (W (pc + 2)) fr.length stk par vrs).2.2.2, t) := by
  unfold oneA
  dsimp only
  rw [if_neg (by omega), if_neg (by omega), if_neg (by omega), if_neg (by omega), if_neg (by omega), if_neg (by omega), if_neg (by omega), if_neg (by omega)]
/-- what the word at a place wants, sorted -/
theorem tyW_op {P : Nat → Nat → Bool → Prop} {k : Nat} {f : Bool} (h : tyW W P pc k f) (hk : k ≤ stk.length) (hf : f = true → fr ≠ []) (h3 : fr.length ≤ 3) :
    (W pc = 0 ∧ P (pc + 1) k f) ∨ (W pc = 14 ∧ P (W (pc + 1)) k f) ∨ W pc = 17 ∨ W pc = 27 ∨ (W pc = 16 ∧ W (pc + 2) ≤ 3 ∧ W (pc + 2) ≤ k ∧ P (W (pc + 1)) 0 true ∧ P (pc + 3) (k - W (pc + 2)) f) ∨
    ((W pc = 15 ∨ W pc = 29) ∧ 1 ≤ k ∧ P (W (pc + 1)) (k - 1) f ∧ P (pc + 2) (k - 1) f) ∨ (W pc = 28 ∧ 1 ≤ k ∧ P (W (pc + 1)) (k - 1) f ∧ P (pc + 2) k f) ∨
    (movOk (W pc) stk.length ∧ (18 ≤ W pc ∧ W pc ≤ 26) ∧ (W pc ≤ 22 → 1 ≤ k) ∧ P (pc + 1) (if W pc ≤ 22 then k - 1 else k) f) ∨
    (opOk (W pc) (W (pc + 1)) (W (pc + 2)) fr.length stk.length ∧ (1 ≤ W pc ∧ W pc ≤ 13) ∧ (3 < W pc → 1 ≤ k) ∧ P (pc + lenA (W pc)) (if W pc ≤ 3 then k + 1 else if W pc = 10 then k else k - 1) f) := by
  have hcl : f = true → 1 ≤ fr.length := fun z => List.length_pos_iff.mpr (hf z)
  rcases h with ⟨w, p⟩ | ⟨w, a, b, p⟩ | ⟨w, a, p⟩ | ⟨w, ff, a, p⟩ | ⟨w, a, b, p⟩ | ⟨w, ff, a, b, p⟩ | ⟨w, a, p⟩ | ⟨w, a, p⟩ | ⟨w, a, p⟩ | ⟨w, p⟩ | ⟨w, a, p, q⟩ | ⟨w, a, p, q⟩ | ⟨w, a, b, p, q⟩ | w | w | ⟨w, a, p⟩ | ⟨w, p⟩
  · exact Or.inl ⟨w, p⟩
  · refine Or.inr (Or.inr (Or.inr (Or.inr (Or.inr (Or.inr (Or.inr (Or.inr ⟨Or.inl ⟨w, a, by omega⟩, by omega, by omega, ?_⟩)))))))
    rw [w]
    exact p
  · refine Or.inr (Or.inr (Or.inr (Or.inr (Or.inr (Or.inr (Or.inr (Or.inr ⟨Or.inr (Or.inl ⟨w, a⟩), by omega, by omega, ?_⟩)))))))
    rw [w]
    exact p
  · refine Or.inr (Or.inr (Or.inr (Or.inr (Or.inr (Or.inr (Or.inr (Or.inr ⟨Or.inr (Or.inr (Or.inl ⟨w, hcl ff, h3, a⟩)), by omega, by omega, ?_⟩)))))))
    rw [w]
    exact p
  · refine Or.inr (Or.inr (Or.inr (Or.inr (Or.inr (Or.inr (Or.inr (Or.inr ⟨Or.inr (Or.inr (Or.inr (Or.inl ⟨w, a, by omega⟩))), by omega, by omega, ?_⟩)))))))
    rw [w]
    exact p
  · refine Or.inr (Or.inr (Or.inr (Or.inr (Or.inr (Or.inr (Or.inr (Or.inr ⟨Or.inr (Or.inr (Or.inr (Or.inr (Or.inl ⟨w, hcl ff, h3, a, by omega⟩)))), by omega, by omega, ?_⟩)))))))
    rw [w]
    exact p
  · refine Or.inr (Or.inr (Or.inr (Or.inr (Or.inr (Or.inr (Or.inr (Or.inr ⟨Or.inr (Or.inr (Or.inr (Or.inr (Or.inr (Or.inl ⟨w, by omega⟩))))), by omega, by omega, ?_⟩)))))))
    rcases w with w | w | w | w <;> rw [w] <;> exact p
  · refine Or.inr (Or.inr (Or.inr (Or.inr (Or.inr (Or.inr (Or.inr (Or.inr ⟨Or.inr (Or.inr (Or.inr (Or.inr (Or.inr (Or.inr (Or.inl ⟨w, by omega⟩)))))), by omega, by omega, ?_⟩)))))))
    rw [w]
    exact p
  · refine Or.inr (Or.inr (Or.inr (Or.inr (Or.inr (Or.inr (Or.inr (Or.inr ⟨Or.inr (Or.inr (Or.inr (Or.inr (Or.inr (Or.inr (Or.inr ⟨w, by omega⟩)))))), by omega, by omega, ?_⟩)))))))
    rcases w with w | w | w <;> rw [w] <;> exact p
  · exact Or.inr (Or.inl ⟨w, p⟩)
  · exact Or.inr (Or.inr (Or.inr (Or.inr (Or.inr (Or.inl ⟨w, a, p, q⟩)))))
  · exact Or.inr (Or.inr (Or.inr (Or.inr (Or.inr (Or.inr (Or.inl ⟨w, a, p, q⟩))))))
  · exact Or.inr (Or.inr (Or.inr (Or.inr (Or.inl ⟨w, a, b, p, q⟩))))
  · exact Or.inr (Or.inr (Or.inl w))
  · exact Or.inr (Or.inr (Or.inr (Or.inl w)))
  · refine Or.inr (Or.inr (Or.inr (Or.inr (Or.inr (Or.inr (Or.inr (Or.inl ⟨Or.inl ⟨w, by omega⟩, by omega, by omega, ?_⟩)))))))
    rcases w with w | w | w | w | w <;> rw [w] <;> exact p
  · refine Or.inr (Or.inr (Or.inr (Or.inr (Or.inr (Or.inr (Or.inr (Or.inl ⟨Or.inr w, by omega, by omega, ?_⟩)))))))
    rcases w with w | w | w | w <;> rw [w] <;> exact p
theorem drop_mem {l : List UInt32} {k : Nat} (h : ∀ f ∈ l, gF f) : ∀ f ∈ l.drop k, gF f := fun f hf => h f (List.mem_of_mem_drop hf)
theorem oneA_ok {P : Nat → Nat → Bool → Prop} {N : Nat} (hC : cOk W N P) (hS : okS (an, pc, stk, fr, par, vrs, t)) (hL : okL P (an, pc, stk, fr, par, vrs, t)) : okS (oneA W (an, pc, stk, fr, par, vrs, t)) ∧ ((oneA W (an, pc, stk, fr, par, vrs, t)).1 = 0 → okL P (oneA W (an, pc, stk, fr, par, vrs, t))) := by
  obtain ⟨s1, s2, s3, s4, s5⟩ := hS
  obtain ⟨l1, l2, l3, l4⟩ := hL
  dsimp only at s1 s2 s3 s4 s5 l1 l2 l3 l4
  obtain ⟨k, f, hP, hk, hf, hF⟩ := tyF_top l4
  obtain ⟨hpc, hT, hJ⟩ := hC.2 pc k f hP
  rcases tyW_op hT hk hf l3 with ⟨w, p⟩ | ⟨w, p⟩ | w | w | ⟨w, a, b, p, q⟩ | ⟨w, a, p, q⟩ | ⟨w, a, p, q⟩ | ⟨o, w, a, p⟩ | ⟨o, w, a, p⟩
  · rw [oneA_st w]
    refine ⟨⟨s1, s2, s3, s4, s5⟩, fun _ => ⟨l1, l2, l3, ?_⟩⟩
    have := hF _ _ p
    rw [show stk.length - k + k = stk.length by omega] at this
    exact this
  · rw [oneA_jmp w]
    refine ⟨⟨s1, s2, s3, s4, s5⟩, fun _ => ⟨l1, l2, l3, ?_⟩⟩
    have := hF _ _ p
    rw [show stk.length - k + k = stk.length by omega] at this
    exact this
  · match fr, l3, l4 with
    | [], _, _ =>
      rw [oneA_ret0 w]
      exact ⟨⟨s1, s2, s3, s4, s5⟩, fun z => absurd (show (1 : Int32) = 0 from z) (by decide)⟩
    | (b, h) :: fr', l3, l4 =>
      rw [oneA_ret w]
      obtain ⟨m1, m2, m3⟩ := l4
      refine ⟨⟨s1, s2, s3, s4, s5⟩, fun _ => ⟨by dsimp only; rw [List.length_drop]; omega, drop_mem l2, by simp at l3; dsimp only; omega, ?_⟩⟩
      dsimp only
      rw [List.length_drop, show stk.length - (stk.length - h) = h by omega]
      exact m3
  · rw [oneA_halt w]
    exact ⟨⟨s1, s2, s3, s4, s5⟩, fun z => absurd (show (1 : Int32) = 0 from z) (by decide)⟩
  · by_cases h3 : fr.length = 3
    · rw [oneA_call3 w h3]
      exact ⟨⟨s1, s2, s3, s4, s5⟩, fun z => absurd (show (14 : Int32) = 0 from z) (by decide)⟩
    · rw [oneA_call w h3]
      have e := entA_len (c := W (pc + 2)) (b := 3 * fr.length) (stk := stk) (par := par) (by omega)
      have g := entA_gF (c := W (pc + 2)) (b := 3 * fr.length) l2 s2
      refine ⟨⟨e.2.trans s1, g.2, s3, s4, s5⟩, fun _ => ⟨by dsimp only; rw [e.1]; omega, g.1, by simp; omega, ?_⟩⟩
      dsimp only
      refine ⟨Nat.le_refl _, by rw [Nat.sub_self]; exact p, ?_⟩
      have := hF _ _ q
      rw [show stk.length - k + (k - W (pc + 2)) = stk.length - W (pc + 2) by omega] at this
      rw [e.1]
      exact this
  · match stk, l1, l2, hk, hF with
    | [], _, _, hk, _ => simp at hk; omega
    | f0 :: r, l1, l2, hk, hF =>
      rw [oneA_if w]
      refine ⟨⟨s1, s2, s3, s4, s5⟩, fun _ => ⟨by simp at l1; dsimp only; omega, fun x hx => l2 x (List.mem_cons_of_mem _ hx), l3, ?_⟩⟩
      dsimp only
      have e : r.length = (f0 :: r).length - k + (k - 1) := by simp at hk ⊢; omega
      split
      · rw [e]; exact hF _ _ p
      · rw [e]; exact hF _ _ q
  · match stk, l1, l2, hk, hF with
    | [], _, _, hk, _ => simp at hk; omega
    | f0 :: r, l1, l2, hk, hF =>
      rw [oneA_rep w]
      have g0 := l2 f0 (by simp)
      have gr : ∀ x ∈ r, gF x := fun x hx => l2 x (List.mem_cons_of_mem _ hx)
      by_cases ht : FP.fcmp f0 1065353216 = some .lt
      · have e : turnA f0 r = (false, r) := if_pos ht
        rw [e]
        refine ⟨⟨s1, s2, s3, s4, s5⟩, fun _ => ⟨by simp at l1; dsimp only; omega, gr, l3, ?_⟩⟩
        have e : r.length = (f0 :: r).length - k + (k - 1) := by simp at hk ⊢; omega
        show tyF P fr (W (pc + 1)) r.length
        rw [e]; exact hF _ _ p
      · have e : turnA f0 r = (true, FP.fsub f0 1065353216 :: r) := if_neg ht
        rw [e]
        refine ⟨⟨s1, s2, s3, s4, s5⟩, fun _ => ⟨by simp at l1 ⊢; omega, fun x hx => ?_, l3, ?_⟩⟩
        · rcases List.mem_cons.mp hx with rfl | hx
          · exact gF_turn g0 ht
          · exact gr x hx
        · have e : (FP.fsub f0 1065353216 :: r).length = (f0 :: r).length - k + k := by simp at hk ⊢; omega
          show tyF P fr (pc + 2) (FP.fsub f0 1065353216 :: r).length
          rw [e]; exact hF _ _ q
  · rw [oneA_mov w]
    obtain ⟨m1, m2, m3⟩ := movA_ok (t := t) o l1 l2 s5
    refine ⟨⟨s1, s2, s3, s4, m3⟩, fun _ => ⟨by dsimp only; rw [m1]; split <;> omega, m2, l3, ?_⟩⟩
    dsimp only
    have := hF _ _ p
    rw [m1]
    rw [show stk.length - k + (if W pc ≤ 22 then k - 1 else k) = (if W pc ≤ 22 then stk.length - 1 else stk.length) by split <;> omega] at this
    exact this
  · rw [oneA_op w]
    obtain ⟨m1, m2, m3, m4, m5, m6, m7⟩ := opA_ok o l1 l2 s2 s4
    refine ⟨⟨m3.trans s1, m4, m5.trans s3, m6, s5⟩, fun z => ⟨m1, m2, l3, ?_⟩⟩
    dsimp only
    have := hF _ _ p
    rw [m7 z]
    rw [show stk.length - k + (if W pc ≤ 3 then k + 1 else if W pc = 10 then k else k - 1) = (if W pc ≤ 3 then stk.length + 1 else if W pc = 10 then stk.length else stk.length - 1) by (repeat' split) <;> omega] at this
    exact this
end ONE
