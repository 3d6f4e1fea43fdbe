/-! the model's short methods -/
section MDL
variable {d : Nat} {h : aH} {vs pl vl : List Value} {a b : Int32}
abbrev mT (h : aH) (vs : List Value) (t : Int32) : aH := h.set 56 (36, vs.set 0 (.int t))
theorem s_thrown {t : Int32} (h56 : h[56]? = some (36, vs)) (ht : vs[0]? = some (.int t)) : aE aM164 d 0 [(0, .ref 56)] [] h (aIs (some (.int t)) h) := by
  refine eS rfl rfl ?_
  refine eGet rfl h56 rfl ht ?_
  exact eR rfl rfl ⟨rfl, rfl⟩
theorem s_thrown_at {t : Int32} (hl : 57 ≤ h.length) (hn : vs.length = 49) : aE aM164 d 0 [(0, .ref 56)] [] (mT h vs t) (aIs (some (.int t)) (mT h vs t)) :=
  s_thrown (gS (by omega)) (List.getElem?_set_self (by omega))
theorem s_refuse (hl : 57 ≤ h.length) (h56 : h[56]? = some (36, vs)) (hn : vs.length = 49) : aE aM200 d 0 [(0, .ref 56), (1, .int a)] [] h (aIs (some (.int 0)) (mT h vs a)) := by
  refine eS rfl rfl ?_
  refine eS rfl rfl ?_
  refine ePut rfl h56 rfl rfl (by decide) (by show 0 < vs.length; omega) rfl rfl ?_
  refine eS rfl rfl ?_
  exact eR rfl rfl ⟨rfl, rfl⟩
theorem s_mclear (hl : 57 ≤ h.length) (h56 : h[56]? = some (36, vs)) (hn : vs.length = 49) : aE aM167 d 0 [(0, .ref 56)] [] h (aIs none (h.set 56 (36, (vs.set 0 (.int 0)).set 2 (.int 0)))) := by
  refine eS rfl rfl ?_
  refine eS rfl rfl ?_
  refine ePut rfl h56 rfl rfl (by decide) (by show 0 < vs.length; omega) rfl rfl ?_
  refine eS rfl rfl ?_
  refine eS rfl rfl ?_
  refine ePut rfl (gS (by omega)) rfl rfl (by decide) (by rw [List.length_set]; show 2 < vs.length; omega) rfl rfl ?_
  rw [uS]
  exact eR rfl rfl ⟨rfl, rfl⟩
theorem sT {vs : List Value} {k : Nat} {t v : Value} (hk : 0 ≠ k) (h : vs[k]? = some v) : (vs.set 0 t)[k]? = some v := (List.getElem?_set_ne hk).trans h
theorem s_merror (hl : 57 ≤ h.length) (h56 : h[56]? = some (36, vs)) (hn : vs.length = 49) (hr : vs[3]? = some (.int a)) : aE aM201 d 0 [(0, .ref 56)] [] h (aIs (some (.int a)) (mT h vs 0)) := by
  refine eS rfl rfl ?_
  refine eS rfl rfl ?_
  refine ePut rfl h56 rfl rfl (by decide) (by show 0 < vs.length; omega) rfl rfl ?_
  refine eS rfl rfl ?_
  refine eGet rfl (gS (by omega)) rfl (sT (by decide) hr) ?_
  exact eR rfl rfl ⟨rfl, rfl⟩
theorem s_msize (hl : 57 ≤ h.length) (h56 : h[56]? = some (36, vs)) (hn : vs.length = 49) (hr : vs[30]? = some (.int a)) : aE aM202 d 0 [(0, .ref 56)] [] h (aIs (some (.int a)) (mT h vs 0)) := by
  refine eS rfl rfl ?_
  refine eS rfl rfl ?_
  refine ePut rfl h56 rfl rfl (by decide) (by show 0 < vs.length; omega) rfl rfl ?_
  refine eS rfl rfl ?_
  refine eGet rfl (gS (by omega)) rfl (sT (by decide) hr) ?_
  exact eR rfl rfl ⟨rfl, rfl⟩
theorem s_mheading (hl : 57 ≤ h.length) (h56 : h[56]? = some (36, vs)) (hn : vs.length = 49) (hr : vs[43]? = some (.int a)) : aE aM232 d 0 [(0, .ref 56)] [] h (aIs (some (.int a)) (mT h vs 0)) := by
  refine eS rfl rfl ?_
  refine eS rfl rfl ?_
  refine ePut rfl h56 rfl rfl (by decide) (by show 0 < vs.length; omega) rfl rfl ?_
  refine eS rfl rfl ?_
  refine eGet rfl (gS (by omega)) rfl (sT (by decide) hr) ?_
  exact eR rfl rfl ⟨rfl, rfl⟩
theorem s_mx {f : UInt32} (hl : 57 ≤ h.length) (h56 : h[56]? = some (36, vs)) (hn : vs.length = 49) (hr : vs[41]? = some (.float f)) : aE aM230 d 0 [(0, .ref 56)] [] h (aIs (some (.float f)) (mT h vs 0)) := by
  refine eS rfl rfl ?_
  refine eS rfl rfl ?_
  refine ePut rfl h56 rfl rfl (by decide) (by show 0 < vs.length; omega) rfl rfl ?_
  refine eS rfl rfl ?_
  refine eGet rfl (gS (by omega)) rfl (sT (by decide) hr) ?_
  exact eR rfl rfl ⟨rfl, rfl⟩
theorem s_my {f : UInt32} (hl : 57 ≤ h.length) (h56 : h[56]? = some (36, vs)) (hn : vs.length = 49) (hr : vs[42]? = some (.float f)) : aE aM231 d 0 [(0, .ref 56)] [] h (aIs (some (.float f)) (mT h vs 0)) := by
  refine eS rfl rfl ?_
  refine eS rfl rfl ?_
  refine ePut rfl h56 rfl rfl (by decide) (by show 0 < vs.length; omega) rfl rfl ?_
  refine eS rfl rfl ?_
  refine eGet rfl (gS (by omega)) rfl (sT (by decide) hr) ?_
  exact eR rfl rfl ⟨rfl, rfl⟩
theorem outB_0 {v lo hi : Int32} (h1 : ¬ v < lo) (h2 : ¬ hi < v) : outB v lo hi = 0 := if_neg (fun z => z.elim h1 h2)
theorem outB_1 {v lo hi : Int32} (h1 : v < lo ∨ hi < v) : outB v lo hi = 1 := if_pos h1
/-- the picture's places -/
def inB (a b : Int32) : Bool := decide (¬ a < 0) && decide (¬ 31 < a) && decide (¬ b < 0) && decide (¬ 23 < b)
theorem s_inside : aE aM222 (d + 1) 0 [(0, .int a), (1, .int b)] [] h (aIs (some (.int (if inB a b then 1 else 0))) h) := by
  refine eS rfl rfl ?_
  refine eS rfl rfl ?_
  refine eS rfl rfl ?_
  refine eC1 rfl rfl rfl ⟨catOk rfl, catOk rfl⟩ (s_outside d a 0 31 h) ?_
  by_cases h1 : a < 0 ∨ 31 < a
  · rw [outB_1 h1]
    refine eNe rfl rfl (fun _ => ?_) (fun z => absurd z (by decide))
    refine eS rfl rfl ?_
    refine eR rfl rfl ⟨?_, rfl⟩
    rw [if_neg]
    · rfl
    · simp only [inB, Bool.and_eq_true, decide_eq_true_eq]
      rintro ⟨⟨⟨q1, q2⟩, -⟩, -⟩
      exact h1.elim q1 q2
  · have h1a : ¬ a < 0 := fun z => h1 (Or.inl z)
    have h1b : ¬ 31 < a := fun z => h1 (Or.inr z)
    rw [outB_0 h1a h1b]
    refine eNe rfl rfl (fun z => absurd rfl z) (fun _ => ?_)
    refine eS rfl rfl ?_
    refine eS rfl rfl ?_
    refine eS rfl rfl ?_
    refine eC1 rfl rfl rfl ⟨catOk rfl, catOk rfl⟩ (s_outside d b 0 23 h) ?_
    by_cases h2 : b < 0 ∨ 23 < b
    · rw [outB_1 h2]
      refine eNe rfl rfl (fun _ => ?_) (fun z => absurd z (by decide))
      refine eS rfl rfl ?_
      refine eR rfl rfl ⟨?_, rfl⟩
      rw [if_neg]
      · rfl
      · simp only [inB, Bool.and_eq_true, decide_eq_true_eq]
        rintro ⟨⟨-, q1⟩, q2⟩
        exact h2.elim q1 q2
    · have h2a : ¬ b < 0 := fun z => h2 (Or.inl z)
      have h2b : ¬ 23 < b := fun z => h2 (Or.inr z)
      rw [outB_0 h2a h2b]
      refine eNe rfl rfl (fun z => absurd rfl z) (fun _ => ?_)
      refine eS rfl rfl ?_
      refine eS rfl rfl ?_
      refine eR rfl rfl ⟨?_, rfl⟩
      rw [if_pos]
      · rfl
      · simp only [inB, Bool.and_eq_true, decide_eq_true_eq]
        exact ⟨⟨⟨h1a, h1b⟩, h2a⟩, h2b⟩
end MDL
