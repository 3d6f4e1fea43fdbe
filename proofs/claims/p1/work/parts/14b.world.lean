/-! the tables' words for this claim's classes and methods; the start's heap as a list of objects -/
def aClsB : List (vw_C × List FieldType) → List (List aQ) → Bool
  | [], _ => true
  | _ :: _, [] => false
  | r :: l, q :: qs => decide (r.2.length = r.1.2.2) && (List.range r.1.2.2).all (fun k => decide (r.2[k]?.isSome = true) && decide (parseFieldDescriptor (r.1.2.1 k).2.2.1 = r.2[k]?)) && (List.range r.1.2.2).all (fun a => (List.range r.1.2.2).all (fun b => a == b || decide ((r.1.2.1 a).2.1 ≠ (r.1.2.1 b).2.1))) &&
    (decide (r.1.1 = "java/lang/String") || (match q with
      | [] => false
      | q0 :: q' => aHas q0 (.instantiable r.1.1 r.1.2.2) && aHasL (u_ws r.1.1 r.1.2.1 r.1.2.2) q')) && aClsB l qs
theorem aCls_rows : aClsB aCls aClq = true := by decide +kernel
theorem aClsB_ok : ∀ {l : List (vw_C × List FieldType)} {qs : List (List aQ)}, aClsB l qs = true → ∀ (i : Nat) (r : vw_C × List FieldType), l[i]? = some r →
    r.2.length = r.1.2.2 ∧ (∀ k ty, r.2[k]? = some ty → parseFieldDescriptor (r.1.2.1 k).2.2.1 = some ty) ∧ (∀ a, a < r.1.2.2 → ∀ b, b < r.1.2.2 → a ≠ b → (r.1.2.1 a).2.1 ≠ (r.1.2.1 b).2.1) ∧
    (aOwn r → ∀ U : State, aTb U → ∀ A : Array Value, (Cond.instantiable r.1.1 r.1.2.2).before A U = true ∧ ∀ w ∈ u_ws r.1.1 r.1.2.1 r.1.2.2, w.before A U = true)
  | [], _, _, i, r, hr => by simp at hr
  | r0 :: l, [], h, i, r, hr => by simp [aClsB] at h
  | r0 :: l, q :: qs, h, i, r, hr => by
    simp only [aClsB, Bool.and_eq_true, decide_eq_true_eq, Bool.or_eq_true] at h
    obtain ⟨⟨⟨⟨h1, h2⟩, h3⟩, h4⟩, h5⟩ := h
    cases i with
    | succ i =>
      rw [List.getElem?_cons_succ] at hr
      exact aClsB_ok h5 i r hr
    | zero =>
      rw [List.getElem?_cons_zero] at hr
      cases hr
      refine ⟨h1, fun k ty hk => ?_, fun a ha b hb hab => ?_, fun ho U hT A => ?_⟩
      · have hlt : k < r0.1.2.2 := by rw [← h1]; exact (List.getElem?_eq_some_iff.mp hk).1
        have := List.all_eq_true.mp h2 k (List.mem_range.mpr hlt)
        simp only [Bool.and_eq_true, decide_eq_true_eq] at this
        rw [this.2, hk]
      · have := List.all_eq_true.mp (List.all_eq_true.mp h3 a (List.mem_range.mpr ha)) b (List.mem_range.mpr hb)
        simp only [Bool.or_eq_true, beq_iff_eq, decide_eq_true_eq] at this
        rcases this with h | h
        · exact absurd h hab
        · exact h
      · rcases h4 with h4 | h4
        · exact absurd h4 ho
        · split at h4
          · cases h4
          · rw [Bool.and_eq_true] at h4
            refine ⟨aHas_ok h4.1 hT A, fun w hw => aHasL_ok h4.2 hT w hw ?_ A⟩
            unfold u_ws at hw
            obtain ⟨k, -, rfl⟩ := List.mem_map.mp hw
            unfold u_lay
            split <;> rfl
theorem aMeth_of {U : State} {M : aMt} (hp : plainFor M.nm = true) (hc : M.hd = [] → (Cond.code M.nm M.by M.nl M.rt).before #[] U = true) (hw : M.hd ≠ [] → ∃ hs, (Cond.codeWith M.nm M.by M.nl M.rt hs).before #[] U = true) : aMeth U M := by
  refine ⟨hp, ?_⟩
  by_cases hh : M.hd = []
  · obtain ⟨mk, hn⟩ := Cond.code_named (hc hh)
    obtain ⟨meth, c, h1, h2, h3, h4, h5, h6, h7, h8⟩ := Cond.code_spec hn (hc hh)
    refine ⟨mk, meth, c, hn, h1, h2, h3, h4, h5, h6, fun _ => ?_, h8⟩
    have : c.exceptionTable = #[] := by simpa using h7
    rw [this]
  · obtain ⟨hs, hw⟩ := hw hh
    obtain ⟨mk, meth, c, hn, h1, h2, h3, h4, h5, h6, h7, h8⟩ := Cond.codeWith_spec hw
    exact ⟨mk, meth, c, hn, h1, h2, h3, h4, h6, h7, (fun z => absurd z hh), h8⟩
theorem aMeths_ok : ∀ M ∈ aPs, plainFor M.nm = true ∧ ∀ U : State, aTb U → ∀ A : Array Value, (aMwd M).before A U = true :=
  fun M hM => ⟨aPlB_ok (List.all_eq_true.mp aPls M hM), fun U hT A => hT _ (aMws M hM) (aMwd_good M) A⟩
theorem aMwd_no {M : aMt} (h : M.hd = []) : aMwd M = .code M.nm M.by M.nl M.rt := by
  unfold aMwd
  rw [h]
theorem aMwd_hd {M : aMt} (h : M.hd ≠ []) : aMwd M = .codeWith M.nm M.by M.nl M.rt ((aHs M.hd).map (fun q => (q.1.1, q.1.2.1, q.1.2.2.1, q.2))) := by
  unfold aMwd
  split
  · rename_i h0; exact absurd h0 h
  · rename_i h0; rw [h0]
theorem aHd_law : aMlaw.hd = [] := rfl
/-- the classes that a handler of the law's names -/
def aHdB (M : aMt) : Bool := M.hd.all (fun q => decide (M.nm.cls = "TurtleDeskLaw") && (decide (q.2.2.2 = 10) || decide (q.2.2.2 = 12) || decide (q.2.2.2 = 13)))
theorem aHdB_ok {M : aMt} (h : aHdB M = true) {q : (Nat × Nat × Nat × Nat) × Nat} (hq : q ∈ aHs M.hd) : M.nm.cls = "TurtleDeskLaw" ∧ (q.1.2.2.2 = 10 ∧ q.2 = 13 ∨ q.1.2.2.2 = 12 ∧ q.2 = 15 ∨ q.1.2.2.2 = 13 ∧ q.2 = 21) := by
  unfold aHs at hq
  obtain ⟨q0, hq0, rfl⟩ := List.mem_map.mp hq
  have := List.all_eq_true.mp h q0 hq0
  simp only [Bool.and_eq_true, decide_eq_true_eq, Bool.or_eq_true] at this
  obtain ⟨h1, (h2 | h2) | h2⟩ := this
  · exact ⟨h1, Or.inl ⟨h2, by show aCt q0.2.2.2 = 13; rw [h2]; rfl⟩⟩
  · exact ⟨h1, Or.inr (Or.inl ⟨h2, by show aCt q0.2.2.2 = 15; rw [h2]; rfl⟩)⟩
  · exact ⟨h1, Or.inr (Or.inr ⟨h2, by show aCt q0.2.2.2 = 21; rw [h2]; rfl⟩)⟩
theorem aHs_fst (hd : List (Nat × Nat × Nat × Nat)) : hd = (aHs hd).map (·.1) := by
  unfold aHs
  rw [List.map_map]
  exact (List.map_id hd).symm
theorem aHd_rows : aPs.all aHdB = true := by decide +kernel
theorem aCl_13 : Cond.classLink "TurtleDeskLaw" 13 "java/lang/IllegalArgumentException" ∈ lw_tbl ∧ Cond.classLink "TurtleDeskLaw" 15 "java/lang/IllegalStateException" ∈ lw_tbl ∧ Cond.classLink "TurtleDeskLaw" 21 "java/lang/IndexOutOfBoundsException" ∈ lw_tbl := by decide +kernel
