/-! small methods -/
def aIs (v : Option Value) (h0 : aH) : aOut → aH → Prop := fun r h' => r = .inl v ∧ h' = h0
theorem eC1 {M : aMt} {d pc : Nat} {ls : aLc} {st : List Value} {h h' : aH} {res : aOut → aH → Prop} {I : Instr} {lk : aLk} {k : Nat} {M' : aMt} {as rest : List Value} {v : Option Value} (hf : aFind M.cd pc = some (I, lk)) (hs : aStep aCls aKn M I lk pc ls st h = some (.inr (.inr (k, as, rest)))) (hM : aP[k]? = some M')
    (hc : aCat rest + M'.nl ≤ 80 ∧ aCat as ≤ M'.nl) (hb : aE M' d 0 (lv_args 0 as) [] h (aIs v h')) (kk : aE M (d + 1) (pc + 3) ls (v.toList ++ rest) h' res) : aE M (d + 1) pc ls st h res :=
  eCH hf hs hM hc hb (fun v' h2 z => by obtain ⟨z1, rfl⟩ := z; cases z1; exact kk) (fun q h2 z => by cases z.1)
def outB (v lo hi : Int32) : Int32 := if v < lo ∨ hi < v then 1 else 0
theorem s_outside (d : Nat) (v lo hi : Int32) (h : aH) : aE aM166 d 0 [(0, .int v), (1, .int lo), (2, .int hi)] [] h (aIs (some (.int (outB v lo hi))) h) := by
  refine eS rfl rfl ?_
  refine eS rfl rfl ?_
  refine eILt rfl rfl (fun h1 => ?_) (fun h1 => ?_)
  · refine eS rfl rfl ?_
    refine eS rfl rfl ?_
    exact eR rfl rfl ⟨by rw [outB, if_pos (Or.inl h1)]; rfl, rfl⟩
  · refine eS rfl rfl ?_
    refine eS rfl rfl ?_
    refine eILe rfl rfl (fun h2 => ?_) (fun h2 => ?_)
    · refine eS rfl rfl ?_
      exact eR rfl rfl ⟨by rw [outB, if_neg (fun z => z.elim h1 (fun z => Int32.not_lt.mpr h2 z))]; rfl, rfl⟩
    · refine eS rfl rfl ?_
      refine eS rfl rfl ?_
      exact eR rfl rfl ⟨by rw [outB, if_pos (Or.inr (Int32.not_le.mp h2))]; rfl, rfl⟩
