/-! a region is filled: what both sides do, up to the order of neighbours -/
def qA (q : List Nat) (g : List Value) : List Value := q.map (fun k => Value.int (Int32.ofNat k)) ++ g
theorem qA_get {q : List Nat} {g : List Value} {k : Nat} (h : k < q.length) : (qA q g)[k]? = some (.int (Int32.ofNat (q.getD k 0))) := by
  unfold qA
  rw [List.getElem?_append_left (by rw [List.length_map]; exact h), List.getElem?_map, List.getD_eq_getElem?_getD, List.getElem?_eq_getElem h]
  rfl
theorem qA_push {q : List Nat} {v : Value} {g : List Value} {j : Nat} : (qA q (v :: g)).set q.length (.int (Int32.ofNat j)) = qA (q ++ [j]) g := by
  unfold qA
  rw [List.set_append_right _ _ (by rw [List.length_map]; exact Nat.le_refl _)]
  simp
theorem qA_len {q : List Nat} {g : List Value} : (qA q g).length = q.length + g.length := by simp [qA]
abbrev aPq : Type := List Int32 × List Nat
def rchA (was co : Int32) (st : aPq) (a b : Int32) : aPq := if inB a b && st.1.getD (ixB a b) 0 == was then (st.1.set (ixB a b) co, st.2 ++ [ixB a b]) else st
def nbrC (q : Nat) : List (Int32 × Int32) := [(Int32.ofNat (q % 32) + 1, Int32.ofNat (q / 32)), (Int32.ofNat (q % 32) - 1, Int32.ofNat (q / 32)), (Int32.ofNat (q % 32), Int32.ofNat (q / 32) + 1), (Int32.ofNat (q % 32), Int32.ofNat (q / 32) - 1)]
def nbrM (q : Nat) : List (Int32 × Int32) := [(Int32.ofNat (q % 32) - 1, Int32.ofNat (q / 32)), (Int32.ofNat (q % 32) + 1, Int32.ofNat (q / 32)), (Int32.ofNat (q % 32), Int32.ofNat (q / 32) - 1), (Int32.ofNat (q % 32), Int32.ofNat (q / 32) + 1)]
def allA (was co : Int32) (st : aPq) (l : List (Int32 × Int32)) : aPq := l.foldl (fun s p => rchA was co s p.1 p.2) st
def bfsA (nb : Nat → List (Int32 × Int32)) (was co : Int32) : Nat → Nat → aPq → aPq
  | 0, _, st => st
  | f + 1, k, st => if k < st.2.length then bfsA nb was co f (k + 1) (allA was co st (nb (st.2.getD k 0))) else st
def filA (nb : Nat → List (Int32 × Int32)) (px : List Int32) (a b co : Int32) : aPq := if inB a b && px.getD (ixB a b) 0 != co then bfsA nb (px.getD (ixB a b) 0) co 769 0 (rchA (px.getD (ixB a b) 0) co (px, []) a b) else (px, [])
/-- the row of those that were reached never runs over -/
def filI (was : Int32) (st : aPq) : Prop := st.1.length = 768 ∧ st.2.length + st.1.count was ≤ 768 ∧ ∀ q ∈ st.2, q < 768
theorem rchA_I {was co : Int32} {st : aPq} {a b : Int32} (hne : was ≠ co) (h : filI was st) : filI was (rchA was co st a b) := by
  unfold rchA
  split
  · rename_i hc
    rw [Bool.and_eq_true, beq_iff_eq] at hc
    obtain ⟨h1, h2, h3⟩ := h
    have hi := (inB_ix hc.1).1
    have hg : st.1[ixB a b]'(by omega) = was := by
      have := hc.2
      rw [List.getD_eq_getElem?_getD, List.getElem?_eq_getElem (by omega)] at this
      exact this
    refine ⟨by rw [List.length_set]; exact h1, ?_, fun q hq => ?_⟩
    · have hp : 0 < st.1.count was := List.count_pos_iff.mpr (by rw [← hg]; exact List.getElem_mem _)
      dsimp only
      rw [List.count_set (by omega), hg, List.length_append]
      simp only [beq_self_eq_true, if_true, List.length_singleton]
      rw [if_neg (by simp only [beq_iff_eq]; exact fun z => hne z.symm)]
      omega
    · rcases List.mem_append.mp hq with hq | hq
      · exact h3 q hq
      · rw [List.mem_singleton] at hq
        omega
  · exact h
theorem rch_hit {was co : Int32} {st : aPq} {a b : Int32} (h : filI was st) (hc : (inB a b && st.1.getD (ixB a b) 0 == was) = true) : st.2.length < 768 := by
  rw [Bool.and_eq_true, beq_iff_eq] at hc
  obtain ⟨h1, h2, h3⟩ := h
  have hi := (inB_ix hc.1).1
  have hg : st.1[ixB a b]'(by omega) = was := by
    have := hc.2
    rw [List.getD_eq_getElem?_getD, List.getElem?_eq_getElem (by omega)] at this
    exact this
  have hp : 0 < st.1.count was := List.count_pos_iff.mpr (by rw [← hg]; exact List.getElem_mem _)
  omega
section CFILL
variable {scr : List Value} {kd : Nat → Nat} {n : Nat} {S0 : Nat → List Value} {a35 a36 a37 a38 a39 a40 a41 a42 a43 a44 g : List Value} {dd : Nat} {co rc dn was a b : Int32} {h : aH} {px : List Int32} {q : List Nat}
theorem c_reach (hn : 67 ≤ n) (hI : filI was (px, q)) (hg : q.length + g.length = 768) : ∃ g', (rchA was co (px, q) a b).2.length + g'.length = 768 ∧ aE aM143 (dd + 1) 0 [(0, .ref 42), (1, .int a), (2, .int b), (3, .int was), (4, .int co)] [] (gH scr kd n (cS S0 a35 a36 a37 a38 a39 a40 a41 (kPi (Int32.ofNat q.length)) (px.map Value.int) (qA q g))) (aIs none (gH scr kd n (cS S0 a35 a36 a37 a38 a39 a40 a41 (kPi (Int32.ofNat (rchA was co (px, q) a b).2.length)) ((rchA was co (px, q) a b).1.map Value.int) (qA (rchA was co (px, q) a b).2 g')))) := by
  have hl : px.length = 768 := hI.1
  cases hb : inB a b with
  | true =>
    obtain ⟨i1, i2, -⟩ := inB_ix hb
    by_cases hw : px.getD (ixB a b) 0 = was
    · have hc : (inB a b && px.getD (ixB a b) 0 == was) = true := by rw [hb, hw]; simp
      have hq : q.length < 768 := rch_hit (co := co) hI hc
      have e : (rchA was co (px, q) a b) = (px.set (ixB a b) co, q ++ [ixB a b]) := if_pos hc
      obtain ⟨v, g', rfl⟩ : ∃ v g', g = v :: g' := by
        cases g with
        | nil => simp at hg; omega
        | cons v g' => exact ⟨v, g', rfl⟩
      refine ⟨g', by rw [e]; simp at hg ⊢; omega, ?_⟩
      rw [e]
      refine eS rfl rfl ?_
      refine eS rfl rfl ?_
      refine eC1 rfl rfl rfl ⟨catOk rfl, catOk rfl⟩ (s_holds) ?_
      rw [hb]
      refine eEq rfl rfl (fun z => absurd z (by decide)) (fun _ => ?_)
      refine eS rfl rfl ?_
      refine gGet hn rfl rfl rfl rfl ?_
      refine eS rfl rfl ?_
      refine eS rfl rfl ?_
      refine eS rfl rfl ?_
      refine eS rfl rfl ?_
      refine eS rfl rfl ?_
      rw [i2]
      refine gRd0 hn rfl rfl rfl (ixB a b) (by omega) (il_get (by omega)) ?_
      refine eS rfl rfl ?_
      refine eINe rfl rfl (fun z => absurd hw z) (fun _ => ?_)
      refine eS rfl rfl ?_
      refine gGet hn rfl rfl rfl rfl ?_
      refine eS rfl rfl ?_
      refine gGet hn rfl rfl rfl rfl ?_
      refine gLen hn rfl rfl rfl ?_
      rw [show ((cS S0 a35 a36 a37 a38 a39 a40 a41 (kPi (Int32.ofNat q.length)) (px.map Value.int) (qA q (v :: g'))) 44).length = 768 from qA_len.trans hg]
      refine eIGe rfl rfl (fun z => absurd ((i32_le (a := 768) (b := q.length) (by decide) (by omega)).mp z) (by omega)) (fun _ => ?_)
      refine eS rfl rfl ?_
      refine gGet hn rfl rfl rfl rfl ?_
      refine eS rfl rfl ?_
      refine eS rfl rfl ?_
      refine eS rfl rfl ?_
      refine eS rfl rfl ?_
      refine eS rfl rfl ?_
      rw [i2]
      refine eS rfl rfl ?_
      refine gWr0 hn rfl rfl rfl (ixB a b) (by omega) (by show ixB a b < (px.map Value.int).length; rw [List.length_map]; omega) (cS_43.trans (congrArg (fun z => cS S0 a35 a36 a37 a38 a39 a40 a41 _ z _) il_set)) ?_
      refine eS rfl rfl ?_
      refine gGet hn rfl rfl rfl rfl ?_
      refine eS rfl rfl ?_
      refine gGet hn rfl rfl rfl rfl ?_
      refine eS rfl rfl ?_
      refine eS rfl rfl ?_
      refine eS rfl rfl ?_
      refine eS rfl rfl ?_
      refine eS rfl rfl ?_
      rw [i2]
      refine gWr0 hn rfl rfl rfl q.length (by omega) (by show q.length < (qA q (v :: g')).length; rw [qA_len]; simp) (cS_44.trans (congrArg (fun z => cS S0 a35 a36 a37 a38 a39 a40 a41 _ _ z) qA_push)) ?_
      refine eS rfl rfl ?_
      refine eS rfl rfl ?_
      refine gGet hn rfl rfl rfl rfl ?_
      refine eS rfl rfl ?_
      refine eS rfl rfl ?_
      refine gPut hn rfl rfl rfl rfl rfl rfl rfl cS_42 ?_
      exact eR rfl rfl ⟨rfl, by rw [List.length_append, List.length_singleton, ← i32_succ]; rfl⟩
    · have e : (rchA was co (px, q) a b) = (px, q) := if_neg (by rw [hb]; simp only [Bool.true_and, beq_iff_eq]; exact hw)
      refine ⟨g, by rw [e]; exact hg, ?_⟩
      rw [e]
      refine eS rfl rfl ?_
      refine eS rfl rfl ?_
      refine eC1 rfl rfl rfl ⟨catOk rfl, catOk rfl⟩ (s_holds) ?_
      rw [hb]
      refine eEq rfl rfl (fun z => absurd z (by decide)) (fun _ => ?_)
      refine eS rfl rfl ?_
      refine gGet hn rfl rfl rfl rfl ?_
      refine eS rfl rfl ?_
      refine eS rfl rfl ?_
      refine eS rfl rfl ?_
      refine eS rfl rfl ?_
      refine eS rfl rfl ?_
      rw [i2]
      refine gRd0 hn rfl rfl rfl (ixB a b) (by omega) (il_get (by omega)) ?_
      refine eS rfl rfl ?_
      refine eINe rfl rfl (fun _ => ?_) (fun z => absurd z hw)
      exact eR rfl rfl ⟨rfl, rfl⟩
  | false =>
    have e : (rchA was co (px, q) a b) = (px, q) := if_neg (by rw [hb]; simp)
    refine ⟨g, by rw [e]; exact hg, ?_⟩
    rw [e]
    refine eS rfl rfl ?_
    refine eS rfl rfl ?_
    refine eC1 rfl rfl rfl ⟨catOk rfl, catOk rfl⟩ (s_holds) ?_
    rw [hb]
    refine eEq rfl rfl (fun _ => ?_) (fun z => absurd rfl z)
    exact eR rfl rfl ⟨rfl, rfl⟩
end CFILL
