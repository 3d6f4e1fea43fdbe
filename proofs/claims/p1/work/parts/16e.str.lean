/-! so many steps in a row without a call -/
def aStr (M : aMt) : Nat → Nat → aLc → List Value → aH → Option (Nat × aLc × List Value × aH)
  | 0, pc, ls, st, h => some (pc, ls, st, h)
  | n + 1, pc, ls, st, h => match aFind M.cd pc with
    | none => none
    | some (I, lk) => match aStep aCls aKn M I lk pc ls st h with
      | some (.inl (pc', ls', st', h')) => aStr M n pc' ls' st' h'
      | _ => none
theorem aStr_go {M : aMt} {d : Nat} {Q : aOut → aH → Prop} : ∀ {n pc : Nat} {ls : aLc} {st : List Value} {h : aH} {pc' : Nat} {ls' : aLc} {st' : List Value} {h' : aH}, aStr M n pc ls st h = some (pc', ls', st', h') → aE M d pc' ls' st' h' Q → aE M d pc ls st h Q
  | 0, _, _, _, _, _, _, _, _, e, k => by
    cases e
    exact k
  | n + 1, pc, ls, st, h, pc', ls', st', h', e, k => by
    unfold aStr at e
    cases hf : aFind M.cd pc with
    | none => rw [hf] at e; cases e
    | some q =>
      obtain ⟨I, lk⟩ := q
      rw [hf] at e
      dsimp only at e
      split at e
      · rename_i hs
        exact eS hf hs (aStr_go e k)
      · cases e
theorem aStr_fr (o : aO) {M : aMt} : ∀ {n pc : Nat} {ls : aLc} {st : List Value} {t : aH} {pc' : Nat} {ls' : aLc} {st' : List Value} {h' : aH}, aStr M n pc ls st (aHid :: t) = some (pc', ls', st', h') → ∃ t', h' = aHid :: t' ∧ aStr M n pc ls st (o :: t) = some (pc', ls', st', o :: t')
  | 0, _, _, _, _, _, _, _, _, e => by
    cases e
    exact ⟨_, rfl, rfl⟩
  | n + 1, pc, ls, st, t, pc', ls', st', h', e => by
    unfold aStr at e ⊢
    cases hf : aFind M.cd pc with
    | none => rw [hf] at e; cases e
    | some q =>
      obtain ⟨I, lk⟩ := q
      rw [hf] at e
      dsimp only at e ⊢
      split at e
      · rename_i p2 l2 s2 h2 hs
        obtain ⟨⟨t2, ht⟩, hs2⟩ := aStep_fr o hs
        rw [hs2]
        rw [ht] at e ⊢
        exact aStr_fr o e
      · cases e
theorem aE_str {M : aMt} {d : Nat} {Q : aOut → aH → Prop} {n pc : Nat} {ls : aLc} {st : List Value} {t t' : aH} {pc' : Nat} {ls' : aLc} {st' : List Value} (e : aStr M n pc ls st (aHid :: t) = some (pc', ls', st', aHid :: t')) (o : aO) (k : aE M d pc' ls' st' (o :: t') Q) : aE M d pc ls st (o :: t) Q := by
  obtain ⟨t1, h1, h2⟩ := aStr_fr o e
  cases h1
  exact aStr_go h2 k
def aStrB (r : Option (Nat × aLc × List Value × aH)) (pc : Nat) (ls : aLc) (st : List Value) (h : aH) : Bool := match r with
  | some (pc', ls', st', h') => decide (pc' = pc) && (decide (ls' = ls) && (decide (st' = st) && decide (h' = h)))
  | none => false
theorem aStrB_ok {r : Option (Nat × aLc × List Value × aH)} {pc : Nat} {ls : aLc} {st : List Value} {h : aH} (e : aStrB r pc ls st h = true) : r = some (pc, ls, st, h) := by
  unfold aStrB at e
  split at e
  · simp only [Bool.and_eq_true, decide_eq_true_eq] at e
    obtain ⟨rfl, rfl, rfl, rfl⟩ := e
    rfl
  · cases e
