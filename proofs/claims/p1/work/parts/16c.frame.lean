def aSw (o : aO) : aH → aH
  | [] => []
  | _ :: t => o :: t
def aZm (o : aO) : aRes → aRes
  | .inl (a, b, c, h) => .inl (a, b, c, aSw o h)
  | .inr (.inl (r, h)) => .inr (.inl (r, aSw o h))
  | .inr (.inr q) => .inr (.inr q)
def aZh : aRes → Prop
  | .inl (_, _, _, h) => ∃ t, h = aHid :: t
  | .inr (.inl (_, h)) => ∃ t, h = aHid :: t
  | _ => True
def aIsH : Instr → Bool
  | .getfield _ => true | .putfield _ => true | .iaload => true | .caload => true | .laload => true | .faload => true | .daload => true | .baload => true
  | .iastore => true | .castore => true | .lastore => true | .fastore => true | .dastore => true | .arraylength => true | .newarray _ => true | .new _ => true | .getstatic _ => true
  | _ => false
theorem aHp_no {own : MethodName} {I : Instr} (hI : aIsH I = false) (lk : aLk) (st : List Value) (h : aH) : aHp aCls aKn own I lk st h = none := by
  cases I <;> first | rfl | cases hI
theorem aStep_no {M : aMt} {I : Instr} (hI : aIsH I = true) {lk : aLk} {pc : Nat} {ls : aLc} {st : List Value} {h : aH} (hp : aPure I lk.2.2.2 st = none) (hl : aLoc M.nl I ls st = none) (hb : aBr I pc st = none) (hh : aHp aCls aKn M.nm I lk st h = none) : aStep aCls aKn M I lk pc ls st h = none := by
  unfold aStep
  rw [hp]
  dsimp only
  rw [hl]
  dsimp only
  rw [hb]
  dsimp only
  rw [hh]
  dsimp only
  cases I <;> first | rfl | cases hI
theorem aStep_fr {M : aMt} {I : Instr} {lk : aLk} {pc : Nat} {ls : aLc} {st : List Value} {t : aH} {z : aRes} (o : aO) (e : aStep aCls aKn M I lk pc ls st (aHid :: t) = some z) : aZh z ∧ aStep aCls aKn M I lk pc ls st (o :: t) = some (aZm o z) := by
  cases hp : aPure I lk.2.2.2 st with
  | some st' =>
    unfold aStep at e ⊢
    rw [hp] at e ⊢
    cases e
    exact ⟨⟨t, rfl⟩, rfl⟩
  | none =>
    cases hl : aLoc M.nl I ls st with
    | some q =>
      obtain ⟨ls', st'⟩ := q
      unfold aStep at e ⊢
      rw [hp] at e ⊢
      dsimp only at e ⊢
      rw [hl] at e ⊢
      cases e
      exact ⟨⟨t, rfl⟩, rfl⟩
    | none =>
      cases hb : aBr I pc st with
      | some q =>
        obtain ⟨pc', st'⟩ := q
        unfold aStep at e ⊢
        rw [hp] at e ⊢
        dsimp only at e ⊢
        rw [hl] at e ⊢
        dsimp only at e ⊢
        rw [hb] at e ⊢
        cases e
        exact ⟨⟨t, rfl⟩, rfl⟩
      | none =>
        cases hh : aHp aCls aKn M.nm I lk st (aHid :: t) with
        | some q =>
          obtain ⟨st', h'⟩ := q
          obtain ⟨t', rfl, hh'⟩ := aHp_fr o hh
          unfold aStep at e ⊢
          rw [hp] at e ⊢
          dsimp only at e ⊢
          rw [hl] at e ⊢
          dsimp only at e ⊢
          rw [hb] at e ⊢
          dsimp only at e ⊢
          rw [hh] at e
          rw [hh']
          cases e
          exact ⟨⟨t', rfl⟩, rfl⟩
        | none =>
          cases hI : aIsH I with
          | true =>
            rw [aStep_no hI hp hl hb hh] at e
            cases e
          | false =>
            have hh' := aHp_no (own := M.nm) hI lk st (o :: t)
            unfold aStep at e ⊢
            rw [hp] at e ⊢
            dsimp only at e ⊢
            rw [hl] at e ⊢
            dsimp only at e ⊢
            rw [hb] at e ⊢
            dsimp only at e ⊢
            rw [hh] at e
            rw [hh']
            dsimp only at e ⊢
            cases hr : aRet I M.rt st with
            | some v =>
              rw [hr] at e
              cases e
              exact ⟨⟨t, rfl⟩, rfl⟩
            | none =>
              rw [hr] at e
              dsimp only at e ⊢
              clear hp hl hb hh hh' hr hI
              split at e
              · split at e
                · cases e
                  exact ⟨trivial, rfl⟩
                · cases e
              · split at e
                · rename_i q as r ha
                  match q, e with
                  | 0, e =>
                    simp only [List.getElem?_cons_zero] at e
                    rw [if_neg (by omega)] at e
                    cases e
                  | q + 1, e =>
                    simp only [List.getElem?_cons_succ] at e ⊢
                    split at e
                    · split at e
                      · rename_i hk
                        rw [if_pos hk]
                        cases e
                        exact ⟨trivial, rfl⟩
                      · cases e
                    · cases e
                · cases e
              · split at e
                · split at e
                  · split at e
                    · rename_i hk
                      rw [if_pos hk]
                      cases e
                      exact ⟨⟨t, rfl⟩, rfl⟩
                    · cases e
                  · split at e
                    · rename_i q r'
                      match q, e with
                      | 0, e =>
                        simp only [List.getElem?_cons_zero] at e
                        rw [if_neg (fun z => absurd z.2.1 (by decide))] at e
                        cases e
                      | q + 1, e =>
                        simp only [List.getElem?_cons_succ] at e ⊢
                        split at e
                        · split at e
                          · rename_i hk
                            rw [if_pos hk]
                            cases e
                            exact ⟨⟨_, rfl⟩, rfl⟩
                          · cases e
                        · cases e
                    · cases e
                · split at e
                  · cases e
                    exact ⟨trivial, rfl⟩
                  · cases e
                · cases e
              · split at e
                · split at e
                  · cases e
                    exact ⟨⟨t, rfl⟩, rfl⟩
                  · cases e
                · cases e
              · cases e
theorem aRun_fr (o : aO) : ∀ (n : Nat) (M : aMt) (d pc : Nat) (ls : aLc) (st : List Value) (t : aH) (r : aOut) (h' : aH), aRun aCls aKn aP n M d pc ls st (aHid :: t) = some (r, h') → ∃ t', h' = aHid :: t' ∧ aRun aCls aKn aP n M d pc ls st (o :: t) = some (r, o :: t')
  | 0, _, _, _, _, _, _, _, _, e => by simp [aRun] at e
  | n + 1, M, d, pc, ls, st, t, r, h', e => by
    have IH := aRun_fr o n
    unfold aRun at e ⊢
    cases hf : aFind M.cd pc with
    | none => rw [hf] at e; cases e
    | some q =>
      obtain ⟨I, lk⟩ := q
      rw [hf] at e
      dsimp only at e ⊢
      cases hs : aStep aCls aKn M I lk pc ls st (aHid :: t) with
      | none => rw [hs] at e; cases e
      | some z =>
        obtain ⟨hz, hs'⟩ := aStep_fr o hs
        rw [hs] at e
        rw [hs']
        match z, hz, e with
        | .inl (pc', ls', st', h1), hz, e =>
          obtain ⟨t1, rfl⟩ := hz
          exact IH _ _ _ _ _ _ _ _ e
        | .inr (.inl (r1, h1)), hz, e =>
          obtain ⟨t1, rfl⟩ := hz
          cases e
          exact ⟨t1, rfl, rfl⟩
        | .inr (.inr (k, as, rest)), _, e =>
          show ∃ t', h' = aHid :: t' ∧ _
          dsimp only [aZm] at e ⊢
          match d, aP[k]?, e with
          | 0, _, e => cases e
          | d' + 1, none, e => cases e
          | d' + 1, some M', e =>
            dsimp only at e ⊢
            by_cases hc : aCat rest + M'.nl ≤ 80 ∧ aCat as ≤ M'.nl
            · rw [if_pos hc] at e ⊢
              cases hr : aRun aCls aKn aP n M' d' 0 (lv_args 0 as) [] (aHid :: t) with
              | none => rw [hr] at e; cases e
              | some w =>
                obtain ⟨w1, w2⟩ := w
                obtain ⟨t1, rfl, hr'⟩ := IH _ _ _ _ _ _ _ _ hr
                rw [hr] at e
                rw [hr']
                match w1, e with
                | .inl v, e => exact IH _ _ _ _ _ _ _ _ e
                | .inr q, e =>
                  dsimp only at e ⊢
                  split at e
                  · cases e
                    exact ⟨t1, rfl, rfl⟩
                  · match q, e with
                    | 0, e =>
                      have hz : ∀ l : List (Nat × Nat × Nat × Nat), aHand l pc 7 = none := by
                        intro l
                        induction l with
                        | nil => rfl
                        | cons q l ih =>
                          obtain ⟨a, b, t, k⟩ := q
                          unfold aHand
                          rw [if_neg (by omega), ih]
                      simp only [List.getElem?_cons_zero, hz] at e
                      cases e
                    | q + 1, e =>
                      simp only [List.getElem?_cons_succ] at e ⊢
                      split at e
                      · split at e
                        · exact IH _ _ _ _ _ _ _ _ e
                        · cases e
                      · cases e
            · rw [if_neg hc] at e
              cases e
