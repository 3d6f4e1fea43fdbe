/-! a run with fewer locals known is a run with more -/
def aLR (l' l : aLc) : Prop := (∀ q ∈ l', q ∈ l) ∧ (l.map (·.1)).Nodup
theorem aGet_mem : ∀ {l : aLc} {i : Nat} {v : Value}, (l.map (·.1)).Nodup → (i, v) ∈ l → aGet l i = some v
  | [], _, _, _, h => by cases h
  | q :: l, i, v, hn, h => by
    unfold aGet
    rw [List.map_cons, List.nodup_cons] at hn
    rcases List.mem_cons.mp h with rfl | h
    · rw [if_pos rfl]
    · rw [if_neg, aGet_mem hn.2 h]
      intro z
      exact hn.1 (List.mem_map.mpr ⟨_, h, z.symm⟩)
theorem aLR.get {l' l : aLc} (hR : aLR l' l) {i : Nat} {v : Value} (h : aGet l' i = some v) : aGet l i = some v := aGet_mem hR.2 (hR.1 _ (aGet_at h))
theorem aLR.set {l' l : aLc} (hR : aLR l' l) (i : Nat) (v : Value) (p : Nat × Value → Bool) (hp : ∀ q, p q = true → q.1 ≠ i) : aLR ((i, v) :: l'.filter p) ((i, v) :: l.filter p) := by
  refine ⟨fun q hq => ?_, ?_⟩
  · rcases List.mem_cons.mp hq with rfl | hq
    · exact List.mem_cons_self
    · rw [List.mem_filter] at hq
      exact List.mem_cons_of_mem _ (List.mem_filter.mpr ⟨hR.1 _ hq.1, hq.2⟩)
  · rw [List.map_cons, List.nodup_cons]
    refine ⟨fun z => ?_, (hR.2.sublist (List.filter_sublist.map _))⟩
    obtain ⟨q, hq, e⟩ := List.mem_map.mp z
    exact hp q (List.mem_filter.mp hq).2 e
theorem aLR.set1 {l' l : aLc} (hR : aLR l' l) (i : Nat) (v : Value) : aLR (aSet1 l' i v) (aSet1 l i v) := hR.set i v _ (fun q hq => by
  simp only [Bool.and_eq_true, Bool.not_eq_true', beq_eq_false_iff_ne] at hq
  exact hq.1)
theorem aLR.set2 {l' l : aLc} (hR : aLR l' l) (i : Nat) (v : Value) : aLR (aSet2 l' i v) (aSet2 l i v) := hR.set i v _ (fun q hq => by
  simp only [Bool.and_eq_true, Bool.not_eq_true', beq_eq_false_iff_ne] at hq
  exact hq.1)
def aIsL : Instr → Bool
  | .iload_n _ => true | .iload _ => true | .lload_n _ => true | .lload _ => true | .fload_n _ => true | .fload _ => true | .dload_n _ => true | .dload _ => true | .aload_n _ => true | .aload _ => true
  | .istore_n _ => true | .istore _ => true | .lstore_n _ => true | .lstore _ => true | .fstore_n _ => true | .fstore _ => true | .dstore_n _ => true | .dstore _ => true | .astore_n _ => true | .astore _ => true | .iinc _ _ => true
  | _ => false
theorem aLoc_no {nl : Nat} {I : Instr} (hI : aIsL I = false) (ls : aLc) (st : List Value) : aLoc nl I ls st = none := by
  cases I <;> first | rfl | cases hI
theorem aStep_noL {M : aMt} {I : Instr} (hI : aIsL I = true) {lk : aLk} {pc : Nat} {ls : aLc} {st : List Value} {h : aH} (hl : aLoc M.nl I ls st = none) : aStep aCls aKn M I lk pc ls st h = none := by
  cases I <;> first | (exfalso; cases hI; done) | (unfold aStep; dsimp only [aPure]; rw [hl]; rfl)
theorem aLdI_lr {i : Nat} {l' l : aLc} (hR : aLR l' l) {st s2 : List Value} (h : aLdI i l' st = some s2) : aLdI i l st = some s2 := by
  unfold aLdI at h ⊢
  cases hg : aGet l' i with
  | none => rw [hg] at h; cases h
  | some v => rw [hg] at h; rw [hR.get hg]; exact h
theorem aLdL_lr {i : Nat} {l' l : aLc} (hR : aLR l' l) {st s2 : List Value} (h : aLdL i l' st = some s2) : aLdL i l st = some s2 := by
  unfold aLdL at h ⊢
  cases hg : aGet l' i with
  | none => rw [hg] at h; cases h
  | some v => rw [hg] at h; rw [hR.get hg]; exact h
theorem aLdF_lr {i : Nat} {l' l : aLc} (hR : aLR l' l) {st s2 : List Value} (h : aLdF i l' st = some s2) : aLdF i l st = some s2 := by
  unfold aLdF at h ⊢
  cases hg : aGet l' i with
  | none => rw [hg] at h; cases h
  | some v => rw [hg] at h; rw [hR.get hg]; exact h
theorem aLdD_lr {i : Nat} {l' l : aLc} (hR : aLR l' l) {st s2 : List Value} (h : aLdD i l' st = some s2) : aLdD i l st = some s2 := by
  unfold aLdD at h ⊢
  cases hg : aGet l' i with
  | none => rw [hg] at h; cases h
  | some v => rw [hg] at h; rw [hR.get hg]; exact h
theorem aLdA_lr {i : Nat} {l' l : aLc} (hR : aLR l' l) {st s2 : List Value} (h : aLdA i l' st = some s2) : aLdA i l st = some s2 := by
  unfold aLdA at h ⊢
  cases hg : aGet l' i with
  | none => rw [hg] at h; cases h
  | some v => rw [hg] at h; rw [hR.get hg]; exact h
theorem aSt_lr {i : Nat} {l' l : aLc} {x : Option (aLc × List Value)} {x' : Option (aLc × List Value)} {r2 : aLc × List Value} (h : x' = some r2) (hx : x' = none ∧ x = none ∨ ∃ v s2, x' = some (aSet1 l' i v, s2) ∧ x = some (aSet1 l i v, s2) ∨ x' = some (aSet2 l' i v, s2) ∧ x = some (aSet2 l i v, s2)) (hR : aLR l' l) :
    ∃ l2, x = some (l2, r2.2) ∧ aLR r2.1 l2 := by
  rcases hx with ⟨h1, -⟩ | ⟨v, s2, ⟨h1, h2⟩ | ⟨h1, h2⟩⟩
  · rw [h1] at h; cases h
  · rw [h1] at h; cases h
    exact ⟨_, h2, hR.set1 i v⟩
  · rw [h1] at h; cases h
    exact ⟨_, h2, hR.set2 i v⟩
theorem aStI_lr {nl i : Nat} {l' l : aLc} (st : List Value) : aStI nl i l' st = none ∧ aStI nl i l st = none ∨ ∃ v s2, aStI nl i l' st = some (aSet1 l' i v, s2) ∧ aStI nl i l st = some (aSet1 l i v, s2) ∨ aStI nl i l' st = some (aSet2 l' i v, s2) ∧ aStI nl i l st = some (aSet2 l i v, s2) := by
  unfold aStI
  split
  · split
    · exact Or.inr ⟨_, _, Or.inl ⟨rfl, rfl⟩⟩
    · exact Or.inl ⟨rfl, rfl⟩
  · exact Or.inl ⟨rfl, rfl⟩
theorem aStL_lr {nl i : Nat} {l' l : aLc} (st : List Value) : aStL nl i l' st = none ∧ aStL nl i l st = none ∨ ∃ v s2, aStL nl i l' st = some (aSet1 l' i v, s2) ∧ aStL nl i l st = some (aSet1 l i v, s2) ∨ aStL nl i l' st = some (aSet2 l' i v, s2) ∧ aStL nl i l st = some (aSet2 l i v, s2) := by
  unfold aStL
  split
  · split
    · exact Or.inr ⟨_, _, Or.inr ⟨rfl, rfl⟩⟩
    · exact Or.inl ⟨rfl, rfl⟩
  · exact Or.inl ⟨rfl, rfl⟩
theorem aStF_lr {nl i : Nat} {l' l : aLc} (st : List Value) : aStF nl i l' st = none ∧ aStF nl i l st = none ∨ ∃ v s2, aStF nl i l' st = some (aSet1 l' i v, s2) ∧ aStF nl i l st = some (aSet1 l i v, s2) ∨ aStF nl i l' st = some (aSet2 l' i v, s2) ∧ aStF nl i l st = some (aSet2 l i v, s2) := by
  unfold aStF
  split
  · split
    · exact Or.inr ⟨_, _, Or.inl ⟨rfl, rfl⟩⟩
    · exact Or.inl ⟨rfl, rfl⟩
  · exact Or.inl ⟨rfl, rfl⟩
theorem aStD_lr {nl i : Nat} {l' l : aLc} (st : List Value) : aStD nl i l' st = none ∧ aStD nl i l st = none ∨ ∃ v s2, aStD nl i l' st = some (aSet1 l' i v, s2) ∧ aStD nl i l st = some (aSet1 l i v, s2) ∨ aStD nl i l' st = some (aSet2 l' i v, s2) ∧ aStD nl i l st = some (aSet2 l i v, s2) := by
  unfold aStD
  split
  · split
    · exact Or.inr ⟨_, _, Or.inr ⟨rfl, rfl⟩⟩
    · exact Or.inl ⟨rfl, rfl⟩
  · exact Or.inl ⟨rfl, rfl⟩
theorem aStA_lr {nl i : Nat} {l' l : aLc} (st : List Value) : aStA nl i l' st = none ∧ aStA nl i l st = none ∨ ∃ v s2, aStA nl i l' st = some (aSet1 l' i v, s2) ∧ aStA nl i l st = some (aSet1 l i v, s2) ∨ aStA nl i l' st = some (aSet2 l' i v, s2) ∧ aStA nl i l st = some (aSet2 l i v, s2) := by
  unfold aStA
  split
  · split
    · exact Or.inr ⟨_, _, Or.inl ⟨rfl, rfl⟩⟩
    · exact Or.inl ⟨rfl, rfl⟩
  · split
    · exact Or.inr ⟨_, _, Or.inl ⟨rfl, rfl⟩⟩
    · exact Or.inl ⟨rfl, rfl⟩
  · exact Or.inl ⟨rfl, rfl⟩
theorem aLd_lr {x x' : Option (List Value)} {l' l : aLc} {r2 : aLc × List Value} (h : x'.map (fun t => (l', t)) = some r2) (hx : ∀ s2, x' = some s2 → x = some s2) (hR : aLR l' l) : ∃ l2, x.map (fun t => (l, t)) = some (l2, r2.2) ∧ aLR r2.1 l2 := by
  obtain ⟨s2, h1, rfl⟩ := Option.map_eq_some_iff.mp h
  rw [hx s2 h1]
  exact ⟨l, rfl, hR⟩
theorem aLoc_lr {nl : Nat} {I : Instr} {l' l : aLc} (hR : aLR l' l) {st : List Value} {r2 : aLc × List Value} (h : aLoc nl I l' st = some r2) : ∃ l2, aLoc nl I l st = some (l2, r2.2) ∧ aLR r2.1 l2 := by
  cases I
  case iload_n k => exact aLd_lr h (fun s2 => aLdI_lr hR) hR
  case iload k => exact aLd_lr h (fun s2 => aLdI_lr hR) hR
  case lload_n k => exact aLd_lr h (fun s2 => aLdL_lr hR) hR
  case lload k => exact aLd_lr h (fun s2 => aLdL_lr hR) hR
  case fload_n k => exact aLd_lr h (fun s2 => aLdF_lr hR) hR
  case fload k => exact aLd_lr h (fun s2 => aLdF_lr hR) hR
  case dload_n k => exact aLd_lr h (fun s2 => aLdD_lr hR) hR
  case dload k => exact aLd_lr h (fun s2 => aLdD_lr hR) hR
  case aload_n k => exact aLd_lr h (fun s2 => aLdA_lr hR) hR
  case aload k => exact aLd_lr h (fun s2 => aLdA_lr hR) hR
  case istore_n k => exact aSt_lr h (aStI_lr st) hR
  case istore k => exact aSt_lr h (aStI_lr st) hR
  case lstore_n k => exact aSt_lr h (aStL_lr st) hR
  case lstore k => exact aSt_lr h (aStL_lr st) hR
  case fstore_n k => exact aSt_lr h (aStF_lr st) hR
  case fstore k => exact aSt_lr h (aStF_lr st) hR
  case dstore_n k => exact aSt_lr h (aStD_lr st) hR
  case dstore k => exact aSt_lr h (aStD_lr st) hR
  case astore_n k => exact aSt_lr h (aStA_lr st) hR
  case astore k => exact aSt_lr h (aStA_lr st) hR
  case iinc i n =>
    have h : (match aGet l' i with | some (.int x) => if i < nl then some (aSet1 l' i (.int (x + Int32.ofInt n)), st) else none | _ => none) = some r2 := h
    show ∃ l2, (match aGet l i with | some (.int x) => if i < nl then some (aSet1 l i (.int (x + Int32.ofInt n)), st) else none | _ => none) = some (l2, r2.2) ∧ aLR r2.1 l2
    cases hg : aGet l' i with
    | none => rw [hg] at h; cases h
    | some v =>
      rw [hg] at h
      rw [hR.get hg]
      cases v <;> dsimp only at h ⊢ <;> first | (cases h; done) | skip
      split at h
      · rename_i hi
        rw [if_pos hi]
        cases h
        exact ⟨_, rfl, hR.set1 _ _⟩
      · cases h
  all_goals (exfalso; revert h; show ¬ (none = some _); exact fun z => by cases z)
theorem aStep_lr {M : aMt} {I : Instr} {lk : aLk} {pc : Nat} {l' l : aLc} (hR : aLR l' l) {st : List Value} {h : aH} {z : aRes} (e : aStep aCls aKn M I lk pc l' st h = some z) :
    (∃ pc' l2' l2 st' h', z = .inl (pc', l2', st', h') ∧ aStep aCls aKn M I lk pc l st h = some (.inl (pc', l2, st', h')) ∧ aLR l2' l2) ∨ (∃ w, z = .inr w ∧ aStep aCls aKn M I lk pc l st h = some (.inr w)) := by
  cases hI : aIsL I with
  | true =>
    cases hl : aLoc M.nl I l' st with
    | none => rw [aStep_noL hI hl] at e; cases e
    | some q =>
      obtain ⟨l2', st'⟩ := q
      obtain ⟨l2, h2, hR2⟩ := aLoc_lr hR hl
      have hp : aPure I lk.2.2.2 st = none := by cases I <;> first | rfl | cases hI
      unfold aStep at e ⊢
      rw [hp] at e ⊢
      dsimp only at e ⊢
      rw [hl] at e
      rw [h2]
      cases e
      exact Or.inl ⟨_, _, _, _, _, rfl, rfl, hR2⟩
  | false =>
    have h1 := aLoc_no (nl := M.nl) hI l' st
    have h2 := aLoc_no (nl := M.nl) hI l st
    cases hp : aPure I lk.2.2.2 st with
    | some s2 =>
      unfold aStep at e ⊢
      rw [hp] at e ⊢
      cases e
      exact Or.inl ⟨_, _, _, _, _, rfl, rfl, hR⟩
    | none =>
      cases hb : aBr I pc st with
      | some q =>
        obtain ⟨pc', s2⟩ := q
        unfold aStep at e ⊢
        rw [hp] at e ⊢
        dsimp only at e ⊢
        rw [h1, hb] at e
        rw [h2, hb]
        cases e
        exact Or.inl ⟨_, _, _, _, _, rfl, rfl, hR⟩
      | none =>
        cases hh : aHp aCls aKn M.nm I lk st h with
        | some q =>
          obtain ⟨s2, h'⟩ := q
          unfold aStep at e ⊢
          rw [hp] at e ⊢
          dsimp only at e ⊢
          rw [h1, hb, hh] at e
          rw [h2, hb, hh]
          cases e
          exact Or.inl ⟨_, _, _, _, _, rfl, rfl, hR⟩
        | none =>
          unfold aStep at e ⊢
          rw [hp] at e ⊢
          dsimp only at e ⊢
          rw [h1, hb, hh] at e
          rw [h2, hb, hh]
          dsimp only at e ⊢
          cases hr : aRet I M.rt st with
          | some v =>
            rw [hr] at e
            cases e
            exact Or.inr ⟨_, rfl, rfl⟩
          | none =>
            rw [hr] at e
            dsimp only at e ⊢
            clear hp h1 h2 hb hh hr hI
            split at e
            · split at e
              · cases e
                exact Or.inr ⟨_, rfl, rfl⟩
              · cases e
            · split at e
              · split at e
                · split at e
                  · rename_i hk
                    cases e
                    rw [if_pos hk]
                    exact Or.inr ⟨_, rfl, rfl⟩
                  · cases e
                · cases e
              · cases e
            · split at e
              · split at e
                · split at e
                  · rename_i hk
                    cases e
                    rw [if_pos hk]
                    exact Or.inl ⟨_, _, _, _, _, rfl, rfl, hR⟩
                  · cases e
                · split at e
                  · split at e
                    · split at e
                      · rename_i hk
                        cases e
                        rw [if_pos hk]
                        exact Or.inl ⟨_, _, _, _, _, rfl, rfl, hR⟩
                      · cases e
                    · cases e
                  · cases e
              · split at e
                · cases e
                  exact Or.inr ⟨_, rfl, rfl⟩
                · cases e
              · cases e
            · split at e
              · split at e
                · cases e
                  exact Or.inr ⟨_, rfl, rfl⟩
                · cases e
              · cases e
            · cases e
theorem aRun_lr : ∀ (n : Nat) (M : aMt) (d pc : Nat) (l' l : aLc) (st : List Value) (h : aH) (r : aOut × aH), aLR l' l → aRun aCls aKn aP n M d pc l' st h = some r → aRun aCls aKn aP n M d pc l st h = some r
  | 0, _, _, _, _, _, _, _, _, _, e => by simp [aRun] at e
  | n + 1, M, d, pc, l', l, st, h, r, hR, e => by
    have IH := aRun_lr n
    unfold aRun at e ⊢
    cases hf : aFind M.cd pc with
    | none => rw [hf] at e; cases e
    | some q =>
      obtain ⟨I, lk⟩ := q
      rw [hf] at e
      dsimp only at e ⊢
      cases hs : aStep aCls aKn M I lk pc l' st h with
      | none => rw [hs] at e; cases e
      | some z =>
        rw [hs] at e
        rcases aStep_lr hR hs with ⟨pc', l2', l2, st', h', rfl, h2, hR2⟩ | ⟨w, rfl, h2⟩
        · rw [h2]
          exact IH _ _ _ _ _ _ _ _ hR2 e
        · rw [h2]
          match w, e with
          | .inl r1, e => exact e
          | .inr (k, as, rest), e =>
            dsimp only at e ⊢
            match d, aP[k]?, e with
            | 0, _, e => cases e
            | d' + 1, none, e => cases e
            | d' + 1, some M', e =>
              dsimp only at e ⊢
              by_cases hc : aCat rest + M'.nl ≤ 80 ∧ aCat as ≤ M'.nl
              · rw [if_pos hc] at e ⊢
                cases hr : aRun aCls aKn aP n M' d' 0 (lv_args 0 as) [] h with
                | none => rw [hr] at e; cases e
                | some w =>
                  rw [hr] at e
                  match w, e with
                  | (.inl v, h'), e => exact IH _ _ _ _ _ _ _ _ hR e
                  | (.inr q, h'), e =>
                    dsimp only at e ⊢
                    split at e
                    · exact e
                    · split at e
                      · split at e
                        · exact IH _ _ _ _ _ _ _ _ hR e
                        · cases e
                      · cases e
              · rw [if_neg hc] at e
                cases e
theorem aE.less {M : aMt} {d pc : Nat} {l' l : aLc} {st : List Value} {h : aH} {Q : aOut → aH → Prop} (hR : aLR l' l) (k : aE M d pc l' st h Q) : aE M d pc l st h Q := by
  obtain ⟨n, r, h', e, q⟩ := k
  exact ⟨n, r, h', aRun_lr _ _ _ _ _ _ _ _ _ hR e, q⟩
