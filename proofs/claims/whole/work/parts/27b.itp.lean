/-! more depth does no harm -/
theorem aRun_deep : ∀ (n : Nat) (M : aMt) (d d' pc : Nat) (ls : aLc) (st : List Value) (h : aH) (res : aOut × aH), d ≤ d' → aRun aCls aKn aP n M d pc ls st h = some res → aRun aCls aKn aP n M d' pc ls st h = some res
  | 0, _, _, _, _, _, _, _, _, _, e => by simp [aRun] at e
  | n + 1, M, d, d', pc, ls, st, h, res, hd, e => by
    have IH := aRun_deep n
    unfold aRun at e ⊢
    cases hf : aFind M.cd pc with
    | none => rw [hf] at e; cases e
    | some q =>
      obtain ⟨I, lk⟩ := q
      rw [hf] at e
      dsimp only at e ⊢
      cases hs : aStep aCls aKn M I lk pc ls st h with
      | none => rw [hs] at e; cases e
      | some z =>
        rw [hs] at e
        match z, e with
        | .inl (pc', ls', st', h'), e => exact IH _ _ _ _ _ _ _ _ hd e
        | .inr (.inl r), e => exact e
        | .inr (.inr (k, as, rest)), e =>
          dsimp only at e ⊢
          match d, d', hd, aP[k]?, e with
          | 0, _, _, _, e => cases e
          | d + 1, 0, hd, _, _ => omega
          | d + 1, d' + 1, _, none, e => cases e
          | d + 1, d' + 1, hd, some M', e =>
            dsimp only at e ⊢
            by_cases hc : aCat rest + M'.nl ≤ 80 ∧ aCat as ≤ M'.nl
            · rw [if_pos hc] at e ⊢
              cases hr : aRun aCls aKn aP n M' d 0 (lv_args 0 as) [] h with
              | none => rw [hr] at e; cases e
              | some w =>
                rw [hr] at e
                rw [IH _ _ d' _ _ _ _ _ (by omega) hr]
                match w, e with
                | (.inl v, h'), e => exact IH _ _ _ _ _ _ _ _ hd e
                | (.inr q, h'), e =>
                  dsimp only at e ⊢
                  split at e
                  · exact e
                  · split at e
                    · split at e
                      · exact IH _ _ _ _ _ _ _ _ hd e
                      · cases e
                    · cases e
            · rw [if_neg hc] at e
              cases e
theorem aE.deep {M : aMt} {d d' pc : Nat} {ls : aLc} {st : List Value} {h : aH} {Q : aOut → aH → Prop} (k : aE M d pc ls st h Q) (hd : d ≤ d') : aE M d' pc ls st h Q := by
  obtain ⟨n, r, h', e, q⟩ := k
  exact ⟨n, r, h', aRun_deep _ _ _ _ _ _ _ _ _ hd e, q⟩
/-! interpret as such: the model's loop -/
def tkA (W : Nat → Nat) (s : aSt) : Bool := W s.2.1 == 0 || (W s.2.1 == 28 && !(decide (FP.fcmp (s.2.2.1.getD 0 0) 1065353216 = some .lt))) || (W s.2.1 == 29 && !(decide (FP.fcmp (s.2.2.1.getD 0 0) 0 = some .eq)))
abbrev aSx : Type := Nat × aSt
def itA (W : Nat → Nat) (x : aSx) : aSx := if tkA W x.2 then (match x.1 with | 0 => (0, 2, x.2.2) | l + 1 => (l, oneA W x.2)) else (x.1, oneA W x.2)
def itN (W : Nat → Nat) : Nat → aSx → aSx
  | 0, x => x
  | n + 1, x => if x.2.1 = 0 then itN W n (itA W x) else x
theorem itN_s {W : Nat → Nat} {n : Nat} {x : aSx} : itN W (n + 1) x = if x.2.1 = 0 then itN W n (itA W x) else x := rfl
theorem itN_end {W : Nat → Nat} {n : Nat} {x : aSx} (h : x.2.1 ≠ 0) : itN W n x = x := by
  cases n with
  | zero => rfl
  | succ n => rw [itN_s, if_neg h]
theorem itN_add {W : Nat → Nat} : ∀ {n m : Nat} {x : aSx}, itN W (n + m) x = itN W m (itN W n x)
  | 0, m, x => by rw [Nat.zero_add]; rfl
  | n + 1, m, x => by
    rw [Nat.add_right_comm, itN_s, itN_s]
    by_cases h : x.2.1 = 0
    · rw [if_pos h, if_pos h]
      exact itN_add
    · rw [if_neg h, if_neg h, itN_end h]
theorem itN_1 {W : Nat → Nat} {x : aSx} (h : x.2.1 = 0) : itN W 1 x = itA W x := by
  unfold itN
  rw [if_pos h]
  rfl
/-- a sound state, ended or not -/
def okX (P : Nat → Nat → Bool → Prop) (x : aSx) : Prop := okS x.2 ∧ (x.2.1 = 0 → okL P x.2)
theorem itA_ok {W : Nat → Nat} {P : Nat → Nat → Bool → Prop} {N : Nat} (hC : cOk W N P) {x : aSx} (h : okX P x) (h0 : x.2.1 = 0) : okX P (itA W x) := by
  obtain ⟨l, an, pc, stk, fr, par, vrs, t⟩ := x
  have o := oneA_ok hC h.1 (h.2 h0)
  unfold itA
  split
  · cases l with
    | zero => exact ⟨h.1, fun z => absurd (show (2 : Int32) = 0 from z) (by decide)⟩
    | succ l => exact o
  · exact o
theorem itN_ok {W : Nat → Nat} {P : Nat → Nat → Bool → Prop} {N : Nat} (hC : cOk W N P) : ∀ {n : Nat} {x : aSx}, okX P x → okX P (itN W n x)
  | 0, _, h => h
  | n + 1, x, h => by
    unfold itN
    by_cases h0 : x.2.1 = 0
    · rw [if_pos h0]
      exact itN_ok hC (itA_ok hC h h0)
    · rw [if_neg h0]
      exact h
