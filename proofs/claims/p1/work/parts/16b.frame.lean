/-! what a run does that never looks at place 0 -/
abbrev aHid : aO := (7, [])
theorem aRd_fr {kd : Nat} (hk : kd < 7) {st st' : List Value} {t h' : aH} (o : aO) (e : aRd kd st (aHid :: t) = some (st', h')) : ∃ t', h' = aHid :: t' ∧ aRd kd st (o :: t) = some (st', o :: t') := by
  unfold aRd at e ⊢
  split at e
  · rename_i i p r
    match p, e with
    | 0, e =>
      simp only [List.getElem?_cons_zero] at e
      rw [if_neg (by omega)] at e
      cases e
    | p + 1, e =>
      simp only [List.getElem?_cons_succ] at e ⊢
      split at e
      · rename_i k vs hp
        try rw [hp]
        try dsimp only
        split at e
        · rename_i hk
          rw [if_pos hk]
          split at e
          · cases e
          · rename_i hi
            rw [if_neg hi]
            split at e
            · cases e
              rename_i hv
              try rw [hv]
              exact ⟨t, rfl, rfl⟩
            · cases e
        · cases e
      · cases e
  · cases e
theorem aWr_fr {kd : Nat} {x : Value} {st st' : List Value} {t h' : aH} (o : aO) (e : aWr kd aKn x st (aHid :: t) = some (st', h')) : ∃ t', h' = aHid :: t' ∧ aWr kd aKn x st (o :: t) = some (st', o :: t') := by
  unfold aWr at e ⊢
  split at e
  · rename_i i p r
    match p, e with
    | 0, e =>
      simp only [List.getElem?_cons_zero] at e
      rw [if_neg (fun z => absurd z.2.1 (by decide))] at e
      cases e
    | p + 1, e =>
      simp only [List.getElem?_cons_succ] at e ⊢
      split at e
      · rename_i k vs hp
        try rw [hp]
        try dsimp only
        split at e
        · rename_i hk
          rw [if_pos hk]
          cases e
          exact ⟨_, rfl, rfl⟩
        · cases e
      · cases e
  · cases e
theorem aNewA_fr {kd : Nat} {st st' : List Value} {t h' : aH} (o : aO) (e : aNewA kd st (aHid :: t) = some (st', h')) : ∃ t', h' = aHid :: t' ∧ aNewA kd st (o :: t) = some (st', o :: t') := by
  unfold aNewA at e ⊢
  split at e
  · split at e
    · rename_i hn
      rw [if_pos hn]
      cases e
      exact ⟨_, rfl, rfl⟩
    · cases e
  · cases e
theorem aHp_fr {own : MethodName} {I : Instr} {lk : aLk} {st st' : List Value} {t h' : aH} (o : aO) (e : aHp aCls aKn own I lk st (aHid :: t) = some (st', h')) : ∃ t', h' = aHid :: t' ∧ aHp aCls aKn own I lk st (o :: t) = some (st', o :: t') := by
  cases I
  case getfield i =>
    unfold aHp at e ⊢
    dsimp only at e ⊢
    split at e
    · rename_i p r
      match p, e with
      | 0, e =>
        simp only [List.getElem?_cons_zero] at e
        rw [if_neg (by omega)] at e
        cases e
      | p + 1, e =>
        simp only [List.getElem?_cons_succ] at e ⊢
        split at e
        · rename_i k vs hp
          try rw [hp]
          try dsimp only
          split at e
          · rename_i hk
            rw [if_pos hk]
            split at e
            · rename_i hv
              try rw [hv]
              cases e
              exact ⟨_, rfl, rfl⟩
            · cases e
          · cases e
        · cases e
    · cases e
  case putfield i =>
    unfold aHp at e ⊢
    dsimp only at e ⊢
    split at e
    · rename_i v p r
      match p, e with
      | 0, e =>
        simp only [List.getElem?_cons_zero] at e
        split at e
        · rename_i h1 h2
          cases h1
          rw [if_neg (fun z => absurd z.2.1 (by decide))] at e
          cases e
        · cases e
      | p + 1, e =>
        simp only [List.getElem?_cons_succ] at e ⊢
        split at e
        · rename_i h1 h2
          try rw [h1, h2]
          try dsimp only
          split at e
          · rename_i hk
            rw [if_pos hk]
            split at e
            · rename_i hv
              try rw [hv]
              try dsimp only
              split at e
              · rename_i hw
                rw [if_pos hw]
                cases e
                exact ⟨_, rfl, rfl⟩
              · cases e
            · cases e
          · cases e
        · cases e
    · cases e
  case iaload => exact aRd_fr (by decide) o e
  case caload => exact aRd_fr (by decide) o e
  case laload => exact aRd_fr (by decide) o e
  case faload => exact aRd_fr (by decide) o e
  case daload => exact aRd_fr (by decide) o e
  case baload => exact aRd_fr (by decide) o e
  case iastore =>
    unfold aHp at e ⊢
    dsimp only at e ⊢
    split at e
    · exact aWr_fr o e
    · cases e
  case castore =>
    unfold aHp at e ⊢
    dsimp only at e ⊢
    split at e
    · exact aWr_fr o e
    · cases e
  case lastore =>
    unfold aHp at e ⊢
    dsimp only at e ⊢
    split at e
    · exact aWr_fr o e
    · cases e
  case fastore =>
    unfold aHp at e ⊢
    dsimp only at e ⊢
    split at e
    · exact aWr_fr o e
    · cases e
  case dastore =>
    unfold aHp at e ⊢
    dsimp only at e ⊢
    split at e
    · exact aWr_fr o e
    · cases e
  case arraylength =>
    unfold aHp at e ⊢
    dsimp only at e ⊢
    split at e
    · rename_i p r
      match p, e with
      | 0, e =>
        simp only [List.getElem?_cons_zero] at e
        rw [if_neg (by decide)] at e
        cases e
      | p + 1, e =>
        simp only [List.getElem?_cons_succ] at e ⊢
        split at e
        · rename_i h1
          try rw [h1]
          try dsimp only
          split at e
          · rename_i hk
            rw [if_pos hk]
            cases e
            exact ⟨_, rfl, rfl⟩
          · cases e
        · cases e
    · cases e
  case newarray ty =>
    cases ty
    case int => exact aNewA_fr o e
    case char => exact aNewA_fr o e
    case long => exact aNewA_fr o e
    case float => exact aNewA_fr o e
    case double => exact aNewA_fr o e
    all_goals (exfalso; revert e; show ¬ (none = some _); exact fun z => by cases z)
  case new i =>
    unfold aHp at e ⊢
    dsimp only at e ⊢
    split at e
    · rename_i h1
      split at e
      · rename_i hk
        rw [if_pos hk]
        cases e
        exact ⟨_, rfl, rfl⟩
      · rename_i hk
        rw [if_neg hk]
        cases e
        exact ⟨_, rfl, rfl⟩
    · cases e
  case getstatic i =>
    unfold aHp at e ⊢
    cases e
    exact ⟨_, rfl, rfl⟩
  all_goals (exfalso; revert e; show ¬ (none = some _); exact fun z => by cases z)
