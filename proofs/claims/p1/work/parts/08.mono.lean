theorem aSz_le {cl : aCl} {h : aH} {p k : Nat} {vs : List Value} {j : Nat} {v : Value} (h0 : h[p]? = some (k, vs)) : aSzs cl (h.set p (k, vs.set j v)) = aSzs cl h :=
  aSzs_set cl _ _ _ _ h0 (by unfold aSz; simp only [List.length_set])
theorem aRd_mono {cl : aCl} {kd : Nat} {st st' : List Value} {h h' : aH} (e : aRd kd st h = some (st', h')) : h.length ≤ h'.length ∧ aSzs cl h ≤ aSzs cl h' := by
  unfold aRd at e
  split at e
  · split at e
    · split at e
      · split at e
        · cases e
        · split at e
          · cases e; exact ⟨Nat.le_refl _, Nat.le_refl _⟩
          · cases e
      · cases e
    · cases e
  · cases e
theorem aWr_mono {cl : aCl} {kd K : Nat} {x : Value} {st st' : List Value} {h h' : aH} (e : aWr kd K x st h = some (st', h')) : h.length ≤ h'.length ∧ aSzs cl h ≤ aSzs cl h' := by
  unfold aWr at e
  split at e
  · split at e
    · rename_i h0
      split at e
      · cases e
        exact ⟨by simp, by rw [aSz_le h0]; exact Nat.le_refl _⟩
      · cases e
    · cases e
  · cases e
theorem aNewA_mono {cl : aCl} {kd : Nat} {st st' : List Value} {h h' : aH} (e : aNewA kd st h = some (st', h')) : h.length ≤ h'.length ∧ aSzs cl h ≤ aSzs cl h' := by
  unfold aNewA at e
  split at e
  · split at e
    · cases e
      exact ⟨by simp, by rw [aSzs_push]; omega⟩
    · cases e
  · cases e
set_option maxHeartbeats 4000000 in
theorem aHp_mono {cl : aCl} {K : Nat} {own : MethodName} {I : Instr} {lk : aLk} {st st' : List Value} {h h' : aH} (e : aHp cl K own I lk st h = some (st', h')) : h.length ≤ h'.length ∧ aSzs cl h ≤ aSzs cl h' := by
  cases I with
  | getfield i =>
    simp only [aHp] at e
    split at e
    · split at e
      · split at e
        · split at e
          · cases e; exact ⟨Nat.le_refl _, Nat.le_refl _⟩
          · cases e
        · cases e
      · cases e
    · cases e
  | putfield i =>
    simp only [aHp] at e
    split at e
    · split at e
      · rename_i h0 _
        split at e
        · split at e
          · split at e
            · cases e
              exact ⟨by simp, by rw [aSz_le h0]; exact Nat.le_refl _⟩
            · cases e
          · cases e
        · cases e
      · cases e
    · cases e
  | iaload => exact aRd_mono e
  | caload => exact aRd_mono e
  | laload => exact aRd_mono e
  | faload => exact aRd_mono e
  | daload => exact aRd_mono e
  | baload => exact aRd_mono e
  | iastore => simp only [aHp] at e; split at e; exact aWr_mono e; cases e
  | castore => simp only [aHp] at e; split at e; exact aWr_mono e; cases e
  | lastore => simp only [aHp] at e; split at e; exact aWr_mono e; cases e
  | fastore => simp only [aHp] at e; split at e; exact aWr_mono e; cases e
  | dastore => simp only [aHp] at e; split at e; exact aWr_mono e; cases e
  | arraylength =>
    simp only [aHp] at e
    split at e
    · split at e
      · split at e
        · cases e; exact ⟨Nat.le_refl _, Nat.le_refl _⟩
        · cases e
      · cases e
    · cases e
  | newarray t => cases t <;> first | exact aNewA_mono e | (simp [aHp] at e)
  | new i =>
    simp only [aHp] at e
    split at e
    · split at e
      · cases e
        exact ⟨by simp, by rw [aSzs_push]; omega⟩
      · cases e
        exact ⟨by simp, by rw [aSzs_push]; omega⟩
    · cases e
  | getstatic i => simp only [aHp] at e; cases e; exact ⟨Nat.le_refl _, Nat.le_refl _⟩
  | _ => simp [aHp] at e
theorem aStep_mono {cl : aCl} {K : Nat} {M : aMt} {I : Instr} {lk : aLk} {pc : Nat} {ls : aLc} {st : List Value} {h : aH} {r : aRes} (e : aStep cl K M I lk pc ls st h = some r) :
    (∀ pc' ls' st' h', r = .inl (pc', ls', st', h') → h.length ≤ h'.length ∧ aSzs cl h ≤ aSzs cl h') ∧ ∀ o h', r = .inr (.inl (o, h')) → h'.length = h.length ∧ aSzs cl h' = aSzs cl h := by
  unfold aStep at e
  split at e
  · cases e
    exact ⟨fun _ _ _ _ z => by cases z; exact ⟨Nat.le_refl _, Nat.le_refl _⟩, fun _ _ z => by cases z⟩
  split at e
  · cases e
    exact ⟨fun _ _ _ _ z => by cases z; exact ⟨Nat.le_refl _, Nat.le_refl _⟩, fun _ _ z => by cases z⟩
  split at e
  · cases e
    exact ⟨fun _ _ _ _ z => by cases z; exact ⟨Nat.le_refl _, Nat.le_refl _⟩, fun _ _ z => by cases z⟩
  split at e
  · rename_i hh
    cases e
    exact ⟨fun _ _ _ _ z => by cases z; exact aHp_mono hh, fun _ _ z => by cases z⟩
  split at e
  · cases e
    exact ⟨fun _ _ _ _ z => (by cases z), fun _ _ z => by cases z; exact ⟨rfl, rfl⟩⟩
  split at e
  · split at e <;> cases e
    exact ⟨fun _ _ _ _ z => (by cases z), fun _ _ z => (by cases z)⟩
  · split at e
    · split at e
      · split at e <;> cases e
        exact ⟨fun _ _ _ _ z => (by cases z), fun _ _ z => (by cases z)⟩
      · cases e
    · cases e
  · split at e
    · split at e
      · split at e <;> cases e
        exact ⟨fun _ _ _ _ z => by cases z; exact ⟨Nat.le_refl _, Nat.le_refl _⟩, fun _ _ z => by cases z⟩
      · split at e
        · split at e
          · rename_i h0
            split at e
            · rename_i hc
              cases e
              refine ⟨fun _ _ _ _ z => ?_, fun _ _ z => (by cases z)⟩
              cases z
              refine ⟨by rw [List.length_set]; exact Nat.le_refl _, Nat.le_of_eq (aSzs_set cl _ _ _ _ h0 ?_).symm⟩
              obtain ⟨hc, -⟩ := hc
              rw [hc]
              unfold aSz
              rw [if_neg (by omega), if_neg (by omega)]
              congr 2
              omega
            · cases e
          · cases e
        · cases e
    · split at e <;> cases e
      exact ⟨fun _ _ _ _ z => (by cases z), fun _ _ z => (by cases z)⟩
    · cases e
  · split at e
    · split at e <;> cases e
      exact ⟨fun _ _ _ _ z => (by cases z), fun _ _ z => by cases z; exact ⟨rfl, rfl⟩⟩
    · cases e
  · cases e
theorem aRun_mono {cl : aCl} {K : Nat} {P : List aMt} : ∀ (n : Nat) (M : aMt) (d pc : Nat) (ls : aLc) (st : List Value) (h : aH) (res : aOut × aH), aRun cl K P n M d pc ls st h = some res → h.length ≤ res.2.length ∧ aSzs cl h ≤ aSzs cl res.2
  | 0, _, _, _, _, _, _, _, e => by simp [aRun] at e
  | n + 1, M, d, pc, ls, st, h, res, e => by
    unfold aRun at e
    split at e
    · cases e
    split at e
    · cases e
    · rename_i hs
      have h1 := (aStep_mono hs).1 _ _ _ _ rfl
      have h2 := aRun_mono n _ _ _ _ _ _ _ e
      omega
    · rename_i hs
      cases e
      rename_i r
      have h1 := (aStep_mono hs).2 res.1 res.2 rfl
      omega
    · split at e
      · split at e
        · split at e
          · cases e
          · rename_i hr
            have h1 := aRun_mono n _ _ _ _ _ _ _ hr
            have h2 := aRun_mono n _ _ _ _ _ _ _ e
            simp only at h1
            omega
          · rename_i hr
            have h1 := aRun_mono n _ _ _ _ _ _ _ hr
            simp only at h1
            split at e
            · cases e
              exact h1
            · split at e
              · split at e
                · have h2 := aRun_mono n _ _ _ _ _ _ _ e
                  omega
                · cases e
              · cases e
        · cases e
      · cases e
/-- the end of a method: what it answers, and the list of objects behind it -/
def aEnd (below : List Frame) (s s0 : State) (D : va_G) (cl : aCl) (ad : Nat → Nat) (unk : Nat → Value) (K cells slots : Nat) (res : aOut × aH) : State → Prop := fun t =>
  ∃ (o : Outcome) (L : List Loc), t.status = .running ∧ Ended t below o ∧ s.WarmedH t.vm ∧ s.sameButNew ({ t with vm := s.vm } : State) L cells slots ∧ (∀ q ∈ L, ad K ≤ q.base) ∧ aRel s0 D cl ad unk K res.2 t.heap ∧
    o = (match res.1 with | .inl v => .returned (v.map (aV ad unk)) | .inr q => .threw (ad q))
section ARET
variable {p : Program} {l : Launch} {e : Env} {R : Room} {s : State} {m : MethodId} {args : Array Value} {below : List Frame} {meth : Method} {c : Code} {H : Heap} {locs : List Loc} {cells slots : Nat} {Q : State → Prop}
variable {cc : ByteArray} {pc : Nat} {ls : Array Slot} {ad : Nat → Nat} {unk : Nat → Value} {own : MethodName} {s0 : State} {D : va_G} {cl : aCl} {K : Nat}
theorem aW_mono {Q' : State → Prop} {g : JFrame} (h : ∀ t, Q t → Q' t) (k : W p l e R s m args below meth c H locs cells slots Q g) : W p l e R s m args below meth c H locs cells slots Q' g := by
  intro T hT X
  obtain ⟨t, a, b⟩ := k T hT X
  exact ⟨t, a, h t b⟩
set_option maxHeartbeats 4000000 in
theorem aRet_ok (hx : p.tables.exec = Jvm.exec) (hb : c.code = cc) (hlk : meth.locks = false) {I : Instr} {rt : Option FieldType} (hr : meth.sig.returnType = rt) {hp : aH} {st : List Value} {v : Option Value}
    (h : aRet I rt st = some v) (hdg : decode cc pc = .ok (I, 1)) (hR : aRel s0 D cl ad unk K hp H) (hlocs : ∀ q ∈ locs, ad K ≤ q.base) :
    W p l e R s m args below meth c H locs cells slots (aEnd below s s0 D cl ad unk K cells slots (.inl v, hp)) (F0 m pc ls (aVs ad unk st)) := by
  have key : ∀ t, MQ below (fun _ _ o t => o = .returned (v.map (aV ad unk)) ∧ aRel s0 D cl ad unk K hp t.heap) args s cells slots (fun a => ad K ≤ a) t → aEnd below s s0 D cl ad unk K cells slots (.inl v, hp) t := by
    rintro t ⟨o, h1, h2, ⟨h3, h4⟩, L, ⟨-, h6, h7⟩, h8⟩
    exact ⟨o, L, h1, h2, h6, h7, h8, h4, h3⟩
  refine aW_mono key ?_
  have hq : ∀ (w : Option Value), w = v.map (aV ad unk) → ∀ t : State, t.heap = H → s.WarmedH t.vm → ((Outcome.returned w = .returned (v.map (aV ad unk))) ∧ aRel s0 D cl ad unk K hp t.heap) := by
    intro w hw t ht _
    exact ⟨by rw [hw], by rw [ht]; exact hR⟩
  cases I with
  | return_ =>
    simp only [aRet] at h
    split at h
    · cases h
      exact W.vret hx hb hr (hq none rfl) hlocs hdg hlk
    · cases h
  | ireturn =>
    simp only [aRet] at h
    split at h
    · cases h
      exact W.iret hx hb hr (hq _ rfl) hlocs hdg hlk
    · split at h
      · rename_i hv
        cases h
        exact W.zret hx hb hr (by rcases hv with rfl | rfl <;> decide) (hq _ rfl) hlocs hdg hlk
      · cases h
    · split at h
      · rename_i hv
        cases h
        exact W.zret hx hb hr hv (hq _ rfl) hlocs hdg hlk
      · cases h
    · split at h
      · rename_i hv
        cases h
        exact W.zret hx hb hr hv (hq _ rfl) hlocs hdg hlk
      · cases h
    · cases h
  | lreturn =>
    simp only [aRet] at h
    split at h
    · cases h
      exact W.lret hx hb hr (hq _ rfl) hlocs hdg hlk
    · cases h
  | freturn =>
    simp only [aRet] at h
    split at h
    · cases h
      exact W.fret hx hb hr (hq _ rfl) hlocs hdg hlk
    · cases h
  | areturn =>
    simp only [aRet] at h
    split at h
    · cases h
      exact W.aret hx hb hr (Or.inl ⟨_, rfl⟩) (Or.inr ⟨_, rfl⟩) (hq _ rfl) hlocs hdg hlk
    · cases h
      exact W.aret hx hb hr (Or.inl ⟨_, rfl⟩) (Or.inl rfl) (hq _ rfl) hlocs hdg hlk
    · cases h
  | _ => simp [aRet] at h
end ARET
