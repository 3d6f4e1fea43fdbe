section AHEAP
variable {p : Program} {l : Launch} {e : Env} {R : Room} {s : State} {m : MethodId} {args : Array Value} {below : List Frame} {meth : Method} {c : Code} {H : Heap} {locs : List Loc} {cells slots : Nat} {Q : State → Prop}
variable {cc : ByteArray} {pc : Nat} {ls : Array Slot} {ad : Nat → Nat} {unk : Nat → Value} {own : MethodName} {s0 : State} {D : va_G} {cl : aCl} {K : Nat}
theorem aArr_of (hal : s0.vm.Alike s.vm) {hp : aH} (hR : aRel s0 D cl ad unk K hp H) {q kd : Nat} {vs : List Value} (h0 : hp[q]? = some (kd, vs)) (hk : kd < 8) :
    ∃ cell : Cell, H[ad q]? = some cell ∧ cell.vm ≠ .unknown ∧ s.isArrayOf cell (aTy kd) ∧ (vs.length ≤ cell.slots.size ∧ cell.slots.size.toInt32 = Int32.ofNat vs.length) ∧ ∀ (j : Nat) (v : Value), vs[j]? = some v → cell.slots[j]? = some (aV ad unk v) := by
  obtain ⟨cell, h1, h2, -, -, h5⟩ := hR.2.2.2 q _ h0
  rcases h5 with ⟨-, h6, h7, h8⟩ | ⟨i, r, e, -⟩ | ⟨i, r, kC, e, -⟩
  · exact ⟨cell, h1, h2, State.isArrayOf_alike hal h6, h7, h8⟩
  · exfalso
    have e : kd = 2 * i + 8 := e
    omega
  · exfalso
    have e : kd = 2 * i + 9 := e
    omega
theorem aRd_ok (hx : p.tables.exec = Jvm.exec) (hb : c.code = cc) (hal : s0.vm.Alike s.vm) {hp hp' : aH} {st st' : List Value} {kd : Nat} {I : Instr} (hkI : (kd = 0 ∧ I = .iaload) ∨ (kd = 1 ∧ I = .caload) ∨ (kd = 2 ∧ I = .laload) ∨ (kd = 3 ∧ I = .faload) ∨ (kd = 4 ∧ I = .daload) ∨ (kd = 5 ∧ I = .baload))
    (h : aRd kd st hp = some (st', hp')) (hdg : decode cc pc = .ok (I, 1)) (hR : aRel s0 D cl ad unk K hp H)
    (k : hp' = hp → W p l e R s m args below meth c H locs cells slots Q (F0 m (pc + 1) ls (aVs ad unk st'))) : W p l e R s m args below meth c H locs cells slots Q (F0 m pc ls (aVs ad unk st)) := by
  unfold aRd at h
  split at h
  · rename_i i q r
    split at h
    · rename_i k9 vs h0
      split at h
      · rename_i hk
        subst hk
        split at h
        · cases h
        · rename_i hi
          split at h
          · rename_i v hv
            cases h
            have hk8 : k9 < 8 := by omega
            obtain ⟨cell, g1, g2, g3, g4, g5⟩ := aArr_of hal hR h0 hk8
            have hin : ¬ (i < 0 ∨ cell.slots.size ≤ i.toNatClampNeg) := by
              rintro (a | a)
              · exact hi a
              · have := (List.getElem?_eq_some_iff.mp hv).1
                omega
            rcases hkI with ⟨rfl, rfl⟩ | ⟨rfl, rfl⟩ | ⟨rfl, rfl⟩ | ⟨rfl, rfl⟩ | ⟨rfl, rfl⟩ | ⟨rfl, rfl⟩
            · exact W.iald hx hb g1 g3 g2 hin (g5 _ _ hv) rfl rfl hdg (k rfl)
            · exact W.cald hx hb g1 g3 g2 hin (g5 _ _ hv) rfl rfl hdg (k rfl)
            · exact W.lald hx hb g1 g3 g2 hin (g5 _ _ hv) rfl rfl hdg (k rfl)
            · exact W.fald hx hb g1 g3 g2 hin (g5 _ _ hv) rfl rfl hdg (k rfl)
            · exact W.dald hx hb g1 g3 g2 hin (g5 _ _ hv) rfl rfl hdg (k rfl)
            · exact W.bald hx hb g1 g3 g2 hin (g5 _ _ hv) rfl rfl hdg (k rfl)
          · cases h
      · cases h
    · cases h
  · cases h
theorem a_setSlot {cell : Cell} {j n : Nat} {x : Value} {vs : List Value} {x0 : Value} (hz : vs.length ≤ cell.slots.size ∧ cell.slots.size.toInt32 = Int32.ofNat vs.length) (hv : ∀ (j : Nat) (v : Value), vs[j]? = some v → cell.slots[j]? = some (aV ad unk v)) (hj : j < vs.length) (hx0 : aV ad unk x0 = x) :
    ((vs.set j x0).length ≤ (cell.setSlot j x).slots.size ∧ (cell.setSlot j x).slots.size.toInt32 = Int32.ofNat (vs.set j x0).length) ∧ ∀ (i : Nat) (v : Value), (vs.set j x0)[i]? = some v → (cell.setSlot j x).slots[i]? = some (aV ad unk v) := by
  have e : (cell.setSlot j x).slots = cell.slots.setIfInBounds j x := rfl
  rw [e]
  refine ⟨by rw [List.length_set, Array.size_setIfInBounds]; exact hz, fun i v hi => ?_⟩
  by_cases hij : i = j
  · subst hij
    rw [List.getElem?_set_self hj] at hi
    cases hi
    rw [Array.getElem?_setIfInBounds, if_pos rfl, if_pos (by omega), hx0]
  · rw [List.getElem?_set_ne (Ne.symm hij)] at hi
    rw [Array.getElem?_setIfInBounds, if_neg (Ne.symm hij)]
    exact hv i v hi
theorem aWr_ok (hA : aAd ad K) (hx : p.tables.exec = Jvm.exec) (hb : c.code = cc) (hal : s0.vm.Alike s.vm) {hp hp' : aH} {st st' : List Value} {kd : Nat} {x xs : Value} {I : Instr}
    (hkI : (∃ y, kd = 0 ∧ I = .iastore ∧ x = .int y ∧ xs = .int y) ∨ (∃ y, kd = 2 ∧ I = .lastore ∧ x = .long y ∧ xs = .long y) ∨ (∃ y, kd = 3 ∧ I = .fastore ∧ x = .float y ∧ xs = .float y) ∨ (∃ y, kd = 4 ∧ I = .dastore ∧ x = .double y ∧ xs = .double y) ∨ (∃ y, kd = 1 ∧ I = .castore ∧ x = narrow .char (.int y) ∧ xs = .int y))
    (h : aWr kd K x st hp = some (st', hp')) (hdg : decode cc pc = .ok (I, 1)) (hR : aRel s0 D cl ad unk K hp H) (hlocs : ∀ q ∈ locs, ad K ≤ q.base)
    (k : ∀ (H' : Heap) (locs' : List Loc), aRel s0 D cl ad unk K hp' H' → (∀ q ∈ locs', ad K ≤ q.base) → hp'.length = hp.length → aSzs cl hp' = aSzs cl hp → W p l e R s m args below meth c H' locs' cells slots Q (F0 m (pc + 1) ls (aVs ad unk st'))) :
    W p l e R s m args below meth c H locs cells slots Q (F0 m pc ls (aVs ad unk (xs :: st))) := by
  unfold aWr at h
  split at h
  · rename_i i q r
    split at h
    · rename_i k9 vs h0
      split at h
      · rename_i hk
        obtain ⟨rfl, hKq, hi, hlt⟩ := hk
        cases h
        have hk8 : k9 < 8 := by omega
        obtain ⟨cell, g1, g2, g3, g4, g5⟩ := aArr_of hal hR h0 hk8
        obtain ⟨cell', g1', g2', g6, g7, g8⟩ := hR.2.2.2 q _ h0
        have ec : cell' = cell := Option.some.inj (g1'.symm.trans g1)
        subst ec
        have hin : ¬ (i < 0 ∨ cell'.slots.size ≤ i.toNatClampNeg) := by
          rintro (a | a)
          · exact hi a
          · omega
        have harr0 : s0.isArrayOf cell' (aTy k9) := by
          rcases g8 with ⟨-, z, -⟩ | ⟨i9, r9, e9, -⟩ | ⟨i9, r9, kC9, e9, -⟩
          · exact z
          · exfalso
            have e9 : k9 = 2 * i9 + 8 := e9
            omega
          · exfalso
            have e9 : k9 = 2 * i9 + 9 := e9
            omega
        have fin : ∀ (x0 : Value), aV ad unk x = x0 → ∀ H' : Heap, H'[ad q]? = some (cell'.setSlot i.toNatClampNeg x0) → H'.size = H.size → (∀ a, a ≠ ad q → H'[a]? = H[a]?) →
            W p l e R s m args below meth c H' (locs ++ [⟨ad q, i.toNatClampNeg⟩]) cells slots Q (F0 m (pc + 1) ls (aVs ad unk st')) := by
          intro x0 hx0 H' e1 e2 e3
          obtain ⟨y1, y2⟩ := a_setSlot (n := 0) g4 g5 hlt hx0
          refine k H' _ (hR.set hA h0 hKq ⟨_, e1, g2, g6, g7, Or.inl ⟨hk8, harr0, y1, y2⟩⟩ e2 e3) ?_ (by rw [List.length_set]) (aSzs_set cl _ _ _ _ h0 (by unfold aSz; rw [if_pos hk8, if_pos hk8]; exact List.length_set))
          intro a ha
          rcases List.mem_append.mp ha with ha | ha
          · exact hlocs a ha
          · rw [List.mem_singleton] at ha
            subst ha
            exact hA.ge hKq
        rcases hkI with ⟨y, rfl, rfl, rfl, rfl⟩ | ⟨y, rfl, rfl, rfl, rfl⟩ | ⟨y, rfl, rfl, rfl, rfl⟩ | ⟨y, rfl, rfl, rfl, rfl⟩ | ⟨y, rfl, rfl, rfl, rfl⟩
        · exact W.iast hx hb g1 g3 g2 hin rfl rfl hdg (fin _ rfl)
        · exact W.last hx hb g1 g3 g2 hin rfl rfl hdg (fin _ rfl)
        · exact W.fast hx hb g1 g3 g2 hin rfl rfl hdg (fin _ rfl)
        · exact W.dast hx hb g1 g3 g2 hin rfl rfl hdg (fin _ rfl)
        · exact W.cast hx hb g1 g3 g2 hin rfl rfl hdg (fin _ rfl)
      · cases h
    · cases h
  · cases h
theorem aNewA_ok (hA : aAd ad K) (hx : p.tables.exec = Jvm.exec) (hb : c.code = cc) (hal : s0.vm.Alike s.vm) {hp hp' : aH} {st st' : List Value} {kd : Nat} {t : ArrayType} (hk8 : kd < 8) (ht : newarray.typeOf t = aTy kd) (hc8 : componentBytes (aTy kd) ≤ 8)
    (h : aNewA kd st hp = some (st', hp')) (hdg : decode cc pc = .ok (.newarray t, 2)) (hR : aRel s0 D cl ad unk K hp H) (harr : (Jvm.Cond.arrayClass (newarray.typeOf t)).before args s = true)
    (hcells : cells + (hp'.length - hp.length) ≤ R.cells) (hslots : slots + (aSzs cl hp' - aSzs cl hp) ≤ R.slots)
    (k : ∀ (H' : Heap), aRel s0 D cl ad unk K hp' H' → W p l e R s m args below meth c H' locs (cells + (hp'.length - hp.length)) (slots + (aSzs cl hp' - aSzs cl hp)) Q (F0 m (pc + 2) ls (aVs ad unk st'))) :
    W p l e R s m args below meth c H locs cells slots Q (F0 m pc ls (aVs ad unk st)) := by
  unfold aNewA at h
  split at h
  · rename_i n r
    split at h
    · rename_i hn
      obtain ⟨hn, hN⟩ := hn
      cases h
      have e1 : (hp ++ [(kd, List.replicate n.toNatClampNeg (defaultValue (aTy kd)))]).length - hp.length = 1 := by rw [List.length_append]; simp
      have e2 : aSzs cl (hp ++ [(kd, List.replicate n.toNatClampNeg (defaultValue (aTy kd)))]) - aSzs cl hp = n.toNatClampNeg := by
        rw [aSzs_push]
        unfold aSz
        rw [if_pos hk8, List.length_replicate]
        omega
      rw [e1] at hcells k
      rw [e2] at hslots k
      have hby : n.toNatClampNeg * componentBytes (newarray.typeOf t) ≤ 536870912 := by
        rw [ht]
        have : n.toNatClampNeg * componentBytes (aTy kd) ≤ 60000 * 8 := Nat.mul_le_mul hN hc8
        omega
      have hdn : ∀ ty, aV ad unk (defaultValue ty) = defaultValue ty := fun ty => by cases ty <;> rfl
      refine va_newaK hx hb harr rfl hdg rfl hn rfl hby hcells hslots rfl fun H' cA g1 g2 g3 g4 g5 => ?_
      have he : aAt s0 D cl ad unk K hp.length (kd, List.replicate n.toNatClampNeg (defaultValue (aTy kd))) H' := by
        refine ⟨_, by rw [← hR.2.1]; exact g1, (fun z => by cases z), rfl, (fun _ => ⟨rfl, rfl⟩), Or.inl ⟨hk8, ?_, by rw [arrV_size, List.length_replicate]; exact ⟨Nat.le_refl _, rfl⟩, fun j v hj => ?_⟩⟩
        · have := g4 n.toNatClampNeg (fun _ => defaultValue (newarray.typeOf t))
          rw [ht] at this ⊢
          exact State.isArrayOf_alike hal.symm this
        · obtain ⟨hj1, hj2⟩ := List.getElem?_eq_some_iff.mp hj
          rw [List.length_replicate] at hj1
          rw [List.getElem_replicate] at hj2
          rw [arrV_read _ _ hj1, ← hj2, hdn, ht]
      have hfin := k H' (hR.push hA g2 g3 he)
      refine W.eq ?_ hfin
      show _ = _
      simp only [aVs, List.map_cons, aV, hR.2.1]
    · cases h
  · cases h
end AHEAP
