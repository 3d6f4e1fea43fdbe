theorem a_arith {c a b d : Nat} (h1 : a ≤ b) (h2 : b ≤ d) : c + (b - a) + (d - b) = c + (d - a) := by omega
set_option maxHeartbeats 4000000 in
theorem aSound {s0 : State} {D : va_G} {cl : aCl} {ad : Nat → Nat} {unk : Nat → Value} {K : Nat} {P : List aMt} (hA : aAd ad K) (hu : ∀ i, (unk i).category = 1) (hsz : s0.heap.size = ad K)
    (HE : ∀ U : State, s0.WarmedH U.vm → aAll s0 D cl ad unk K P U) (HC : ∀ M ∈ P, M.hd ≠ [] → aThr s0 D M)
    (HS : ∀ U : State, s0.WarmedH U.vm → (∀ q : Nat, q < ad K → U.heap[q]? = s0.heap[q]?) → ∀ (args : Array Value) (own cls : String) (ic : Nat), ∀ w ∈ Bundle.ownAtoms own ic cls ["java/lang/RuntimeException", "java/lang/Exception"], aRefW w = true → w.before args U = true) :
    ∀ (n : Nat) (M : aMt) (d pc : Nat) (lc : aLc) (st : List Value) (h : aH) (res : aOut × aH), M ∈ P → aRun cl K P n M d pc lc st h = some res →
      ∀ (p : Program) (l : Launch) (e : Env) (R : Room) (s : State) (m : MethodId) (args : Array Value) (below : List Frame) (meth : Method) (c : Code) (H : Heap) (locs : List Loc) (cells slots : Nat) (ls : Array Slot),
        p.tables.exec = Jvm.exec → e.platform.stackTraces = false → (∀ (q : Nat) (cell : Cell), ad K ≤ q → s.heap[q]? = some cell → cell.vm.isStatics = false) → (∀ q : Nat, q < ad K → s.heap[q]? = s0.heap[q]?) → s0.WarmedH s.vm → s.methodNamed? M.nm = some m → c.code = M.by → c.maxLocals = M.nl → meth.sig.returnType = M.rt → meth.locks = false → meth.name = M.nm.name → (M.hd = [] → c.exceptionTable.toList = []) →
        d + 6 ≤ R.frames → 100 * d + 100 ≤ R.locals → aRel s0 D cl ad unk K h H → lv_has ls M.nl (aLs ad unk lc) → (∀ q ∈ locs, ad K ≤ q.base) →
        cells + (res.2.length - h.length) ≤ R.cells → slots + (aSzs cl res.2 - aSzs cl h) ≤ R.slots →
        W p l e R s m args below meth c H locs cells slots (aEnd below s s0 D cl ad unk K (cells + (res.2.length - h.length)) (slots + (aSzs cl res.2 - aSzs cl h)) res) (F0 m pc ls (aVs ad unk st))
  | 0, _, _, _, _, _, _, _, _, hr => by simp [aRun] at hr
  | n + 1, M, d, pc, lc, st, h, res, hMP, hr => by
    intro p l e R s m args below meth c H locs cells slots ls hx htr hsts hsh hW hnm hb hml hrt hlk hname hex hRf hRl hR hl hlocs hcells hslots
    have IH := aSound hA hu hsz HE HC HS n
    obtain ⟨hcl, hK, hall⟩ := HE s hW
    obtain ⟨hMm, hMe⟩ := hall M hMP
    have hown : s.vm.findClass M.nm.cls = some m.cls := findClass_of_methodNamed hnm
    have hal : s0.vm.Alike s.vm := hW.alike
    have hmono0 := aRun_mono _ _ _ _ _ _ _ _ hr
    unfold aRun at hr
    split at hr
    · cases hr
    rename_i I lk hf
    obtain ⟨⟨len, hdg, hlen⟩, hfacts⟩ := hMe pc I lk hf
    obtain ⟨hld, hhk, hik⟩ := hfacts args
    split at hr
    · cases hr
    · -- it goes on
      rename_i pc' lc' st' h' hs
      have hm1 := (aStep_mono hs).1 _ _ _ _ rfl
      have hm2 := aRun_mono _ _ _ _ _ _ _ _ hr
      have kgo : ∀ (H' : Heap) (locs' : List Loc) (ls' : Array Slot), aRel s0 D cl ad unk K h' H' → lv_has ls' M.nl (aLs ad unk lc') → (∀ q ∈ locs', ad K ≤ q.base) →
          W p l e R s m args below meth c H' locs' (cells + (h'.length - h.length)) (slots + (aSzs cl h' - aSzs cl h)) (aEnd below s s0 D cl ad unk K (cells + (res.2.length - h.length)) (slots + (aSzs cl res.2 - aSzs cl h)) res) (F0 m pc' ls' (aVs ad unk st')) := by
        intro H' locs' ls' a1 a2 a3
        have := IH M d pc' lc' st' h' res hMP hr p l e R s m args below meth c H' locs' (cells + (h'.length - h.length)) (slots + (aSzs cl h' - aSzs cl h)) ls'
          hx htr hsts hsh hW hnm hb hml hrt hlk hname hex hRf hRl a1 a2 a3 (by omega) (by omega)
        rw [show cells + (h'.length - h.length) + (res.2.length - h'.length) = cells + (res.2.length - h.length) by omega, show slots + (aSzs cl h' - aSzs cl h) + (aSzs cl res.2 - aSzs cl h') = slots + (aSzs cl res.2 - aSzs cl h) by omega] at this
        exact this
      have kgo0 : h' = h → ∀ (ls' : Array Slot), lv_has ls' M.nl (aLs ad unk lc') → W p l e R s m args below meth c H locs cells slots (aEnd below s s0 D cl ad unk K (cells + (res.2.length - h.length)) (slots + (aSzs cl res.2 - aSzs cl h)) res) (F0 m pc' ls' (aVs ad unk st')) := by
        intro e0 ls' a2
        subst e0
        have := kgo H locs ls' hR a2 hlocs
        rw [Nat.sub_self, Nat.sub_self] at this
        exact this
      unfold aStep at hs
      split at hs
      · rename_i hp1
        cases hs
        obtain ⟨g1, g2⟩ := aPure_len hp1
        have hlen := aFind_sw hlen g1 g2
        subst hlen
        exact aPure_ok hx hb hown hp1 hdg hld (kgo0 rfl ls hl)
      split at hs
      · rename_i hp1
        cases hs
        obtain ⟨g1, g2⟩ := aLoc_len hp1
        have hlen := aFind_sw hlen g1 g2
        subst hlen
        exact aLoc_ok hu hx hb hp1 hdg hl (kgo0 rfl)
      split at hs
      · rename_i hp1
        cases hs
        exact aBr_ok hx hb hp1 hdg hlen (kgo0 rfl ls hl)
      split at hs
      · rename_i hp1
        cases hs
        obtain ⟨g1, g2⟩ := aHp_len hp1
        have hlen := aFind_sw hlen g1 g2
        subst hlen
        exact aHp_ok hA hx hb hW hown hname hcl hK hsz hp1 hdg hR hhk hlocs (by omega) (by omega) (fun H' locs' a1 a2 => kgo H' locs' ls a1 hl a2)
      split at hs
      · cases hs
      split at hs
      · split at hs <;> cases hs
      · split at hs
        · split at hs
          · split at hs <;> cases hs
          · cases hs
        · cases hs
      · split at hs
        · rename_i w0 r0 hz _ _ _ _ _
          split at hs
          · rename_i hz2
            split at hs
            · rename_i hcat
              cases hs
              have hlen := aFind_sw hlen (fun _ _ z => by cases z) (fun _ _ _ _ z => by cases z)
              have hlen : len = 3 := hlen
              subst hlen
              rcases hik with ⟨-, -, w1, w2, w3⟩ | ⟨-, x, r9, e0, -⟩ | ⟨k0, M', n0, e0, -⟩
              · refine W.objInit hx hb hown w1 w2 w3 rfl (by rw [hl.1, hml]) rfl hdg (by omega) ?_ (kgo0 rfl ls hl)
                have := aCat_vs (ad := ad) hu st'
                show 2 * 0 + ((aVs ad unk st').map fun v => v.category).sum + 12 ≤ R.locals
                omega
              · rw [hz2] at e0
                cases e0
              · rw [hz] at e0
                cases e0
            · cases hs
          · rename_i x hz2
            split at hs
            · rename_i q r' _ _ _ _ _
              split at hs
              · rename_i kd vs h0
                split at hs
                · rename_i hc
                  obtain ⟨hkd, hKq, hcat⟩ := hc
                  subst hkd
                  cases hs
                  have hlen := aFind_sw hlen (fun _ _ z => by cases z) (fun _ _ _ _ z => by cases z)
                  have hlen : len = 3 := hlen
                  subst hlen
                  rcases hik with ⟨-, e0, -⟩ | ⟨-, x', r9, e0, e1, e2, e3, e4⟩ | ⟨k0, M', n0, e0, -⟩
                  · rw [hz2] at e0
                    cases e0
                  · have hxx : x' = x := by omega
                    subst hxx
                    obtain ⟨cell, g1, g2, g3, g4, g5⟩ := hR.2.2.2 q _ h0
                    rcases g5 with ⟨z, -⟩ | ⟨j, r8, z, -⟩ | ⟨j, r8, kC, z, z1, -, z2, z3⟩
                    · exfalso
                      have z : 2 * x' + 9 < 8 := z
                      omega
                    · exfalso
                      have z : 2 * x' + 9 = 2 * j + 8 := z
                      omega
                    · have hjx : j = x' := by have z : 2 * x' + 9 = 2 * j + 9 := z; omega
                      subst hjx
                      cases e1.symm.trans z1
                      obtain ⟨kC', k1, k2⟩ := z2 s hW
                      have hcellE : cell = blank (D.1 j) kC' := by rw [z3, k2]
                      intro T hT X
                      obtain ⟨vm', cell', L, X', c1, c2, c3, c4, c5⟩ := aCtor_ok X hx htr hown e3 (fun w hw => by
                          cases hrw : aRefW w with
                          | true => exact HS s hW hsh args _ _ _ w hw hrw
                          | false => exact e4 w hw hrw) (fun y hy cc hcc => hsts _ _ (hlocs y hy) hcc) (a := ad q) (hK _ _ e1).2.1 k1 (by rw [hT, ← hcellE]; exact g1) (msg := .ref (ad w0)) rfl (g := F0 m pc ls (aVs ad unk (.ref w0 :: .ref q :: st'))) rfl (by rw [hl.1, hml]) (rest := aVs ad unk st') rfl (by rw [hb]; exact hdg) (by omega)
                        (by
                          have := aCat_vs (ad := ad) hu st'
                          show 2 * 0 + ((aVs ad unk st').map fun v => v.category).sum + 81 ≤ R.locals
                          omega)
                      have hlt : ad q < T.heap.size := by rw [hT]; exact (Array.getElem?_eq_some_iff.mp g1).1
                      have hH : ((T.setVm vm').setCell (ad q) cell').heap = T.heap.setIfInBounds (ad q) cell' := rfl
                      have hR' : aRel s0 D cl ad unk K (h.set q (2 * j + 8, [])) ((T.setVm vm').setCell (ad q) cell').heap := by
                        rw [hH, hT]
                        refine hR.set hA h0 hKq ⟨cell', ?_, by rw [c3]; exact (fun z => by cases z), by rw [c3]; rfl, (fun _ => ⟨c3, c4⟩), Or.inr (Or.inl ⟨j, r9, rfl, e1, c2, fun k v _ hv => by cases hv⟩)⟩ (by simp) (fun a ha => by rw [Array.getElem?_setIfInBounds, if_neg (Ne.symm ha)])
                        rw [Array.getElem?_setIfInBounds, if_pos rfl, if_pos (by rw [← hT]; exact hlt)]
                      have hl1 : (h.set q (2 * j + 8, [])).length = h.length := List.length_set
                      have hl2 : aSzs cl (h.set q (2 * j + 8, [])) = aSzs cl h := aSzs_set cl _ _ _ _ h0 (by
                        unfold aSz
                        rw [if_neg (by omega), if_neg (by omega)]
                        congr 2
                        omega)
                      have hg := kgo _ (locs ++ L) ls hR' hl (fun y hy => by
                        rcases List.mem_append.mp hy with hy | hy
                        · exact hlocs y hy
                        · rw [c1 y hy]
                          exact hA.ge hKq)
                      rw [hl1, hl2, Nat.sub_self, Nat.sub_self] at hg
                      obtain ⟨t, b1, b2⟩ := hg _ rfl X'
                      exact ⟨t, c5 t b1, b2⟩
                  · rw [hz] at e0
                    cases e0
                · cases hs
              · cases hs
            · cases hs
        · split at hs <;> cases hs
        · cases hs
      · split at hs
        · split at hs <;> cases hs
        · cases hs
      · cases hs
    · -- it ends
      rename_i r hs
      cases hr
      obtain ⟨o, h'⟩ := res
      have he : h' = h := by
        unfold aStep at hs
        split at hs
        · cases hs
        split at hs
        · cases hs
        split at hs
        · cases hs
        split at hs
        · cases hs
        split at hs
        · cases hs
          rfl
        split at hs
        · split at hs <;> cases hs
        · split at hs
          · split at hs
            · split at hs <;> cases hs
            · cases hs
          · cases hs
        · split at hs
          · split at hs
            · split at hs <;> cases hs
            · split at hs
              · split at hs
                · split at hs <;> cases hs
                · cases hs
              · cases hs
          · split at hs <;> cases hs
          · cases hs
        · split at hs
          · split at hs <;> cases hs
            rfl
          · cases hs
        · cases hs
      subst he
      rw [Nat.sub_self, Nat.sub_self]
      unfold aStep at hs
      split at hs
      · cases hs
      split at hs
      · cases hs
      split at hs
      · cases hs
      split at hs
      · cases hs
      split at hs
      · rename_i hp1
        cases hs
        obtain ⟨g0, g1, g2⟩ := aRet_len hp1
        have hlen := aFind_sw hlen g1 g2
        rw [hlen, g0] at hdg
        exact aRet_ok hx hb hlk hrt hp1 hdg hR hlocs
      split at hs
      · split at hs <;> cases hs
      · split at hs
        · split at hs
          · split at hs <;> cases hs
          · cases hs
        · cases hs
      · split at hs
        · split at hs
          · split at hs <;> cases hs
          · split at hs
            · split at hs
              · split at hs <;> cases hs
              · cases hs
            · cases hs
        · split at hs <;> cases hs
        · cases hs
      · split at hs
        · rename_i q r0 _ _ _ _ _
          split at hs
          · rename_i hhd
            cases hs
            have hlen := aFind_sw hlen (fun _ _ z => by cases z) (fun _ _ _ _ z => by cases z)
            have hlen : len = 1 := hlen
            subst hlen
            have hout : ∀ x ∈ c.exceptionTable.toList, covers x (F0 m pc ls (aVs ad unk (.ref q :: r0))).pc = false := by
              rw [hex hhd]
              intro x hx0
              cases hx0
            intro T hT X
            obtain ⟨a1, a2, a3, a4, a5⟩ := X.athrowLeaves hx (g := F0 m pc ls (aVs ad unk (.ref q :: r0))) rfl rfl rfl hout (a := ad q) (rest := aVs ad unk r0) rfl (by rw [hb]; exact hdg) hlk
            refine ⟨_, a1, _, locs, a2, a3, a4, a5, hlocs, ?_, rfl⟩
            show aRel s0 D cl ad unk K h' (T.setFrames (.throwing (ad q) :: below)).heap
            have : (T.setFrames (.throwing (ad q) :: below)).heap = H := by rw [← hT]; rfl
            rw [this]
            exact hR
          · cases hs
        · cases hs
      · cases hs
    · -- it calls
      rename_i k as rest hs
      split at hr
      · rename_i d' M' hP'
        split at hr
        · rename_i hcat
          have hM'P : M' ∈ P := List.mem_of_getElem? hP'
          -- the callee's run
          obtain ⟨res1, hr1⟩ : ∃ res1, aRun cl K P n M' d' 0 (lv_args 0 as) [] h = some res1 := by
            split at hr
            · cases hr
            · rename_i h1
              exact ⟨_, h1⟩
            · rename_i h1
              exact ⟨_, h1⟩
          have hm1 := aRun_mono _ _ _ _ _ _ _ _ hr1
          have hm2 : res1.2.length ≤ res.2.length ∧ aSzs cl res1.2 ≤ aSzs cl res.2 := by
            rw [hr1] at hr
            split at hr
            · rename_i hh; cases hh
            · rename_i hh
              cases hh
              exact aRun_mono _ _ _ _ _ _ _ _ hr
            · rename_i hh
              cases hh
              split at hr
              · cases hr
                exact ⟨Nat.le_refl _, Nat.le_refl _⟩
              · split at hr
                · split at hr
                  · exact aRun_mono _ _ _ _ _ _ _ _ hr
                  · cases hr
                · cases hr
          intro T hT X
          -- the door
          have hdoor : ∃ (I' : Instr), decode c.code pc = .ok (I', 3) ∧ aDoor p l e R s m args below meth c T locs cells slots (F0 m pc ls (aVs ad unk st)) (aVs ad unk rest) (aVs ad unk as) M'.nm := by
            obtain ⟨hM1, -⟩ := hall M' hM'P
            rcases aStep_call hs with ⟨i, rfl, ha, rfl⟩ | ⟨i, q, as', vs, rfl, rfl, ha, rfl, h0⟩ | ⟨i, q, as', rfl, rfl, ha, hk⟩
            · obtain ⟨M2, e1, w1, w2, w3, w4⟩ := hik
              cases hP'.symm.trans e1
              obtain ⟨ha1, ha2⟩ := aArgs_ok _ ha
              have hlen := aFind_sw hlen (fun _ _ z => by cases z) (fun _ _ _ _ z => by cases z)
              have hlen : len = 3 := hlen
              subst hlen
              refine ⟨_, by rw [hb]; exact hdg, aDoor_S X hx hown hM1 (by rw [List.length_map, ha1]; exact w1) w2 w3 w4 rfl ?_ (by rw [hb]; exact hdg)⟩
              show aVs ad unk st = _
              rw [ha2, aVs, List.map_append, List.map_reverse]
            · obtain ⟨M2, r, n0, e1, e2, e3, w1, w2, w3, w4⟩ := hik
              cases hP'.symm.trans e1
              obtain ⟨ha1, ha2⟩ := aArgs_ok _ ha
              have hlen := aFind_sw hlen (fun _ _ z => by cases z) (fun _ _ _ _ z => by cases z)
              have hlen : len = 3 := hlen
              subst hlen
              obtain ⟨cell, g1, g2, g3, g4, g5, g6⟩ := aObj_of hR h0 e2
              have hKn := hK _ _ e2
              have hl1 : as'.length = n0 := by rw [e3] at ha1; simpa using ha1
              refine ⟨_, by rw [hb]; exact hdg, aDoor_V X hx hown hM1 (as := aVs ad unk as') (rest := aVs ad unk rest) (b := ad q) (by rw [List.length_map, hl1]; exact w1) w2 w3 w4 (by rw [hT]; exact g1) g3 (by rw [g5]; exact hKn.2.1) rfl ?_ (by rw [hb]; exact hdg)⟩
              show aVs ad unk st = _
              rw [ha2, aVs, List.map_append, List.map_reverse, List.map_cons, List.reverse_cons, List.append_assoc]
              rfl
            · rcases hik with ⟨e0, -⟩ | ⟨e0, -⟩ | ⟨k0, M2, n0, e0, e1, e3, w1, w2, w3, w4, w5⟩
              · rw [hk] at e0
                cases e0
              · rw [hk] at e0
                cases e0
              · have hkk : k0 = k := by omega
                subst hkk
                cases hP'.symm.trans e1
                obtain ⟨ha1, ha2⟩ := aArgs_ok _ ha
                have hlen := aFind_sw hlen (fun _ _ z => by cases z) (fun _ _ _ _ z => by cases z)
                have hlen : len = 3 := hlen
                subst hlen
                have hl1 : as'.length = n0 := by rw [e3] at ha1; simpa using ha1
                refine ⟨_, by rw [hb]; exact hdg, aDoor_I X hx hown (as := aVs ad unk as') (rest := aVs ad unk rest) (b := ad q) (by rw [List.length_map, hl1]; exact w1) w2 w3 w4 w5 rfl ?_ (by rw [hb]; exact hdg)⟩
                show aVs ad unk st = _
                rw [ha2, aVs, List.map_append, List.map_reverse, List.map_cons, List.reverse_cons, List.append_assoc]
                rfl
          obtain ⟨I', hdg3, vm₁, mk, X₁, hn, hstep⟩ := hdoor
          have hWU : s0.WarmedH (T.setVm vm₁).vm := State.WarmedH.trans hW X₁.warmed
          have hMU := ((HE _ hWU).2.2 M' hM'P).1
          have hnU : (T.setVm vm₁).methodNamed? M'.nm = some mk := X₁.named hn
          have hTU : (T.setVm vm₁).heap = H := hT
          have hstU : ∀ (q : Nat) (cell : Cell), ad K ≤ q → ((T.setVm vm₁).calling (F0 m pc ls (aVs ad unk rest)) mk (aVs ad unk as).toArray).heap[q]? = some cell → cell.vm.isStatics = false := by
            intro q cell hq hc
            have hc : H[q]? = some cell := by rw [← hTU]; exact hc
            exact aRel.nost hA hR hq hc
          have hshU : ∀ q : Nat, q < ad K → ((T.setVm vm₁).calling (F0 m pc ls (aVs ad unk rest)) mk (aVs ad unk as).toArray).heap[q]? = s0.heap[q]? := by
            intro q hq
            have := hR.2.2.1 q hq
            rw [← hTU] at this
            exact this
          obtain ⟨T', L, X', hL, hR1, hret, hthr⟩ := aEnter (s0 := s0) (D := D) (cl := cl) (ad := ad) (unk := unk) (K := K) X₁ (g := F0 m pc ls (aVs ad unk rest)) rfl (by rw [hl.1, hml]) hdg3 (M' := M') hnU hMU (as := aVs ad unk as)
            (R' := { frames := d' + 6, cells := res1.2.length - h.length, slots := aSzs cl res1.2 - aSzs cl h, locals := 100 * d' + 100 }) (by show d' + 6 + 1 ≤ R.frames; omega)
            (by
              have := aCat_vs (ad := ad) hu rest
              show 2 * 0 + ((aVs ad unk rest).map fun v => v.category).sum + (M'.nl + 11) + (100 * d' + 100) ≤ R.locals
              omega)
            (by show cells + (res1.2.length - h.length) ≤ R.cells; omega) (by show slots + (aSzs cl res1.2 - aSzs cl h) ≤ R.slots; omega) (k := 0 + (res1.2.length - h.length)) (n := 0 + (aSzs cl res1.2 - aSzs cl h)) (res := res1)
            (by
              intro methk ck b1 b2 b3 b4 b5 b6 b7
              rw [lg_entry_eq]
              have hle := lv_entry (aVs ad unk as) (n := M'.nl) (by rw [a_slN hu]; omega)
              rw [aLs_args hu] at hle
              exact IH M' d' 0 (lv_args 0 as) [] h res1 hM'P hr1 p l e _ _ mk _ _ methk ck _ [] 0 0 _ hx htr hstU hshU hWU hnU b1 b2 b3 b4 b6 b5 (Nat.le_refl _) (Nat.le_refl _) (by rw [hTU]; exact hR) hle (fun q hq => by cases hq) (by simp) (by simp))
          rw [Nat.zero_add, Nat.zero_add] at X'
          have hlocs' : ∀ q ∈ locs ++ L, ad K ≤ q.base := fun q hq => (List.mem_append.mp hq).elim (hlocs q) (hL q)
          have fin : ∀ (pc2 : Nat) (st2 : List Value), aRun cl K P n M (d' + 1) pc2 lc st2 res1.2 = some res →
              ∃ t, Steps p.tables e below (T'.setTop (F0 m pc2 ls (aVs ad unk st2))) t ∧ aEnd below s s0 D cl ad unk K (cells + (res.2.length - h.length)) (slots + (aSzs cl res.2 - aSzs cl h)) res t := by
            intro pc2 st2 hr2
            have := IH M (d' + 1) pc2 lc st2 res1.2 res hMP hr2 p l e R s m args below meth c T'.heap (locs ++ L) (cells + (res1.2.length - h.length)) (slots + (aSzs cl res1.2 - aSzs cl h)) ls
              hx htr hsts hsh hW hnm hb hml hrt hlk hname hex hRf hRl hR1 hl hlocs' (by omega) (by omega)
            rw [show cells + (res1.2.length - h.length) + (res.2.length - res1.2.length) = cells + (res.2.length - h.length) by omega, show slots + (aSzs cl res1.2 - aSzs cl h) + (aSzs cl res.2 - aSzs cl res1.2) = slots + (aSzs cl res.2 - aSzs cl h) by omega] at this
            exact this T' rfl X'
          rw [hr1] at hr
          obtain ⟨o1, h1⟩ := res1
          cases o1 with
          | inl v =>
            have hr : aRun cl K P n M (d' + 1) (pc + 3) lc (v.toList ++ rest) h1 = some res := hr
            obtain ⟨t, b1, b2⟩ := fin _ _ hr
            refine ⟨t, hstep _ fun acts => hret v rfl t ?_ acts, b2⟩
            have e9 : (v.map (aV ad unk)).toList ++ aVs ad unk rest = aVs ad unk (v.toList ++ rest) := by cases v <;> rfl
            show Steps p.tables e below (T'.setTop (F0 m (pc + 3) ls ((v.map (aV ad unk)).toList ++ aVs ad unk rest))) t
            rw [e9]
            exact b1
          | inr q =>
            dsimp only at hr
            split at hr
            · rename_i hhd
              cases hr
              have hout : ∀ x ∈ c.exceptionTable.toList, covers x (F0 m pc ls (aVs ad unk rest)).pc = false := by
                rw [hex hhd]
                intro x hx0
                cases hx0
              obtain ⟨a1, a2, a3, a4, a5⟩ := X'.leaveThrown (ad q) (g := F0 m pc ls (aVs ad unk rest)) rfl rfl rfl hout hlk
              refine ⟨_, hstep _ fun acts => hthr q rfl _ a1 acts, _, locs ++ L, a2, a3, a4, a5, hlocs', ?_, rfl⟩
              show aRel s0 D cl ad unk K h1 (T'.setFrames (.throwing (ad q) :: below)).heap
              exact hR1
            · rename_i hhd
              split at hr
              · rename_i kd vs h0
                split at hr
                · rename_i t0 hha
                  obtain ⟨k9, rfl⟩ := aHand_kd hha
                  obtain ⟨cell, g1, g2, g3, g4, g5⟩ := hR1.2.2.2 q _ h0
                  have hcls : cell.cls = D.1 k9 := by
                    rcases g5 with ⟨z, -⟩ | ⟨j, r', e1, -, e3, -⟩ | ⟨j, r', kC, e1, -⟩
                    · exfalso
                      have z : 2 * k9 + 8 < 8 := z
                      omega
                    · have e1 : 2 * k9 + 8 = 2 * j + 8 := e1
                      rw [e3, show j = k9 by omega]
                    · exfalso
                      have e1 : 2 * k9 + 8 = 2 * j + 9 := e1
                      omega
                  obtain ⟨vm2, X2, hst2⟩ := HC M hMP hhd X' hx hW hnm (g := F0 m pc ls (aVs ad unk rest)) rfl g1 hcls g3 hha
                  have := IH M (d' + 1) t0 lc [.ref q] h1 res hMP hr p l e R s m args below meth c T'.heap (locs ++ L) (cells + (h1.length - h.length)) (slots + (aSzs cl h1 - aSzs cl h)) ls
                    hx htr hsts hsh hW hnm hb hml hrt hlk hname hex hRf hRl hR1 hl hlocs' (by simp only at hm1 hm2; omega) (by simp only at hm1 hm2; omega)
                  rw [a_arith (c := cells) hm1.1 hm2.1, a_arith (c := slots) hm1.2 hm2.2] at this
                  obtain ⟨t, b1, b2⟩ := this (T'.setVm vm2) rfl X2
                  exact ⟨t, hstep _ fun acts => hthr q rfl t (hst2 _ b1) acts, b2⟩
                · cases hr
              · cases hr
        · cases hr
      · cases hr
