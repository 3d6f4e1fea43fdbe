section AHEAP3
variable {p : Program} {l : Launch} {e : Env} {R : Room} {s : State} {m : MethodId} {args : Array Value} {below : List Frame} {meth : Method} {c : Code} {H : Heap} {locs : List Loc} {cells slots : Nat} {Q : State → Prop}
variable {cc : ByteArray} {pc : Nat} {ls : Array Slot} {ad : Nat → Nat} {unk : Nat → Value} {own : MethodName} {s0 : State} {D : va_G} {cl : aCl} {K : Nat}
theorem aFit_ok {ty : FieldType} {v : Value} (h : aFit ty v = true) (hv : ∀ i, v ≠ .retAddr i) : narrow ty (aV ad unk v) = aV ad unk v ∧ fits ty (aV ad unk v) = true := by
  cases ty <;> cases v <;> simp_all [aFit, fits, aV, narrow]
  rename_i v
  rcases h with rfl | rfl <;> decide
theorem aObj_of {hp : aH} (hR : aRel s0 D cl ad unk K hp H) {q i : Nat} {vs : List Value} {r : vw_C × List FieldType} (h0 : hp[q]? = some (2 * i + 8, vs)) (hr : cl[i]? = some r) :
    ∃ cell : Cell, H[ad q]? = some cell ∧ cell.vm ≠ .unknown ∧ cell.vm.isStatics = false ∧ (K ≤ q → cell.vm = .none ∧ cell.monitor = {}) ∧ cell.cls = D.1 i ∧ ∀ (k : Nat) (v : Value), k < r.1.2.2 → vs[k]? = some v → cell.slots[D.2 i k]? = some (aV ad unk v) := by
  obtain ⟨cell, h1, h2, h3, h4, h5⟩ := hR.2.2.2 q _ h0
  rcases h5 with ⟨h6, -⟩ | ⟨j, r', e1, e2, e3, e4⟩ | ⟨j, r', kC, e1, -⟩
  · exfalso
    have h6 : 2 * i + 8 < 8 := h6
    omega
  · have hij : j = i := by have e1 : 2 * i + 8 = 2 * j + 8 := e1; omega
    subst hij
    cases hr.symm.trans e2
    exact ⟨cell, h1, h2, h3, h4, e3, e4⟩
  · exfalso
    have e1 : 2 * i + 8 = 2 * j + 9 := e1
    omega
set_option maxHeartbeats 4000000 in
theorem aGetf_ok (hx : p.tables.exec = Jvm.exec) (hb : c.code = cc) (hown : s.vm.findClass own.cls = some m.cls) (hcl : aClOK cl s) (hK : aK D cl s) {i : Nat} {lk : aLk} {hp hp' : aH} {st st' : List Value}
    (h : aHp cl K own (.getfield i) lk st hp = some (st', hp')) (hdg : decode cc pc = .ok (.getfield i, 3)) (hR : aRel s0 D cl ad unk K hp H) (hlk : aHk s0 cl ad unk K own (.getfield i) lk args s)
    (k : hp' = hp → W p l e R s m args below meth c H locs cells slots Q (F0 m (pc + 3) ls (aVs ad unk st'))) : W p l e R s m args below meth c H locs cells slots Q (F0 m pc ls (aVs ad unk st)) := by
  obtain ⟨r, hr, hkN, hlink⟩ := hlk
  simp only [aHp] at h
  split at h
  · rename_i q r0
    split at h
    · rename_i kd vs h0
      split at h
      · rename_i hkd
        subst hkd
        split at h
        · rename_i v hv
          cases h
          obtain ⟨cell, g1, g2, g3, g4, g5, g6⟩ := aObj_of hR h0 hr
          obtain ⟨hS, hfc, -⟩ := hK _ _ hr
          obtain ⟨cf, kf, fi, f, hi, hsl⟩ := hS _ hkN
          have hst := (hcl _ _ hr).1 _ hkN _ _ _ _ hi
          have hsv : cell.slots[f.slot]? = some (aV ad unk v) := by rw [hsl]; exact g6 _ _ hkN hv
          rcases hlink with hlink | ⟨host, hlink⟩
          · exact W.getf hx hb hown hlink hi hst g1 g2 hsv rfl rfl hdg (k rfl)
          · exact va_Wgetf hx hb hown hlink hi hst g1 g2 hsv rfl rfl hdg (k rfl)
        · cases h
      · cases h
    · cases h
  · cases h
set_option maxHeartbeats 4000000 in
theorem aPutf_ok (hA : aAd ad K) (hx : p.tables.exec = Jvm.exec) (hb : c.code = cc) (hown : s.vm.findClass own.cls = some m.cls) (hname : meth.name = own.name) (hcl : aClOK cl s) (hK : aK D cl s) {i : Nat} {lk : aLk} {hp hp' : aH} {st st' : List Value}
    (h : aHp cl K own (.putfield i) lk st hp = some (st', hp')) (hdg : decode cc pc = .ok (.putfield i, 3)) (hR : aRel s0 D cl ad unk K hp H) (hlk : aHk s0 cl ad unk K own (.putfield i) lk args s) (hlocs : ∀ q ∈ locs, ad K ≤ q.base)
    (k : ∀ (H' : Heap) (locs' : List Loc), aRel s0 D cl ad unk K hp' H' → (∀ q ∈ locs', ad K ≤ q.base) → hp'.length = hp.length → aSzs cl hp' = aSzs cl hp → W p l e R s m args below meth c H' locs' cells slots Q (F0 m (pc + 3) ls (aVs ad unk st'))) : W p l e R s m args below meth c H locs cells slots Q (F0 m pc ls (aVs ad unk st)) := by
  obtain ⟨r, hr, hkN, hown', hlink⟩ := hlk
  simp only [aHp] at h
  split at h
  · rename_i v q r0
    split at h
    · rename_i o c0 kd vs cc0 h0 hc0
      cases hr.symm.trans hc0
      split at h
      · rename_i hkd
        obtain ⟨hkd, hKq, hlt⟩ := hkd
        subst hkd
        split at h
        · rename_i ty hty
          split at h
          · rename_i hfit
            cases h
            obtain ⟨cell, g1, g2, g3, g4, g5, g6⟩ := aObj_of hR h0 hr
            have hvm := (g4 hKq).1
            obtain ⟨-, c2, c3, c4, c1⟩ := hcl _ _ hr
            have c1 := c1 hown'
            obtain ⟨hS, hfc, kC, hkC, hkind⟩ := hK.u hr hown'
            obtain ⟨cf, kf, fi, f, hi, hsl⟩ := hS _ hkN
            have hts : ∀ w ∈ u_ws r.1.1 r.1.2.1 r.1.2.2, w.before args s = true := fun w hw => c1 w hw args
            have hst := (u_facts hfc hkC (u_lays hts (fun w hw => hw) hkN) hi).1
            have hnr : ∀ j, v ≠ .retAddr j := by
              rintro j rfl
              cases ty <;> simp [aFit, fits] at hfit
            obtain ⟨n1, n2⟩ := aFit_ok (ad := ad) (unk := unk) hfit hnr
            have hd := c3 _ _ hty
            have hlay := hts _ (u_in_lay hkN)
            obtain ⟨v0, hv0⟩ : ∃ v0, vs[lk.2.1]? = some v0 := ⟨_, List.getElem?_eq_getElem hlt⟩
            have hsz : f.slot < cell.slots.size := by rw [hsl]; exact k2_hasslot (g6 _ _ hkN hv0)
            have hap : ∀ a b, a < r.1.2.2 → b < r.1.2.2 → a ≠ b → D.2 lk.1 a ≠ D.2 lk.1 b := by
              intro x y hx hy hne
              obtain ⟨_, _, _, fa, hia, ea⟩ := hS x hx
              obtain ⟨_, _, _, fb, hib, eb⟩ := hS y hy
              rw [← ea, ← eb]
              refine u_apart (u_lays hts (fun w hw => hw) hx) (u_lays hts (fun w hw => hw) hy) hia hib ?_
              have tx : ∃ t, r.2[x]? = some t := ⟨_, List.getElem?_eq_getElem (by omega)⟩
              have ty2 : ∃ t, r.2[y]? = some t := ⟨_, List.getElem?_eq_getElem (by omega)⟩
              obtain ⟨t1, tx⟩ := tx
              obtain ⟨t2, ty2⟩ := ty2
              rw [(State.fieldFound?_type hia (c3 _ _ tx)).1, (State.fieldFound?_type hib (c3 _ _ ty2)).1]
              exact c4 x hx y hy hne
            have fin : ∀ H' : Heap, H'[ad q]? = some (cell.setSlot f.slot (aV ad unk v)) → H'.size = H.size → (∀ a, a ≠ ad q → H'[a]? = H[a]?) →
                W p l e R s m args below meth c H' (locs ++ [⟨ad q, f.slot⟩]) cells slots Q (F0 m (pc + 3) ls (aVs ad unk st')) := by
              intro H' e1 e2 e3
              refine k H' _ (hR.set hA h0 hKq ⟨_, e1, g2, g3, g4, Or.inr (Or.inl ⟨lk.1, r, rfl, hr, g5, fun j w hj hw => ?_⟩)⟩ e2 e3) ?_ (by rw [List.length_set]) (aSzs_set cl _ _ _ _ h0 (by unfold aSz; rw [if_neg (by omega), if_neg (by omega)]))
              · show (cell.slots.setIfInBounds f.slot (aV ad unk v))[D.2 lk.1 j]? = _
                by_cases hjk : j = lk.2.1
                · subst hjk
                  rw [List.getElem?_set_self hlt] at hw
                  cases hw
                  rw [hsl, Array.getElem?_setIfInBounds, if_pos rfl, if_pos (by rw [← hsl]; exact hsz)]
                · rw [List.getElem?_set_ne (Ne.symm hjk)] at hw
                  rw [hsl, Array.getElem?_setIfInBounds, if_neg (hap _ _ hkN hj (Ne.symm hjk))]
                  exact g6 _ _ hj hw
              · intro a ha
                rcases List.mem_append.mp ha with ha | ha
                · exact hlocs a ha
                · rw [List.mem_singleton] at ha
                  subst ha
                  exact hA.ge hKq
            rcases hlink with ⟨hlink, hfin⟩ | ⟨hlink, hfin, hdecl, hin2⟩
            · unfold u_lay at hlay
              rw [if_neg (by rw [hfin]; decide)] at hlay
              have h6 := u_store hfc hkC hkind hlay hi hd n1 n2
              rcases hlink with hlink | ⟨host, hlink⟩
              · exact W.putK hx hb (f := f) ⟨hown, hlink, ⟨_, _, _, hi⟩, hst⟩ (by rw [g5]; exact h6) g1 hvm hsz rfl rfl hdg fin
              · exact va_WputK hx hb (f := f) hown hlink hi hst (by rw [g5]; exact h6) g1 hvm hsz rfl rfl hdg fin
            · unfold u_lay at hlay
              rw [if_pos hfin] at hlay
              have hcf : m.cls = cf := by
                obtain ⟨_, _, c', _, _, _, -, -, hf', -, -, -, hown2, -⟩ := Cond.laysFinal_spec hlay
                have e1 : c' = cf := by have := hi.symm.trans hf'; simp at this; exact this.1.symm
                rw [hdecl] at hown2
                rw [← e1]; exact Option.some.inj (hown.symm.trans hown2)
              have h6 := u_fits hfc hkC hkind (Or.inr hlay) hi hd n1 n2
              exact W.putFinK hx hb hown hlink hi hst hcf (hname.trans hin2) (by rw [g5]; exact h6) g1 hvm hsz rfl rfl hdg fin
          · cases h
        · cases h
      · cases h
    · cases h
  · cases h
set_option maxHeartbeats 4000000 in
theorem aNew_ok (hA : aAd ad K) (hx : p.tables.exec = Jvm.exec) (hb : c.code = cc) (hWs : s0.WarmedH s.vm) (hown : s.vm.findClass own.cls = some m.cls) (hcl : aClOK cl s) (hK : aK D cl s) {i : Nat} {lk : aLk} {hp hp' : aH} {st st' : List Value}
    (h : aHp cl K own (.new i) lk st hp = some (st', hp')) (hdg : decode cc pc = .ok (.new i, 3)) (hR : aRel s0 D cl ad unk K hp H) (hlk : aHk s0 cl ad unk K own (.new i) lk args s)
    (hcells : cells + (hp'.length - hp.length) ≤ R.cells) (hslots : slots + (aSzs cl hp' - aSzs cl hp) ≤ R.slots)
    (k : ∀ (H' : Heap), aRel s0 D cl ad unk K hp' H' → W p l e R s m args below meth c H' locs (cells + (hp'.length - hp.length)) (slots + (aSzs cl hp' - aSzs cl hp)) Q (F0 m (pc + 3) ls (aVs ad unk st'))) :
    W p l e R s m args below meth c H locs cells slots Q (F0 m pc ls (aVs ad unk st)) := by
  obtain ⟨r, hr, hown', h1, h2, h3⟩ := hlk
  obtain ⟨-, c2, c3, c4, c1⟩ := hcl _ _ hr
  have c1 := c1 hown'
  have hKn := hK.u hr hown'
  have hts : ∀ w ∈ u_ws r.1.1 r.1.2.1 r.1.2.2, w.before args s = true := fun w hw => c1 w hw args
  simp only [aHp] at h
  rw [hr] at h
  dsimp only at h
  split at h
  · cases h
    have e1 : (hp ++ [(2 * lk.1 + 8, r.2.map defaultValue)]).length - hp.length = 1 := by rw [List.length_append]; simp
    have e2 : aSzs cl (hp ++ [(2 * lk.1 + 8, r.2.map defaultValue)]) - aSzs cl hp = r.1.2.2 := by
      rw [aSzs_push]
      unfold aSz
      rw [if_neg (by omega), show (2 * lk.1 + 8 - 8) / 2 = lk.1 by omega, hr]
      show aSzs cl hp + r.1.2.2 - aSzs cl hp = r.1.2.2
      omega
    rw [e1] at hcells k
    rw [e2] at hslots k
    refine W.newcK hx hb hown h1 h2 h3 rfl hdg hcells hslots hKn.2.1 rfl fun H1 kC hkC g1 g2 g3 => ?_
    have hdn : ∀ ty, aV ad unk (defaultValue ty) = defaultValue ty := fun ty => by cases ty <;> rfl
    have hty : ∀ k, k < r.1.2.2 → parseFieldDescriptor (r.1.2.1 k).2.2.1 = some (r.2.getD k .int) := by
      intro k hk
      refine c3 k _ ?_
      rw [List.getD_eq_getElem?_getD, List.getElem?_eq_getElem (by omega)]
      rfl
    obtain ⟨cell, b1, b2, b3, b4⟩ := u_born (fun k => r.2.getD k .int) hts (fun w hw => hw) hKn hkC g1 hty
    have he : aAt s0 D cl ad unk K hp.length (2 * lk.1 + 8, r.2.map defaultValue) H1 := by
      have eb : cell = blank (D.1 lk.1) kC := Option.some.inj (b1.symm.trans g1)
      refine ⟨cell, by rw [← hR.2.1]; exact b1, by rw [b3]; exact (fun z => by cases z), by rw [b3]; rfl, (fun _ => ⟨b3, by rw [eb]; rfl⟩), Or.inr (Or.inl ⟨lk.1, r, rfl, hr, b2, fun j v hj hv => ?_⟩)⟩
      rw [b4 j hj]
      have hv : (r.2.map defaultValue)[j]? = some v := hv
      rw [List.getElem?_map] at hv
      obtain ⟨t, ht, rfl⟩ := Option.map_eq_some_iff.mp hv
      show some (defaultValue (r.2.getD j FieldType.int)) = _
      rw [List.getD_eq_getElem?_getD, ht, hdn]
      rfl
    refine W.eq ?_ (k H1 (hR.push hA g2 g3 he))
    simp only [aVs, List.map_cons, aV, hR.2.1]
  · cases h
    have e1 : (hp ++ [(2 * lk.1 + 9, ([] : List Value))]).length - hp.length = 1 := by rw [List.length_append]; simp
    have e2 : aSzs cl (hp ++ [(2 * lk.1 + 9, ([] : List Value))]) - aSzs cl hp = r.1.2.2 := by
      rw [aSzs_push]
      unfold aSz
      rw [if_neg (by omega), show (2 * lk.1 + 9 - 8) / 2 = lk.1 by omega, hr]
      show aSzs cl hp + r.1.2.2 - aSzs cl hp = r.1.2.2
      omega
    rw [e1] at hcells k
    rw [e2] at hslots k
    refine W.newcK hx hb hown h1 h2 h3 rfl hdg hcells hslots hKn.2.1 rfl fun H1 kC hkC g1 g2 g3 => ?_
    have he : aAt s0 D cl ad unk K hp.length (2 * lk.1 + 9, []) H1 := by
      refine ⟨blank (D.1 lk.1) kC, by rw [← hR.2.1]; exact g1, (fun z => by cases z), rfl, (fun _ => ⟨rfl, rfl⟩), Or.inr (Or.inr ⟨lk.1, r, kC, rfl, hr, Vm.Alike.refl _, fun U hU => ?_, rfl⟩)⟩
      obtain ⟨kC', hk', he'⟩ := (hWs.alike.symm.trans hU.alike).2.2 _ _ hkC
      exact ⟨kC', hk', by rw [he']; rfl⟩
    refine W.eq ?_ (k H1 (hR.push hA g2 g3 he))
    simp only [aVs, List.map_cons, aV, hR.2.1]
theorem aGets_ok (hW : s0.vm.Alike s.vm) (hx : p.tables.exec = Jvm.exec) (hb : c.code = cc) (hown : s.vm.findClass own.cls = some m.cls) {i : Nat} {lk : aLk} {hp : aH} {st : List Value} (hsz : s0.heap.size = ad K)
    (hdg : decode cc pc = .ok (.getstatic i, 3)) (hR : aRel s0 D cl ad unk K hp H) (hlk : aHk s0 cl ad unk K own (.getstatic i) lk args s)
    (k : W p l e R s m args below meth c H locs cells slots Q (F0 m (pc + 3) ls (aVs ad unk (lk.2.2.2 :: st)))) : W p l e R s m args below meth c H locs cells slots Q (F0 m pc ls (aVs ad unk st)) := by
  obtain ⟨C, n, d, hlink, hZ⟩ := hlk
  obtain ⟨cf, kf, fi, f, a, cell, h1, h2, h3, h4, h5, h6, h7, h8⟩ := va_Z.moved hW hZ
  have hlt : a < ad K := by rw [← hsz]; exact (Array.getElem?_eq_some_iff.mp h5).1
  have hc : H[a]? = some cell := by rw [hR.2.2.1 a hlt]; exact h5
  have hu : cell.vm ≠ .unknown := fun z => by rw [z] at h6; cases h6
  rcases hlink with hlink | ⟨host, hlink⟩
  · exact W.gets hx hb hown hlink h1 h2 h3 h4 hc hu h7 rfl hdg k
  · exact va_WgetsN hx hb hown hlink h1 h2 h3 h4 hc hu h7 rfl hdg k
end AHEAP3
