/-! more that holds between calls: the machine of both sides, typed, and the program as a tree -/
def iMac (N : Nat) (W : Nat → Nat) (S : Nat → List Value) : Prop := ∃ (s : aSt) (w : Nat → Value) (P : Nat → Nat → Bool → Prop), cRep S s S ∧ mRep S w (Int32.ofNat N) s S ∧ okS s ∧ (s.1 = 0 → okL P s) ∧ (N = 0 ∨ cOk W N P)
/-- rows that keep what they held: longs, ints -/
def tyR (S : Nat → List Value) : Prop := (∀ j, j < 160 → ∃ x : Int64, (S 26)[j]? = some (.long x)) ∧ ∀ j, j < 162 → ∃ x : Int32, (S 58)[j]? = some (.int x)
theorem tyR_tr {S S' : Nat → List Value} (h1 : S' 26 = S 26) (h2 : S' 58 = S 58) (h : tyR S) : tyR S' := by
  unfold tyR
  rw [h1, h2]
  exact h
def iExt : aExt := fun S h => S 84 = sinL ∧ (S 29 = aS0 29 ∧ tyR S) ∧ (∃ v0 v1 v2 v3, S 45 = [v0, v1, v2, v3]) ∧ ∃ (pa N : Nat) (W : Nat → Nat), prgS S pa N W ∧ prgM S N W ∧ (S 20)[6]? = some (.ref pa) ∧ iMac N W S ∧
  (N = 0 ∨ ∃ (T : Nat → Nat × Nat × Nat) (tc : Nat) (first : Value), trmS S pa tc T ∧ (S pa)[0]? = some first ∧ tPrg W N T tc (fun q => h[q]?) first)
section EXT
variable {S S' : Nat → List Value} {s : aSt} {w : Nat → Value} {nn : Int32} {W : Nat → Nat} {T : Nat → Nat × Nat × Nat} {tc pa N : Nat} {D : Nat → Nat → Prop} {L L' : Nat → Option aO} {f : Bool}
theorem tSt_mono {R R' : Value → Nat → Nat → Nat → Prop} (h : ∀ v k a b, R v k a b → R' v k a b) {kind num k k' a e m : Nat} {body els dfn : Value} (hs : tSt W D f R kind num body els dfn k k' a e m) : tSt W D f R' kind num body els dfn k k' a e m := by
  rcases hs with ⟨a1, a2, a3, a4, j, r, b⟩ | ⟨a1, a2, a3, a4, j, r, b⟩ | ⟨a1, a2, a3, hr⟩ | z | z | z | z | z
  · exact Or.inl ⟨a1, a2, a3, a4, j, h _ _ _ _ r, b⟩
  · exact Or.inr (Or.inl ⟨a1, a2, a3, a4, j, h _ _ _ _ r, b⟩)
  · refine Or.inr (Or.inr (Or.inl ⟨a1, a2, a3, ?_⟩))
    rcases hr with ⟨b1, b2, r⟩ | ⟨j, r, b1, b2, b3, r2⟩
    · exact Or.inl ⟨b1, b2, h _ _ _ _ r⟩
    · exact Or.inr ⟨j, h _ _ _ _ r, b1, b2, b3, h _ _ _ _ r2⟩
  · exact Or.inr (Or.inr (Or.inr (Or.inl z)))
  · exact Or.inr (Or.inr (Or.inr (Or.inr (Or.inl z))))
  · exact Or.inr (Or.inr (Or.inr (Or.inr (Or.inr (Or.inl z)))))
  · exact Or.inr (Or.inr (Or.inr (Or.inr (Or.inr (Or.inr (Or.inl z))))))
  · exact Or.inr (Or.inr (Or.inr (Or.inr (Or.inr (Or.inr (Or.inr z))))))
theorem tLst_mono (hL : ∀ (q : Nat) (o : aO), 87 ≤ q → L q = some o → L' q = some o) {R R' : Value → Nat → Nat → Nat → Prop} (h : ∀ v k a b, R v k a b → R' v k a b) : ∀ {n : Nat} {v : Value} {k a b : Nat}, tLst W T tc D L f R n v k a b → tLst W T tc D L' f R' n v k a b
  | 0, _, _, _, _, z => z
  | n + 1, v, k, a, b, z => by
    rcases z with z | ⟨q, kind, num, frm, to, body, he, els, nxt, nm, nos, tp, dfn, cp, k', e, m, z1, z2, z3, z4, z5, z6, z7, z8, z9⟩
    · exact Or.inl z
    · exact Or.inr ⟨q, kind, num, frm, to, body, he, els, nxt, nm, nos, tp, dfn, cp, k', e, m, z1, z2, hL _ _ z2 z3, z4, z5, z6, z7, tSt_mono h z8, tLst_mono hL h z9⟩
theorem tBlk_mono (hL : ∀ (q : Nat) (o : aO), 87 ≤ q → L q = some o → L' q = some o) : ∀ {dp : Nat} {v : Value} {k a b : Nat}, tBlk W T tc D L f dp v k a b → tBlk W T tc D L' f dp v k a b
  | 0, _, _, _, _, z => z
  | dp + 1, v, k, a, b, ⟨n, z⟩ => ⟨n, tLst_mono hL (fun v k a b r => tBlk_mono hL r) z⟩
theorem tTop_mono (hL : ∀ (q : Nat) (o : aO), 87 ≤ q → L q = some o → L' q = some o) : ∀ {n : Nat} {v : Value} {a b : Nat}, tTop W T tc D L n v a b → tTop W T tc D L' n v a b
  | 0, _, _, _, z => z
  | n + 1, v, a, b, z => by
    rcases z with z | ⟨q, num, frm, to, body, he, els, nxt, nm, nos, tp, dfn, cp, j, z1, z2, z3, z4, z5, z6, z7, z8⟩ | ⟨q, kind, num, frm, to, body, he, els, nxt, nm, nos, tp, dfn, cp, k', e, m, z1, z2, z3, z4, z5, z6, z7, z8, z9⟩
    · exact Or.inl z
    · exact Or.inr (Or.inl ⟨q, num, frm, to, body, he, els, nxt, nm, nos, tp, dfn, cp, j, z1, z2, hL _ _ z2 z3, z4, z5, tBlk_mono hL z6, z7, tTop_mono hL z8⟩)
    · exact Or.inr (Or.inr ⟨q, kind, num, frm, to, body, he, els, nxt, nm, nos, tp, dfn, cp, k', e, m, z1, z2, hL _ _ z2 z3, z4, z5, z6, z7, tSt_mono (fun v k a b r => tBlk_mono hL r) z8, tTop_mono hL z9⟩)
theorem tPrg_mono (hL : ∀ (q : Nat) (o : aO), 87 ≤ q → L q = some o → L' q = some o) {v : Value} (h : tPrg W N T tc L v) : tPrg W N T tc L' v := by
  obtain ⟨n, D, h1, h2, h3, h4⟩ := h
  refine ⟨n, D, tTop_mono hL h1, h2, h3, fun q c hd => ?_⟩
  obtain ⟨z0, num, frm, to, body, he, els, nxt, nm, nos, tp, dfn, cp, j, z1, z2, z3⟩ := h4 q c hd
  exact ⟨z0, num, frm, to, body, he, els, nxt, nm, nos, tp, dfn, cp, j, hL _ _ z0 z1, tBlk_mono hL z2, z3⟩
theorem prgS_tr (h1 : S' pa = S pa) (h2 : S' (pa + 4) = S (pa + 4)) (h : prgS S pa N W) : prgS S' pa N W := by
  obtain ⟨a, b, c, d, e, g⟩ := h
  exact ⟨a, b, by rw [h1]; exact c, by rw [h1]; exact d, by rw [h2]; exact e, g⟩
theorem prgM_tr (h1 : S' 76 = S 76) (h : prgM S N W) : prgM S' N W := ⟨h.1, by rw [h1]; exact h.2⟩
theorem trmS_tr (h0 : S' pa = S pa) (h1 : S' (pa + 1) = S (pa + 1)) (h2 : S' (pa + 2) = S (pa + 2)) (h3 : S' (pa + 3) = S (pa + 3)) (h : trmS S pa tc T) : trmS S' pa tc T := by
  unfold trmS at h ⊢
  rw [h0, h1, h2, h3]
  exact h
theorem cRep_tr (h : ∀ q, 35 ≤ q → q < 45 → S' q = S q) (hR : cRep S s S) : cRep S' s S' := by
  obtain ⟨ht, cl, pc, a36, a39, a40, a44, rc, e, rest⟩ := hR
  refine ⟨ht, cl, pc, a36, a39, a40, a44, rc, ?_, rest⟩
  have q : ∀ p, 35 ≤ p → p < 45 → S' p = _ := fun p h1 h2 => (h p h1 h2).trans (congrFun e p)
  refine Eq.trans cS_id.symm ?_
  rw [q 35 (by decide) (by decide), q 36 (by decide) (by decide), q 37 (by decide) (by decide), q 38 (by decide) (by decide), q 39 (by decide) (by decide), q 40 (by decide) (by decide), q 41 (by decide) (by decide), q 42 (by decide) (by decide), q 43 (by decide) (by decide), q 44 (by decide) (by decide)]
  rfl
def wX (w : Nat → Value) (l : List Value) : Nat → Value := fun i => if i < 4 then l.getD i .null else w i
theorem mM_wX {l : List Value} {pc en hi un : Int32} {x y : UInt32} {hd co dn : Int32} (h : ∀ j, 4 ≤ j → l[j]? = (mM w nn pc en hi un x y hd co dn)[j]?) : l = mM (wX w l) nn pc en hi un x y hd co dn := by
  have hl : 4 ≤ l.length := by
    have := h 4 (Nat.le_refl _)
    rw [show (mM w nn pc en hi un x y hd co dn)[4]? = some (w 4) from rfl] at this
    have := (List.getElem?_eq_some_iff.mp this).1
    omega
  apply List.ext_getElem?
  intro j
  by_cases hj : 4 ≤ j
  · rw [h j hj]
    have e : (mM (wX w l) nn pc en hi un x y hd co dn).drop 4 = (mM w nn pc en hi un x y hd co dn).drop 4 := rfl
    have := congrArg (fun z => z[j - 4]?) e
    simp only [List.getElem?_drop] at this
    rw [show 4 + (j - 4) = j by omega] at this
    exact this.symm
  · have g : ∀ i, i < 4 → l[i]? = some (wX w l i) := fun i hi => by
      unfold wX
      rw [if_pos hi, List.getD_eq_getElem?_getD, List.getElem?_eq_getElem (by omega)]
      rfl
    match j, hj with
    | 0, _ => exact g 0 (by decide)
    | 1, _ => exact g 1 (by decide)
    | 2, _ => exact g 2 (by decide)
    | 3, _ => exact g 3 (by decide)
    | j + 4, hj => omega
theorem mRep_tr (h : ∀ q, 77 ≤ q → q < 84 → S' q = S q) (h56 : ∀ j, 4 ≤ j → (S' 56)[j]? = (S 56)[j]?) (hR : mRep S w nn s S) : mRep S' (wX w (S' 56)) nn s S' := by
  obtain ⟨hi, un, pcv, a77, a79, a80, a83, e, rest⟩ := hR
  refine ⟨hi, un, pcv, a77, a79, a80, a83, ?_, rest⟩
  have q : ∀ p, 77 ≤ p → p < 84 → S' p = _ := fun p h1 h2 => (h p h1 h2).trans (congrFun e p)
  have e56 := mM_wX (l := S' 56) (fun j hj => (h56 j hj).trans (congrArg (fun z => z[j]?) (congrFun e 56)))
  refine Eq.trans mS_id.symm ?_
  rw [q 77 (by decide) (by decide), q 78 (by decide) (by decide), q 79 (by decide) (by decide), q 80 (by decide) (by decide), q 81 (by decide) (by decide), q 82 (by decide) (by decide), q 83 (by decide) (by decide)]
  conv => lhs; rw [e56]
  rfl
theorem iExt_st : eSt iExt := by
  intro S h S' h' hE hs ht
  obtain ⟨s1, s2, s3⟩ := hs
  obtain ⟨e1, e2, e3, pa, N, W, p1, p2, p3, ⟨s, w, P, m1, m2, m3, m4, m5⟩, p5⟩ := hE
  have hpa := p1.1
  refine ⟨(s1 84 (by decide) (by decide) (by decide) (by decide)).trans e1, ⟨(s1 29 (by decide) (by decide) (by decide) (by decide)).trans e2.1, tyR_tr (s1 26 (by decide) (by decide) (by decide) (by decide)) (s1 58 (by decide) (by decide) (by decide) (by decide)) e2.2⟩, by rw [s1 45 (by decide) (by decide) (by decide) (by decide)]; exact e3, pa, N, W, prgS_tr (s1 _ (by omega) (by omega) (by omega) (by omega)) (s1 _ (by omega) (by omega) (by omega) (by omega)) p1, prgM_tr (s1 76 (by decide) (by decide) (by decide) (by decide)) p2, (s2 6 (by decide)).trans p3,
    ⟨s, _, P, cRep_tr (fun q h1 h2 => s1 q (by omega) (by omega) (by omega) (by omega)) m1, mRep_tr (fun q h1 h2 => s1 q (by omega) (by omega) (by omega) (by omega)) s3 m2, m3, m4, m5⟩, ?_⟩
  rcases p5 with z | ⟨T, tc, first, z1, z2, z3⟩
  · exact Or.inl z
  · exact Or.inr ⟨T, tc, first, trmS_tr (s1 _ (by omega) (by omega) (by omega) (by omega)) (s1 _ (by omega) (by omega) (by omega) (by omega)) (s1 _ (by omega) (by omega) (by omega) (by omega)) (s1 _ (by omega) (by omega) (by omega) (by omega)) z1, by rw [s1 _ (by omega) (by omega) (by omega) (by omega)]; exact z2, tPrg_mono ht z3⟩
end EXT
