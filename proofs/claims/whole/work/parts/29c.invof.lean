/-! the invariant, after the machine has gone on -/
section INVOF
variable {scr : List Value} {kd : Nat → Nat} {n c : Nat} {S S3 : Nat → List Value} {s r : aSt} {w : Nat → Value} {nn t : Int32} {W : Nat → Nat} {pa N : Nat}
theorem mM_lo {pc en hi un : Int32} {x y : UInt32} {hd co dn : Int32} {j : Nat} (hj : j < 30) : (mM w nn pc en hi un x y hd co dn)[j]? = some (w j) := by
  have e : mM w nn pc en hi un x y hd co dn = (List.range 30).map w ++ [.int nn, .ref 76, .int pc, .int en, .int hi, .ref 77, .int un, .ref 78, .ref 79, .ref 80, .ref 81, .float x, .float y, .int hd, .int co, .int dn, .ref 82, .ref 83, .ref 84] := rfl
  rw [e, List.getElem?_append_left (by simp; omega), List.getElem?_map, List.getElem?_range hj]
  rfl
theorem wT_ne {j : Nat} (hj : j ≠ 0) : wT w t j = w j := if_neg hj
/-- which entries of the changed objects are links -/
theorem aCon_at : ∀ q ∈ aCon, (q.1 = 35 → q.2.1 = 0 ∨ q.2.1 = 2 ∨ q.2.1 = 4 ∨ q.2.1 = 5 ∨ q.2.1 = 6 ∨ q.2.1 = 7) ∧ (q.1 = 41 → q.2.1 = 0) ∧ (q.1 = 42 → q.2.1 = 0 ∨ q.2.1 = 1) ∧ (q.1 = 56 → (0 < q.2.1 ∧ q.2.1 < 30) ∨ q.2.1 = 31 ∨ q.2.1 = 35 ∨ q.2.1 = 37 ∨ q.2.1 = 38 ∨ q.2.1 = 39 ∨ q.2.1 = 40 ∨ q.2.1 = 46 ∨ q.2.1 = 47 ∨ q.2.1 = 48) ∧ 20 ≤ q.1 ∧ q.1 < 77 ∧ q.1 ≠ 36 ∧ q.1 ≠ 37 ∧ q.1 ≠ 38 ∧ q.1 ≠ 39 ∧ q.1 ≠ 40 ∧ q.1 ≠ 43 ∧ q.1 ≠ 44 ∧ q.1 ≠ 45 := by
  have : aCon.all (fun q => decide ((q.1 = 35 → q.2.1 = 0 ∨ q.2.1 = 2 ∨ q.2.1 = 4 ∨ q.2.1 = 5 ∨ q.2.1 = 6 ∨ q.2.1 = 7) ∧ (q.1 = 41 → q.2.1 = 0) ∧ (q.1 = 42 → q.2.1 = 0 ∨ q.2.1 = 1) ∧ (q.1 = 56 → (0 < q.2.1 ∧ q.2.1 < 30) ∨ q.2.1 = 31 ∨ q.2.1 = 35 ∨ q.2.1 = 37 ∨ q.2.1 = 38 ∨ q.2.1 = 39 ∨ q.2.1 = 40 ∨ q.2.1 = 46 ∨ q.2.1 = 47 ∨ q.2.1 = 48) ∧ 20 ≤ q.1 ∧ q.1 < 77 ∧ q.1 ≠ 36 ∧ q.1 ≠ 37 ∧ q.1 ≠ 38 ∧ q.1 ≠ 39 ∧ q.1 ≠ 40 ∧ q.1 ≠ 43 ∧ q.1 ≠ 44 ∧ q.1 ≠ 45)) = true := by decide +kernel
  exact fun q hq => of_decide_eq_true (List.all_eq_true.mp this q hq)
/-- places that the machine's going on leaves as they are -/
def mRst (q : Nat) : Prop := (q < 35 ∨ 45 < q) ∧ q ≠ 56 ∧ (q < 77 ∨ 83 < q) ∧ q ≠ 85
theorem inv_lks (hrest : ∀ q, 20 ≤ q → mRst q → S3 q = S q) (hC : cRep S s S) (hM : mRep S w nn s S) (hC3 : cRep S3 r S3) (hM3 : mRep S3 (wT w t) nn r S3) (hL : aLks S) : aLks S3 := by
  obtain ⟨ht, cl, pc, a36, a39, a40, a44, rc, ce, -⟩ := hC
  obtain ⟨hi, un, pcv, a77, a79, a80, a83, me, -⟩ := hM
  obtain ⟨ht', cl', pc', a36', a39', a40', a44', rc', ce', -⟩ := hC3
  obtain ⟨hi', un', pcv', a77', a79', a80', a83', me', -⟩ := hM3
  intro q hq
  obtain ⟨c1, c2, c3, c4, c5⟩ := aCon_at q hq
  have h0 := hL q hq
  by_cases e35 : q.1 = 35
  · have j := c1 e35
    rw [e35] at h0 ⊢
    rw [congrFun ce 35] at h0
    rw [congrFun ce' 35]
    rcases j with j | j | j | j | j | j <;> rw [j] at h0 ⊢ <;> exact h0
  by_cases e41 : q.1 = 41
  · have j := c2 e41
    rw [e41, j] at h0 ⊢
    rw [congrFun ce 41] at h0
    rw [congrFun ce' 41]
    exact h0
  by_cases e42 : q.1 = 42
  · have j := c3 e42
    rw [e42] at h0 ⊢
    rw [congrFun ce 42] at h0
    rw [congrFun ce' 42]
    rcases j with j | j <;> rw [j] at h0 ⊢ <;> exact h0
  by_cases e56 : q.1 = 56
  · have j := c4 e56
    rw [e56] at h0 ⊢
    rw [congrFun me 56] at h0
    rw [congrFun me' 56]
    change (mM w nn _ _ _ _ _ _ _ _ _)[q.2.1]? = _ at h0
    show (mM (wT w t) nn _ _ _ _ _ _ _ _ _)[q.2.1]? = _
    rcases j with j | j | j | j | j | j | j | j | j | j
    · rw [mM_lo j.2] at h0
      rw [mM_lo j.2, wT_ne (by omega)]
      exact h0
    all_goals rw [j] at h0 ⊢; exact h0
  · rw [hrest q.1 (by omega) ⟨by omega, e56, by omega, by omega⟩]
    exact h0
theorem inv_all (hrest : ∀ q, 20 ≤ q → mRst q → S3 q = S q) (hN : nn = Int32.ofNat N) (hM : mRep S w nn s S) (hC3 : cRep S3 r S3) (hM3 : mRep S3 (wT w t) nn r S3) (hS : okS r) (hl3 : r.1 = 0 → r.2.2.1.length ≤ 24 ∧ r.2.2.2.1.length ≤ 3) (hA : iAll (aEn S)) : iAll (aEn S3) := by
  obtain ⟨hi, un, pcv, a77, a79, a80, a83, me, -⟩ := hM
  obtain ⟨ht', cl', pc', a36', a39', a40', a44', rc', ce', d1, d2, d3, d4, d5⟩ := hC3
  obtain ⟨hi', un', pcv', a77', a79', a80', a83', me', g1, g2, g3, g4, g5⟩ := hM3
  obtain ⟨⟨tl, t1, t2, t3, t4⟩, ⟨x, x1, x2⟩, ⟨pa, pb, n, p0, p1, p2, p3, p4, p5, p6⟩, -, -, -, -⟩ := hA
  obtain ⟨s1, s2, s3, s4, s5, s6, s7, s8, s9, s10, s11⟩ := hS
  have low : ∀ j : Nat, 0 < j → j < 30 → (S3 56)[j]? = (S 56)[j]? := fun j h0 hj => by
    rw [congrFun me 56, congrFun me' 56]
    show (mM (wT w t) nn _ _ _ _ _ _ _ _ _)[j]? = (mM w nn _ _ _ _ _ _ _ _ _)[j]?
    rw [mM_lo hj, mM_lo hj, wT_ne (by omega)]
  have rs : ∀ q : Nat, 20 ≤ q → mRst q → ∀ j : Nat, (S3 q)[j]? = (S q)[j]? := fun q h1 h2 j => by rw [hrest q h1 h2]
  have r20 := rs 20 (by decide) (by unfold mRst; omega)
  refine ⟨⟨tl, t1, (r20 _).trans t2, (low 2 (by decide) (by decide)).trans t3, fun j => ?_⟩, ⟨x, (rs 22 (by decide) (by unfold mRst; omega) 8).trans x1, (low 3 (by decide) (by decide)).trans x2⟩, ⟨pa, pb, n, p0, (r20 _).trans p1, (r20 _).trans p2, p3, (rs pa (by omega) (by unfold mRst; omega) 7).trans p4, ?_, fun j hj => ?_⟩, fun j hj => ?_, ?_, fun j hj => ?_, ?_⟩
  · show (S3 57)[j]? = (S3 21)[j]? ∧ (j < tl → ∃ c, c < 256 ∧ (S3 21)[j]? = some (.int (Int32.ofNat c)))
    rw [rs 57 (by decide) (by unfold mRst; omega), rs 21 (by decide) (by unfold mRst; omega)]
    exact t4 j
  · show (S3 56)[30]? = _
    rw [congrFun me' 56]
    have : (S 56)[30]? = some (.int nn) := by rw [congrFun me 56]; rfl
    have p5 : (S 56)[30]? = some (.int (Int32.ofNat n)) := p5
    rw [this] at p5
    cases p5
    rfl
  · obtain ⟨y, y1, y2⟩ := p6 j hj
    exact ⟨y, (rs (pa + 4) (by omega) (by unfold mRst; omega) j).trans y1, (rs 76 (by decide) (by unfold mRst; omega) j).trans y2⟩
  · refine ⟨r.2.2.2.2.2.2.2.2.2.2.2.getD j 0, ?_, ?_⟩
    · show (S3 43)[j]? = _
      rw [congrFun ce' 43]
      exact il_get (by omega)
    · show (S3 82)[j]? = _
      rw [congrFun me' 82]
      exact il_get (by omega)
  · refine ⟨r.2.2.2.2.2.2.1, r.2.2.2.2.2.2.2.1, Int32.ofNat r.2.2.2.2.2.2.2.2.1, okF_of s5.gF, okF_of s6.gF, ?_, ?_, ?_, ?_, ?_, ?_⟩
    · show (S3 41)[1]? = _
      rw [congrFun ce' 41]; rfl
    · show (S3 56)[41]? = _
      rw [congrFun me' 56]; rfl
    · show (S3 41)[2]? = _
      rw [congrFun ce' 41]; rfl
    · show (S3 56)[42]? = _
      rw [congrFun me' 56]; rfl
    · show (S3 41)[3]? = _
      rw [congrFun ce' 41]; rfl
    · show (S3 56)[43]? = _
      rw [congrFun me' 56]; rfl
  · refine ⟨r.2.2.2.2.2.1.getD j 0, okF_of (gF_getD s4), ?_, ?_⟩
    · show (S3 37)[j]? = _
      rw [congrFun ce' 37]
      exact fl_get (by omega)
    · show (S3 81)[j]? = _
      rw [congrFun me' 81]
      exact fl_get (by omega)
  · refine ⟨r.1, ?_, ?_, fun h0 => ?_⟩
    · show (S3 35)[9]? = _
      rw [congrFun ce' 35]; rfl
    · show (S3 56)[33]? = _
      rw [congrFun me' 56]; rfl
    · obtain ⟨e1, e2, e3, ⟨g, e4⟩, ⟨gp, e5⟩, gh, e6⟩ := d5 h0
      obtain ⟨f1, f2, f3, ⟨k, f4⟩, ⟨kp, f5⟩, kh, f6⟩ := g5 h0
      obtain ⟨l1, l2⟩ := hl3 h0
      refine ⟨r.2.1, r.2.2.1.length, r.2.2.2.1.length, r.2.2.2.2.2.2.2.2.2.1, r.2.2.2.2.2.2.2.2.2.2.1, ?_, ?_, ?_, ?_, l1, ?_, ?_, l2, ?_, ?_, ?_, ?_, fun j hj => ?_, fun j hj => ?_, fun j hj => ?_⟩
      · show (S3 35)[8]? = _
        rw [congrFun ce' 35, e3]; rfl
      · show (S3 56)[32]? = _
        rw [congrFun me' 56, f3]; rfl
      · show (S3 35)[1]? = _
        rw [congrFun ce' 35, e1]; rfl
      · show (S3 56)[34]? = _
        rw [congrFun me' 56, f1]; rfl
      · show (S3 35)[3]? = _
        rw [congrFun ce' 35, e2]; rfl
      · show (S3 56)[36]? = _
        rw [congrFun me' 56, f2]; rfl
      · show (S3 41)[4]? = _
        rw [congrFun ce' 41]; rfl
      · show (S3 56)[44]? = _
        rw [congrFun me' 56]; rfl
      · show (S3 41)[5]? = _
        rw [congrFun ce' 41]; rfl
      · show (S3 56)[45]? = _
        rw [congrFun me' 56]; rfl
      · have live : ∀ g : List Value, (fA r.2.2.1 g)[j]? = some (.float (r.2.2.1.reverse.getD j 0)) := fun g => by
          unfold fA
          rw [List.getElem?_append_left (by simp; omega)]
          exact fl_get (by simp; omega)
        refine ⟨r.2.2.1.reverse.getD j 0, ?_, ?_⟩
        · show (S3 36)[j]? = _
          rw [congrFun ce' 36]
          show a36'[j]? = _
          rw [e4]; exact live g
        · show (S3 77)[j]? = _
          rw [congrFun me' 77]
          show a77'[j]? = _
          rw [f4]; exact live k
      · refine ⟨r.2.2.2.2.1.getD j 0, ?_, ?_⟩
        · show (S3 38)[j]? = _
          rw [congrFun ce' 38]
          exact fl_get (by omega)
        · show (S3 78)[j]? = _
          rw [congrFun me' 78]
          exact fl_get (by omega)
      · have live : ∀ (l : List Nat) (g : List Value), j < l.length → (iA l g)[j]? = some (.int (Int32.ofNat (l.reverse.getD j 0))) := fun l g hl => by
          unfold iA
          rw [List.getElem?_append_left (by simp; omega), List.getElem?_map, List.getD_eq_getElem?_getD, List.getElem?_eq_getElem (by simp; omega)]
          rfl
        have j1 : j < (r.2.2.2.1.map (·.1)).length := by rw [List.length_map]; exact hj
        have j2 : j < (r.2.2.2.1.map (·.2)).length := by rw [List.length_map]; exact hj
        refine ⟨Int32.ofNat ((r.2.2.2.1.map (fun q : Nat × Nat => q.1)).reverse.getD j 0), Int32.ofNat ((r.2.2.2.1.map (fun q : Nat × Nat => q.2)).reverse.getD j 0), ?_, ?_, ?_, ?_⟩
        · show (S3 39)[j]? = _
          rw [congrFun ce' 39]
          show a39'[j]? = _
          rw [e5]; exact live _ gp j1
        · show (S3 79)[j]? = _
          rw [congrFun me' 79]
          show a79'[j]? = _
          rw [f5]; exact live _ kp j1
        · show (S3 40)[j]? = _
          rw [congrFun ce' 40]
          show a40'[j]? = _
          rw [e6]; exact live _ gh j2
        · show (S3 80)[j]? = _
          rw [congrFun me' 80]
          show a80'[j]? = _
          rw [f6]; exact live _ kh j2
end INVOF
