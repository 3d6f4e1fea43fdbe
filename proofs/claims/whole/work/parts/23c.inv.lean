/-! the invariant between calls, by entries: place and index -/
abbrev aEnt : Type := Nat → Nat → Option Value
def aEn (S : Nat → List Value) : aEnt := fun q j => (S q)[j]?
def eUp (e : aEnt) (q j : Nat) (v : Value) : aEnt := fun q' j' => if q' = q ∧ j' = j then some v else e q' j'
theorem aEn_up {S : Nat → List Value} {p k : Nat} {v : Value} (hk : k < (S p).length) : aEn (aUp S p ((S p).set k v)) = eUp (aEn S) p k v := by
  funext q j
  unfold aEn eUp
  by_cases e : q = p
  · subst e
    rw [aUp_same]
    by_cases ej : j = k
    · subst ej
      rw [List.getElem?_set_self hk, if_pos ⟨rfl, rfl⟩]
    · rw [List.getElem?_set_ne (fun z => ej z.symm), if_neg (fun z => ej z.2)]
  · rw [aUp_ne e, if_neg (fun z => e z.1)]
theorem eUp_at {e : aEnt} {q j : Nat} {v : Value} : eUp e q j v q j = some v := if_pos ⟨rfl, rfl⟩
theorem eUp_ne {e : aEnt} {q j q' j' : Nat} {v : Value} (h : (q' == q && j' == j) = false) : eUp e q j v q' j' = e q' j' := by
  refine if_neg (fun z => ?_)
  rw [z.1, z.2] at h
  simp at h
/-- a float that is no NaN, as a double compares equal to itself -/
def okF (f : UInt32) : Prop := aN64 (FP.f2d f) = true ∧ Op.cmpValue (FP.dcmp (FP.f2d f) (FP.f2d f)) .l = 0
def iTxt (e : aEnt) : Prop := ∃ tl : Nat, tl ≤ 160 ∧ e 20 1 = some (.int (Int32.ofNat tl)) ∧ e 56 2 = some (.int (Int32.ofNat tl)) ∧ ∀ j, e 57 j = e 21 j ∧ (j < tl → ∃ c, c < 256 ∧ e 21 j = some (.int (Int32.ofNat c)))
def iErr (e : aEnt) : Prop := ∃ x : Int32, e 22 8 = some (.int x) ∧ e 56 3 = some (.int x)
def iPrg (e : aEnt) : Prop := ∃ pa pb n : Nat, ((pa = 46 ∧ pb = 51) ∨ (pa = 51 ∧ pb = 46)) ∧ e 20 6 = some (.ref pa) ∧ e 20 7 = some (.ref pb) ∧ n ≤ 240 ∧ e pa 7 = some (.int (Int32.ofNat n)) ∧ e 56 30 = some (.int (Int32.ofNat n)) ∧ ∀ j, j < n → ∃ x : Int32, e (pa + 4) j = some (.int x) ∧ e 76 j = some (.int x)
def iPic (e : aEnt) : Prop := ∀ j, j < 768 → ∃ x : Int32, e 43 j = some (.int x) ∧ e 82 j = some (.int x)
def iTur (e : aEnt) : Prop := ∃ (x y : UInt32) (hd : Int32), okF x ∧ okF y ∧ e 41 1 = some (.float x) ∧ e 56 41 = some (.float x) ∧ e 41 2 = some (.float y) ∧ e 56 42 = some (.float y) ∧ e 41 3 = some (.int hd) ∧ e 56 43 = some (.int hd)
def iVar (e : aEnt) : Prop := ∀ j, j < 8 → ∃ f : UInt32, okF f ∧ e 37 j = some (.float f) ∧ e 81 j = some (.float f)
/-- the machine under way; while it is ended, only how -/
def iMch (e : aEnt) : Prop := ∃ a : Int32, e 35 9 = some (.int a) ∧ e 56 33 = some (.int a) ∧ (a = 0 → ∃ (pc ht cl : Nat) (co dn : Int32), e 35 8 = some (.int (Int32.ofNat pc)) ∧ e 56 32 = some (.int (Int32.ofNat pc)) ∧ e 35 1 = some (.int (Int32.ofNat ht)) ∧ e 56 34 = some (.int (Int32.ofNat ht)) ∧ ht ≤ 24 ∧
  e 35 3 = some (.int (Int32.ofNat cl)) ∧ e 56 36 = some (.int (Int32.ofNat cl)) ∧ cl ≤ 3 ∧ e 41 4 = some (.int co) ∧ e 56 44 = some (.int co) ∧ e 41 5 = some (.int dn) ∧ e 56 45 = some (.int dn) ∧ (∀ j, j < ht → ∃ f : UInt32, e 36 j = some (.float f) ∧ e 77 j = some (.float f)) ∧
  (∀ j, j < 3 * cl → ∃ f : UInt32, e 38 j = some (.float f) ∧ e 78 j = some (.float f)) ∧ ∀ j, j < cl → ∃ x y : Int32, e 39 j = some (.int x) ∧ e 79 j = some (.int x) ∧ e 40 j = some (.int y) ∧ e 80 j = some (.int y))
def iAll (e : aEnt) : Prop := iTxt e ∧ iErr e ∧ iPrg e ∧ iPic e ∧ iTur e ∧ iVar e ∧ iMch e
/-- nothing of the invariant speaks of the model's thrown -/
theorem iAll.thrown {e : aEnt} {v : Value} (h : iAll e) : iAll (eUp e 56 0 v) := by
  have r : ∀ q j, (q == 56 && j == 0) = false → eUp e 56 0 v q j = e q j := fun q j hq => eUp_ne hq
  have r' : ∀ q, (q == 56) = false → ∀ j, eUp e 56 0 v q j = e q j := fun q hq j => eUp_ne (by rw [hq]; rfl)
  obtain ⟨⟨tl, t1, t2, t3, t4⟩, ⟨x, x1, x2⟩, ⟨pa, pb, n, p0, p1, p2, p3, p4, p5, p6⟩, hp, ⟨tx, ty, td, u0, u00, u1, u2, u3, u4, u5, u6⟩, hv, ⟨a, a1, a2, a3⟩⟩ := h
  refine ⟨⟨tl, t1, (r _ _ rfl).trans t2, (r _ _ rfl).trans t3, fun j => ?_⟩, ⟨x, (r _ _ rfl).trans x1, (r _ _ rfl).trans x2⟩, ⟨pa, pb, n, p0, (r _ _ rfl).trans p1, (r _ _ rfl).trans p2, p3, ?_, (r _ _ rfl).trans p5, fun j hj => ?_⟩, fun j hj => ?_,
    ⟨tx, ty, td, u0, u00, (r _ _ rfl).trans u1, (r _ _ rfl).trans u2, (r _ _ rfl).trans u3, (r _ _ rfl).trans u4, (r _ _ rfl).trans u5, (r _ _ rfl).trans u6⟩, fun j hj => ?_, ⟨a, (r _ _ rfl).trans a1, (r _ _ rfl).trans a2, fun h0 => ?_⟩⟩
  · rw [r' 57 rfl, r' 21 rfl]; exact t4 j
  · rw [r' pa (by rcases p0 with ⟨rfl, -⟩ | ⟨rfl, -⟩ <;> rfl)]; exact p4
  · rw [r' (pa + 4) (by rcases p0 with ⟨rfl, -⟩ | ⟨rfl, -⟩ <;> rfl), r' 76 rfl]; exact p6 j hj
  · rw [r' 43 rfl, r' 82 rfl]; exact hp j hj
  · rw [r' 37 rfl, r' 81 rfl]; exact hv j hj
  · obtain ⟨pc, ht, cl, co, dn, m1, m2, m3, m4, m5, m6, m7, m8, m9, m10, m11, m12, m13, m14, m15⟩ := a3 h0
    refine ⟨pc, ht, cl, co, dn, (r _ _ rfl).trans m1, (r _ _ rfl).trans m2, (r _ _ rfl).trans m3, (r _ _ rfl).trans m4, m5, (r _ _ rfl).trans m6, (r _ _ rfl).trans m7, m8, (r _ _ rfl).trans m9, (r _ _ rfl).trans m10, (r _ _ rfl).trans m11, (r _ _ rfl).trans m12, fun j hj => ?_, fun j hj => ?_, fun j hj => ?_⟩
    · rw [r' 36 rfl, r' 77 rfl]; exact m13 j hj
    · rw [r' 38 rfl, r' 78 rfl]; exact m14 j hj
    · rw [r' 39 rfl, r' 79 rfl, r' 40 rfl, r' 80 rfl]; exact m15 j hj
/-- more that is to hold between calls, whatever it is: it must not ask for what the short calls change -/
abbrev aExt : Type := (Nat → List Value) → aH → Prop
def eSim (S S' : Nat → List Value) : Prop := (∀ q, 23 ≤ q → q < 85 → q ≠ 56 → q ≠ 57 → S' q = S q) ∧ (∀ j, j ≠ 1 → (S' 20)[j]? = (S 20)[j]?) ∧ (∀ j, 4 ≤ j → (S' 56)[j]? = (S 56)[j]?)
def eSt (E : aExt) : Prop := ∀ S h S' h', E S h → eSim S S' → (∀ (q : Nat) (o : aO), 87 ≤ q → h[q]? = some o → h'[q]? = some o) → E S' h'
theorem eSim_56 {S : Nat → List Value} {k : Nat} {v : Value} (hk : k < 4) : eSim S (aUp S 56 ((S 56).set k v)) := by
  refine ⟨fun q h1 h2 h3 h4 => aUp_ne h3, fun j hj => ?_, fun j hj => ?_⟩
  · rw [aUp_ne (by decide)]
  · rw [aUp_same, List.getElem?_set_ne (by omega)]
theorem eSim_out {S : Nat → List Value} {p : Nat} {b : List Value} (hp : p = 85 ∨ p = 86) : eSim S (aUp S p b) := by
  refine ⟨fun q h1 h2 h3 h4 => aUp_ne (by omega), fun j hj => ?_, fun j hj => ?_⟩
  · rw [aUp_ne (by omega)]
  · rw [aUp_ne (by omega)]
theorem tail_set {h : aH} {p : Nat} {o : aO} (hp : p < 87) : ∀ (q : Nat) (o' : aO), 87 ≤ q → h[q]? = some o' → (h.set p o)[q]? = some o' := fun q o' hq e => (List.getElem?_set_ne (by omega)).trans e
theorem tail_push {h : aH} {o : aO} : ∀ (q : Nat) (o' : aO), 87 ≤ q → h[q]? = some o' → (h ++ [o])[q]? = some o' := fun q o' hq e => (List.getElem?_append_left (List.getElem?_eq_some_iff.mp e).1).trans e
/-- the invariant of the law's loop: c calls done -/
def aInv (E : aExt) (scr : List Value) (c : Nat) (h : aH) : Prop := ∃ S, aMem scr S h ∧ aLks S ∧ iAll (aEn S) ∧ h.length ≤ 87 + 170 * c ∧ E S h
