abbrev aCl : Type := List (vw_C × List FieldType)
/-- a class whose objects the system makes; String's objects are constants -/
abbrev aOwn (r : vw_C × List FieldType) : Prop := r.1.1 ≠ "java/lang/String"
/-- what the tables say of the classes -/
def aClOK (cl : aCl) (U : State) : Prop := ∀ (i : Nat) (r : vw_C × List FieldType), cl[i]? = some r → (∀ k, k < r.1.2.2 → ∀ cf kf fi f, U.fieldFound? (r.1.2.1 k).1 (r.1.2.1 k).2.1 (r.1.2.1 k).2.2.1 = some (cf, kf, fi, f) → f.isStatic = false) ∧ r.2.length = r.1.2.2 ∧
  (∀ k ty, r.2[k]? = some ty → parseFieldDescriptor (r.1.2.1 k).2.2.1 = some ty) ∧ (∀ a, a < r.1.2.2 → ∀ b, b < r.1.2.2 → a ≠ b → (r.1.2.1 a).2.1 ≠ (r.1.2.1 b).2.1) ∧ (aOwn r → ∀ w ∈ u_ws r.1.1 r.1.2.1 r.1.2.2, ∀ A, w.before A U = true)
def aK (D : va_G) (cl : aCl) (U : State) : Prop := ∀ (i : Nat) (r : vw_C × List FieldType), cl[i]? = some r → (∀ k, k < r.1.2.2 → SlotIs U (r.1.2.1 k).1 (r.1.2.1 k).2.1 (r.1.2.1 k).2.2.1 (D.2 i k)) ∧ U.vm.findClass r.1.1 = some (D.1 i) ∧ (aOwn r → ∃ kC : Class, U.vm.classes[D.1 i]? = some kC ∧ kC.kind = .ordinary)
theorem aK.u {D : va_G} {cl : aCl} {U : State} (h : aK D cl U) {i : Nat} {r : vw_C × List FieldType} (hr : cl[i]? = some r) (ho : aOwn r) : u_Kn U r.1.1 r.1.2.1 r.1.2.2 (D.1 i) (D.2 i) := ⟨(h i r hr).1, (h i r hr).2.1, (h i r hr).2.2 ho⟩
def aAt (s0 : State) (D : va_G) (cl : aCl) (ad : Nat → Nat) (unk : Nat → Value) (K p : Nat) (o : aO) (H : Heap) : Prop :=
  ∃ cell : Cell, H[ad p]? = some cell ∧ cell.vm ≠ .unknown ∧ cell.vm.isStatics = false ∧ (K ≤ p → cell.vm = .none ∧ cell.monitor = {}) ∧
    ((o.1 < 8 ∧ s0.isArrayOf cell (aTy o.1) ∧ (o.2.length ≤ cell.slots.size ∧ cell.slots.size.toInt32 = Int32.ofNat o.2.length) ∧ ∀ (j : Nat) (v : Value), o.2[j]? = some v → cell.slots[j]? = some (aV ad unk v)) ∨
      (∃ (i : Nat) (r : vw_C × List FieldType), o.1 = 2 * i + 8 ∧ cl[i]? = some r ∧ cell.cls = D.1 i ∧ ∀ (k : Nat) (v : Value), k < r.1.2.2 → o.2[k]? = some v → cell.slots[D.2 i k]? = some (aV ad unk v)) ∨
      ∃ (i : Nat) (r : vw_C × List FieldType) (kC : Class), o.1 = 2 * i + 9 ∧ cl[i]? = some r ∧ s0.vm.Alike s0.vm ∧ (∀ U : State, s0.WarmedH U.vm → ∃ kC', U.vm.classes[D.1 i]? = some kC' ∧ blank (D.1 i) kC' = blank (D.1 i) kC) ∧ cell = blank (D.1 i) kC)
def aRel (s0 : State) (D : va_G) (cl : aCl) (ad : Nat → Nat) (unk : Nat → Value) (K : Nat) (h : aH) (H : Heap) : Prop :=
  K ≤ h.length ∧ H.size = ad h.length ∧ (∀ q : Nat, q < ad K → H[q]? = s0.heap[q]?) ∧ ∀ (p : Nat) (o : aO), h[p]? = some o → aAt s0 D cl ad unk K p o H
/-- places are at different addresses; new ones come one behind another -/
def aAd (ad : Nat → Nat) (K : Nat) : Prop := (∀ i j, K ≤ j → ad i = ad j → i = j) ∧ ∀ i, K ≤ i → ad (i + 1) = ad i + 1
theorem aAd.ge {ad : Nat → Nat} {K : Nat} (h : aAd ad K) {p : Nat} (hp : K ≤ p) : ad K ≤ ad p := by
  obtain ⟨d, rfl⟩ := Nat.le.dest hp
  induction d with
  | zero => exact Nat.le_refl _
  | succ d ih =>
    have := h.2 (K + d) (by omega)
    have := ih (by omega)
    show ad K ≤ ad (K + d + 1)
    omega
def aSz (cl : aCl) (o : aO) : Nat := if o.1 < 8 then o.2.length else match cl[(o.1 - 8) / 2]? with | some r => r.1.2.2 | none => 0
def aSzs (cl : aCl) (h : aH) : Nat := (h.map (aSz cl)).sum
theorem aSzs_push (cl : aCl) (h : aH) (o : aO) : aSzs cl (h ++ [o]) = aSzs cl h + aSz cl o := by
  simp [aSzs, List.map_append, List.sum_append]
theorem aSzs_set (cl : aCl) : ∀ (h : aH) (p : Nat) (o o' : aO), h[p]? = some o → aSz cl o' = aSz cl o → aSzs cl (h.set p o') = aSzs cl h
  | [], _, _, _, h, _ => by simp at h
  | x :: l, 0, o, o', h, e => by
    simp only [List.getElem?_cons_zero, Option.some.injEq] at h
    subst h
    simp [aSzs, e]
  | x :: l, p + 1, o, o', h, e => by
    simp only [List.getElem?_cons_succ] at h
    have := aSzs_set cl l p o o' h e
    simp only [aSzs, List.set_cons_succ, List.map_cons, List.sum_cons] at this ⊢
    omega
theorem aAt.kept {s0 : State} {D : va_G} {cl : aCl} {ad : Nat → Nat} {unk : Nat → Value} {K p : Nat} {o : aO} {H H1 : Heap} (h : aAt s0 D cl ad unk K p o H) (e : H1[ad p]? = H[ad p]?) : aAt s0 D cl ad unk K p o H1 := by
  obtain ⟨cell, h1, h2⟩ := h
  exact ⟨cell, e.trans h1, h2⟩
theorem aRel.set {s0 : State} {D : va_G} {cl : aCl} {ad : Nat → Nat} {unk : Nat → Value} {K p : Nat} {o0 o : aO} {h : aH} {H H1 : Heap} (hA : aAd ad K) (hR : aRel s0 D cl ad unk K h H) (h0 : h[p]? = some o0) (hp : K ≤ p)
    (he : aAt s0 D cl ad unk K p o H1) (hz : H1.size = H.size) (hq : ∀ q : Nat, q ≠ ad p → H1[q]? = H[q]?) : aRel s0 D cl ad unk K (h.set p o) H1 := by
  obtain ⟨r1, r2, r3, r4⟩ := hR
  have hl : p < h.length := (List.getElem?_eq_some_iff.mp h0).1
  refine ⟨by rw [List.length_set]; exact r1, by rw [List.length_set, hz]; exact r2, fun q hqK => ?_, fun i x hi => ?_⟩
  · rw [hq q (by have := hA.ge hp; omega)]
    exact r3 q hqK
  · by_cases hip : i = p
    · subst hip
      rw [List.getElem?_set_self hl] at hi
      cases hi
      exact he
    · rw [List.getElem?_set_ne (Ne.symm hip)] at hi
      exact (r4 i x hi).kept (hq _ (fun z => hip (hA.1 _ _ hp z)))
theorem aRel.lt {s0 : State} {D : va_G} {cl : aCl} {ad : Nat → Nat} {unk : Nat → Value} {K p : Nat} {o : aO} {h : aH} {H : Heap} (hR : aRel s0 D cl ad unk K h H) (h0 : h[p]? = some o) : ad p < H.size := by
  obtain ⟨cell, h1, -⟩ := hR.2.2.2 p o h0
  exact (Array.getElem?_eq_some_iff.mp h1).1
theorem aRel.push {s0 : State} {D : va_G} {cl : aCl} {ad : Nat → Nat} {unk : Nat → Value} {K : Nat} {o : aO} {h : aH} {H H1 : Heap} (hA : aAd ad K) (hR : aRel s0 D cl ad unk K h H)
    (hz : H1.size = H.size + 1) (hq : ∀ q : Nat, q < H.size → H1[q]? = H[q]?) (he : aAt s0 D cl ad unk K h.length o H1) : aRel s0 D cl ad unk K (h ++ [o]) H1 := by
  have hR0 := hR
  obtain ⟨r1, r2, r3, r4⟩ := hR
  refine ⟨by rw [List.length_append]; omega, ?_, fun q hqK => ?_, fun i x hi => ?_⟩
  · rw [List.length_append, hz, r2]
    show ad h.length + 1 = ad (h.length + 1)
    exact (hA.2 _ r1).symm
  · rw [hq q (by have := hA.ge r1; omega)]
    exact r3 q hqK
  · by_cases hl : i < h.length
    · rw [List.getElem?_append_left hl] at hi
      exact (r4 i x hi).kept (hq _ (hR0.lt hi))
    · rw [List.getElem?_append_right (by omega)] at hi
      have hz0 : i - h.length < 1 := (List.getElem?_eq_some_iff.mp hi).1
      have hk0 : i = h.length := by omega
      subst hk0
      rw [Nat.sub_self] at hi
      cases hi
      exact he
/-- what a heap instruction needs of the tables -/
def aFl (own : String) (i : Nat) (f : String × String × String × Bool) (args : Array Value) (s : State) : Prop := (Jvm.Cond.fieldLink own i f.1 f.2.1 f.2.2.1).before args s = true ∨ ∃ host, (Jvm.Cond.fieldLinkNest own i f.1 f.2.1 f.2.2.1 host).before args s = true
def aHk (s0 : State) (cl : aCl) (ad : Nat → Nat) (unk : Nat → Value) (K : Nat) (own : MethodName) (I : Instr) (lk : aLk) (args : Array Value) (s : State) : Prop := match I with
  | .getfield i => ∃ r, cl[lk.1]? = some r ∧ lk.2.1 < r.1.2.2 ∧ aFl own.cls i (r.1.2.1 lk.2.1) args s
  | .putfield i => ∃ r, cl[lk.1]? = some r ∧ lk.2.1 < r.1.2.2 ∧ aOwn r ∧ ((aFl own.cls i (r.1.2.1 lk.2.1) args s ∧ (r.1.2.1 lk.2.1).2.2.2 = false) ∨
      ((Jvm.Cond.fieldLink own.cls i (r.1.2.1 lk.2.1).1 (r.1.2.1 lk.2.1).2.1 (r.1.2.1 lk.2.1).2.2.1).before args s = true ∧ (r.1.2.1 lk.2.1).2.2.2 = true ∧ (r.1.2.1 lk.2.1).1 = own.cls ∧ own.name = "<init>"))
  | .new i => ∃ r, cl[lk.1]? = some r ∧ aOwn r ∧ (Jvm.Cond.classLink own.cls i r.1.1).before args s = true ∧ (Jvm.Cond.instantiable r.1.1 r.1.2.2).before args s = true ∧ (Jvm.Cond.initialized r.1.1).before args s = true
  | .newarray t => (Jvm.Cond.arrayClass (newarray.typeOf t)).before args s = true
  | .getstatic i => ∃ C n d, ((Jvm.Cond.fieldLink own.cls i C n d).before args s = true ∨ ∃ host, (Jvm.Cond.fieldLinkNest own.cls i C n d host).before args s = true) ∧ va_Z C n d (aV ad unk lk.2.2.2) (fun q => ad K ≤ q) s0 s0.heap
  | _ => True
theorem aAd.lin {ad : Nat → Nat} {K : Nat} (h : aAd ad K) : ∀ d, ad (K + d) = ad K + d
  | 0 => rfl
  | d + 1 => by
    have := h.2 (K + d) (by omega)
    have := aAd.lin h d
    show ad (K + d + 1) = _
    omega
theorem aRel.nost {s0 : State} {D : va_G} {cl : aCl} {ad : Nat → Nat} {unk : Nat → Value} {K : Nat} {h : aH} {H : Heap} (hA : aAd ad K) (hR : aRel s0 D cl ad unk K h H) {q : Nat} {cell : Cell} (hq : ad K ≤ q) (hc : H[q]? = some cell) : cell.vm.isStatics = false := by
  have hlt : q < H.size := (Array.getElem?_eq_some_iff.mp hc).1
  obtain ⟨r1, r2, -, r4⟩ := hR
  have e1 := hA.lin (q - ad K)
  have e2 := hA.lin (h.length - K)
  rw [show K + (h.length - K) = h.length by omega] at e2
  have hp : K + (q - ad K) < h.length := by omega
  obtain ⟨cell', c1, -, c3, -⟩ := r4 _ _ (List.getElem?_eq_getElem hp)
  rw [e1, show ad K + (q - ad K) = q by omega] at c1
  cases Option.some.inj (c1.symm.trans hc)
  exact c3
