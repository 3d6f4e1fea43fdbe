/-! a region's filling does not ask in which order neighbours are taken -/
section REG
variable {nb nb' : Nat → List (Int32 × Int32)} {was co : Int32} {px0 : List Int32} {s : Nat}
def adjA (nb : Nat → List (Int32 × Int32)) (q p : Nat) : Prop := ∃ c ∈ nb q, inB c.1 c.2 = true ∧ ixB c.1 c.2 = p
def regA (nb : Nat → List (Int32 × Int32)) (was : Int32) (px0 : List Int32) (s p : Nat) : Prop := ∀ C : Nat → Prop, C s → (∀ q p, C q → adjA nb q p → px0.getD p 0 = was → C p) → C p
theorem regA_s : regA nb was px0 s s := fun C h _ => h
theorem regA_step {q p : Nat} (h : regA nb was px0 s q) (ha : adjA nb q p) (hp : px0.getD p 0 = was) : regA nb was px0 s p := fun C h1 h2 => h2 q p (h C h1 h2) ha hp
def regI (nb : Nat → List (Int32 × Int32)) (was co : Int32) (px0 : List Int32) (s : Nat) (st : aPq) : Prop :=
  st.1.length = 768 ∧ (∀ p, st.1.getD p 0 = if p ∈ st.2 then co else px0.getD p 0) ∧ (∀ p ∈ st.2, regA nb was px0 s p ∧ p < 768)
theorem rchA_cases (st : aPq) (a b : Int32) : (rchA was co st a b = st ∧ ¬ (inB a b = true ∧ st.1.getD (ixB a b) 0 = was)) ∨ ((inB a b = true ∧ st.1.getD (ixB a b) 0 = was) ∧ rchA was co st a b = (st.1.set (ixB a b) co, st.2 ++ [ixB a b])) := by
  unfold rchA
  by_cases h : (inB a b && st.1.getD (ixB a b) 0 == was) = true
  · rw [if_pos h]
    rw [Bool.and_eq_true, beq_iff_eq] at h
    exact Or.inr ⟨h, rfl⟩
  · rw [if_neg h]
    rw [Bool.and_eq_true, beq_iff_eq] at h
    exact Or.inl ⟨rfl, h⟩
theorem getD_set {l : List Int32} {i p : Nat} {v : Int32} (h : i < l.length) : (l.set i v).getD p 0 = if p = i then v else l.getD p 0 := by
  rw [List.getD_eq_getElem?_getD, List.getD_eq_getElem?_getD, List.getElem?_set]
  by_cases e : i = p
  · subst e
    rw [if_pos rfl, if_pos h, if_pos rfl]
    rfl
  · rw [if_neg e, if_neg (fun z => e z.symm)]
theorem rchA_reg {st : aPq} {a b : Int32} {q : Nat} (hne : was ≠ co) (hI : regI nb was co px0 s st) (hq : q ∈ st.2) (hc : (a, b) ∈ nb q) :
    regI nb was co px0 s (rchA was co st a b) ∧ (inB a b = true → px0.getD (ixB a b) 0 = was → ixB a b ∈ (rchA was co st a b).2) ∧ ∃ t, (rchA was co st a b).2 = st.2 ++ t := by
  obtain ⟨h1, h2, h3⟩ := hI
  rcases rchA_cases (was := was) (co := co) st a b with ⟨e, hn⟩ | ⟨⟨hb, hw⟩, e⟩
  · rw [e]
    refine ⟨⟨h1, h2, h3⟩, fun hb hp => ?_, [], by simp⟩
    refine Decidable.by_contra (fun z => hn ⟨hb, ?_⟩)
    rw [h2, if_neg z]
    exact hp
  · have hi := (inB_ix hb).1
    have hnin : ixB a b ∉ st.2 := fun z => hne (by rw [← hw, h2, if_pos z])
    have hp : px0.getD (ixB a b) 0 = was := by rw [← hw, h2, if_neg hnin]
    rw [e]
    refine ⟨⟨by rw [List.length_set]; exact h1, fun p => ?_, fun p hm => ?_⟩, fun _ _ => by simp, [ixB a b], rfl⟩
    · dsimp only
      rw [getD_set (by omega), h2]
      by_cases ep : p = ixB a b
      · subst ep
        simp
      · rw [if_neg ep]
        by_cases em : p ∈ st.2
        · rw [if_pos em, if_pos (by simp [em])]
        · rw [if_neg em, if_neg (by simp [em, ep])]
    · rcases List.mem_append.mp hm with z | z
      · exact h3 p z
      · rw [List.mem_singleton] at z
        subst z
        exact ⟨regA_step (h3 q hq).1 ⟨(a, b), hc, hb, rfl⟩ hp, hi⟩
theorem allA_reg (hne : was ≠ co) {q : Nat} : ∀ {l : List (Int32 × Int32)} {st : aPq}, (∀ c ∈ l, c ∈ nb q) → q ∈ st.2 → regI nb was co px0 s st → regI nb was co px0 s (allA was co st l) ∧ (∀ c ∈ l, inB c.1 c.2 = true → px0.getD (ixB c.1 c.2) 0 = was → ixB c.1 c.2 ∈ (allA was co st l).2) ∧ ∃ t, (allA was co st l).2 = st.2 ++ t
  | [], st, _, _, hI => ⟨hI, (fun c hc => by cases hc), [], (List.append_nil _).symm⟩
  | c :: l, st, hl, hq, hI => by
    obtain ⟨I1, m1, t1, e1⟩ := rchA_reg hne hI hq (hl c (by simp) : (c.1, c.2) ∈ nb q)
    obtain ⟨I2, m2, t2, e2⟩ := allA_reg hne (l := l) (st := rchA was co st c.1 c.2) (fun c' hc' => hl c' (by simp [hc'])) (by rw [e1]; simp [hq]) I1
    refine ⟨I2, fun c' hc' hb hp => ?_, t1 ++ t2, ?_⟩
    · rcases List.mem_cons.mp hc' with rfl | hc'
      · have := m1 hb hp
        show _ ∈ (allA was co (rchA was co st c'.1 c'.2) l).2
        rw [e2]
        exact List.mem_append_left _ this
      · exact m2 c' hc' hb hp
    · show (allA was co (rchA was co st c.1 c.2) l).2 = _
      rw [e2, e1, List.append_assoc]
theorem bfsA_reg (hne : was ≠ co) : ∀ {f k : Nat} {st : aPq}, filI was st → 769 ≤ f + k → k ≤ st.2.length → regI nb was co px0 s st → s ∈ st.2 → (∀ i, i < k → ∀ p, adjA nb (st.2.getD i 0) p → px0.getD p 0 = was → p ∈ st.2) →
    regI nb was co px0 s (bfsA nb was co f k st) ∧ s ∈ (bfsA nb was co f k st).2 ∧ ∀ q ∈ (bfsA nb was co f k st).2, ∀ p, adjA nb q p → px0.getD p 0 = was → p ∈ (bfsA nb was co f k st).2
  | 0, k, st, hF, hf, hk, _, _, _ => by have := hF.2.1; omega
  | f + 1, k, st, hF, hf, hk, hI, hs, hp => by
    by_cases hq : k < st.2.length
    · have e : bfsA nb was co (f + 1) k st = bfsA nb was co f (k + 1) (allA was co st (nb (st.2.getD k 0))) := if_pos hq
      rw [e]
      have hm : st.2.getD k 0 ∈ st.2 := by
        rw [List.getD_eq_getElem?_getD, List.getElem?_eq_getElem hq]
        exact List.getElem_mem _
      obtain ⟨I2, m2, t, e2⟩ := allA_reg hne (l := nb (st.2.getD k 0)) (fun c hc => hc) hm hI
      have hF2 : ∀ (l : List (Int32 × Int32)) (st : aPq), filI was st → filI was (allA was co st l) := by
        intro l
        induction l with
        | nil => exact fun st h => h
        | cons c l ih => exact fun st h => ih _ (rchA_I hne h)
      refine bfsA_reg hne (hF2 _ _ hF) (by omega) (by rw [e2]; simp; omega) I2 (by rw [e2]; simp [hs]) (fun i hi p ha hw => ?_)
      have ei : (allA was co st (nb (st.2.getD k 0))).2.getD i 0 = st.2.getD i 0 := by
        rw [e2, List.getD_eq_getElem?_getD, List.getElem?_append_left (by omega), List.getD_eq_getElem?_getD]
      rw [ei] at ha
      by_cases hik : i = k
      · subst hik
        obtain ⟨c, hc, hb, rfl⟩ := ha
        exact m2 c hc hb hw
      · rw [e2]
        exact List.mem_append_left _ (hp i (by omega) p ha hw)
    · have e : bfsA nb was co (f + 1) k st = st := if_neg hq
      rw [e]
      refine ⟨hI, hs, fun q hm p ha hw => ?_⟩
      obtain ⟨i, hi, rfl⟩ := List.mem_iff_getElem.mp hm
      refine hp i (by omega) p ?_ hw
      rw [List.getD_eq_getElem?_getD, List.getElem?_eq_getElem hi]
      exact ha
theorem filA_reg {a b : Int32} {px : List Int32} (hl : px.length = 768) (hb : inB a b = true) (hc : px.getD (ixB a b) 0 ≠ co) : (filA nb px a b co).1.length = 768 ∧ ∀ p, (regA nb (px.getD (ixB a b) 0) px (ixB a b) p → (filA nb px a b co).1.getD p 0 = co) ∧ (¬ regA nb (px.getD (ixB a b) 0) px (ixB a b) p → (filA nb px a b co).1.getD p 0 = px.getD p 0) := by
  have hi := (inB_ix hb).1
  have e : filA nb px a b co = bfsA nb (px.getD (ixB a b) 0) co 769 0 (rchA (px.getD (ixB a b) 0) co (px, []) a b) := if_pos (by rw [hb]; simp only [Bool.true_and, bne_iff_ne]; exact hc)
  have I0 : filI (px.getD (ixB a b) 0) (px, []) := ⟨hl, by have := List.count_le_length (a := px.getD (ixB a b) 0) (l := px); simp only [List.length_nil]; omega, fun q hq => by cases hq⟩
  have e1 : rchA (px.getD (ixB a b) 0) co (px, []) a b = (px.set (ixB a b) co, [ixB a b]) := if_pos (by rw [hb]; simp)
  have I1 := rchA_I (a := a) (b := b) hc I0
  rw [e, e1]
  rw [e1] at I1
  obtain ⟨R1, R2, R3⟩ := bfsA_reg (nb := nb) (px0 := px) (s := ixB a b) (f := 769) (k := 0) hc I1 (by omega) (Nat.zero_le _) ⟨by rw [List.length_set]; exact hl, fun p => by
      rw [getD_set (by omega)]
      simp only [List.mem_singleton], fun p hp => by
      rw [List.mem_singleton] at hp
      subst hp
      exact ⟨regA_s, hi⟩⟩ (by simp) (fun i hi => by omega)
  obtain ⟨r1, r2, r3⟩ := R1
  refine ⟨r1, fun p => ⟨fun h => ?_, fun h => ?_⟩⟩
  · rw [r2, if_pos (h (fun q => q ∈ _) R2 (fun q p hq ha hw => R3 q hq p ha hw))]
  · rw [r2, if_neg (fun z => h (r3 p z).1)]
theorem filA_perm {a b : Int32} {px : List Int32} (hn : ∀ q c, c ∈ nb q ↔ c ∈ nb' q) (hl : px.length = 768) : (filA nb px a b co).1 = (filA nb' px a b co).1 := by
  by_cases h : inB a b = true ∧ px.getD (ixB a b) 0 ≠ co
  · obtain ⟨l1, f1⟩ := filA_reg (nb := nb) hl h.1 h.2
    obtain ⟨l2, f2⟩ := filA_reg (nb := nb') hl h.1 h.2
    have ha : ∀ q p, adjA nb q p ↔ adjA nb' q p := fun q p => ⟨fun ⟨c, hc, z⟩ => ⟨c, (hn q c).mp hc, z⟩, fun ⟨c, hc, z⟩ => ⟨c, (hn q c).mpr hc, z⟩⟩
    have hr : ∀ p, regA nb (px.getD (ixB a b) 0) px (ixB a b) p ↔ regA nb' (px.getD (ixB a b) 0) px (ixB a b) p := fun p => ⟨fun z C h1 h2 => z C h1 (fun q p hq hqp => h2 q p hq ((ha q p).mp hqp)), fun z C h1 h2 => z C h1 (fun q p hq hqp => h2 q p hq ((ha q p).mpr hqp))⟩
    apply List.ext_getElem (l1.trans l2.symm)
    intro p p1 p2
    have g1 : (filA nb px a b co).1[p] = (filA nb px a b co).1.getD p 0 := by rw [List.getD_eq_getElem?_getD, List.getElem?_eq_getElem p1]; rfl
    have g2 : (filA nb' px a b co).1[p] = (filA nb' px a b co).1.getD p 0 := by rw [List.getD_eq_getElem?_getD, List.getElem?_eq_getElem p2]; rfl
    rw [g1, g2]
    by_cases hR : regA nb (px.getD (ixB a b) 0) px (ixB a b) p
    · rw [(f1 p).1 hR, (f2 p).1 ((hr p).mp hR)]
    · rw [(f1 p).2 hR, (f2 p).2 (fun z => hR ((hr p).mpr z))]
  · have hb : ¬ (inB a b && px.getD (ixB a b) 0 != co) = true := by
      rw [Bool.and_eq_true, bne_iff_ne]
      exact h
    unfold filA
    rw [if_neg hb, if_neg hb]
theorem filA_CM {a b : Int32} {px : List Int32} (hl : px.length = 768) : (filA nbrM px a b co).1 = (filA nbrC px a b co).1 := by
  refine filA_perm (fun q c => ?_) hl
  unfold nbrM nbrC
  simp only [List.mem_cons, List.not_mem_nil, or_false]
  constructor
  · rintro (h | h | h | h) <;> simp [h]
  · rintro (h | h | h | h) <;> simp [h]
end REG
