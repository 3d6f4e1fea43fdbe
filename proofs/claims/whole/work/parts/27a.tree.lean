/-! a program as a tree of statements in the heap, beside its code W -/
def stV (kind num frm to : Nat) (body : Value) (he : Int32) (els nxt : Value) (nm : Int64) (nos : Value) (tp : Int32) (dfn : Value) (cp : Int32) : List Value :=
  [.int (Int32.ofNat kind), .int (Int32.ofNat num), .int (Int32.ofNat frm), .int (Int32.ofNat to), body, .int he, els, nxt, .long nm, nos, .int tp, dfn, .int cp]
def tmH (kind k : Nat) : Nat := if kind ≤ 3 then k + 1 else if kind = 10 then k else k - 1
/-- a term (kind, number, digits behind) and its words at a; k: the height before it -/
def tmOk (W : Nat → Nat) (f : Bool) (t : Nat × Nat × Nat) (a k : Nat) : Prop :=
  (t.1 = 1 ∧ W (a + 1) = t.2.1 ∧ t.2.1 ≤ 2 ^ 20 ∧ W (a + 2) = t.2.2 ∧ t.2.2 ≤ 2) ∨ (t.1 = 2 ∧ W (a + 1) = t.2.1 ∧ t.2.1 < 8) ∨ (t.1 = 3 ∧ f = true ∧ W (a + 1) = t.2.1 ∧ t.2.1 < 3) ∨
  ((t.1 = 6 ∨ t.1 = 7 ∨ t.1 = 8 ∨ t.1 = 9) ∧ 2 ≤ k) ∨ (t.1 = 10 ∧ 1 ≤ k) ∨ ((t.1 = 11 ∨ t.1 = 12 ∨ t.1 = 13) ∧ 2 ≤ k)
/-- so many terms from i on, their words from a to b, the heights k and k' -/
def tTm (W : Nat → Nat) (T : Nat → Nat × Nat × Nat) (f : Bool) : Nat → Nat → Nat → Nat → Nat → Nat → Prop
  | 0, _, a, b, k, k' => a = b ∧ k = k'
  | c + 1, i, a, b, k, k' => W a = (T i).1 ∧ tmOk W f (T i) a k ∧ tTm W T f c (i + 1) (a + lenA (T i).1) b (tmH (T i).1 k) k'
/-- a statement other than a definition: its words from a to m, behind its terms from e on; R: the same for a block -/
def tSt (W : Nat → Nat) (D : Nat → Nat → Prop) (f : Bool) (R : Value → Nat → Nat → Nat → Prop) (kind num : Nat) (body els dfn : Value) (k k' a e m : Nat) : Prop :=
  (kind = 28 ∧ k' = k + 1 ∧ W e = 28 ∧ W (e + 1) = m ∧ ∃ j, R body (k + 1) (e + 2) j ∧ W j = 14 ∧ W (j + 1) = e ∧ m = j + 2) ∨
  (kind = 29 ∧ k' = k + 1 ∧ W e = 29 ∧ W (e + 1) = m ∧ ∃ j, R body k (e + 2) j ∧ W j = 14 ∧ W (j + 1) = a + 1 ∧ m = j + 2) ∨
  (kind = 15 ∧ k' = k + 1 ∧ W e = 15 ∧ ((els = .null ∧ W (e + 1) = m ∧ R body k (e + 2) m) ∨ ∃ j, R body k (e + 2) j ∧ W j = 14 ∧ W (j + 1) = m ∧ W (e + 1) = j + 2 ∧ R els k (j + 2) m)) ∨
  (kind = 16 ∧ num ≤ 3 ∧ k' = k + num ∧ W e = 16 ∧ W (e + 2) = num ∧ m = e + 3 ∧ ∃ qd, dfn = .ref qd ∧ D qd (W (e + 1))) ∨
  (kind = 17 ∧ k' = k ∧ e = a + 1 ∧ W e = 17 ∧ m = e + 1) ∨
  (((kind = 4 ∧ num < 8) ∨ (kind = 5 ∧ num < 3 ∧ f = true)) ∧ k' = k + 1 ∧ W e = kind ∧ W (e + 1) = num ∧ m = e + 2) ∨
  ((kind = 18 ∨ kind = 19 ∨ kind = 20 ∨ kind = 21 ∨ kind = 22) ∧ k' = k + 1 ∧ W e = kind ∧ m = e + 1) ∨
  ((kind = 23 ∨ kind = 24 ∨ kind = 25 ∨ kind = 26) ∧ k' = k ∧ W e = kind ∧ m = e + 1)
/-- the statements of a block; R: the same for the blocks in it -/
def tLst (W : Nat → Nat) (T : Nat → Nat × Nat × Nat) (tc : Nat) (D : Nat → Nat → Prop) (L : Nat → Option aO) (f : Bool) (R : Value → Nat → Nat → Nat → Prop) : Nat → Value → Nat → Nat → Nat → Prop
  | 0, _, _, _, _ => False
  | n + 1, v, k, a, b => (v = .null ∧ a = b) ∨ ∃ (q kind num frm to : Nat) (body : Value) (he : Int32) (els nxt : Value) (nm : Int64) (nos : Value) (tp : Int32) (dfn : Value) (cp : Int32) (k' e m : Nat),
    v = .ref q ∧ 87 ≤ q ∧ L q = some (30, stV kind num frm to body he els nxt nm nos tp dfn cp) ∧ W a = 0 ∧ frm ≤ to ∧ to ≤ tc ∧ tTm W T f (to - frm) frm (a + 1) e k k' ∧ tSt W D f R kind num body els dfn k k' a e m ∧ tLst W T tc D L f R n nxt k m b
/-- a block in which blocks lie so deep -/
def tBlk (W : Nat → Nat) (T : Nat → Nat × Nat × Nat) (tc : Nat) (D : Nat → Nat → Prop) (L : Nat → Option aO) (f : Bool) : Nat → Value → Nat → Nat → Nat → Prop
  | 0 => fun _ _ _ _ => False
  | dp + 1 => fun v k a b => ∃ n, tLst W T tc D L f (tBlk W T tc D L f dp) n v k a b
/-- the statements and definitions of a text -/
def tTop (W : Nat → Nat) (T : Nat → Nat × Nat × Nat) (tc : Nat) (D : Nat → Nat → Prop) (L : Nat → Option aO) : Nat → Value → Nat → Nat → Prop
  | 0, _, _, _ => False
  | n + 1, v, a, b => (v = .null ∧ a = b) ∨ (∃ (q num frm to : Nat) (body : Value) (he : Int32) (els nxt : Value) (nm : Int64) (nos : Value) (tp : Int32) (dfn : Value) (cp : Int32) (j : Nat),
      v = .ref q ∧ 87 ≤ q ∧ L q = some (30, stV 31 num frm to body he els nxt nm nos tp dfn cp) ∧ W a = 14 ∧ W (a + 1) = j + 1 ∧ tBlk W T tc D L true 3 body 0 (a + 2) j ∧ W j = 17 ∧ tTop W T tc D L n nxt (j + 1) b) ∨
    ∃ (q kind num frm to : Nat) (body : Value) (he : Int32) (els nxt : Value) (nm : Int64) (nos : Value) (tp : Int32) (dfn : Value) (cp : Int32) (k' e m : Nat),
    v = .ref q ∧ 87 ≤ q ∧ L q = some (30, stV kind num frm to body he els nxt nm nos tp dfn cp) ∧ W a = 0 ∧ frm ≤ to ∧ to ≤ tc ∧ tTm W T false (to - frm) frm (a + 1) e 0 k' ∧ tSt W D false (tBlk W T tc D L false 3) kind num body els dfn 0 k' a e m ∧ tTop W T tc D L n nxt m b
/-- a definition that calls go to -/
def tDef (W : Nat → Nat) (T : Nat → Nat × Nat × Nat) (tc : Nat) (D : Nat → Nat → Prop) (L : Nat → Option aO) (q c : Nat) : Prop := 87 ≤ q ∧ ∃ (num frm to : Nat) (body : Value) (he : Int32) (els nxt : Value) (nm : Int64) (nos : Value) (tp : Int32) (dfn : Value) (cp : Int32) (j : Nat),
  L q = some (30, stV 31 num frm to body he els nxt nm nos tp dfn cp) ∧ tBlk W T tc D L true 3 body 0 c j ∧ W j = 17
/-- a whole program -/
def tPrg (W : Nat → Nat) (N : Nat) (T : Nat → Nat × Nat × Nat) (tc : Nat) (L : Nat → Option aO) (v : Value) : Prop := ∃ (n : Nat) (D : Nat → Nat → Prop), tTop W T tc D L n v 0 (N - 1) ∧ 0 < N ∧ W (N - 1) = 27 ∧ ∀ q c, D q c → tDef W T tc D L q c
/-! the places of such a code are sound -/
section PTS
variable {W : Nat → Nat} {T : Nat → Nat × Nat × Nat} {tc : Nat} {D : Nat → Nat → Prop} {L : Nat → Option aO} {f : Bool}
theorem lenA_pos {w : Nat} : 1 ≤ lenA w := by
  unfold lenA
  split
  · decide
  · split <;> decide
theorem tTm_le : ∀ {c i a b k k' : Nat}, tTm W T f c i a b k k' → a ≤ b
  | 0, _, _, _, _, _, h => Nat.le_of_eq h.1
  | c + 1, i, a, b, k, k', h => by
    have := tTm_le h.2.2
    have := lenA_pos (w := (T i).1)
    omega
/-- S tells the points of a stretch of code from a to b: all places in it are sound if its points, and its end, are in P -/
def sndA (W : Nat → Nat) (f : Bool) (D : Nat → Nat → Prop) (k a b : Nat) (S : Nat → Nat → Prop) : Prop := a ≤ b ∧ (a < b → S a k) ∧ ∀ P : Nat → Nat → Bool → Prop, (∀ pc h, S pc h → P pc h f) → P b k f → (∀ q c, D q c → P c 0 true) → ∀ pc h, S pc h → pc < b ∧ tyW W P pc h f ∧ (W pc = 14 → pc + 1 < b)
theorem snd_tm : ∀ {c i a b k k' : Nat}, tTm W T f c i a b k k' → ∃ S : Nat → Nat → Prop, (a < b → S a k) ∧ (a = b → k = k') ∧ ∀ P : Nat → Nat → Bool → Prop, (∀ pc h, S pc h → P pc h f) → P b k' f → ∀ pc h, S pc h → pc < b ∧ tyW W P pc h f ∧ W pc ≠ 14
  | 0, i, a, b, k, k', h => ⟨fun _ _ => False, fun z => by have := h.1; omega, fun _ => h.2, fun P _ _ pc h' z => z.elim⟩
  | c + 1, i, a, b, k, k', h => by
    obtain ⟨h1, h2, h3⟩ := h
    obtain ⟨S, s1, s2, s3⟩ := snd_tm h3
    have le := tTm_le h3
    have lp := lenA_pos (w := (T i).1)
    refine ⟨fun pc h => (pc = a ∧ h = k) ∨ S pc h, fun _ => Or.inl ⟨rfl, rfl⟩, fun z => by omega, fun P hS hb pc h z => ?_⟩
    have nx : P (a + lenA (T i).1) (tmH (T i).1 k) f := by
      rcases Nat.lt_or_eq_of_le le with lt | eq
      · exact hS _ _ (Or.inr (s1 lt))
      · have := s2 eq
        rw [eq, this]
        exact hb
    rcases z with ⟨rfl, rfl⟩ | z
    · refine ⟨by omega, ?_, ?_⟩
      · rw [← h1] at nx
        rcases h2 with ⟨e, e1, e2, e3, e4⟩ | ⟨e, e1, e2⟩ | ⟨e, e0, e1, e2⟩ | ⟨e, e1⟩ | ⟨e, e1⟩ | ⟨e, e1⟩
        · rw [h1, e] at nx
          exact Or.inr (Or.inl ⟨by omega, by omega, by omega, nx⟩)
        · rw [h1, e] at nx
          exact Or.inr (Or.inr (Or.inl ⟨by omega, by omega, nx⟩))
        · rw [h1, e] at nx
          exact Or.inr (Or.inr (Or.inr (Or.inl ⟨by omega, e0, by omega, nx⟩)))
        · refine Or.inr (Or.inr (Or.inr (Or.inr (Or.inr (Or.inr (Or.inl ⟨by omega, e1, ?_⟩))))))
          rw [h1] at nx
          rcases e with e | e | e | e <;> rw [e] at nx <;> exact nx
        · refine Or.inr (Or.inr (Or.inr (Or.inr (Or.inr (Or.inr (Or.inr (Or.inl ⟨by omega, e1, ?_⟩)))))))
          rw [h1, e] at nx
          exact nx
        · refine Or.inr (Or.inr (Or.inr (Or.inr (Or.inr (Or.inr (Or.inr (Or.inr (Or.inl ⟨by omega, e1, ?_⟩))))))))
          rw [h1] at nx
          rcases e with e | e | e <;> rw [e] at nx <;> exact nx
      · rcases h2 with ⟨e, -⟩ | ⟨e, -⟩ | ⟨e, -⟩ | ⟨e, -⟩ | ⟨e, -⟩ | ⟨e, -⟩ <;> omega
    · exact s3 P (fun pc h z => hS pc h (Or.inr z)) hb pc h z
theorem snd_empty {k a : Nat} : sndA W f D k a a (fun _ _ => False) := ⟨Nat.le_refl _, fun z => absurd z (by omega), fun _ _ _ _ _ _ z => z.elim⟩
theorem snd_seq {k a m b : Nat} {S1 S2 : Nat → Nat → Prop} (h1 : sndA W f D k a m S1) (h2 : sndA W f D k m b S2) : sndA W f D k a b (fun pc h => S1 pc h ∨ S2 pc h) := by
  obtain ⟨l1, s1, p1⟩ := h1
  obtain ⟨l2, s2, p2⟩ := h2
  refine ⟨by omega, fun z => ?_, fun P hS hb hD pc h z => ?_⟩
  · by_cases e : a < m
    · exact Or.inl (s1 e)
    · obtain rfl : a = m := by omega
      exact Or.inr (s2 z)
  · rcases z with z | z
    · have hm : P m k f := by
        by_cases e : m < b
        · exact hS _ _ (Or.inr (s2 e))
        · obtain rfl : m = b := by omega
          exact hb
      have := p1 P (fun pc h z => hS pc h (Or.inl z)) hm hD pc h z
      exact ⟨by omega, this.2.1, fun z => by have := this.2.2 z; omega⟩
    · exact p2 P (fun pc h z => hS pc h (Or.inr z)) hb hD pc h z
theorem snd_leaf {k k' a e m c i : Nat} (h0 : W a = 0) (ht : tTm W T f c i (a + 1) e k k') (hem : e < m) (h : ∀ P : Nat → Nat → Bool → Prop, P m k f → (∀ q c, D q c → P c 0 true) → tyW W P e k' f ∧ W e ≠ 14) : ∃ S, sndA W f D k a m S := by
  obtain ⟨St, t1, t2, t3⟩ := snd_tm ht
  have le := tTm_le ht
  refine ⟨fun pc h => (pc = a ∧ h = k) ∨ St pc h ∨ (pc = e ∧ h = k'), by omega, fun _ => Or.inl ⟨rfl, rfl⟩, fun P hS hb hD pc h' z => ?_⟩
  have he : P e k' f := hS _ _ (Or.inr (Or.inr ⟨rfl, rfl⟩))
  have h1 : P (a + 1) k f := by
    by_cases z : a + 1 < e
    · exact hS _ _ (Or.inr (Or.inl (t1 z)))
    · obtain z : a + 1 = e := by omega
      rw [z, t2 z]
      exact he
  rcases z with ⟨rfl, rfl⟩ | z | ⟨rfl, rfl⟩
  · exact ⟨by omega, Or.inl ⟨h0, h1⟩, by omega⟩
  · have := t3 P (fun pc h z => hS _ _ (Or.inr (Or.inl z))) he pc h' z
    exact ⟨by omega, this.2.1, fun z => absurd z this.2.2⟩
  · have := h P hb hD
    exact ⟨hem, this.1, fun z => absurd z this.2⟩
/-- a statement's stretch, out of its blocks' -/
theorem snd_st {kind num k k' a e m c i : Nat} {body els dfn : Value} {R : Value → Nat → Nat → Nat → Prop} (hR : ∀ v k a b, R v k a b → ∃ S, sndA W f D k a b S) (h0 : W a = 0) (ht : tTm W T f c i (a + 1) e k k') (h : tSt W D f R kind num body els dfn k k' a e m) : ∃ S, sndA W f D k a m S := by
  obtain ⟨St, t1, t2, t3⟩ := snd_tm ht
  have le := tTm_le ht
  have pre : ∀ P : Nat → Nat → Bool → Prop, (∀ pc h, St pc h → P pc h f) → P e k' f → P (a + 1) k f := fun P hS he => by
    by_cases z : a + 1 < e
    · exact hS _ _ (t1 z)
    · obtain z : a + 1 = e := by omega
      rw [z, t2 z]
      exact he
  rcases h with ⟨rfl, rfl, w1, w2, j, r, w3, w4, rfl⟩ | ⟨rfl, rfl, w1, w2, j, r, w3, w4, rfl⟩ | ⟨rfl, rfl, w1, hr⟩ | ⟨rfl, hn, rfl, w1, w2, rfl, qd, -, hd⟩ | ⟨rfl, rfl, -, w1, rfl⟩ | ⟨hk, rfl, w1, w2, rfl⟩ | ⟨hk, rfl, w1, rfl⟩ | ⟨hk, rfl, w1, rfl⟩
  · obtain ⟨S, l, s1, s2⟩ := hR _ _ _ _ r
    refine ⟨fun pc h => (pc = a ∧ h = k) ∨ St pc h ∨ (pc = e ∧ h = k + 1) ∨ S pc h ∨ (pc = j ∧ h = k + 1), by omega, fun _ => Or.inl ⟨rfl, rfl⟩, fun P hS hb hD pc h z => ?_⟩
    have he : P e (k + 1) f := hS _ _ (Or.inr (Or.inr (Or.inl ⟨rfl, rfl⟩)))
    have hj : P j (k + 1) f := hS _ _ (Or.inr (Or.inr (Or.inr (Or.inr ⟨rfl, rfl⟩))))
    rcases z with ⟨rfl, rfl⟩ | z | ⟨rfl, rfl⟩ | z | ⟨rfl, rfl⟩
    · exact ⟨by omega, Or.inl ⟨h0, pre P (fun pc h z => hS _ _ (Or.inr (Or.inl z))) he⟩, by omega⟩
    · have := t3 P (fun pc h z => hS _ _ (Or.inr (Or.inl z))) he pc h z
      exact ⟨by omega, this.2.1, fun z => absurd z this.2.2⟩
    · refine ⟨by omega, Or.inr (Or.inr (Or.inr (Or.inr (Or.inr (Or.inr (Or.inr (Or.inr (Or.inr (Or.inr (Or.inr (Or.inl ⟨w1, by omega, ?_, ?_⟩))))))))))), by omega⟩
      · rw [w2]; exact hb
      · by_cases z : pc + 2 < j
        · exact hS _ _ (Or.inr (Or.inr (Or.inr (Or.inl (s1 z)))))
        · rw [show pc + 2 = j by omega]; exact hj
    · have := s2 P (fun pc h z => hS _ _ (Or.inr (Or.inr (Or.inr (Or.inl z))))) hj hD pc h z
      exact ⟨by omega, this.2.1, fun z => by have := this.2.2 z; omega⟩
    · refine ⟨by omega, Or.inr (Or.inr (Or.inr (Or.inr (Or.inr (Or.inr (Or.inr (Or.inr (Or.inr (Or.inl ⟨w3, ?_⟩))))))))), by omega⟩
      rw [w4]; exact he
  · obtain ⟨S, l, s1, s2⟩ := hR _ _ _ _ r
    refine ⟨fun pc h => (pc = a ∧ h = k) ∨ St pc h ∨ (pc = e ∧ h = k + 1) ∨ S pc h ∨ (pc = j ∧ h = k), by omega, fun _ => Or.inl ⟨rfl, rfl⟩, fun P hS hb hD pc h z => ?_⟩
    have he : P e (k + 1) f := hS _ _ (Or.inr (Or.inr (Or.inl ⟨rfl, rfl⟩)))
    have hj : P j k f := hS _ _ (Or.inr (Or.inr (Or.inr (Or.inr ⟨rfl, rfl⟩))))
    have h1 := pre P (fun pc h z => hS _ _ (Or.inr (Or.inl z))) he
    rcases z with ⟨rfl, rfl⟩ | z | ⟨rfl, rfl⟩ | z | ⟨rfl, rfl⟩
    · exact ⟨by omega, Or.inl ⟨h0, h1⟩, by omega⟩
    · have := t3 P (fun pc h z => hS _ _ (Or.inr (Or.inl z))) he pc h z
      exact ⟨by omega, this.2.1, fun z => absurd z this.2.2⟩
    · refine ⟨by omega, Or.inr (Or.inr (Or.inr (Or.inr (Or.inr (Or.inr (Or.inr (Or.inr (Or.inr (Or.inr (Or.inl ⟨Or.inr w1, by omega, ?_, ?_⟩)))))))))), by omega⟩
      · rw [w2]; exact hb
      · by_cases z : pc + 2 < j
        · exact hS _ _ (Or.inr (Or.inr (Or.inr (Or.inl (s1 z)))))
        · rw [show pc + 2 = j by omega]; exact hj
    · have := s2 P (fun pc h z => hS _ _ (Or.inr (Or.inr (Or.inr (Or.inl z))))) hj hD pc h z
      exact ⟨by omega, this.2.1, fun z => by have := this.2.2 z; omega⟩
    · refine ⟨by omega, Or.inr (Or.inr (Or.inr (Or.inr (Or.inr (Or.inr (Or.inr (Or.inr (Or.inr (Or.inl ⟨w3, ?_⟩))))))))), by omega⟩
      rw [w4]; exact h1
  · rcases hr with ⟨-, w2, r⟩ | ⟨j, r, w2, w3, w4, r2⟩
    · obtain ⟨S, l, s1, s2⟩ := hR _ _ _ _ r
      refine ⟨fun pc h => (pc = a ∧ h = k) ∨ St pc h ∨ (pc = e ∧ h = k + 1) ∨ S pc h, by omega, fun _ => Or.inl ⟨rfl, rfl⟩, fun P hS hb hD pc h z => ?_⟩
      have he : P e (k + 1) f := hS _ _ (Or.inr (Or.inr (Or.inl ⟨rfl, rfl⟩)))
      have h1 := pre P (fun pc h z => hS _ _ (Or.inr (Or.inl z))) he
      rcases z with ⟨rfl, rfl⟩ | z | ⟨rfl, rfl⟩ | z
      · exact ⟨by omega, Or.inl ⟨h0, h1⟩, by omega⟩
      · have := t3 P (fun pc h z => hS _ _ (Or.inr (Or.inl z))) he pc h z
        exact ⟨by omega, this.2.1, fun z => absurd z this.2.2⟩
      · refine ⟨by omega, Or.inr (Or.inr (Or.inr (Or.inr (Or.inr (Or.inr (Or.inr (Or.inr (Or.inr (Or.inr (Or.inl ⟨Or.inl w1, by omega, ?_, ?_⟩)))))))))), by omega⟩
        · rw [w2]; exact hb
        · by_cases z : pc + 2 < m
          · exact hS _ _ (Or.inr (Or.inr (Or.inr (s1 z))))
          · rw [show pc + 2 = m by omega]; exact hb
      · exact s2 P (fun pc h z => hS _ _ (Or.inr (Or.inr (Or.inr z)))) hb hD pc h z
    · obtain ⟨S, l, s1, s2⟩ := hR _ _ _ _ r
      obtain ⟨S', l', s1', s2'⟩ := hR _ _ _ _ r2
      refine ⟨fun pc h => (pc = a ∧ h = k) ∨ St pc h ∨ (pc = e ∧ h = k + 1) ∨ S pc h ∨ (pc = j ∧ h = k) ∨ S' pc h, by omega, fun _ => Or.inl ⟨rfl, rfl⟩, fun P hS hb hD pc h z => ?_⟩
      have he : P e (k + 1) f := hS _ _ (Or.inr (Or.inr (Or.inl ⟨rfl, rfl⟩)))
      have hj : P j k f := hS _ _ (Or.inr (Or.inr (Or.inr (Or.inr (Or.inl ⟨rfl, rfl⟩)))))
      have h1 := pre P (fun pc h z => hS _ _ (Or.inr (Or.inl z))) he
      have h2 : P (j + 2) k f := by
        by_cases z : j + 2 < m
        · exact hS _ _ (Or.inr (Or.inr (Or.inr (Or.inr (Or.inr (s1' z))))))
        · rw [show j + 2 = m by omega]; exact hb
      rcases z with ⟨rfl, rfl⟩ | z | ⟨rfl, rfl⟩ | z | ⟨rfl, rfl⟩ | z
      · exact ⟨by omega, Or.inl ⟨h0, h1⟩, by omega⟩
      · have := t3 P (fun pc h z => hS _ _ (Or.inr (Or.inl z))) he pc h z
        exact ⟨by omega, this.2.1, fun z => absurd z this.2.2⟩
      · refine ⟨by omega, Or.inr (Or.inr (Or.inr (Or.inr (Or.inr (Or.inr (Or.inr (Or.inr (Or.inr (Or.inr (Or.inl ⟨Or.inl w1, by omega, ?_, ?_⟩)))))))))), by omega⟩
        · rw [w4]; exact h2
        · by_cases z : pc + 2 < j
          · exact hS _ _ (Or.inr (Or.inr (Or.inr (Or.inl (s1 z)))))
          · rw [show pc + 2 = j by omega]; exact hj
      · have := s2 P (fun pc h z => hS _ _ (Or.inr (Or.inr (Or.inr (Or.inl z))))) hj hD pc h z
        exact ⟨by omega, this.2.1, fun z => by have := this.2.2 z; omega⟩
      · refine ⟨by omega, Or.inr (Or.inr (Or.inr (Or.inr (Or.inr (Or.inr (Or.inr (Or.inr (Or.inr (Or.inl ⟨w2, ?_⟩))))))))), by omega⟩
        rw [w3]; exact hb
      · exact s2' P (fun pc h z => hS _ _ (Or.inr (Or.inr (Or.inr (Or.inr (Or.inr z)))))) hb hD pc h z
  · exact snd_leaf h0 ht (by omega) (fun P hb hD => ⟨Or.inr (Or.inr (Or.inr (Or.inr (Or.inr (Or.inr (Or.inr (Or.inr (Or.inr (Or.inr (Or.inr (Or.inr (Or.inl ⟨w1, by omega, by omega, hD _ _ hd, by rw [w2, Nat.add_sub_cancel]; exact hb⟩)))))))))))), by omega⟩)
  · exact snd_leaf h0 ht (by omega) (fun P hb hD => ⟨Or.inr (Or.inr (Or.inr (Or.inr (Or.inr (Or.inr (Or.inr (Or.inr (Or.inr (Or.inr (Or.inr (Or.inr (Or.inr (Or.inl w1))))))))))))), by omega⟩)
  · refine snd_leaf h0 ht (by omega) (fun P hb hD => ⟨?_, by omega⟩)
    rcases hk with ⟨rfl, z⟩ | ⟨rfl, z, ff⟩
    · exact Or.inr (Or.inr (Or.inr (Or.inr (Or.inl ⟨w1, by omega, by omega, hb⟩))))
    · exact Or.inr (Or.inr (Or.inr (Or.inr (Or.inr (Or.inl ⟨w1, ff, by omega, by omega, hb⟩)))))
  · exact snd_leaf h0 ht (by omega) (fun P hb hD => ⟨Or.inr (Or.inr (Or.inr (Or.inr (Or.inr (Or.inr (Or.inr (Or.inr (Or.inr (Or.inr (Or.inr (Or.inr (Or.inr (Or.inr (Or.inr (Or.inl ⟨by omega, by omega, hb⟩))))))))))))))), by omega⟩)
  · exact snd_leaf h0 ht (by omega) (fun P hb hD => ⟨Or.inr (Or.inr (Or.inr (Or.inr (Or.inr (Or.inr (Or.inr (Or.inr (Or.inr (Or.inr (Or.inr (Or.inr (Or.inr (Or.inr (Or.inr (Or.inr ⟨by omega, hb⟩))))))))))))))), by omega⟩)
theorem snd_lst {R : Value → Nat → Nat → Nat → Prop} (hR : ∀ v k a b, R v k a b → ∃ S, sndA W f D k a b S) : ∀ {n : Nat} {v : Value} {k a b : Nat}, tLst W T tc D L f R n v k a b → ∃ S, sndA W f D k a b S
  | 0, _, _, _, _, h => h.elim
  | n + 1, v, k, a, b, h => by
    rcases h with ⟨-, rfl⟩ | ⟨q, kind, num, frm, to, body, he, els, nxt, nm, nos, tp, dfn, cp, k', e, m, -, -, -, h0, -, -, ht, hs, hn⟩
    · exact ⟨_, snd_empty⟩
    · obtain ⟨S1, s1⟩ := snd_st hR h0 ht hs
      obtain ⟨S2, s2⟩ := snd_lst hR hn
      exact ⟨_, snd_seq s1 s2⟩
theorem snd_all : ∀ {dp : Nat} {v : Value} {k a b : Nat}, tBlk W T tc D L f dp v k a b → ∃ S, sndA W f D k a b S
  | 0, _, _, _, _, h => h.elim
  | dp + 1, v, k, a, b, h => by
    obtain ⟨n, h⟩ := h
    exact snd_lst (fun v k a b h => snd_all h) h
theorem snd_top : ∀ {n : Nat} {v : Value} {a b : Nat}, tTop W T tc D L n v a b → ∃ S S' : Nat → Nat → Prop, a ≤ b ∧ (a < b → S a 0) ∧ ∀ P : Nat → Nat → Bool → Prop, (∀ pc h, S pc h → P pc h false) → (∀ pc h, S' pc h → P pc h true) → P b 0 false → (∀ q c, D q c → P c 0 true) → (∀ pc h, S pc h → pc < b ∧ tyW W P pc h false ∧ (W pc = 14 → pc + 1 < b)) ∧ ∀ pc h, S' pc h → pc < b ∧ tyW W P pc h true ∧ (W pc = 14 → pc + 1 < b)
  | 0, _, _, _, h => h.elim
  | n + 1, v, a, b, h => by
    rcases h with ⟨-, rfl⟩ | ⟨q, num, frm, to, body, he, els, nxt, nm, nos, tp, dfn, cp, j, -, -, -, w0, w1, hb, w2, hn⟩ | ⟨q, kind, num, frm, to, body, he, els, nxt, nm, nos, tp, dfn, cp, k', e, m, -, -, -, h0, -, -, ht, hs, hn⟩
    · exact ⟨fun _ _ => False, fun _ _ => False, Nat.le_refl _, fun z => absurd z (by omega), fun _ _ _ _ _ => ⟨fun _ _ z => z.elim, fun _ _ z => z.elim⟩⟩
    · obtain ⟨S1, l1, s1, p1⟩ := snd_all hb
      obtain ⟨S2, S2', l2, s2, p2⟩ := snd_top hn
      refine ⟨fun pc h => (pc = a ∧ h = 0) ∨ S2 pc h, fun pc h => S1 pc h ∨ (pc = j ∧ h = 0) ∨ S2' pc h, by omega, fun _ => Or.inl ⟨rfl, rfl⟩, fun P hS hS' hb hD => ?_⟩
      have q2 := p2 P (fun pc h z => hS _ _ (Or.inr z)) (fun pc h z => hS' _ _ (Or.inr (Or.inr z))) hb hD
      have hj : P j 0 true := hS' _ _ (Or.inr (Or.inl ⟨rfl, rfl⟩))
      have hj1 : P (j + 1) 0 false := by
        by_cases z : j + 1 < b
        · exact hS _ _ (Or.inr (s2 z))
        · rw [show j + 1 = b by omega]; exact hb
      refine ⟨fun pc h z => ?_, fun pc h z => ?_⟩
      · rcases z with ⟨rfl, rfl⟩ | z
        · refine ⟨by omega, Or.inr (Or.inr (Or.inr (Or.inr (Or.inr (Or.inr (Or.inr (Or.inr (Or.inr (Or.inl ⟨w0, ?_⟩))))))))), by omega⟩
          rw [w1]; exact hj1
        · exact q2.1 pc h z
      · rcases z with z | ⟨rfl, rfl⟩ | z
        · have := p1 P (fun pc h z => hS' _ _ (Or.inl z)) hj hD pc h z
          exact ⟨by omega, this.2.1, fun z => by have := this.2.2 z; omega⟩
        · exact ⟨by omega, Or.inr (Or.inr (Or.inr (Or.inr (Or.inr (Or.inr (Or.inr (Or.inr (Or.inr (Or.inr (Or.inr (Or.inr (Or.inr (Or.inl w2))))))))))))), by omega⟩
        · exact q2.2 pc h z
    · obtain ⟨S1, l1, s1, p1⟩ := snd_st (fun v k a b h => snd_all h) h0 ht hs
      obtain ⟨S2, S2', l2, s2, p2⟩ := snd_top hn
      refine ⟨fun pc h => S1 pc h ∨ S2 pc h, S2', by omega, fun z => ?_, fun P hS hS' hb hD => ?_⟩
      · by_cases e : a < m
        · exact Or.inl (s1 e)
        · obtain rfl : a = m := by omega
          exact Or.inr (s2 z)
      have q2 := p2 P (fun pc h z => hS _ _ (Or.inr z)) hS' hb hD
      have hm : P m 0 false := by
        by_cases e : m < b
        · exact hS _ _ (Or.inr (s2 e))
        · obtain rfl : m = b := by omega
          exact hb
      refine ⟨fun pc h z => ?_, q2.2⟩
      rcases z with z | z
      · have := p1 P (fun pc h z => hS pc h (Or.inl z)) hm hD pc h z
        exact ⟨by omega, this.2.1, fun z => by have := this.2.2 z; omega⟩
      · exact q2.1 pc h z
def ptsA (W : Nat → Nat) (D : Nat → Nat → Prop) (N : Nat) (S S' : Nat → Nat → Prop) (pc h : Nat) (f : Bool) : Prop := (f = false ∧ (S pc h ∨ (pc = N - 1 ∧ h = 0))) ∨ (f = true ∧ (S' pc h ∨ ∃ (q c j : Nat) (S1 : Nat → Nat → Prop), D q c ∧ sndA W true D 0 c j S1 ∧ W j = 17 ∧ (S1 pc h ∨ (pc = j ∧ h = 0))))
theorem tPrg_ok {N : Nat} {v : Value} (hW : ∀ j, N ≤ j → W j = 27) (h : tPrg W N T tc L v) : ∃ P, cOk W N P := by
  obtain ⟨n, D, hT, h0, hN, hD⟩ := h
  obtain ⟨S, S', l, s, p⟩ := snd_top hT
  refine ⟨ptsA W D N S S', ?_, fun pc h f hp => ?_⟩
  · by_cases z : 0 < N - 1
    · exact Or.inl ⟨rfl, Or.inl (s z)⟩
    · exact Or.inl ⟨rfl, Or.inr ⟨by omega, rfl⟩⟩
  · have hDP : ∀ q c, D q c → ptsA W D N S S' c 0 true := by
      intro q c hqc
      obtain ⟨-, num, frm, to, body, he, els, nxt, nm, nos, tp, dfn, cp, j, -, ha, hj⟩ := hD q c hqc
      obtain ⟨S1, s1⟩ := snd_all ha
      refine Or.inr ⟨rfl, Or.inr ⟨q, c, j, S1, hqc, s1, hj, ?_⟩⟩
      by_cases z : c < j
      · exact Or.inl (s1.2.1 z)
      · exact Or.inr ⟨by have := s1.1; omega, rfl⟩
    have top := p (ptsA W D N S S') (fun pc h z => Or.inl ⟨rfl, Or.inl z⟩) (fun pc h z => Or.inr ⟨rfl, Or.inl z⟩) (Or.inl ⟨rfl, Or.inr ⟨rfl, rfl⟩⟩) hDP
    rcases hp with ⟨rfl, z | ⟨rfl, rfl⟩⟩ | ⟨rfl, z | ⟨q, c, j, S1, hqc, s1, hj, z⟩⟩
    · have := top.1 pc h z
      exact ⟨by omega, this.2.1, fun z => by have := this.2.2 z; omega⟩
    · exact ⟨by omega, Or.inr (Or.inr (Or.inr (Or.inr (Or.inr (Or.inr (Or.inr (Or.inr (Or.inr (Or.inr (Or.inr (Or.inr (Or.inr (Or.inr (Or.inl hN)))))))))))))), by omega⟩
    · have := top.2 pc h z
      exact ⟨by omega, this.2.1, fun z => by have := this.2.2 z; omega⟩
    · have hjN : j < N := by
        refine Decidable.by_contra (fun y => ?_)
        have := hW j (by omega)
        omega
      have hjP : ptsA W D N S S' j 0 true := Or.inr ⟨rfl, Or.inr ⟨q, c, j, S1, hqc, s1, hj, Or.inr ⟨rfl, rfl⟩⟩⟩
      rcases z with z | ⟨rfl, rfl⟩
      · have := s1.2.2 (ptsA W D N S S') (fun pc h z => Or.inr ⟨rfl, Or.inr ⟨q, c, j, S1, hqc, s1, hj, Or.inl z⟩⟩) hjP hDP pc h z
        exact ⟨by omega, this.2.1, fun z => by have := this.2.2 z; omega⟩
      · exact ⟨hjN, Or.inr (Or.inr (Or.inr (Or.inr (Or.inr (Or.inr (Or.inr (Or.inr (Or.inr (Or.inr (Or.inr (Or.inr (Or.inr (Or.inl hj))))))))))))), by omega⟩
end PTS
