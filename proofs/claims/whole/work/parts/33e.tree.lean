/-! a statement and its words; the reader's invariant between statements -/
abbrev cBk : Type := Nat → Value → List Nat → List (Nat × Nat) → Nat → Nat → Prop
/-- one statement's words, beside its object's entries; R: of a block -/
def uSt (f : Bool) (R : cBk) (kind num : Nat) (l : List (Nat × Nat × Nat)) (body : Value) (he : Int32) (els : Value) (q a : Nat) (ws : List Nat) (M : List (Nat × Nat)) (lo hi : Nat) : Prop :=
  ((kind = 28 ∨ kind = 29) ∧ (∀ k, hgt f l k (k + 1)) ∧ ∃ wb, R (a + 1 + (wdL l).length + 2) body wb M lo hi ∧ ws = 0 :: (wdL l ++ (kind :: (a + 1 + (wdL l).length + 2 + wb.length + 2) :: (wb ++ [14, if kind = 28 then a + 1 + (wdL l).length else a + 1])))) ∨
  (kind = 15 ∧ (∀ k, hgt f l k (k + 1)) ∧ ∃ wb, (he = 0 ∧ els = .null ∧ R (a + 1 + (wdL l).length + 2) body wb M lo hi ∧ ws = 0 :: (wdL l ++ (15 :: (a + 1 + (wdL l).length + 2 + wb.length) :: wb))) ∨
    (he = 1 ∧ ∃ (wc : List Nat) (M1 M2 : List (Nat × Nat)) (m : Nat), lo ≤ m ∧ m ≤ hi ∧ R (a + 1 + (wdL l).length + 2) body wb M1 lo m ∧ R (a + 1 + (wdL l).length + 2 + wb.length + 2) els wc M2 m hi ∧ M = M1 ++ M2 ∧ ws = 0 :: (wdL l ++ (15 :: (a + 1 + (wdL l).length + 2 + wb.length + 2) :: (wb ++ (14 :: (a + 1 + (wdL l).length + 2 + wb.length + 2 + wc.length) :: wc)))))) ∨
  (kind = 16 ∧ num ≤ 3 ∧ (∀ k, hgt f l k (k + num)) ∧ M = [(q, a + 1 + (wdL l).length + 1)] ∧ ws = 0 :: (wdL l ++ [16, 0, num])) ∨
  ((kind = 17 ∨ (23 ≤ kind ∧ kind ≤ 26)) ∧ l = [] ∧ M = [] ∧ ws = [0, kind]) ∨
  (((kind = 4 ∧ num < 8) ∨ (kind = 5 ∧ num < 3 ∧ f = true)) ∧ (∀ k, hgt f l k (k + 1)) ∧ M = [] ∧ ws = 0 :: (wdL l ++ [kind, num])) ∨
  ((18 ≤ kind ∧ kind ≤ 22) ∧ (∀ k, hgt f l k (k + 1)) ∧ M = [] ∧ ws = 0 :: (wdL l ++ [kind]))
def pSt (f : Bool) (R : cBk) (U : Nat → List Value) (tm : List (Nat × Nat × Nat)) (q a : Nat) (ws : List Nat) (M : List (Nat × Nat)) (lo hi : Nat) : Prop := ∃ (kind num frm to : Nat) (body : Value) (he : Int32) (els : Value) (nm : Int64) (tp : Int32), oS U q kind num frm to body he els nm tp ∧ frm ≤ to ∧ to ≤ tm.length ∧ uSt f R kind num ((tm.drop frm).take (to - frm)) body he els q a ws M lo hi
def uBk (f : Bool) : Nat → (Nat → List Value) → List (Nat × Nat × Nat) → cBk
  | 0, _, _ => fun _ _ _ _ _ _ => False
  | dp + 1, U, tm => fun a v ws M lo hi => ∃ k, hLs U (pSt f (uBk f dp U tm) U tm) k v a ws M lo hi
/-- a statement with so many blocks in one another -/
def stP (f : Bool) (dp : Nat) : cPst := fun U tm => pSt f (uBk f dp U tm) U tm
def dfP : cPst := fun U tm q a ws M lo hi => ∃ (num frm to : Nat) (body : Value) (he : Int32) (els : Value) (nm : Int64) (tp : Int32) (wb : List Nat) (Mb : List (Nat × Nat)), oS U q 31 num frm to body he els nm tp ∧ uBk true 3 U tm (a + 2) body wb Mb lo hi ∧ ws = 14 :: (a + 2 + wb.length + 1) :: (wb ++ [17]) ∧ M = (q, a + 2) :: Mb
def tpP : cPst := fun U tm q a ws M lo hi => stP false 3 U tm q a ws M lo hi ∨ dfP U tm q a ws M lo hi
section PMO
variable {f : Bool} {U U' : Nat → List Value} {tm l : List (Nat × Nat × Nat)}
theorem uSt_mono {R R' : cBk} {lo hi : Nat} (h : ∀ a v ws M lo' hi', lo ≤ lo' → hi' ≤ hi → R a v ws M lo' hi' → R' a v ws M lo' hi') {kind num : Nat} {t : List (Nat × Nat × Nat)} {body : Value} {he : Int32} {els : Value} {q a : Nat} {ws : List Nat} {M : List (Nat × Nat)} (hs : uSt f R kind num t body he els q a ws M lo hi) : uSt f R' kind num t body he els q a ws M lo hi := by
  rcases hs with ⟨a1, a2, wb, r, b⟩ | ⟨a1, a2, wb, r⟩ | z | z | z | z
  · exact Or.inl ⟨a1, a2, wb, h _ _ _ _ _ _ (Nat.le_refl _) (Nat.le_refl _) r, b⟩
  · refine Or.inr (Or.inl ⟨a1, a2, wb, ?_⟩)
    rcases r with ⟨r1, r2, r3, r4⟩ | ⟨r1, wc, M1, M2, m, m1, m2, r2, r3, r4, r5⟩
    · exact Or.inl ⟨r1, r2, h _ _ _ _ _ _ (Nat.le_refl _) (Nat.le_refl _) r3, r4⟩
    · exact Or.inr ⟨r1, wc, M1, M2, m, m1, m2, h _ _ _ _ _ _ (Nat.le_refl _) m2 r2, h _ _ _ _ _ _ m1 (Nat.le_refl _) r3, r4, r5⟩
  · exact Or.inr (Or.inr (Or.inl z))
  · exact Or.inr (Or.inr (Or.inr (Or.inl z)))
  · exact Or.inr (Or.inr (Or.inr (Or.inr (Or.inl z))))
  · exact Or.inr (Or.inr (Or.inr (Or.inr (Or.inr z))))
theorem pSt_mono {R R' : cBk} {q a : Nat} {ws : List Nat} {M : List (Nat × Nat)} {lo hi : Nat} (h : ∀ a v ws M lo' hi', lo ≤ lo' → hi' ≤ hi → R a v ws M lo' hi' → R' a v ws M lo' hi') (hq : fr9 (U q) (U' q) ∨ ∃ v, fr9 ((U q).set 7 v) (U' q)) (hs : pSt f R U tm q a ws M lo hi) : pSt f R' U' (tm ++ l) q a ws M lo hi := by
  obtain ⟨kind, num, frm, to, body, he, els, nm, tp, z1, z2, z3, z4⟩ := hs
  refine ⟨kind, num, frm, to, body, he, els, nm, tp, oS_fr z1 hq, z2, by rw [List.length_append]; omega, ?_⟩
  have e : ((tm ++ l).drop frm).take (to - frm) = (tm.drop frm).take (to - frm) := by
    rw [List.drop_append_of_le_length (by omega), List.take_append_of_le_length (by rw [List.length_drop]; omega)]
  rw [e]
  exact uSt_mono h z4
theorem uBk_mono : ∀ (dp : Nat) {a : Nat} {v : Value} {ws : List Nat} {M : List (Nat × Nat)} {lo hi : Nat}, (∀ p, lo ≤ p → p < hi → fr9 (U p) (U' p)) → uBk f dp U tm a v ws M lo hi → uBk f dp U' (tm ++ l) a v ws M lo hi
  | 0, _, _, _, _, _, _, _, h => h
  | dp + 1, a, v, ws, M, lo, hi, hU, ⟨k, h⟩ => ⟨k, hLs_mono lo hi (fun q a ws M lo' hi' q1 q2 q3 q4 z => pSt_mono (fun a v ws M l1 h1 b1 b2 r => uBk_mono dp (fun p p1 p2 => hU p (by omega) (by omega)) r) (Or.inl (hU q q1 (by omega))) z) (fun q q1 q2 => fr9_at (hU q q1 q2) (by decide)) (Nat.le_refl _) (Nat.le_refl _) h⟩
theorem stP_ok (dp : Nat) : pOk (stP f dp) := fun U U' tm l q a ws M hi h h1 h2 => pSt_mono (fun a v ws M l1 h1' b1 b2 r => uBk_mono dp (fun p p1 p2 => h1 p (by omega) (by omega)) r) h2 h
theorem tpP_ok : pOk tpP := fun U U' tm l q a ws M hi h h1 h2 => by
  rcases h with h | ⟨num, frm, to, body, he, els, nm, tp, wb, Mb, z1, z2, z3, z4⟩
  · exact Or.inl (stP_ok 3 U U' tm l q a ws M hi h h1 h2)
  · exact Or.inr ⟨num, frm, to, body, he, els, nm, tp, wb, Mb, oS_fr z1 h2, uBk_mono 3 (fun p p1 p2 => h1 p (by omega) p2) z2, z3, z4⟩
end PMO
/-- objects linked one behind another by entry 9, in the order of their places -/
def chF (U : Nat → List Value) : Value → List Nat → Prop
  | v, [] => v = .null
  | v, q :: r => v = .ref q ∧ (∀ p ∈ r, q < p) ∧ ∃ w, (U q)[9]? = some w ∧ chF U w r
def lstV (qs : List Nat) : Value := match qs.getLast? with | none => .null | some q => .ref q
theorem chF_tr {U U' : Nat → List Value} : ∀ {qs : List Nat} {v : Value}, (∀ p ∈ qs, (U' p)[9]? = (U p)[9]?) → chF U v qs → chF U' v qs
  | [], _, _, h => h
  | q :: r, v, hU, ⟨h1, h2, w, h3, h4⟩ => ⟨h1, h2, w, (hU q (List.mem_cons_self ..)).trans h3, chF_tr (fun p hp => hU p (List.mem_cons_of_mem _ hp)) h4⟩
theorem lstV_snoc {qs : List Nat} {q : Nat} : lstV (qs ++ [q]) = .ref q := by
  unfold lstV
  rw [List.getLast?_append]
  rfl
/-- one more at the end, without any before -/
theorem chF_one {U : Nat → List Value} {q : Nat} (h : (U q)[9]? = some .null) : chF U (.ref q) [q] := ⟨rfl, fun p hp => (by cases hp), .null, h, rfl⟩
/-- one more at the end -/
theorem chF_snoc {U : Nat → List Value} {q b : Nat} : ∀ {qs : List Nat} {v : Value}, qs.getLast? = some b → (∀ p ∈ qs, p < q) → (∀ p ∈ qs, (U p).length = 13) → (U q)[9]? = some .null → chF U v qs → chF (aUp U b ((U b).set 9 (.ref q))) v (qs ++ [q])
  | [], v, hb, _, _, _, _ => by cases hb
  | [p], v, hb, hq, hl, h9, ⟨h1, h2, w, h3, h4⟩ => by
    have hb : p = b := Option.some.inj hb
    subst hb
    have lt := hq p (List.mem_cons_self ..)
    refine ⟨h1, fun z hz => by rw [List.mem_singleton.mp hz]; exact lt, .ref q, ?_, chF_one ?_⟩
    · rw [aUp_same, List.getElem?_set_self (by rw [hl p (List.mem_cons_self ..)]; decide)]
    · rw [aUp_ne (by omega)]; exact h9
  | p :: p2 :: r, v, hb, hq, hl, h9, ⟨h1, h2, w, h3, h4⟩ => by
    have hb' : (p2 :: r).getLast? = some b := by rw [← hb]; rfl
    have hm : b ∈ p2 :: r := List.mem_of_getLast? hb'
    have ne : p ≠ b := by have := h2 b hm; omega
    refine ⟨h1, fun z hz => ?_, w, ?_, chF_snoc hb' (fun z hz => hq z (List.mem_cons_of_mem _ hz)) (fun z hz => hl z (List.mem_cons_of_mem _ hz)) h9 h4⟩
    · rcases List.mem_append.mp hz with hz | hz
      · exact h2 z hz
      · rw [List.mem_singleton.mp hz]; exact hq p (List.mem_cons_self ..)
    · rw [aUp_ne ne]; exact h3
