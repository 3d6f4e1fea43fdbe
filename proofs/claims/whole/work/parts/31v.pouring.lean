/-! pouring, in general; the words of terms -/
section PRL
theorem porE_len {s : Nat} : ∀ (st : List Nat), (porE s st).length + (porL s st).length = st.length
  | [] => rfl
  | w :: r => by
    unfold porE porL
    split
    · have := porE_len (s := s) r
      show (porE s r).length + 1 + _ = r.length + 1
      omega
    · exact Nat.zero_add _
theorem porL_mem {s w : Nat} : ∀ {st : List Nat}, w ∈ porL s st → w ∈ st
  | [], h => h
  | v :: r, h => by
    unfold porL at h
    split at h
    · exact List.mem_cons_of_mem _ (porL_mem h)
    · exact h
theorem porE_mem {s w : Nat} : ∀ {st : List Nat}, w ∈ porE s st → w ∈ st
  | [], h => h
  | v :: r, h => by
    unfold porE at h
    split at h
    · rcases List.mem_cons.mp h with h | h
      · rw [h]; exact List.mem_cons_self ..
      · exact List.mem_cons_of_mem _ (porE_mem h)
    · cases h
/-- nothing on top is so strong -/
theorem por_ge {s s' : Nat} (hs : s ≤ s') : ∀ {st : List Nat}, porL s st = st → porL s' st = st ∧ porE s' st = []
  | [], _ => ⟨rfl, rfl⟩
  | w :: r, h => by
    by_cases c : s ≤ strg w
    · have h : porL s r = w :: r := by
        have e : porL s (w :: r) = porL s r := if_pos c
        rw [← e]
        exact h
      have l := porE_len (s := s) r
      rw [h] at l
      have l : (porE s r).length + (r.length + 1) = r.length := l
      omega
    · have c' : ¬ s' ≤ strg w := by omega
      exact ⟨if_neg c', if_neg c'⟩
theorem por_two {s s' : Nat} (hs : s ≤ s') : ∀ (st : List Nat), porE s st = porE s' st ++ porE s (porL s' st) ∧ porL s st = porL s (porL s' st)
  | [] => ⟨rfl, rfl⟩
  | w :: r => by
    by_cases c : s' ≤ strg w
    · obtain ⟨h1, h2⟩ := por_two hs r
      have e1 : porE s (w :: r) = w :: porE s r := if_pos (by omega)
      have e2 : porE s' (w :: r) = w :: porE s' r := if_pos c
      have e3 : porL s' (w :: r) = porL s' r := if_pos c
      have e4 : porL s (w :: r) = porL s r := if_pos (by omega)
      rw [e1, e2, e3, e4]
      exact ⟨by rw [h1]; rfl, h2⟩
    · have e2 : porE s' (w :: r) = [] := if_neg c
      have e3 : porL s' (w :: r) = w :: r := if_neg c
      rw [e2, e3]
      exact ⟨rfl, rfl⟩
theorem por_top {s w : Nat} {r : List Nat} (h : s ≤ strg w) : porE s (w :: r) = w :: porE s r ∧ porL s (w :: r) = porL s r := ⟨if_pos h, if_pos h⟩
theorem por_no {s w : Nat} {r : List Nat} (h : ¬ s ≤ strg w) : porE s (w :: r) = [] ∧ porL s (w :: r) = w :: r := ⟨if_neg h, if_neg h⟩
/-- the words of a term, of terms -/
def wdT (q : Nat × Nat × Nat) : List Nat := if q.1 = 1 then [1, q.2.1, q.2.2] else if q.1 ≤ 3 then [q.1, q.2.1] else [q.1]
def wdL (l : List (Nat × Nat × Nat)) : List Nat := l.flatMap wdT
theorem wdL_app {l m : List (Nat × Nat × Nat)} : wdL (l ++ m) = wdL l ++ wdL m := List.flatMap_append
theorem wdL_op {op : Nat} (h : 4 ≤ op) : wdL [(op, 0, 0)] = [op] := by
  show wdT (op, 0, 0) ++ [] = _
  rw [List.append_nil]
  unfold wdT
  rw [if_neg (show ¬ op = 1 by omega), if_neg (show ¬ op ≤ 3 by omega)]
/-- a loop ends where no sign of its own stands -/
theorem lopA_end {ts : List aTk} {a b oa ob : Nat} (ha : a ≠ 34) (hb : b ≠ 34) {one : xSt → Except Nat xSt} (h1 : xRd ts one) : ∀ (k : Nat) (x y : xSt), xOk ts x → ts.length ≤ x.1 + k → lopA ts a b oa ob one k x = .ok y → kA ts y.1 ≠ a ∧ kA ts y.1 ≠ b
  | 0, x, y, hx, hk, h => by
    cases h
    exact ⟨fun z => absurd (kA_lt z ha) (by omega), fun z => absurd (kA_lt z hb) (by omega)⟩
  | k + 1, x, y, hx, hk, h => by
    rw [lopA] at h
    by_cases c : kA ts x.1 = a ∨ kA ts x.1 = b
    · rw [if_pos c] at h
      have hlt : x.1 < ts.length := c.elim (fun z => kA_lt z ha) (fun z => kA_lt z hb)
      cases e : one (x.1 + 1, x.2) with
      | error z => rw [e] at h; cases h
      | ok z =>
        rw [e] at h
        obtain ⟨x1, x2, x3, x4⟩ := hx
        obtain ⟨⟨z1, z2, z3, z4⟩, g1, g2, -, -⟩ := h1 (x.1 + 1, x.2) z ⟨by omega, by show x.2.2.length ≤ x.1 + 1; omega, x3, x4⟩ e
        have g1 : x.1 + 1 < z.1 := g1
        have g2 : z.2.2.length + (x.1 + 1) ≤ x.2.2.length + z.1 := g2
        exact lopA_end ha hb h1 k (z.1, z.2.1, z.2.2 ++ [(if kA ts x.1 = a then oa else ob, 0, 0)]) y ⟨z1, by rw [List.length_append, List.length_singleton]; show _ ≤ z.1; omega, z3, z4⟩ (by show ts.length ≤ z.1 + k; omega) h
    · rw [if_neg c] at h
      cases h
      exact ⟨fun z => c (Or.inl z), fun z => c (Or.inr z)⟩
theorem prdA_end {ts : List aTk} {L dp : Nat} {ps : List (List Nat)} {sm : xSt → Except Nat xSt} (hl : ts.length ≤ 160) (hN : tsN ts) (hs : dp < 3 → xRd ts sm) (x y : xSt) (hx : xOk ts x) (h : prdA ts L ps sm dp x = .ok y) : kA ts y.1 ≠ 42 ∧ kA ts y.1 ≠ 47 := by
  unfold prdA at h
  cases e : fctA ts L ps sm dp x with
  | error z => rw [e] at h; cases h
  | ok z =>
    rw [e] at h
    exact lopA_end (by decide) (by decide) (fctA_rd hN hs) 160 z y (fctA_rd hN hs x z hx e).1 (by omega) h
/-- a loop keeps what holds behind each of its parts -/
theorem lopA_keep {ts : List aTk} {a b oa ob : Nat} (ha : a ≠ 34) (hb : b ≠ 34) {one : xSt → Except Nat xSt} {P : Nat → Prop} (h1 : xRd ts one) (hP : ∀ x y, xOk ts x → one x = .ok y → P y.1) : ∀ (k : Nat) (x y : xSt), xOk ts x → P x.1 → lopA ts a b oa ob one k x = .ok y → P y.1
  | 0, x, y, hx, hp, h => by cases h; exact hp
  | k + 1, x, y, hx, hp, h => by
    rw [lopA] at h
    by_cases c : kA ts x.1 = a ∨ kA ts x.1 = b
    · rw [if_pos c] at h
      have hlt : x.1 < ts.length := c.elim (fun z => kA_lt z ha) (fun z => kA_lt z hb)
      cases e : one (x.1 + 1, x.2) with
      | error z => rw [e] at h; cases h
      | ok z =>
        rw [e] at h
        obtain ⟨x1, x2, x3, x4⟩ := hx
        have ok1 : xOk ts (x.1 + 1, x.2) := ⟨by show x.1 + 1 ≤ _; omega, by show x.2.2.length ≤ x.1 + 1; omega, x3, x4⟩
        obtain ⟨⟨z1, z2, z3, z4⟩, g1, g2, -, -⟩ := h1 (x.1 + 1, x.2) z ok1 e
        have g1 : x.1 + 1 < z.1 := g1
        have g2 : z.2.2.length + (x.1 + 1) ≤ x.2.2.length + z.1 := g2
        exact lopA_keep ha hb h1 hP k (z.1, z.2.1, z.2.2 ++ [(if kA ts x.1 = a then oa else ob, 0, 0)]) y ⟨z1, by rw [List.length_append, List.length_singleton]; show _ ≤ z.1; omega, z3, z4⟩ (hP _ z ok1 e) h
    · rw [if_neg c] at h
      cases h
      exact hp
theorem sumA_end {ts : List aTk} {L : Nat} {ps : List (List Nat)} (hl : ts.length ≤ 160) (hN : tsN ts) : ∀ (f dp : Nat) (x y : xSt), xOk ts x → sumA ts L ps f dp x = .ok y → kA ts y.1 ≠ 43 ∧ kA ts y.1 ≠ 45 ∧ kA ts y.1 ≠ 42 ∧ kA ts y.1 ≠ 47
  | 0, dp, x, y, hx, h => by cases h
  | f + 1, dp, x, y, hx, h => by
    rw [sumA] at h
    have rd := prdA_rd (L := L) (ps := ps) (dp := dp) hN (fun _ => sumA_rd (L := L) (ps := ps) hN f (dp + 1))
    have en := prdA_end (L := L) (ps := ps) (dp := dp) hl hN (fun _ => sumA_rd (L := L) (ps := ps) hN f (dp + 1))
    cases e : prdA ts L ps (sumA ts L ps f (dp + 1)) dp x with
    | error z => rw [e] at h; cases h
    | ok z =>
      rw [e] at h
      have o1 := (rd x z hx e).1
      have h1 := lopA_end (by decide) (by decide) rd 160 z y o1 (by omega) h
      have h2 := lopA_keep (P := fun t => kA ts t ≠ 42 ∧ kA ts t ≠ 47) (by decide) (by decide) rd en 160 z y o1 (en x z hx e) h
      exact ⟨h1.1, h1.2, h2.1, h2.2⟩
end PRL
