/-! what tokens are, and how they lie -/
def tkW (L : Nat) (tk : aTk) : Prop := tk.2.1 < L ∧ ((tk.1 = 1 ∧ tk.2.2.2.1 ≤ 2 ^ 20 ∧ tk.2.2.2.2 ≤ 2) ∨ isS tk.1 = true ∨ (tk.1 = kwd tk.2.2.1 ∧ 1 ≤ tk.2.2.1.length ∧ tk.2.2.1.length ≤ 8 ∧ ∀ x ∈ tk.2.2.1, 1 ≤ x ∧ x ≤ 26))
def tsW (c : Nat → Nat) (L p : Nat) (ts : List aTk) : Prop := (∀ i tk, ts[i]? = some tk → tkW L tk ∧ tk.2.1 + 1 ≤ p ∧ i ≤ tk.2.1) ∧ (∀ i a b, ts[i]? = some a → ts[i + 1]? = some b → a.2.1 + 1 ≤ b.2.1 ∧ (a.1 = 31 → b.1 = 30 → a.2.1 + 3 ≤ b.2.1)) ∧
  ∀ i a, i + 1 = ts.length → ts[i]? = some a → a.1 = 31 → a.2.1 + 2 ≤ p ∧ (isL (c p) = true → a.2.1 + 3 ≤ p)
section TSW
variable {c : Nat → Nat} {L p q : Nat} {ts : List aTk} {t : aTk}
theorem at_snoc {α : Type} {l : List α} {x y : α} {i : Nat} (h : (l ++ [x])[i]? = some y) : (i < l.length ∧ l[i]? = some y) ∨ (i = l.length ∧ x = y) := by
  by_cases e : i < l.length
  · rw [List.getElem?_append_left e] at h
    exact Or.inl ⟨e, h⟩
  · have hi := (List.getElem?_eq_some_iff.mp h).1
    rw [List.length_append, List.length_singleton] at hi
    obtain rfl : i = l.length := by omega
    rw [List.getElem?_append_right (Nat.le_refl _), Nat.sub_self] at h
    cases h
    exact Or.inr ⟨rfl, rfl⟩
theorem tsW_snoc (h : tsW c L p ts) (hl : ts.length ≤ p) (ht : tkW L t) (hp : t.2.1 = p) (hq : p < q) (h30 : t.1 = 30 → isL (c p) = true) (h31 : t.1 = 31 → p + 2 ≤ q ∧ (isL (c q) = true → p + 3 ≤ q)) : tsW c L q (ts ++ [t]) := by
  obtain ⟨h1, h2, h3⟩ := h
  refine ⟨fun i tk e => ?_, fun i a b ea eb => ?_, fun i a hi e e31 => ?_⟩
  · rcases at_snoc e with ⟨_, e⟩ | ⟨ei, e⟩
    · have := h1 i tk e
      exact ⟨this.1, by omega, this.2.2⟩
    · subst e
      exact ⟨ht, by omega, by omega⟩
  · rcases at_snoc eb with ⟨hb, eb⟩ | ⟨ei, eb⟩
    · rcases at_snoc ea with ⟨_, ea⟩ | ⟨ei, ea⟩
      · exact h2 i a b ea eb
      · omega
    · rcases at_snoc ea with ⟨_, ea⟩ | ⟨ei, ea⟩
      · subst eb
        have g1 := h1 i a ea
        have g3 := h3 i a ei ea
        exact ⟨by omega, fun a31 b30 => by have := (g3 a31).2 (h30 b30); omega⟩
      · omega
  · rcases at_snoc e with ⟨hb, e⟩ | ⟨ei, e⟩
    · rw [List.length_append, List.length_singleton] at hi
      omega
    · subst e
      have := h31 e31
      rw [hp]
      exact this
theorem tsW_skip (h : tsW c L p ts) : tsW c L (p + 1) ts := ⟨fun i tk e => by have := h.1 i tk e; exact ⟨this.1, by omega, this.2.2⟩, h.2.1, fun i a hi e e31 => by have := h.2.2 i a hi e e31; exact ⟨by omega, fun _ => by omega⟩⟩
theorem kwd31 {l : List Nat} (h : kwd l = 31) : l.length = 2 := by
  unfold kwd at h
  cases e : kwds.find? (fun q => q.1 == l) with
  | none => rw [e] at h; cases h
  | some q =>
    rw [e] at h
    have h : q.2 = 31 := h
    have h1 := List.find?_some e
    have h2 := eq_of_beq h1
    rw [← h2]
    exact (show ∀ q ∈ kwds, q.2 = 31 → q.1.length = 2 by decide) q (List.mem_of_find?_eq_some e) h
theorem nbr_tk {x : Nat × Nat × Nat} (h0 : ∀ q, L ≤ q → c q = 0) (hp : p < L) (g : isD (c p) = true) (h : nbrA c p = .ok x) : tkW L (1, p, [], x.2.1, x.2.2) := by
  have h1 := spn_le (c := c) (f := isD) 4 p
  have h2 := spn_le (c := c) (f := isD) 2 (spn c isD 4 p + 1)
  have a1 := dgt_lt (c := c) (v := 0) (p := p) (spn c isD 4 p - p) (fun i i1 i2 => spn_all 4 p i i1 (by omega))
  have a2 := dgt_lt (c := c) (v := dgt c 0 p (spn c isD 4 p - p)) (p := spn c isD 4 p + 1) (spn c isD 2 (spn c isD 4 p + 1) - (spn c isD 4 p + 1)) (fun i i1 i2 => spn_all 2 _ i i1 (by omega))
  have p1 : 10 ^ (spn c isD 4 p - p) ≤ 10 ^ 4 := Nat.pow_le_pow_right (by decide) (by omega)
  have p2 : 10 ^ (spn c isD 2 (spn c isD 4 p + 1) - (spn c isD 4 p + 1)) ≤ 10 ^ 2 := Nat.pow_le_pow_right (by decide) (by omega)
  have b1 : dgt c 0 p (spn c isD 4 p - p) < 10 ^ 4 := by omega
  have b2 : dgt c (dgt c 0 p (spn c isD 4 p - p)) (spn c isD 4 p + 1) (spn c isD 2 (spn c isD 4 p + 1) - (spn c isD 4 p + 1)) < 10 ^ 6 := by
    have m := Nat.mul_le_mul (show dgt c 0 p (spn c isD 4 p - p) + 1 ≤ 10 ^ 4 from b1) p2
    have e : (10 : Nat) ^ 4 * 10 ^ 2 = 10 ^ 6 := by decide
    omega
  refine ⟨hp, Or.inl ⟨rfl, ?_⟩⟩
  unfold nbrA at h
  by_cases c1 : isD (c (spn c isD 4 p)) = true
  · rw [if_pos c1] at h; cases h
  · rw [if_neg c1] at h
    by_cases c2 : c (spn c isD 4 p) = 46
    · rw [if_pos c2] at h
      by_cases c3 : isD (c (spn c isD 4 p + 1)) = true
      · rw [if_pos c3] at h
        by_cases c4 : isD (c (spn c isD 2 (spn c isD 4 p + 1))) = true
        · rw [if_pos c4] at h; cases h
        · rw [if_neg c4] at h
          cases h
          exact ⟨by show dgt c _ _ _ ≤ 2 ^ 20; omega, by show spn c isD 2 (spn c isD 4 p + 1) - (spn c isD 4 p + 1) ≤ 2; omega⟩
      · rw [if_neg c3] at h; cases h
    · rw [if_neg c2] at h
      cases h
      exact ⟨by show dgt c _ _ _ ≤ 2 ^ 20; omega, Nat.zero_le _⟩
theorem tokA_ok (h0 : ∀ q, L ≤ q → c q = 0) : ∀ (k p : Nat) (ts t2 : List aTk), p ≤ L → ts.length ≤ p → tsW c L p ts → tokA c L k p ts = .ok t2 → ∃ p', p' ≤ L ∧ t2.length ≤ p' ∧ tsW c L p' t2
  | 0, p, ts, t2, hp, hl, h, e => by cases e; exact ⟨p, hp, hl, h⟩
  | k + 1, p, ts, t2, hp, hl, h, e => by
    rw [tokA] at e
    by_cases hge : L ≤ p
    · rw [if_pos hge] at e; cases e; exact ⟨p, hp, hl, h⟩
    · rw [if_neg hge] at e
      have hlen : ∀ x : aTk, (ts ++ [x]).length ≤ p + 1 := fun x => by rw [List.length_append, List.length_singleton]; omega
      by_cases l : isL (c p) = true
      · rw [if_pos l] at e
        have s1 : p + 1 ≤ spn c isL 8 p := spn_pos (k := 7) l
        have s2 := spn_lt (c := c) (f := isL) (k := 8) (p := p) h0 rfl hp
        have s3 := spn_le (c := c) (f := isL) 8 p
        by_cases f : isL (c (spn c isL 8 p)) = true
        · rw [if_pos f] at e; cases e
        · rw [if_neg f] at e
          refine tokA_ok h0 k _ _ t2 s2 (Nat.le_trans (hlen _) s1) (tsW_snoc h hl ⟨Nat.lt_of_not_le hge, Or.inr (Or.inr ⟨rfl, ?_, ?_, ?_⟩)⟩ rfl s1 (fun _ => l) (fun z => ?_)) e
          · rw [ltr_len]; omega
          · rw [ltr_len]; omega
          · exact ltr_ok (fun i h1 h2 => spn_all 8 p i h1 (by omega))
          · have := kwd31 z
            rw [ltr_len] at this
            exact ⟨by omega, fun y => absurd y f⟩
      · rw [if_neg l] at e
        by_cases g : isD (c p) = true
        · rw [if_pos g] at e
          cases hb : nbrA c p with
          | error x => rw [hb] at e; cases e
          | ok x =>
            rw [hb] at e
            have nb := nbr_ok h0 (Nat.lt_of_not_le hge) g hb
            exact tokA_ok h0 k _ _ t2 nb.2 (Nat.le_trans (hlen _) nb.1) (tsW_snoc h hl (nbr_tk h0 (Nat.lt_of_not_le hge) g hb) rfl nb.1 (fun z => by cases z) (fun z => by cases z)) e
        · rw [if_neg g] at e
          by_cases s : isS (c p) = true
          · rw [if_pos s] at e
            have ge40 : ¬ c p < 40 := fun z => absurd ((show ∀ z, z < 40 → ¬ isS z = true by decide) (c p) z) (fun w => w s)
            exact tokA_ok h0 k _ _ t2 (by omega) (hlen _) (tsW_snoc h hl ⟨Nat.lt_of_not_le hge, Or.inr (Or.inl s)⟩ rfl (Nat.lt_succ_self p) (fun z => absurd (show c p < 40 by have z : c p = 30 := z; omega) ge40) (fun z => absurd (show c p < 40 by have z : c p = 31 := z; omega) ge40)) e
          · rw [if_neg s] at e
            by_cases sp : c p = 32 ∨ c p = 10
            · rw [if_pos sp] at e
              exact tokA_ok h0 k _ _ t2 (by omega) (by omega) (tsW_skip h) e
            · rw [if_neg sp] at e; cases e
end TSW
