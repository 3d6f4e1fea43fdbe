/-! tokens: letters, digits, signs -/
def isL (c : Nat) : Bool := decide (97 ≤ c) && decide (c ≤ 122)
def isD (c : Nat) : Bool := decide (48 ≤ c) && decide (c ≤ 57)
def sgnL : List Nat := [123, 125, 40, 41, 43, 45, 42, 47, 60, 62, 61, 44]
def isS (c : Nat) : Bool := sgnL.contains c
/-- how far from p on, at most so many -/
def spn (c : Nat → Nat) (f : Nat → Bool) : Nat → Nat → Nat
  | 0, p => p
  | k + 1, p => if f (c p) then spn c f k (p + 1) else p
/-- a word's letters, 1 to 26 -/
def ltr (c : Nat → Nat) (p k : Nat) : List Nat := (List.range k).map (fun i => c (p + i) - 96)
def pk (b : Nat) (l : List Nat) : Nat := l.foldl (fun a x => b * a + x) 0
def dgt (c : Nat → Nat) (v p : Nat) : Nat → Nat
  | 0 => v
  | k + 1 => 10 * dgt c v p k + (c (p + k) - 48)
/-- the class's kind of a word -/
def kwds : List (List Nat × Nat) := [([20, 15], 31), ([6, 4], 18), ([2, 11], 19), ([18, 20], 20), ([12, 20], 21), ([16, 5, 14], 22), ([21, 16], 23), ([4, 15, 23, 14], 24), ([6, 9, 12, 12], 25), ([8, 15, 13, 5], 26), ([19, 20, 15, 16], 17), ([12, 5, 20], 32), ([18, 5, 16, 5, 1, 20], 28), ([23, 8, 9, 12, 5], 29), ([9, 6], 15), ([5, 12, 19, 5], 33)]
def kwd (l : List Nat) : Nat := ((kwds.find? (fun q => q.1 == l)).map (fun q => q.2)).getD 30
/-- kind, place, letters, digits, digits behind -/
abbrev aTk : Type := Nat × Nat × List Nat × Nat × Nat
/-- where a number's whole digits end; its token; where it ends -/
def nbrA (c : Nat → Nat) (p : Nat) : Except Nat (Nat × Nat × Nat) :=
  let q := spn c isD 4 p
  if isD (c q) then .error q
  else if c q = 46 then
    if isD (c (q + 1)) then
      let r := spn c isD 2 (q + 1)
      if isD (c r) then .error r else .ok (r, dgt c (dgt c 0 p (q - p)) (q + 1) (r - (q + 1)), r - (q + 1))
    else .error q
  else .ok (q, dgt c 0 p (q - p), 0)
def tokA (c : Nat → Nat) (L : Nat) : Nat → Nat → List aTk → Except Nat (List aTk)
  | 0, _, ts => .ok ts
  | k + 1, p, ts =>
    if L ≤ p then .ok ts
    else if isL (c p) then
      if isL (c (spn c isL 8 p)) then .error (spn c isL 8 p)
      else tokA c L k (spn c isL 8 p) (ts ++ [(kwd (ltr c p (spn c isL 8 p - p)), p, ltr c p (spn c isL 8 p - p), 0, 0)])
    else if isD (c p) then
      match nbrA c p with
      | .error e => .error e
      | .ok x => tokA c L k x.1 (ts ++ [(1, p, [], x.2.1, x.2.2)])
    else if isS (c p) then tokA c L k (p + 1) (ts ++ [(c p, p, [], 0, 0)])
    else if c p = 32 ∨ c p = 10 then tokA c L k (p + 1) ts
    else .error p
section TOK
variable {c : Nat → Nat} {f : Nat → Bool}
theorem spn_le : ∀ (k p : Nat), p ≤ spn c f k p ∧ spn c f k p ≤ p + k
  | 0, p => ⟨Nat.le_refl _, Nat.le_refl _⟩
  | k + 1, p => by
    unfold spn
    split
    · have := spn_le k (p + 1)
      omega
    · omega
theorem spn_all : ∀ (k p i : Nat), p ≤ i → i < spn c f k p → f (c i) = true
  | 0, p, i, h1, h2 => by unfold spn at h2; omega
  | k + 1, p, i, h1, h2 => by
    unfold spn at h2
    by_cases e : f (c p) = true
    · rw [if_pos e] at h2
      by_cases ei : i = p
      · subst ei; exact e
      · exact spn_all k (p + 1) i (by omega) h2
    · rw [if_neg e] at h2
      omega
theorem spn_pos {k p : Nat} (h : f (c p) = true) : p + 1 ≤ spn c f (k + 1) p := by
  unfold spn
  rw [if_pos h]
  exact (spn_le k (p + 1)).1
theorem spn_lt {L k p : Nat} (h0 : ∀ q, L ≤ q → c q = 0) (hf : f 0 = false) (hp : p ≤ L) : spn c f k p ≤ L := by
  by_cases e : spn c f k p ≤ L
  · exact e
  · have := spn_all (c := c) (f := f) k p L hp (by omega)
    rw [h0 L (Nat.le_refl _), hf] at this
    cases this
theorem ltr_succ {p k : Nat} : ltr c p (k + 1) = ltr c p k ++ [c (p + k) - 96] := by
  unfold ltr
  rw [List.range_succ, List.map_append]
  rfl
theorem pk_snoc {b x : Nat} {l : List Nat} : pk b (l ++ [x]) = b * pk b l + x := by
  unfold pk
  rw [List.foldl_append]
  rfl
theorem ltr_len {p k : Nat} : (ltr c p k).length = k := by
  unfold ltr
  rw [List.length_map, List.length_range]
theorem ltr_ok {k p : Nat} (h : ∀ i, p ≤ i → i < p + k → isL (c i) = true) : ∀ x ∈ ltr c p k, 1 ≤ x ∧ x ≤ 26 := by
  intro x hx
  obtain ⟨i, hi, rfl⟩ := List.mem_map.mp hx
  have := h (p + i) (by omega) (by have := List.mem_range.mp hi; omega)
  unfold isL at this
  simp only [Bool.and_eq_true, decide_eq_true_eq] at this
  omega
def pkr (b : Nat) (l : List Nat) : Nat := l.foldr (fun x a => b * a + x) 0
theorem pk_r {b : Nat} {l : List Nat} : pk b l = pkr b l.reverse := by
  unfold pk pkr
  rw [List.foldl_eq_foldr_reverse]
theorem pkr_lt {b : Nat} (hb : 27 ≤ b) : ∀ (l : List Nat), (∀ x ∈ l, 1 ≤ x ∧ x ≤ 26) → pkr b l < b ^ l.length
  | [], _ => by show 0 < b ^ 0; rw [Nat.pow_zero]; decide
  | x :: l, h => by
    have h1 := pkr_lt hb l (fun y hy => h y (List.mem_cons_of_mem _ hy))
    have h2 := h x (List.mem_cons_self ..)
    show b * pkr b l + x < b ^ (l.length + 1)
    have h3 := Nat.mul_le_mul_left b (Nat.succ_le_of_lt h1)
    rw [Nat.mul_succ] at h3
    rw [Nat.pow_succ, Nat.mul_comm (b ^ l.length) b]
    omega
theorem pkr_inj {b : Nat} (hb : 27 ≤ b) : ∀ (l l' : List Nat), (∀ x ∈ l, 1 ≤ x ∧ x ≤ 26) → (∀ x ∈ l', 1 ≤ x ∧ x ≤ 26) → pkr b l = pkr b l' → l = l'
  | [], [], _, _, _ => rfl
  | [], y :: l', _, h', e => by
    have h2 := h' y (List.mem_cons_self ..)
    have e : 0 = b * pkr b l' + y := e
    omega
  | x :: l, [], h, _, e => by
    have h2 := h x (List.mem_cons_self ..)
    have e : b * pkr b l + x = 0 := e
    omega
  | x :: l, y :: l', h, h', e => by
    have h2 := h x (List.mem_cons_self ..)
    have h3 := h' y (List.mem_cons_self ..)
    have e : b * pkr b l + x = b * pkr b l' + y := e
    have m1 : (b * pkr b l + x) % b = x := by rw [Nat.mul_add_mod]; exact Nat.mod_eq_of_lt (by omega)
    have m2 : (b * pkr b l' + y) % b = y := by rw [Nat.mul_add_mod]; exact Nat.mod_eq_of_lt (by omega)
    have exy : x = y := by rw [← m1, ← m2, e]
    subst exy
    have e2 : b * pkr b l = b * pkr b l' := by omega
    rw [pkr_inj hb l l' (fun z hz => h z (List.mem_cons_of_mem _ hz)) (fun z hz => h' z (List.mem_cons_of_mem _ hz)) (Nat.eq_of_mul_eq_mul_left (by omega) e2)]
theorem pk_inj {b : Nat} (hb : 27 ≤ b) {l l' : List Nat} (h : ∀ x ∈ l, 1 ≤ x ∧ x ≤ 26) (h' : ∀ x ∈ l', 1 ≤ x ∧ x ≤ 26) (e : pk b l = pk b l') : l = l' := by
  rw [pk_r, pk_r] at e
  exact List.reverse_inj.mp (pkr_inj hb _ _ (fun x hx => h x (List.mem_reverse.mp hx)) (fun x hx => h' x (List.mem_reverse.mp hx)) e)
theorem pkn_lt {b : Nat} (hb : 27 ≤ b) {l : List Nat} (h : ∀ x ∈ l, 1 ≤ x ∧ x ≤ 26) : pk b l < b ^ l.length := by
  rw [pk_r]
  have := pkr_lt hb l.reverse (fun x hx => h x (List.mem_reverse.mp hx))
  rw [List.length_reverse] at this
  exact this
theorem pk_lt8 {b : Nat} (hb : b = 27 ∨ b = 32) {l : List Nat} (h : ∀ x ∈ l, 1 ≤ x ∧ x ≤ 26) (h8 : l.length ≤ 8) : pk b l < 2 ^ 40 := by
  have h1 := pkn_lt (b := b) (by omega) h
  have h2 : b ^ l.length ≤ b ^ 8 := Nat.pow_le_pow_right (by omega) h8
  have h3 : b ^ 8 ≤ 2 ^ 40 := by rcases hb with rfl | rfl <;> decide
  omega
theorem dgt_lt {v p : Nat} : ∀ (k : Nat), (∀ i, p ≤ i → i < p + k → isD (c i) = true) → dgt c v p k < (v + 1) * 10 ^ k
  | 0, _ => by show v < (v + 1) * 10 ^ 0; rw [Nat.pow_zero]; omega
  | k + 1, h => by
    have h1 := dgt_lt (v := v) k (fun i h1 h2 => h i h1 (by omega))
    have h2 := h (p + k) (by omega) (by omega)
    unfold isD at h2
    simp only [Bool.and_eq_true, decide_eq_true_eq] at h2
    show 10 * dgt c v p k + (c (p + k) - 48) < (v + 1) * 10 ^ (k + 1)
    rw [Nat.pow_succ, ← Nat.mul_assoc]
    omega
end TOK
