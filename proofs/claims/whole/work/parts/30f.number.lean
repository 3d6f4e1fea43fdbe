/-! a number is taken -/
def nbT (c : Nat → Nat) (p : Nat) : Nat × Nat × Nat :=
  if c (spn c isD 4 p) = 46 ∧ isD (c (spn c isD 4 p + 1)) = true then (spn c isD 2 (spn c isD 4 p + 1), dgt c (dgt c 0 p (spn c isD 4 p - p)) (spn c isD 4 p + 1) (spn c isD 2 (spn c isD 4 p + 1) - (spn c isD 4 p + 1)), spn c isD 2 (spn c isD 4 p + 1) - (spn c isD 4 p + 1))
  else (spn c isD 4 p, dgt c 0 p (spn c isD 4 p - p), 0)
section TKN
variable {scr : List Value} {kd : Nat → Nat} {n d L p : Nat} {S S0 : Nat → List Value} {a24 a25 a26 a27 a28 : List Value} {cn en : Int32} {c : Nat → Nat} {Q : aOut → aH → Prop}
theorem c_dend (hn : 67 ≤ n) (hT : txOk (S 21) L c) {b : Nat} (hb : b < 2 ^ 20) : ∀ (k q : Nat), q + k = b → q ≤ L → aE aM48 (d + 1) 2 [(3, .int (Int32.ofNat q)), (0, .ref 21), (1, .int (Int32.ofNat p)), (2, .int (Int32.ofNat (min L b)))] [] (gH scr kd n S) (aIs (some (.int (Int32.ofNat (spn c isD k q)))) (gH scr kd n S))
  | k, q, hk, hL => by
    obtain ⟨t1, t2, t3, t4⟩ := hT
    by_cases hge : min L b ≤ q
    · have e : spn c isD k q = q := by
        by_cases hL2 : L ≤ q
        · exact spn_0 (by rw [t4 q hL2]; rfl)
        · obtain rfl : k = 0 := by omega
          rfl
      rw [e]
      refine eS rfl rfl ?_
      refine eS rfl rfl ?_
      refine eIGe rfl rfl (fun _ => ?_) (fun z => absurd ((i32_le (a := min L b) (b := q) (by omega) (by omega)).mpr hge) z)
      refine eS rfl rfl ?_
      exact eR rfl rfl ⟨rfl, rfl⟩
    · obtain ⟨k, rfl⟩ : ∃ m, k = m + 1 := ⟨k - 1, by omega⟩
      have rd := t2 q (by omega)
      by_cases hl : isD (c q) = true
      · rw [spn_1 hl]
        refine eS rfl rfl ?_
        refine eS rfl rfl ?_
        refine eIGe rfl rfl (fun z => absurd ((i32_le (a := min L b) (b := q) (by omega) (by omega)).mp z) hge) (fun _ => ?_)
        refine eS rfl rfl ?_
        refine eS rfl rfl ?_
        refine gRd1 hn rfl rfl rfl q (by omega) rd ?_
        refine eC1 rfl rfl rfl ⟨catOk rfl, catOk rfl⟩ (c_isD (Nat.lt_trans (t3 _) (by decide))) ?_
        rw [if_pos hl]
        refine eEq rfl rfl (fun z => absurd z (by decide)) (fun _ => ?_)
        refine eS rfl rfl ?_
        refine eS rfl rfl ?_
        rw [i32_succ]
        exact c_dend hn ⟨t1, t2, t3, t4⟩ hb k (q + 1) (by omega) (by omega)
      · rw [spn_0 (by rw [Bool.not_eq_true] at hl; exact hl)]
        refine eS rfl rfl ?_
        refine eS rfl rfl ?_
        refine eIGe rfl rfl (fun z => absurd ((i32_le (a := min L b) (b := q) (by omega) (by omega)).mp z) hge) (fun _ => ?_)
        refine eS rfl rfl ?_
        refine eS rfl rfl ?_
        refine gRd1 hn rfl rfl rfl q (by omega) rd ?_
        refine eC1 rfl rfl rfl ⟨catOk rfl, catOk rfl⟩ (c_isD (Nat.lt_trans (t3 _) (by decide))) ?_
        rw [if_neg hl]
        refine eEq rfl rfl (fun _ => ?_) (fun z => (z rfl).elim)
        refine eS rfl rfl ?_
        exact eR rfl rfl ⟨rfl, rfl⟩
theorem c_dfrom {v t : Nat} (hn : 67 ≤ n) (hT : txOk (S 21) L c) (ht : t ≤ L) (hd : ∀ i, p ≤ i → i < t → isD (c i) = true) : ∀ (k i : Nat), p ≤ i → i + k = t → aE aM49 d 6 [(5, .int (Int32.ofNat i)), (4, .int (Int32.ofNat (dgt c v p (i - p)))), (0, .int (Int32.ofNat v)), (1, .ref 21), (2, .int (Int32.ofNat p)), (3, .int (Int32.ofNat t))] [] (gH scr kd n S) (aIs (some (.int (Int32.ofNat (dgt c v p (t - p))))) (gH scr kd n S))
  | 0, i, hp, hk => by
    obtain rfl : i = t := by omega
    have t1 := hT.1
    refine eS rfl rfl ?_
    refine eS rfl rfl ?_
    refine eIGe rfl rfl (fun _ => ?_) (fun z => absurd ((i32_le (a := i) (b := i) (by omega) (by omega)).mpr (Nat.le_refl _)) z)
    refine eS rfl rfl ?_
    exact eR rfl rfl ⟨rfl, rfl⟩
  | k + 1, i, hp, hk => by
    obtain ⟨t1, t2, t3, t4⟩ := hT
    have rd := t2 i (by omega)
    have d1 := hd i hp (by omega)
    have e : Int32.ofNat 10 * Int32.ofNat (dgt c v p (i - p)) + (Int32.ofNat (c i) - Int32.ofNat 48) = Int32.ofNat (dgt c v p (i + 1 - p)) := by
      have d2 := d1
      unfold isD at d2
      simp only [Bool.and_eq_true, decide_eq_true_eq] at d2
      rw [i32_sub d2.1, i32_mul, i32_add, show i + 1 - p = (i - p) + 1 by omega, dgt, show p + (i - p) = i by omega]
    refine eS rfl rfl ?_
    refine eS rfl rfl ?_
    refine eIGe rfl rfl (fun z => absurd ((i32_le (a := t) (b := i) (by omega) (by omega)).mp z) (by omega)) (fun _ => ?_)
    refine eS rfl rfl ?_
    refine eS rfl rfl ?_
    refine eS rfl rfl ?_
    refine eS rfl rfl ?_
    refine eS rfl rfl ?_
    refine gRd1 hn rfl rfl rfl i (by omega) rd ?_
    refine eS rfl rfl ?_
    refine eS rfl rfl ?_
    refine eS rfl rfl ?_
    refine eS rfl rfl ?_
    refine eS rfl rfl ?_
    refine eS rfl rfl ?_
    rw [i32_succ]
    refine eLoc (l' := [(5, .int (Int32.ofNat (i + 1))), (4, .int (Int32.ofNat (dgt c v p (i + 1 - p)))), (0, .int (Int32.ofNat v)), (1, .ref 21), (2, .int (Int32.ofNat p)), (3, .int (Int32.ofNat t))]) rfl ⟨rfl, by rw [← e]; rfl, rfl, rfl, rfl, rfl, trivial⟩ ?_
    exact c_dfrom hn ⟨t1, t2, t3, t4⟩ ht hd k (i + 1) (by omega) (by omega)
theorem c_min {a b : Nat} (ha : a < 2 ^ 31) (hb : b < 2 ^ 31) {h : aH} : aE aM43 d 0 [(0, .int (Int32.ofNat a)), (1, .int (Int32.ofNat b))] [] h (aIs (some (.int (Int32.ofNat (min a b)))) h) := by
  have := s_min (d := d) (a := Int32.ofNat a) (b := Int32.ofNat b) (h := h)
  have e : (if Int32.ofNat b < Int32.ofNat a then Int32.ofNat b else Int32.ofNat a) = Int32.ofNat (min a b) := by
    by_cases hc : b < a
    · rw [if_pos ((i32_lt hb ha).mpr hc), show min a b = b by omega]
    · rw [if_neg (fun y => hc ((i32_lt hb ha).mp y)), show min a b = a by omega]
  rw [e] at this
  exact this
theorem nbT_le : p ≤ (nbT c p).1 ∧ (nbT c p).1 ≤ p + 7 := by
  have h1 := spn_le (c := c) (f := isD) 4 p
  have h2 := spn_le (c := c) (f := isD) 2 (spn c isD 4 p + 1)
  unfold nbT
  split
  · show p ≤ spn c isD 2 (spn c isD 4 p + 1) ∧ spn c isD 2 (spn c isD 4 p + 1) ≤ p + 7
    omega
  · show p ≤ spn c isD 4 p ∧ spn c isD 4 p ≤ p + 7
    omega
theorem c_nbr {cn : Nat} {en : Int32} (hn : 67 ≤ n) (hT : txOk (S0 21) L c) (hp : p < L) (hcn : cn < 160) (h24 : a24.length = 160) (h25 : a25.length = 160) (h27 : a27.length = 160) (h28 : a28.length = 160) : aE aM47 (d + 2) 0 [(0, .ref 23), (1, .ref 21), (2, .int (Int32.ofNat p)), (3, .int (Int32.ofNat L))] [] (gH scr kd n (tkS S0 a24 a25 a26 a27 a28 (Int32.ofNat cn) en))
    (aIs (some (.int (Int32.ofNat (nbT c p).1))) (gH scr kd n (tkS S0 (a24.set cn (.int (Int32.ofNat 1))) (a25.set cn (.int (Int32.ofNat p))) a26 (a27.set cn (.int (Int32.ofNat (nbT c p).2.1))) (a28.set cn (.int (Int32.ofNat (nbT c p).2.2))) (Int32.ofNat (cn + 1)) en))) := by
  have t1 := hT.1
  have hT2 : txOk ((tkS S0 a24 a25 a26 a27 a28 (Int32.ofNat cn) en) 21) L c := hT
  have hs := spn_le (c := c) (f := isD) 4 p
  have hq := spn_lt (c := c) (f := isD) (k := 4) (p := p) hT.2.2.2 rfl (Nat.le_of_lt hp)
  have hall := spn_all (c := c) (f := isD) 4 p
  have fin : ∀ (ls : aLc) (q v b : Nat), nbT c p = (q, v, b) → lkA ls [(4, .int (Int32.ofNat q)), (5, .int (Int32.ofNat v)), (6, .int (Int32.ofNat b)), (0, .ref 23), (1, .ref 21), (2, .int (Int32.ofNat p)), (3, .int (Int32.ofNat L))] → ndB (ls.map (·.1)) = true → aE aM47 (d + 2) 97 ls [] (gH scr kd n (tkS S0 a24 a25 a26 a27 a28 (Int32.ofNat cn) en)) (aIs (some (.int (Int32.ofNat (nbT c p).1))) (gH scr kd n (tkS S0 (a24.set cn (.int (Int32.ofNat 1))) (a25.set cn (.int (Int32.ofNat p))) a26 (a27.set cn (.int (Int32.ofNat (nbT c p).2.1))) (a28.set cn (.int (Int32.ofNat (nbT c p).2.2))) (Int32.ofNat (cn + 1)) en))) := by
    intro ls q v b e hl hnd
    rw [e]
    refine eLoc hnd hl ?_
    refine eS rfl rfl ?_
    refine gGet hn rfl rfl rfl rfl ?_
    refine eS rfl rfl ?_
    refine eIGe rfl rfl (fun z => absurd ((i32_le (a := 160) (b := cn) (by omega) (by omega)).mp z) (by omega)) (fun _ => ?_)
    refine eS rfl rfl ?_
    refine gGet hn rfl rfl rfl rfl ?_
    refine eS rfl rfl ?_
    refine gGet hn rfl rfl rfl rfl ?_
    refine eS rfl rfl ?_
    refine gWr0 hn rfl rfl rfl cn (by omega) (by show cn < a27.length; omega) tk_27 ?_
    refine eS rfl rfl ?_
    refine gGet hn rfl rfl rfl rfl ?_
    refine eS rfl rfl ?_
    refine gGet hn rfl rfl rfl rfl ?_
    refine eS rfl rfl ?_
    refine gWr0 hn rfl rfl rfl cn (by omega) (by show cn < a28.length; omega) tk_28 ?_
    refine eS rfl rfl ?_
    refine eS rfl rfl ?_
    refine eS rfl rfl ?_
    refine gV1 hn rfl rfl rfl rfl rfl ⟨catOk rfl, catOk rfl⟩ (c_tkadd hn hcn h24 h25) ?_
    refine eS rfl rfl ?_
    exact eR rfl rfl ⟨rfl, rfl⟩
  refine eS rfl rfl ?_
  refine eS rfl rfl ?_
  refine eS rfl rfl ?_
  refine eS rfl rfl ?_
  refine eS rfl rfl ?_
  refine eS rfl rfl ?_
  rw [show Int32.ofNat p + Int32.ofInt 4 = Int32.ofNat (p + 4) from i32_add]
  refine eC1 rfl rfl rfl ⟨catOk rfl, catOk rfl⟩ (c_min (by omega) (by omega)) ?_
  refine eC1 rfl rfl rfl ⟨catOk rfl, catOk rfl⟩ ((eS rfl rfl (eS rfl rfl (c_dend (p := p) hn hT2 (b := p + 4) (by omega) 4 p rfl (Nat.le_of_lt hp))))) ?_
  refine eS rfl rfl ?_
  refine eS rfl rfl ?_
  refine eS rfl rfl ?_
  refine eS rfl rfl ?_
  refine eS rfl rfl ?_
  refine eC1 rfl rfl rfl ⟨catOk rfl, catOk rfl⟩ ((eS rfl rfl (eS rfl rfl (eS rfl rfl (eS rfl rfl (eLoc (l' := [(5, .int (Int32.ofNat p)), (4, .int (Int32.ofNat (dgt c 0 p (p - p)))), (0, .int (Int32.ofNat 0)), (1, .ref 21), (2, .int (Int32.ofNat p)), (3, .int (Int32.ofNat (spn c isD 4 p)))]) rfl ⟨rfl, by rw [Nat.sub_self]; rfl, rfl, rfl, rfl, rfl, trivial⟩ (c_dfrom hn hT2 hq (fun i h1 h2 => hall i h1 h2) (spn c isD 4 p - p) p (Nat.le_refl _) (by omega)))))))) ?_
  refine eS rfl rfl ?_
  refine eS rfl rfl ?_
  refine eS rfl rfl ?_
  refine eS rfl rfl ?_
  refine eS rfl rfl ?_
  refine eS rfl rfl ?_
  refine eS rfl rfl ?_
  rw [i32_succ]
  refine eIGe rfl rfl (fun z32 => ?_) (fun z32 => ?_)
  · refine fin _ (spn c isD 4 p) (dgt c 0 p (spn c isD 4 p - p)) (0) (if_neg (fun y => by have := y.2; rw [hT.2.2.2 _ (by have := (i32_le (a := L) (b := spn c isD 4 p + 1) (by omega) (by omega)).mp z32; omega)] at this; cases this)) ⟨rfl, rfl, rfl, rfl, rfl, rfl, rfl, trivial⟩ rfl
  · have hlt : spn c isD 4 p + 1 < L := by
      apply Nat.lt_of_not_le
      exact fun w => z32 ((i32_le (a := L) (b := spn c isD 4 p + 1) (by omega) (by omega)).mpr w)
    refine eS rfl rfl ?_
    refine eS rfl rfl ?_
    refine gRd1 hn rfl rfl rfl (spn c isD 4 p) (by omega) (hT.2.1 _ (by omega)) ?_
    refine eS rfl rfl ?_
    refine eINe rfl rfl (fun z41 => ?_) (fun z41 => ?_)
    · refine fin _ (spn c isD 4 p) (dgt c 0 p (spn c isD 4 p - p)) (0) (if_neg (fun y => z41 ((i32_eq (a := c (spn c isD 4 p)) (b := 46) (Nat.lt_trans (hT.2.2.1 _) (by decide)) (by omega)).mpr y.1))) ⟨rfl, rfl, rfl, rfl, rfl, rfl, rfl, trivial⟩ rfl
    · have e46 : c (spn c isD 4 p) = 46 := (i32_eq (a := c (spn c isD 4 p)) (b := 46) (Nat.lt_trans (hT.2.2.1 _) (by decide)) (by omega)).mp z41
      refine eS rfl rfl ?_
      refine eS rfl rfl ?_
      refine eS rfl rfl ?_
      refine eS rfl rfl ?_
      rw [i32_succ]
      refine gRd1 hn rfl rfl rfl (spn c isD 4 p + 1) (by omega) (hT.2.1 _ (by omega)) ?_
      refine eC1 rfl rfl rfl ⟨catOk rfl, catOk rfl⟩ (c_isD (Nat.lt_trans (hT.2.2.1 _) (by decide))) ?_
      by_cases hl : isD (c (spn c isD 4 p + 1)) = true
      · rw [if_pos hl]
        refine eEq rfl rfl (fun z => absurd z (by decide)) (fun _ => ?_)
        refine eS rfl rfl ?_
        refine eS rfl rfl ?_
        refine eS rfl rfl ?_
        rw [i32_succ]
        refine eS rfl rfl ?_
        have hs2 := spn_le (c := c) (f := isD) 2 (spn c isD 4 p + 1)
        have hq2 := spn_lt (c := c) (f := isD) (k := 2) (p := spn c isD 4 p + 1) hT.2.2.2 rfl (Nat.le_of_lt hlt)
        have hall2 := spn_all (c := c) (f := isD) 2 (spn c isD 4 p + 1)
        refine eS rfl rfl ?_
        refine eS rfl rfl ?_
        refine eS rfl rfl ?_
        refine eS rfl rfl ?_
        refine eS rfl rfl ?_
        refine eS rfl rfl ?_
        rw [show Int32.ofNat (spn c isD 4 p + 1) + Int32.ofInt 2 = Int32.ofNat (spn c isD 4 p + 1 + 2) from i32_add]
        refine eC1 rfl rfl rfl ⟨catOk rfl, catOk rfl⟩ (c_min (by omega) (by omega)) ?_
        refine eC1 rfl rfl rfl ⟨catOk rfl, catOk rfl⟩ ((eS rfl rfl (eS rfl rfl (c_dend (p := spn c isD 4 p + 1) hn hT2 (b := spn c isD 4 p + 1 + 2) (by omega) 2 _ rfl (Nat.le_of_lt hlt))))) ?_
        refine eS rfl rfl ?_
        refine eS rfl rfl ?_
        refine eS rfl rfl ?_
        refine eS rfl rfl ?_
        refine eS rfl rfl ?_
        refine eC1 rfl rfl rfl ⟨catOk rfl, catOk rfl⟩ ((eS rfl rfl (eS rfl rfl (eS rfl rfl (eS rfl rfl (eLoc (l' := [(5, .int (Int32.ofNat (spn c isD 4 p + 1))), (4, .int (Int32.ofNat (dgt c (dgt c 0 p (spn c isD 4 p - p)) (spn c isD 4 p + 1) (spn c isD 4 p + 1 - (spn c isD 4 p + 1))))), (0, .int (Int32.ofNat (dgt c 0 p (spn c isD 4 p - p)))), (1, .ref 21), (2, .int (Int32.ofNat (spn c isD 4 p + 1))), (3, .int (Int32.ofNat (spn c isD 2 (spn c isD 4 p + 1))))]) rfl ⟨rfl, by rw [Nat.sub_self]; rfl, rfl, rfl, rfl, rfl, trivial⟩ (c_dfrom hn hT2 hq2 (fun i h1 h2 => hall2 i h1 h2) (spn c isD 2 (spn c isD 4 p + 1) - (spn c isD 4 p + 1)) (spn c isD 4 p + 1) (Nat.le_refl _) (by omega)))))))) ?_
        refine eS rfl rfl ?_
        refine eS rfl rfl ?_
        refine eS rfl rfl ?_
        refine eS rfl rfl ?_
        rw [i32_sub hs2.1]
        refine eS rfl rfl ?_
        refine fin _ (spn c isD 2 (spn c isD 4 p + 1)) (dgt c (dgt c 0 p (spn c isD 4 p - p)) (spn c isD 4 p + 1) (spn c isD 2 (spn c isD 4 p + 1) - (spn c isD 4 p + 1))) (spn c isD 2 (spn c isD 4 p + 1) - (spn c isD 4 p + 1)) (if_pos ⟨e46, hl⟩) ⟨rfl, rfl, rfl, rfl, rfl, rfl, rfl, trivial⟩ rfl
      · rw [if_neg hl]
        refine eEq rfl rfl (fun _ => ?_) (fun z => (z rfl).elim)
        refine fin _ (spn c isD 4 p) (dgt c 0 p (spn c isD 4 p - p)) (0) (if_neg (fun y => hl y.2)) ⟨rfl, rfl, rfl, rfl, rfl, rfl, rfl, trivial⟩ rfl
end TKN
