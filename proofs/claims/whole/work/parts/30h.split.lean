/-! the loop of split -/
section SPL
variable {scr : List Value} {kd : Nat → Nat} {n d L p : Nat} {S0 : Nat → List Value} {en : Int32} {c : Nat → Nat}
def spLs (L p t : Nat) : aLc := [(0, .ref 23), (1, .ref 21), (2, .int (Int32.ofNat L)), (3, .int (Int32.ofNat p)), (4, .int (Int32.ofNat t))]
def spGo (scr : List Value) (kd : Nat → Nat) (n d L : Nat) (S0 : Nat → List Value) (en : Int32) (pc : Nat) (ls : aLc) (S : Nat → List Value) (r : Except Nat (List aTk)) : Prop := ∃ S' ts', cTk S0 en ts' S' ∧ aE aM40 (d + 5) pc ls [] (gH scr kd n S) (aIs (some (.int (tokV r))) (gH scr kd n S')) ∧ ∀ t2, r = .ok t2 → ts' = t2
theorem tokA_L {k : Nat} {ts : List aTk} (h : L ≤ p) : tokA c L k p ts = .ok ts := by
  cases k with
  | zero => rfl
  | succ k => rw [tokA, if_pos h]
theorem c_split_next {k t q : Nat} {ts : List aTk} {r : Except Nat (List aTk)} {S1 : Nat → List Value} (hn : 67 ≤ n) (hT : txOk (S0 21) L c) (hp : p < L) (hq1 : p < q) (hq2 : q ≤ L)
    (hS : cTk S0 en ts S1) (hf : (isL (c p) = true ∧ isL (c q) = true) ∨ (isD (c p) = true ∧ isD (c q) = true) → r = .error q) (hg : ¬ ((isL (c p) = true ∧ isL (c q) = true) ∨ (isD (c p) = true ∧ isD (c q) = true)) → spGo scr kd n d L S0 en 15 (spLs L q (t + 1)) S1 r) :
    spGo scr kd n d L S0 en 112 [(6, .int (Int32.ofNat q)), (5, .int (Int32.ofNat (c p))), (0, .ref 23), (1, .ref 21), (2, .int (Int32.ofNat L)), (3, .int (Int32.ofNat p)), (4, .int (Int32.ofNat t))] S1 r := by
  have t1 := hT.1
  have hT1 : txOk (S1 21) L c := by
    obtain ⟨a24, a25, a26, a27, a28, rfl, -⟩ := hS
    exact hT
  by_cases far : (isL (c p) = true ∧ isL (c q) = true) ∨ (isD (c p) = true ∧ isD (c q) = true)
  · rw [hf far]
    refine ⟨S1, ts, hS, ?_, fun t2 e => by cases e⟩
    refine eS rfl rfl ?_
    refine eS rfl rfl ?_
    refine eS rfl rfl ?_
    refine eS rfl rfl ?_
    refine eC1 rfl rfl rfl ⟨catOk rfl, catOk rfl⟩ (c_far (d := d + 3) hn hT1 (hT.2.2.1 _) (by omega)) ?_
    rw [if_pos far]
    refine eEq rfl rfl (fun z => absurd z (by decide)) (fun _ => ?_)
    refine eS rfl rfl ?_
    exact eR rfl rfl ⟨rfl, rfl⟩
  · obtain ⟨S', ts', h1, h2, h3⟩ := hg far
    refine ⟨S', ts', h1, ?_, h3⟩
    refine eS rfl rfl ?_
    refine eS rfl rfl ?_
    refine eS rfl rfl ?_
    refine eS rfl rfl ?_
    refine eC1 rfl rfl rfl ⟨catOk rfl, catOk rfl⟩ (c_far (d := d + 3) hn hT1 (hT.2.2.1 _) (by omega)) ?_
    rw [if_neg far]
    refine eEq rfl rfl (fun _ => ?_) (fun z => (z rfl).elim)
    refine eS rfl rfl ?_
    refine eS rfl rfl ?_
    refine eS rfl rfl ?_
    refine eS rfl rfl ?_
    rw [i32_succ]
    exact eLoc (l' := spLs L q (t + 1)) rfl ⟨rfl, rfl, rfl, rfl, rfl, trivial⟩ h2
theorem tok_far {z : Nat} (h1 : ¬ isL z = true) (h2 : ¬ isD z = true) {y : Nat} : ¬ ((isL z = true ∧ isL y = true) ∨ (isD z = true ∧ isD y = true)) := fun w => w.elim (fun v => h1 v.1) (fun v => h2 v.1)
theorem isLD {z : Nat} (h1 : isL z = true) : ¬ isD z = true := by
  intro y
  unfold isL at h1
  unfold isD at y
  simp only [Bool.and_eq_true, decide_eq_true_eq] at h1 y
  omega
theorem kwd_rng (l : List Nat) : kwd l ≠ 1 ∧ kwd l < 40 := by
  unfold kwd
  cases e : kwds.find? (fun q => q.1 == l) with
  | none => decide
  | some q => exact (show ∀ q ∈ kwds, q.2 ≠ 1 ∧ q.2 < 40 by decide) q (List.mem_of_find?_eq_some e)
theorem nbr_key {k : Nat} {ts : List aTk} (h0 : ∀ q, L ≤ q → c q = 0) (hk : L ≤ p + (k + 1)) (hge : ¬ L ≤ p) (l1 : ¬ isL (c p) = true) (d1 : isD (c p) = true) : (isD (c (nbT c p).1) = true → tokA c L (k + 1) p ts = .error (nbT c p).1) ∧ (¬ isD (c (nbT c p).1) = true → tokA c L (k + 1) p ts = tokA c L k (nbT c p).1 (ts ++ [(1, p, [], (nbT c p).2.1, (nbT c p).2.2)])) := by
  have s0 : p + 1 ≤ spn c isD 4 p := spn_pos (k := 3) d1
  rw [tokA, if_neg hge, if_neg l1, if_pos d1]
  by_cases c1 : isD (c (spn c isD 4 p)) = true
  · have e : nbrA c p = .error (spn c isD 4 p) := by unfold nbrA; rw [if_pos c1]
    have e2 : nbT c p = (spn c isD 4 p, dgt c 0 p (spn c isD 4 p - p), 0) := by
      unfold nbT
      rw [if_neg (fun y => by rw [y.1] at c1; cases c1)]
    rw [e, e2]
    exact ⟨fun _ => rfl, fun z => absurd c1 z⟩
  · by_cases c2 : c (spn c isD 4 p) = 46
    · by_cases c3 : isD (c (spn c isD 4 p + 1)) = true
      · have e2 : nbT c p = (spn c isD 2 (spn c isD 4 p + 1), dgt c (dgt c 0 p (spn c isD 4 p - p)) (spn c isD 4 p + 1) (spn c isD 2 (spn c isD 4 p + 1) - (spn c isD 4 p + 1)), spn c isD 2 (spn c isD 4 p + 1) - (spn c isD 4 p + 1)) := by
          unfold nbT
          rw [if_pos ⟨c2, c3⟩]
        rw [e2]
        refine ⟨fun z => ?_, fun z => ?_⟩
        · have e : nbrA c p = .error (spn c isD 2 (spn c isD 4 p + 1)) := by unfold nbrA; rw [if_neg c1, if_pos c2, if_pos c3, if_pos z]
          rw [e]
        · have e : nbrA c p = .ok (spn c isD 2 (spn c isD 4 p + 1), dgt c (dgt c 0 p (spn c isD 4 p - p)) (spn c isD 4 p + 1) (spn c isD 2 (spn c isD 4 p + 1) - (spn c isD 4 p + 1)), spn c isD 2 (spn c isD 4 p + 1) - (spn c isD 4 p + 1)) := by unfold nbrA; rw [if_neg c1, if_pos c2, if_pos c3, if_neg z]
          rw [e]
      · have e : nbrA c p = .error (spn c isD 4 p) := by unfold nbrA; rw [if_neg c1, if_pos c2, if_neg c3]
        have e2 : nbT c p = (spn c isD 4 p, dgt c 0 p (spn c isD 4 p - p), 0) := by
          unfold nbT
          rw [if_neg (fun y => c3 y.2)]
        rw [e, e2]
        refine ⟨fun _ => rfl, fun _ => ?_⟩
        have hlt : ¬ L ≤ spn c isD 4 p := fun y => by rw [h0 _ y] at c2; cases c2
        obtain ⟨m, rfl⟩ : ∃ m, k = m + 1 := ⟨k - 1, by omega⟩
        show _ = tokA c L (m + 1) (spn c isD 4 p) _
        rw [tokA, if_neg hlt, c2, if_neg (by decide), if_neg (by decide), if_neg (by decide), if_neg (by decide)]
    · have e : nbrA c p = .ok (spn c isD 4 p, dgt c 0 p (spn c isD 4 p - p), 0) := by unfold nbrA; rw [if_neg c1, if_neg c2]
      have e2 : nbT c p = (spn c isD 4 p, dgt c 0 p (spn c isD 4 p - p), 0) := by
        unfold nbT
        rw [if_neg (fun y => c2 y.1)]
      rw [e, e2]
      exact ⟨fun z => absurd z c1, fun _ => rfl⟩
theorem dot_ok : isL 46 = false ∧ isD 46 = false ∧ isS 46 = false := by decide
theorem c_split_loop (hn : 67 ≤ n) (hT : txOk (S0 21) L c) (h29 : S0 29 = aS0 29) : ∀ (k p t : Nat) (ts : List aTk) (S : Nat → List Value), L ≤ p + k → p ≤ L → t ≤ p → ts.length ≤ p → cTk S0 en ts S → spGo scr kd n d L S0 en 15 (spLs L p t) S (tokA c L k p ts)
  | k, p, t, ts, S, hk, hp, ht, hl, hS => by
    have t1 := hT.1
    by_cases hge : L ≤ p
    · rw [tokA_L hge]
      refine ⟨S, ts, hS, ?_, fun t2 e => by cases e; rfl⟩
      by_cases htl : L ≤ t
      · skip
        refine eS rfl rfl ?_
        refine eS rfl rfl ?_
        refine eIGe rfl rfl (fun _ => ?_) (fun z => absurd ((i32_le (a := L) (b := t) (by omega) (by omega)).mpr htl) z)
        refine eS rfl rfl ?_
        exact eR rfl rfl ⟨rfl, rfl⟩
      · skip
        refine eS rfl rfl ?_
        refine eS rfl rfl ?_
        refine eIGe rfl rfl (fun z => absurd ((i32_le (a := L) (b := t) (by omega) (by omega)).mp z) htl) (fun _ => ?_)
        refine eS rfl rfl ?_
        refine eS rfl rfl ?_
        refine eIGe rfl rfl (fun _ => ?_) (fun z => absurd ((i32_le (a := L) (b := p) (by omega) (by omega)).mpr hge) z)
        refine eS rfl rfl ?_
        exact eR rfl rfl ⟨rfl, rfl⟩
    · obtain ⟨k, rfl⟩ : ∃ m, k = m + 1 := ⟨k - 1, by omega⟩
      have rd := hT.2.1 p (by omega)
      have c256 := hT.2.2.1 p
      have cz : c p < 2 ^ 31 := Nat.lt_trans c256 (by decide)
      obtain ⟨a24, a25, a26, a27, a28, rfl, hL5, hF⟩ := hS
      obtain ⟨l24, l25, l26, l27, l28, ty⟩ := hL5
      have lt160 : ts.length < 160 := by omega
      have pre : ∀ (r : Except Nat (List aTk)) , spGo scr kd n d L S0 en 36 [(6, .int (Int32.ofNat (p + 1))), (5, .int (Int32.ofNat (c p))), (0, .ref 23), (1, .ref 21), (2, .int (Int32.ofNat L)), (3, .int (Int32.ofNat p)), (4, .int (Int32.ofNat t))] (tkS S0 a24 a25 a26 a27 a28 (Int32.ofNat ts.length) en) r → spGo scr kd n d L S0 en 15 (spLs L p t) (tkS S0 a24 a25 a26 a27 a28 (Int32.ofNat ts.length) en) r := by
        intro r hr
        obtain ⟨S', ts', h1, h2, h3⟩ := hr
        refine ⟨S', ts', h1, ?_, h3⟩
        refine eS rfl rfl ?_
        refine eS rfl rfl ?_
        refine eIGe rfl rfl (fun z => absurd ((i32_le (a := L) (b := t) (by omega) (by omega)).mp z) (by omega)) (fun _ => ?_)
        refine eS rfl rfl ?_
        refine eS rfl rfl ?_
        refine eIGe rfl rfl (fun z => absurd ((i32_le (a := L) (b := p) (by omega) (by omega)).mp z) hge) (fun _ => ?_)
        refine eS rfl rfl ?_
        refine eS rfl rfl ?_
        refine gRd1 hn rfl rfl rfl p (by omega) rd ?_
        refine eS rfl rfl ?_
        refine eS rfl rfl ?_
        refine eS rfl rfl ?_
        refine eS rfl rfl ?_
        refine eS rfl rfl ?_
        rw [i32_succ]
        exact eLoc (l' := [(6, .int (Int32.ofNat (p + 1))), (5, .int (Int32.ofNat (c p))), (0, .ref 23), (1, .ref 21), (2, .int (Int32.ofNat L)), (3, .int (Int32.ofNat p)), (4, .int (Int32.ofNat t))]) rfl ⟨rfl, rfl, rfl, rfl, rfl, rfl, rfl, trivial⟩ h2
      refine pre _ ?_
      by_cases l1 : isL (c p) = true
      · have s1 : p + 1 ≤ spn c isL 8 p := spn_pos (k := 7) l1
        have s2 := spn_lt (c := c) (f := isL) (k := 8) (p := p) hT.2.2.2 rfl hp
        have hl8 : (ltr c p (spn c isL 8 p - p)).length ≤ 8 := by
          have := (spn_le (c := c) (f := isL) 8 p).2
          rw [ltr_len]
          omega
        have hlo : ∀ x ∈ ltr c p (spn c isL 8 p - p), 1 ≤ x ∧ x ≤ 26 := ltr_ok (fun i h1 h2 => spn_all 8 p i h1 (by omega))
        have hk1 : kwd (ltr c p (spn c isL 8 p - p)) ≠ 1 ∧ kwd (ltr c p (spn c isL 8 p - p)) < 40 := kwd_rng _
        have cw := c_word (scr := scr) (kd := kd) (d := d + 3) (a24 := a24) (a25 := a25) (a26 := a26) (a27 := a27) (a28 := a28) (cn := ts.length) (en := en) hn h29 hT (Nat.lt_of_not_le hge) lt160 l24 l25 l26
        have nx := c_split_next (scr := scr) (kd := kd) (d := d) (t := t) (k := k) (q := spn c isL 8 p) (ts := ts ++ [(kwd (ltr c p (spn c isL 8 p - p)), p, ltr c p (spn c isL 8 p - p), 0, 0)]) (r := tokA c L (k + 1) p ts)
          (S1 := tkS S0 (a24.set ts.length (.int (Int32.ofNat (kwd (ltr c p (spn c isL 8 p - p)))))) (a25.set ts.length (.int (Int32.ofNat p))) (a26.set ts.length (.long (Int64.ofNat (pk 32 (ltr c p (spn c isL 8 p - p)))))) a27 a28 (Int32.ofNat (ts.length + 1)) en) hn hT (Nat.lt_of_not_le hge) (by omega) s2
          ⟨_, _, _, _, _, by rw [List.length_append, List.length_singleton], ⟨by rw [List.length_set]; exact l24, by rw [List.length_set]; exact l25, by rw [List.length_set]; exact l26, l27, l28, fun j hj => ?_⟩, tkF_snoc hF st_ne st_ne st_ne (fun _ _ => rfl) (fun _ _ => rfl) ⟨st_at (by omega), st_at (by omega), fun _ _ => st_at (by omega), fun z => absurd z hk1.1⟩⟩ (fun far => ?_) (fun far => ?_)
        · obtain ⟨S', ts', h1, h2, h3⟩ := nx
          refine ⟨S', ts', h1, ?_, h3⟩
          refine eS rfl rfl ?_
          refine eC1 rfl rfl rfl ⟨catOk rfl, catOk rfl⟩ (c_isL cz) ?_
          rw [if_pos l1]
          refine eEq rfl rfl (fun z => absurd z (by decide)) (fun _ => ?_)
          refine eS rfl rfl ?_
          refine eS rfl rfl ?_
          refine eS rfl rfl ?_
          refine eS rfl rfl ?_
          refine gV1 hn rfl rfl rfl rfl rfl ⟨catOk rfl, catOk rfl⟩ (cw) ?_
          refine eS rfl rfl ?_
          refine eS rfl rfl ?_
          exact eLoc (l' := [(6, .int (Int32.ofNat (spn c isL 8 p))), (5, .int (Int32.ofNat (c p))), (0, .ref 23), (1, .ref 21), (2, .int (Int32.ofNat L)), (3, .int (Int32.ofNat p)), (4, .int (Int32.ofNat t))]) rfl ⟨rfl, rfl, rfl, rfl, rfl, rfl, rfl, trivial⟩ h2
        · by_cases e : j = ts.length
          · subst e; exact ⟨_, st_at (by omega)⟩
          · obtain ⟨x, hx⟩ := ty j hj
            exact ⟨x, (st_ne j e).trans hx⟩
        · rcases far with far | far
          · rw [tokA, if_neg hge, if_pos l1, if_pos far.2]
          · exact absurd far.1 (isLD l1)
        · have e : tokA c L (k + 1) p ts = tokA c L k (spn c isL 8 p) (ts ++ [(kwd (ltr c p (spn c isL 8 p - p)), p, ltr c p (spn c isL 8 p - p), 0, 0)]) := by
            rw [tokA, if_neg hge, if_pos l1, if_neg (fun y => far (Or.inl ⟨l1, y⟩))]
          rw [e]
          refine c_split_loop hn hT h29 k _ _ _ _ (by omega) s2 (by omega) (by rw [List.length_append, List.length_singleton]; omega) ⟨_, _, _, _, _, by rw [List.length_append, List.length_singleton], ⟨by rw [List.length_set]; exact l24, by rw [List.length_set]; exact l25, by rw [List.length_set]; exact l26, l27, l28, fun j hj => ?_⟩, tkF_snoc hF st_ne st_ne st_ne (fun _ _ => rfl) (fun _ _ => rfl) ⟨st_at (by omega), st_at (by omega), fun _ _ => st_at (by omega), fun z => absurd z hk1.1⟩⟩
          by_cases e : j = ts.length
          · subst e; exact ⟨_, st_at (by omega)⟩
          · obtain ⟨x, hx⟩ := ty j hj
            exact ⟨x, (st_ne j e).trans hx⟩
      · by_cases d1 : isD (c p) = true
        · have s0 : p + 1 ≤ spn c isD 4 p := spn_pos (k := 3) d1
          have n0 := nbT_le (c := c) (p := p)
          have n1 : p < (nbT c p).1 := by
            have s3 := spn_le (c := c) (f := isD) 2 (spn c isD 4 p + 1)
            unfold nbT
            split
            · show p < spn c isD 2 (spn c isD 4 p + 1)
              omega
            · exact s0
          have n2 : (nbT c p).1 ≤ L := by
            have s3 := spn_lt (c := c) (f := isD) (k := 4) (p := p) hT.2.2.2 rfl hp
            unfold nbT
            split
            · next z =>
              have : spn c isD 4 p + 1 ≤ L := by
                apply Nat.le_of_not_lt
                intro y
                rw [hT.2.2.2 _ (by omega)] at z
                cases z.1
              exact spn_lt hT.2.2.2 rfl this
            · exact s3
          have cw := c_nbr (scr := scr) (kd := kd) (d := d + 2) (a24 := a24) (a25 := a25) (a26 := a26) (a27 := a27) (a28 := a28) (cn := ts.length) (en := en) hn hT (Nat.lt_of_not_le hge) lt160 l24 l25 l27 l28
          have ct : cTk S0 en (ts ++ [(1, p, [], (nbT c p).2.1, (nbT c p).2.2)]) (tkS S0 (a24.set ts.length (.int (Int32.ofNat 1))) (a25.set ts.length (.int (Int32.ofNat p))) a26 (a27.set ts.length (.int (Int32.ofNat (nbT c p).2.1))) (a28.set ts.length (.int (Int32.ofNat (nbT c p).2.2))) (Int32.ofNat (ts.length + 1)) en) :=
            ⟨_, _, _, _, _, by rw [List.length_append, List.length_singleton], ⟨by rw [List.length_set]; exact l24, by rw [List.length_set]; exact l25, l26, by rw [List.length_set]; exact l27, by rw [List.length_set]; exact l28, ty⟩, tkF_snoc hF st_ne st_ne (fun _ _ => rfl) st_ne st_ne ⟨st_at (by omega), st_at (by omega), fun z => absurd rfl z, fun _ => ⟨st_at (by omega), st_at (by omega)⟩⟩⟩
          have key := nbr_key (c := c) (L := L) (k := k) (p := p) (ts := ts) hT.2.2.2 (by omega) hge l1 d1
          have nx := c_split_next (scr := scr) (kd := kd) (d := d) (t := t) (k := k) (r := tokA c L (k + 1) p ts) hn hT (Nat.lt_of_not_le hge) n1 n2 ct (fun far => key.1 (far.elim (fun y => absurd y.1 l1) (fun y => y.2))) (fun far => by
            rw [key.2 (fun y => far (Or.inr ⟨d1, y⟩))]
            exact c_split_loop hn hT h29 k _ _ _ _ (by omega) n2 (by omega) (by rw [List.length_append, List.length_singleton]; omega) ct)
          obtain ⟨S', ts', h1, h2, h3⟩ := nx
          refine ⟨S', ts', h1, ?_, h3⟩
          refine eS rfl rfl ?_
          refine eC1 rfl rfl rfl ⟨catOk rfl, catOk rfl⟩ (c_isL cz) ?_
          rw [if_neg l1]
          refine eEq rfl rfl (fun _ => ?_) (fun z => (z rfl).elim)
          refine eS rfl rfl ?_
          refine eC1 rfl rfl rfl ⟨catOk rfl, catOk rfl⟩ (c_isD cz) ?_
          rw [if_pos d1]
          refine eEq rfl rfl (fun z => absurd z (by decide)) (fun _ => ?_)
          refine eS rfl rfl ?_
          refine eS rfl rfl ?_
          refine eS rfl rfl ?_
          refine eS rfl rfl ?_
          refine gV1 hn rfl rfl rfl rfl rfl ⟨catOk rfl, catOk rfl⟩ (cw) ?_
          refine eS rfl rfl ?_
          refine eS rfl rfl ?_
          exact eLoc (l' := [(6, .int (Int32.ofNat (nbT c p).1)), (5, .int (Int32.ofNat (c p))), (0, .ref 23), (1, .ref 21), (2, .int (Int32.ofNat L)), (3, .int (Int32.ofNat p)), (4, .int (Int32.ofNat t))]) rfl ⟨rfl, rfl, rfl, rfl, rfl, rfl, rfl, trivial⟩ h2
        · obtain ⟨rr, er, hr⟩ := c_sign (d := d) (h := gH scr kd n (tkS S0 a24 a25 a26 a27 a28 (Int32.ofNat ts.length) en)) c256 rfl rfl
          have nf : ∀ y, ¬ ((isL (c p) = true ∧ isL y = true) ∨ (isD (c p) = true ∧ isD y = true)) := fun y => tok_far l1 d1
          by_cases sg : isS (c p) = true
          · have ne1 : c p ≠ 1 := fun z => by rw [z] at sg; cases sg
            have ge40 : ¬ c p < 40 := fun z => absurd ((show ∀ z, z < 40 → ¬ isS z = true by decide) (c p) z) (fun w => w sg)
            have ct : cTk S0 en (ts ++ [(c p, p, [], 0, 0)]) (tkS S0 (a24.set ts.length (.int (Int32.ofNat (c p)))) (a25.set ts.length (.int (Int32.ofNat p))) a26 a27 a28 (Int32.ofNat (ts.length + 1)) en) :=
              ⟨_, _, _, _, _, by rw [List.length_append, List.length_singleton], ⟨by rw [List.length_set]; exact l24, by rw [List.length_set]; exact l25, l26, l27, l28, ty⟩, tkF_snoc hF st_ne st_ne (fun _ _ => rfl) (fun _ _ => rfl) (fun _ _ => rfl) ⟨st_at (by omega), st_at (by omega), fun _ z => absurd z ge40, fun z => absurd z ne1⟩⟩
            have nx := c_split_next (scr := scr) (kd := kd) (d := d) (t := t) (k := k) (q := p + 1) (r := tokA c L (k + 1) p ts) hn hT (Nat.lt_of_not_le hge) (Nat.lt_succ_self p) (by omega) ct (fun far => absurd far (nf _)) (fun _ => by
              rw [tokA, if_neg hge, if_neg l1, if_neg d1, if_pos sg]
              exact c_split_loop hn hT h29 k _ _ _ _ (by omega) (by omega) (by omega) (by rw [List.length_append, List.length_singleton]; omega) ct)
            obtain ⟨S', ts', h1, h2, h3⟩ := nx
            refine ⟨S', ts', h1, ?_, h3⟩
            refine eS rfl rfl ?_
            refine eC1 rfl rfl rfl ⟨catOk rfl, catOk rfl⟩ (c_isL cz) ?_
            rw [if_neg l1]
            refine eEq rfl rfl (fun _ => ?_) (fun z => (z rfl).elim)
            refine eS rfl rfl ?_
            refine eC1 rfl rfl rfl ⟨catOk rfl, catOk rfl⟩ (c_isD cz) ?_
            rw [if_neg d1]
            refine eEq rfl rfl (fun _ => ?_) (fun z => (z rfl).elim)
            refine eS rfl rfl ?_
            refine eS rfl rfl ?_
            refine eV1 rfl rfl (show (gH scr kd n (tkS S0 a24 a25 a26 a27 a28 (Int32.ofNat ts.length) en))[4]? = some (38, [.ref 5, .int 0]) from rfl) rfl rfl ⟨catOk rfl, catOk rfl⟩ er ?_
            refine eLt rfl rfl (fun z => absurd sg (hr.mp z)) (fun _ => ?_)
            refine eS rfl rfl ?_
            refine eS rfl rfl ?_
            refine eS rfl rfl ?_
            refine gV1 hn rfl rfl rfl rfl rfl ⟨catOk rfl, catOk rfl⟩ (c_tkadd hn lt160 l24 l25) ?_
            refine eS rfl rfl ?_
            exact eLoc (l' := [(6, .int (Int32.ofNat (p + 1))), (5, .int (Int32.ofNat (c p))), (0, .ref 23), (1, .ref 21), (2, .int (Int32.ofNat L)), (3, .int (Int32.ofNat p)), (4, .int (Int32.ofNat t))]) rfl ⟨rfl, rfl, rfl, rfl, rfl, rfl, rfl, trivial⟩ h2
          · by_cases sp : c p = 32 ∨ c p = 10
            · have nx := c_split_next (scr := scr) (kd := kd) (d := d) (t := t) (k := k) (q := p + 1) (r := tokA c L (k + 1) p ts) hn hT (Nat.lt_of_not_le hge) (Nat.lt_succ_self p) (by omega) ⟨a24, a25, a26, a27, a28, rfl, ⟨l24, l25, l26, l27, l28, ty⟩, hF⟩ (fun far => absurd far (nf _)) (fun _ => by
                rw [tokA, if_neg hge, if_neg l1, if_neg d1, if_neg sg, if_pos sp]
                exact c_split_loop hn hT h29 k _ _ _ _ (by omega) (by omega) (by omega) (by omega) ⟨a24, a25, a26, a27, a28, rfl, ⟨l24, l25, l26, l27, l28, ty⟩, hF⟩)
              obtain ⟨S', ts', h1, h2, h3⟩ := nx
              refine ⟨S', ts', h1, ?_, h3⟩
              refine eS rfl rfl ?_
              refine eC1 rfl rfl rfl ⟨catOk rfl, catOk rfl⟩ (c_isL cz) ?_
              rw [if_neg l1]
              refine eEq rfl rfl (fun _ => ?_) (fun z => (z rfl).elim)
              refine eS rfl rfl ?_
              refine eC1 rfl rfl rfl ⟨catOk rfl, catOk rfl⟩ (c_isD cz) ?_
              rw [if_neg d1]
              refine eEq rfl rfl (fun _ => ?_) (fun z => (z rfl).elim)
              refine eS rfl rfl ?_
              refine eS rfl rfl ?_
              refine eV1 rfl rfl (show (gH scr kd n (tkS S0 a24 a25 a26 a27 a28 (Int32.ofNat ts.length) en))[4]? = some (38, [.ref 5, .int 0]) from rfl) rfl rfl ⟨catOk rfl, catOk rfl⟩ er ?_
              refine eLt rfl rfl (fun _ => ?_) (fun z => absurd (hr.mpr sg) z)
              refine eS rfl rfl ?_
              refine eS rfl rfl ?_
              refine eIEq rfl rfl (fun z100 => ?_) (fun z100 => ?_)
              · exact eLoc (l' := [(6, .int (Int32.ofNat (p + 1))), (5, .int (Int32.ofNat (c p))), (0, .ref 23), (1, .ref 21), (2, .int (Int32.ofNat L)), (3, .int (Int32.ofNat p)), (4, .int (Int32.ofNat t))]) rfl ⟨rfl, rfl, rfl, rfl, rfl, rfl, rfl, trivial⟩ h2
              · refine eS rfl rfl ?_
                refine eS rfl rfl ?_
                refine eIEq rfl rfl (fun _ => ?_) (fun z => absurd (sp.elim (fun y => absurd ((i32_eq (a := c p) (b := 32) (by omega) (by omega)).mpr y) z100) (fun y => (i32_eq (a := c p) (b := 10) (by omega) (by omega)).mpr y)) z)
                exact eLoc (l' := [(6, .int (Int32.ofNat (p + 1))), (5, .int (Int32.ofNat (c p))), (0, .ref 23), (1, .ref 21), (2, .int (Int32.ofNat L)), (3, .int (Int32.ofNat p)), (4, .int (Int32.ofNat t))]) rfl ⟨rfl, rfl, rfl, rfl, rfl, rfl, rfl, trivial⟩ h2
            · rw [tokA, if_neg hge, if_neg l1, if_neg d1, if_neg sg, if_neg sp]
              refine ⟨_, ts, ⟨a24, a25, a26, a27, a28, rfl, ⟨l24, l25, l26, l27, l28, ty⟩, hF⟩, ?_, fun t2 e => by cases e⟩
              refine eS rfl rfl ?_
              refine eC1 rfl rfl rfl ⟨catOk rfl, catOk rfl⟩ (c_isL cz) ?_
              rw [if_neg l1]
              refine eEq rfl rfl (fun _ => ?_) (fun z => (z rfl).elim)
              refine eS rfl rfl ?_
              refine eC1 rfl rfl rfl ⟨catOk rfl, catOk rfl⟩ (c_isD cz) ?_
              rw [if_neg d1]
              refine eEq rfl rfl (fun _ => ?_) (fun z => (z rfl).elim)
              refine eS rfl rfl ?_
              refine eS rfl rfl ?_
              refine eV1 rfl rfl (show (gH scr kd n (tkS S0 a24 a25 a26 a27 a28 (Int32.ofNat ts.length) en))[4]? = some (38, [.ref 5, .int 0]) from rfl) rfl rfl ⟨catOk rfl, catOk rfl⟩ er ?_
              refine eLt rfl rfl (fun _ => ?_) (fun z => absurd (hr.mpr sg) z)
              refine eS rfl rfl ?_
              refine eS rfl rfl ?_
              refine eIEq rfl rfl (fun z => absurd (Or.inl ((i32_eq (a := c p) (b := 32) (by omega) (by omega)).mp z)) sp) (fun _ => ?_)
              refine eS rfl rfl ?_
              refine eS rfl rfl ?_
              refine eIEq rfl rfl (fun z => absurd (Or.inr ((i32_eq (a := c p) (b := 10) (by omega) (by omega)).mp z)) sp) (fun _ => ?_)
              refine eS rfl rfl ?_
              exact eR rfl rfl ⟨rfl, rfl⟩
end SPL
