/-! the model links calls -/
def lastI (p : dEf → Bool) : List dEf → Nat → Int32 → Int32
  | [], _, b => b
  | d :: r, j, b => lastI p r (j + 1) (if p d = true then Int32.ofNat j else b)
def cM (c : cAl) (d : dEf) : Bool := d.1 == c.1 && d.2.1 == c.2.1
def nmD (ds : List dEf) : Prop := ds.Pairwise (fun a b => a.1 ≠ b.1)
section MSQ
variable {scr : List Value} {kd : Nat → Nat} {n d L t lv df cl : Nat} {fr : List (Nat × Nat × Nat)} {ds : List dEf} {cs : List cAl} {S0 A A0 S : Nat → List Value} {w0 : Value} {wr tk : Int32} {rest : List Value} {ts : List aTk} {vs ps : List (List Nat)} {dr st : List Nat} {s : Nat} {x : xSt} {c : cAl} {Q : aOut → aH → Prop}
theorem lastI_none {p : dEf → Bool} : ∀ {l : List dEf} {j : Nat} {b : Int32}, (∀ d ∈ l, p d = false) → lastI p l j b = b
  | [], j, b, h => rfl
  | d :: r, j, b, h => by
    rw [lastI, h d (List.mem_cons_self ..), if_neg (by decide)]
    exact lastI_none (fun d hd => h d (List.mem_cons_of_mem _ hd))
theorem lastI_app {p : dEf → Bool} : ∀ {l r : List dEf} {j : Nat} {b : Int32}, lastI p (l ++ r) j b = lastI p r (j + l.length) (lastI p l j b)
  | [], r, j, b => rfl
  | d :: l, r, j, b => by
    rw [List.cons_append, lastI, lastI_app, lastI, List.length_cons, show j + 1 + l.length = j + (l.length + 1) by omega]
theorem cM_no {d : dEf} (h : d.1 ≠ c.1) : cM c d = false := by
  unfold cM
  rw [beq_eq_false_iff_ne.mpr h, Bool.false_and]
theorem cM_no2 {d : dEf} (h : d.2.1 ≠ c.2.1) : cM c d = false := by
  unfold cM
  rw [beq_eq_false_iff_ne.mpr h, Bool.and_false]
theorem cM_yes {d : dEf} (h : d.1 = c.1) (h2 : d.2.1 = c.2.1) : cM c d = true := by
  unfold cM
  rw [h, h2, beq_self_eq_true, beq_self_eq_true]
  rfl
theorem lastI_not (h : ds.find? (fun d => d.1 == c.1) = none) {b : Int32} : lastI (cM c) ds 0 b = b := lastI_none (fun d hd => cM_no (fun e => List.find?_eq_none.mp h d hd (by rw [e]; exact beq_self_eq_true _)))
theorem lastI_fnd {d : dEf} (hd : nmD ds) (h : ds.find? (fun d => d.1 == c.1) = some d) {b : Int32} : ∃ i, ds[i]? = some d ∧ lastI (cM c) ds 0 b = if d.2.1 = c.2.1 then Int32.ofNat i else b := by
  obtain ⟨h1, as, bs, rfl, h2⟩ := List.find?_eq_some_iff_append.mp h
  have h1 : d.1 = c.1 := eq_of_beq h1
  refine ⟨as.length, by rw [List.getElem?_append_right (Nat.le_refl _), Nat.sub_self]; rfl, ?_⟩
  have ha : ∀ a ∈ as, cM c a = false := fun a ha => cM_no (fun e => by have := h2 a ha; rw [e, beq_self_eq_true] at this; cases this)
  have hb : ∀ a ∈ bs, cM c a = false := fun a ha => cM_no (fun e => by
    have := (List.pairwise_cons.mp (List.pairwise_append.mp hd).2.1).1 a ha
    exact this (h1.trans e.symm))
  rw [lastI_app, lastI_none ha, lastI, lastI_none hb, Nat.zero_add]
  by_cases e : d.2.1 = c.2.1
  · rw [cM_yes h1 e, if_pos rfl, if_pos e]
  · rw [cM_no2 e, if_neg (by decide), if_neg e]
theorem tsA_nd {a : Nat} {x : gSt} {y : gSt × List Nat × List cAl} (hd : nmD x.2) (h : tsA ts L a x = .ok y) : nmD y.1.2 := by
  unfold tsA at h
  by_cases c : kA ts x.1.1 = 31
  · rw [if_pos c] at h
    unfold dfA at h
    by_cases c1 : kA ts (x.1.1 + 1) = 30 ∧ hasD x.2 (nmA ts (x.1.1 + 1)) = false
    · rw [if_pos c1] at h
      cases e : prA ts L 3 (x.1.1 + 2) [] with
      | error z => rw [e] at h; cases h
      | ok q =>
        rw [e] at h
        dsimp only at h
        cases e2 : bkA ts L q.2 3 (a + 2) (q.1, x.1.2) with
        | error z => rw [e2] at h; cases h
        | ok z =>
          rw [e2] at h
          cases h
          refine List.pairwise_append.mpr ⟨hd, List.pairwise_singleton _ _, fun d hd' b hb => ?_⟩
          rw [List.mem_singleton.mp hb]
          intro e
          have e : d.1 = nmA ts (x.1.1 + 1) := e
          have : hasD x.2 (nmA ts (x.1.1 + 1)) = true := List.any_eq_true.mpr ⟨d, hd', by rw [e]; exact beq_self_eq_true _⟩
          rw [c1.2] at this
          cases this
    · rw [if_neg c1] at h; cases h
  · rw [if_neg c] at h
    cases e : stA ts L [] (bkA ts L [] 3) a x.1 with
    | error z => rw [e] at h; cases h
    | ok z =>
      rw [e] at h
      cases h
      exact hd
theorem lsG_nd : ∀ (k a : Nat) (x : gSt) (y : gSt × List Nat × List cAl), nmD x.2 → lsA (gxA ts) (tsA ts L) 34 k a x = .ok y → nmD y.1.2
  | 0, a, x, y, hd, h => by cases h; exact hd
  | k + 1, a, x, y, hd, h => by
    rw [lsA] at h
    by_cases c : gxA ts x = 34
    · rw [if_pos c] at h
      cases h
      exact hd
    · rw [if_neg c] at h
      cases e : tsA ts L a x with
      | error z => rw [e] at h; cases h
      | ok z =>
        rw [e] at h
        dsimp only at h
        cases e2 : lsA (gxA ts) (tsA ts L) 34 k (a + z.2.1.length) z.1 with
        | error u => rw [e2] at h; cases h
        | ok u =>
          rw [e2] at h
          cases h
          exact lsG_nd k _ z.1 u (tsA_nd hd e) e2
theorem tpA_nd {r : gSt × List Nat × List cAl} (h : tpA ts L = .ok r) : nmD r.1.2 := lsG_nd 160 0 ((0, [], []), []) r List.Pairwise.nil h
theorem mX_rfs : (mX S0 w0 L tk ps.length lv df cl rest A0 ts wr t vs dr st S) → (S 56)[10]? = some (.ref 62) ∧ (S 56)[22]? = some (.ref 69) ∧ (S 56)[23]? = some (.ref 70) ∧ (S 56)[24]? = some (.ref 71) ∧ (S 56)[26]? = some (.ref 72) ∧ (S 56)[27]? = some (.ref 73) ∧ (S 56)[28]? = some (.ref 74) ∧ (S 56)[29]? = some (.ref 75) := fun ⟨A, e, _⟩ => by
  subst e
  exact ⟨rfl, rfl, rfl, rfl, rfl, rfl, rfl, rfl⟩
theorem m_lkB {i : Nat} (hn : 67 ≤ n) (hdl : ds.length ≤ 28) (hv : ∀ d ∈ ds, nmOk d.1 ∧ d.2.1 < 2 ^ 20) (hcv : nmOk c.1 ∧ c.2.1 < 2 ^ 20) (hi20 : i < 2 ^ 20) (hX : (mX S0 w0 L tk ps.length 0 ds.length cs.length rest A0 ts wr t vs dr [] S)) (hR : mRw [] [] ds cs A0) (hi : cs[i]? = some c) : ∀ (k j : Nat) (b : Int32), j + k = ds.length → aE aM199 (d + 1) 73 [(3, .int (Int32.ofNat ds.length)), (2, .int (lastI (cM c) (ds.drop j) j b)), (1, .int (Int32.ofNat i)), (0, .ref 56)] [] (gH scr kd n S) Q → aE aM199 (d + 1) 22 [(3, .int (Int32.ofNat j)), (2, .int b), (1, .int (Int32.ofNat i)), (0, .ref 56)] [] (gH scr kd n S) Q
  | 0, j, b, hj, kk => by
    obtain rfl : j = ds.length := by omega
    rw [List.drop_length] at kk
    have b1 := i32_le (a := ds.length) (b := ds.length) (by omega) (by omega)
    refine eS rfl rfl ?_
    refine eS rfl rfl ?_
    refine gGet hn rfl rfl rfl (mX_f hX).2.2.2.2.2.1 ?_
    refine eIGe rfl rfl (fun _ => ?_) (fun z => absurd (b1.mpr (Nat.le_refl _)) z)
    exact kk
  | k + 1, j, b, hj, kk => by
    have hjl : j < ds.length := by omega
    have b1 := i32_le (a := ds.length) (b := j) (by omega) (by omega)
    obtain ⟨w10, w22, w23, w24, w26, w27, w28, w29⟩ := mX_rfs hX
    have row := fun q b (hq : 64 ≤ q ∧ q ≤ 75 ∧ q ≠ 65) => (mX_row (q := q) (b := b) hq hX).2
    obtain ⟨d1, d2, d3⟩ := hR.2.2.1.2.2.2 j _ (List.getElem?_eq_getElem hjl)
    obtain ⟨c1, c2, c3, c4⟩ := hR.2.2.2.2.2.2.2 i _ hi
    rw [← row 69 [] (by decide)] at d1
    rw [← row 70 [] (by decide)] at d2
    rw [← row 72 [] (by decide)] at c1
    rw [← row 73 [] (by decide)] at c2
    obtain ⟨o1, o2⟩ := hv _ (List.getElem_mem hjl)
    have nq := nm_eq (Or.inl rfl) o1 hcv.1
    have cq := i32_eq (a := ds[j].2.1) (b := c.2.1) (by omega) (by omega)
    rw [List.drop_eq_getElem_cons hjl, lastI] at kk
    have IH := fun b' => m_lkB hn hdl hv hcv hi20 hX hR hi k (j + 1) b' (by omega)
    by_cases e1 : ds[j].1 = c.1
    · by_cases e2 : ds[j].2.1 = c.2.1
      · rw [cM_yes e1 e2, if_pos rfl] at kk
        have IH := IH _ kk
        refine eS rfl rfl ?_
        refine eS rfl rfl ?_
        refine gGet hn rfl rfl rfl (mX_f hX).2.2.2.2.2.1 ?_
        refine eIGe rfl rfl (fun z => absurd (b1.mp z) (by omega)) (fun _ => ?_)
        refine eS rfl rfl ?_
        refine gGet hn rfl rfl rfl w22 ?_
        refine eS rfl rfl ?_
        refine gRd2 hn rfl rfl rfl j (by omega) d1 ?_
        refine eS rfl rfl ?_
        refine gGet hn rfl rfl rfl w26 ?_
        refine eS rfl rfl ?_
        refine gRd2 hn rfl rfl rfl i (by omega) c1 ?_
        refine eS rfl rfl ?_
        refine eNe rfl rfl (fun z => absurd (lg_eq.mpr (nq.mpr e1)) z) (fun _ => ?_)
        refine eS rfl rfl ?_
        refine gGet hn rfl rfl rfl w23 ?_
        refine eS rfl rfl ?_
        refine gRd0 hn rfl rfl rfl j (by omega) d2 ?_
        refine eS rfl rfl ?_
        refine gGet hn rfl rfl rfl w27 ?_
        refine eS rfl rfl ?_
        refine gRd0 hn rfl rfl rfl i (by omega) c2 ?_
        refine eINe rfl rfl (fun z => absurd (cq.mpr e2) z) (fun _ => ?_)
        refine eS rfl rfl ?_
        refine eS rfl rfl ?_
        refine eS rfl rfl ?_
        refine eS rfl rfl ?_
        rw [i32_succ]
        refine eS rfl rfl ?_
        exact eLoc (l' := [(3, .int (Int32.ofNat (j + 1))), (2, .int (Int32.ofNat j)), (1, .int (Int32.ofNat i)), (0, .ref 56)]) rfl ⟨rfl, rfl, rfl, rfl, trivial⟩ IH
      · rw [cM_no2 e2, if_neg (by decide)] at kk
        have IH := IH _ kk
        refine eS rfl rfl ?_
        refine eS rfl rfl ?_
        refine gGet hn rfl rfl rfl (mX_f hX).2.2.2.2.2.1 ?_
        refine eIGe rfl rfl (fun z => absurd (b1.mp z) (by omega)) (fun _ => ?_)
        refine eS rfl rfl ?_
        refine gGet hn rfl rfl rfl w22 ?_
        refine eS rfl rfl ?_
        refine gRd2 hn rfl rfl rfl j (by omega) d1 ?_
        refine eS rfl rfl ?_
        refine gGet hn rfl rfl rfl w26 ?_
        refine eS rfl rfl ?_
        refine gRd2 hn rfl rfl rfl i (by omega) c1 ?_
        refine eS rfl rfl ?_
        refine eNe rfl rfl (fun z => absurd (lg_eq.mpr (nq.mpr e1)) z) (fun _ => ?_)
        refine eS rfl rfl ?_
        refine gGet hn rfl rfl rfl w23 ?_
        refine eS rfl rfl ?_
        refine gRd0 hn rfl rfl rfl j (by omega) d2 ?_
        refine eS rfl rfl ?_
        refine gGet hn rfl rfl rfl w27 ?_
        refine eS rfl rfl ?_
        refine gRd0 hn rfl rfl rfl i (by omega) c2 ?_
        refine eINe rfl rfl (fun _ => ?_) (fun z => absurd (cq.mp z) e2)
        refine eS rfl rfl ?_
        refine eS rfl rfl ?_
        refine eS rfl rfl ?_
        rw [i32_succ]
        refine eS rfl rfl ?_
        exact eLoc (l' := [(3, .int (Int32.ofNat (j + 1))), (2, .int b), (1, .int (Int32.ofNat i)), (0, .ref 56)]) rfl ⟨rfl, rfl, rfl, rfl, trivial⟩ IH
    · rw [cM_no e1, if_neg (by decide)] at kk
      have IH := IH _ kk
      refine eS rfl rfl ?_
      refine eS rfl rfl ?_
      refine gGet hn rfl rfl rfl (mX_f hX).2.2.2.2.2.1 ?_
      refine eIGe rfl rfl (fun z => absurd (b1.mp z) (by omega)) (fun _ => ?_)
      refine eS rfl rfl ?_
      refine gGet hn rfl rfl rfl w22 ?_
      refine eS rfl rfl ?_
      refine gRd2 hn rfl rfl rfl j (by omega) d1 ?_
      refine eS rfl rfl ?_
      refine gGet hn rfl rfl rfl w26 ?_
      refine eS rfl rfl ?_
      refine gRd2 hn rfl rfl rfl i (by omega) c1 ?_
      refine eS rfl rfl ?_
      refine eNe rfl rfl (fun _ => ?_) (fun z => absurd (nq.mp (lg_eq.mp z)) e1)
      refine eS rfl rfl ?_
      refine eS rfl rfl ?_
      refine eS rfl rfl ?_
      rw [i32_succ]
      refine eS rfl rfl ?_
      exact eLoc (l' := [(3, .int (Int32.ofNat (j + 1))), (2, .int b), (1, .int (Int32.ofNat i)), (0, .ref 56)]) rfl ⟨rfl, rfl, rfl, rfl, trivial⟩ IH
theorem mEn_of {e : Nat} (h : mEz S0 w0 L tk rest e S) : mEn S0 w0 L tk rest e S := by
  obtain ⟨A, md, t, vr, pr, lv, df, cl, h0, h1, h62, h63, h65, hR, -, -⟩ := h
  exact ⟨A, md, t, vr, pr, lv, df, cl, h0, h1, h62, h63, h65, hR⟩
theorem m_lkS {i : Nat} {ws : List Nat} (hn : 67 ≤ n) (hp : ∀ t, plA ts L t < 2 ^ 20) (hdl : ds.length ≤ 28) (hv : ∀ d ∈ ds, nmOk d.1 ∧ d.2.1 < 2 ^ 20) (hcv : nmOk c.1 ∧ c.2.1 < 2 ^ 20 ∧ c.2.2.1 < 800 ∧ c.2.2.2 < ts.length) (hcs : cs.length < 60) (hd : nmD ds) (hw : ws.length ≤ 720) (h : mY S0 w0 L tk rest ts [] x ws [] ds cs S) (hi : cs[i]? = some c) (kk : ∀ f S' v3 v2, ds.find? (fun d => d.1 == c.1) = some f → f.2.1 = c.2.1 → mY S0 w0 L tk rest ts [] x (ws.set c.2.2.1 f.2.2) [] ds cs S' → aE aM199 (d + 1) 2 [(3, .int v3), (2, .int v2), (1, .int (Int32.ofNat (i + 1))), (0, .ref 56)] [] (gH scr kd n S') Q) (ke : ∀ S', (ds.find? (fun d => d.1 == c.1) = none ∨ ∃ f, ds.find? (fun d => d.1 == c.1) = some f ∧ f.2.1 ≠ c.2.1) → mEn S0 w0 L tk rest (plA ts L c.2.2.2) S' → Q (.inl none) (gH scr kd n S')) : aE aM199 (d + 1) 22 [(3, .int (Int32.ofNat 0)), (2, .int (-1)), (1, .int (Int32.ofNat i)), (0, .ref 56)] [] (gH scr kd n S) Q := by
  obtain ⟨A0, hX, hR⟩ := h
  have hil := List.getElem?_eq_some_iff.mp hi
  obtain ⟨hil, -⟩ := hil
  obtain ⟨w10, w22, w23, w24, w26, w27, w28, w29⟩ := mX_rfs hX
  have row := fun q b (hq : 64 ≤ q ∧ q ≤ 75 ∧ q ≠ 65) => (mX_row (q := q) (b := b) hq hX).2
  obtain ⟨c1, c2, c3, c4⟩ := hR.2.2.2.2.2.2.2 i _ hi
  rw [← row 74 [] (by decide)] at c3
  rw [← row 75 [] (by decide)] at c4
  have no : lastI (cM c) ds 0 (-1) = -1 → (ds.find? (fun d => d.1 == c.1) = none ∨ ∃ f, ds.find? (fun d => d.1 == c.1) = some f ∧ f.2.1 ≠ c.2.1) → aE aM199 (d + 1) 73 [(3, .int (Int32.ofNat ds.length)), (2, .int (lastI (cM c) ds 0 (-1))), (1, .int (Int32.ofNat i)), (0, .ref 56)] [] (gH scr kd n S) Q := fun e hno => by
    rw [e]
    obtain ⟨S2, X2, a2⟩ := m_failX (d := d) (scr := scr) (kd := kd) (ps := []) hn (u := c.2.2.2) (by omega) hX
    have F := ke S2 hno (mEn_of (mEz_of X2 (mRw_ln hR) hw (by omega)))
    have hw := neg1_ne (hp c.2.2.2)
    refine eS rfl rfl ?_
    refine eS rfl rfl ?_
    refine eINe rfl rfl (fun z => absurd rfl z) (fun _ => ?_)
    refine eS rfl rfl ?_
    refine eS rfl rfl ?_
    refine gGet hn rfl rfl rfl w29 ?_
    refine eS rfl rfl ?_
    refine gRd0 hn rfl rfl rfl i (by omega) c4 ?_
    refine gV1 hn rfl rfl rfl rfl rfl ⟨catOk rfl, catOk rfl⟩ (a2) ?_
    refine eS rfl rfl ?_
    refine eS rfl rfl ?_
    rw [i32_succ]
    refine eS rfl rfl ?_
    by_cases c5 : i + 1 < cs.length
    · have b1 := i32_le (a := cs.length) (b := i + 1) (by omega) (by omega)
      refine eS rfl rfl ?_
      refine eS rfl rfl ?_
      refine gGet hn rfl rfl rfl (mX_f X2).2.2.2.2.2.2 ?_
      refine eIGe rfl rfl (fun z => absurd (b1.mp z) (by omega)) (fun _ => ?_)
      refine eS rfl rfl ?_
      refine gGet hn rfl rfl rfl (mX_f X2).1 ?_
      refine eS rfl rfl ?_
      refine eINe rfl rfl (fun _ => ?_) (fun z => absurd z hw)
      exact eR rfl rfl F
    · have b1 := i32_le (a := cs.length) (b := i + 1) (by omega) (by omega)
      refine eS rfl rfl ?_
      refine eS rfl rfl ?_
      refine gGet hn rfl rfl rfl (mX_f X2).2.2.2.2.2.2 ?_
      refine eIGe rfl rfl (fun _ => ?_) (fun z => absurd (b1.mpr (by omega)) z)
      exact eR rfl rfl F
  refine m_lkB hn hdl hv ⟨hcv.1, hcv.2.1⟩ (by omega) hX hR hi ds.length 0 (-1) (Nat.zero_add _) ?_
  rw [List.drop_zero]
  cases e : ds.find? (fun d => d.1 == c.1) with
  | none => exact no (lastI_not e) (Or.inl e)
  | some f =>
    obtain ⟨m, hm, em⟩ := lastI_fnd (b := -1) hd e
    by_cases e2 : f.2.1 = c.2.1
    · rw [if_pos e2] at em
      rw [em]
      have hml := (List.getElem?_eq_some_iff.mp hm).choose
      obtain ⟨d1, d2, d3⟩ := hR.2.2.1.2.2.2 m _ hm
      rw [← row 71 [] (by decide)] at d3
      have hw := neg1_ne (show m < 2 ^ 20 by omega)
      obtain ⟨X3, l62⟩ := mX_set (m := c.2.2.1) (v := f.2.2) hcv.2.2.1 hX
      have F := kk f _ (Int32.ofNat ds.length) (Int32.ofNat m) e e2 ⟨A0, X3, hR⟩
      refine eS rfl rfl ?_
      refine eS rfl rfl ?_
      refine eINe rfl rfl (fun _ => ?_) (fun z => absurd z hw)
      refine eS rfl rfl ?_
      refine gGet hn rfl rfl rfl w10 ?_
      refine eS rfl rfl ?_
      refine gGet hn rfl rfl rfl w28 ?_
      refine eS rfl rfl ?_
      refine gRd0 hn rfl rfl rfl i (by omega) c3 ?_
      refine eS rfl rfl ?_
      refine gGet hn rfl rfl rfl w24 ?_
      refine eS rfl rfl ?_
      refine gRd0 hn rfl rfl rfl m (by omega) d3 ?_
      refine gWr0 hn rfl rfl rfl c.2.2.1 (by omega) (by rw [l62]; exact hcv.2.2.1) rfl ?_
      refine eS rfl rfl ?_
      rw [i32_succ]
      refine eS rfl rfl ?_
      exact eLoc (l' := [(3, .int (Int32.ofNat ds.length)), (2, .int (Int32.ofNat m)), (1, .int (Int32.ofNat (i + 1))), (0, .ref 56)]) rfl ⟨rfl, rfl, rfl, rfl, trivial⟩ F
    · rw [if_neg e2] at em
      exact no em (Or.inr ⟨f, e, e2⟩)
theorem m_lkL (hn : 67 ≤ n) (hp : ∀ t, plA ts L t < 2 ^ 20) (hdl : ds.length ≤ 28) (hv : ∀ d ∈ ds, nmOk d.1 ∧ d.2.1 < 2 ^ 20) (hcv : ∀ c ∈ cs, nmOk c.1 ∧ c.2.1 < 2 ^ 20 ∧ c.2.2.1 < 800 ∧ c.2.2.2 < ts.length) (hcs : cs.length < 60) (hd : nmD ds) : ∀ (k i : Nat) (ws : List Nat) (S : Nat → List Value) (v3 v2 : Int32), i + k = cs.length → ws.length ≤ 720 → mY S0 w0 L tk rest ts [] x ws [] ds cs S → (∀ ws' S', lnkA ts L ds (cs.drop i) ws = .ok ws' → mY S0 w0 L tk rest ts [] x ws' [] ds cs S' → Q (.inl none) (gH scr kd n S')) → (∀ e S', lnkA ts L ds (cs.drop i) ws = .error e → mEn S0 w0 L tk rest e S' → Q (.inl none) (gH scr kd n S')) → aE aM199 (d + 1) 2 [(3, .int v3), (2, .int v2), (1, .int (Int32.ofNat i)), (0, .ref 56)] [] (gH scr kd n S) Q
  | 0, i, ws, S, v3, v2, hi, hw, h, kk, ke => by
    obtain rfl : i = cs.length := by omega
    rw [List.drop_length] at kk
    have F := kk ws S rfl h
    obtain ⟨A0, hX, hR⟩ := h
    have b1 := i32_le (a := cs.length) (b := cs.length) (by omega) (by omega)
    refine eS rfl rfl ?_
    refine eS rfl rfl ?_
    refine gGet hn rfl rfl rfl (mX_f hX).2.2.2.2.2.2 ?_
    refine eIGe rfl rfl (fun _ => ?_) (fun z => absurd (b1.mpr (Nat.le_refl _)) z)
    exact eR rfl rfl F
  | k + 1, i, ws, S, v3, v2, hi, hw, h, kk, ke => by
    have hil : i < cs.length := by omega
    rw [List.drop_eq_getElem_cons hil, lnkA] at kk ke
    have st := m_lkS (d := d) (scr := scr) (kd := kd) (Q := Q) hn hp hdl hv (hcv _ (List.getElem_mem hil)) hcs hd hw h (List.getElem?_eq_getElem hil) (fun f S' v3 v2 e1 e2 h' => ?_) (fun S' e1 z => ?_)
    · obtain ⟨A0, hX, hR⟩ := h
      have b1 := i32_le (a := cs.length) (b := i) (by omega) (by omega)
      refine eS rfl rfl ?_
      refine eS rfl rfl ?_
      refine gGet hn rfl rfl rfl (mX_f hX).2.2.2.2.2.2 ?_
      refine eIGe rfl rfl (fun z => absurd (b1.mp z) (by omega)) (fun _ => ?_)
      refine eS rfl rfl ?_
      refine gGet hn rfl rfl rfl (mX_f hX).1 ?_
      refine eS rfl rfl ?_
      refine eINe rfl rfl (fun z => absurd rfl z) (fun _ => ?_)
      refine eS rfl rfl ?_
      refine eS rfl rfl ?_
      refine eS rfl rfl ?_
      refine eS rfl rfl ?_
      exact st
    · rw [e1] at kk ke
      dsimp only at kk ke
      rw [if_pos e2] at kk ke
      exact m_lkL hn hp hdl hv hcv hcs hd k (i + 1) _ S' v3 v2 (by omega) (by rw [List.length_set]; exact hw) h' kk ke
    · rcases e1 with e1 | ⟨f, e1, e2⟩
      · rw [e1] at ke
        exact ke _ S' rfl z
      · rw [e1] at ke
        dsimp only at ke
        rw [if_neg e2] at ke
        exact ke _ S' rfl z
theorem m_link {ws : List Nat} (hn : 67 ≤ n) (hp : ∀ t, plA ts L t < 2 ^ 20) (hdl : ds.length ≤ 28) (hv : ∀ d ∈ ds, nmOk d.1 ∧ d.2.1 < 2 ^ 20) (hcv : ∀ c ∈ cs, nmOk c.1 ∧ c.2.1 < 2 ^ 20 ∧ c.2.2.1 < 800 ∧ c.2.2.2 < ts.length) (hcs : cs.length < 60) (hd : nmD ds) (hw : ws.length ≤ 720) (h : mY S0 w0 L tk rest ts [] x ws [] ds cs S) (kk : ∀ ws' S', lnkA ts L ds cs ws = .ok ws' → mY S0 w0 L tk rest ts [] x ws' [] ds cs S' → Q (.inl none) (gH scr kd n S')) (ke : ∀ e S', lnkA ts L ds cs ws = .error e → mEn S0 w0 L tk rest e S' → Q (.inl none) (gH scr kd n S')) : aE aM199 (d + 1) 0 [(0, .ref 56)] [] (gH scr kd n S) Q := by
  by_cases c0 : cs = []
  · subst c0
    have F := kk ws S rfl h
    obtain ⟨A0, hX, hR⟩ := h
    refine eS rfl rfl ?_
    refine eS rfl rfl ?_
    refine eS rfl rfl ?_
    refine eS rfl rfl ?_
    refine gGet hn rfl rfl rfl (mX_f hX).2.2.2.2.2.2 ?_
    refine eIGe rfl rfl (fun _ => ?_) (fun z => absurd (by decide) z)
    exact eR rfl rfl F
  · have hil : 0 < cs.length := List.length_pos_iff.mpr c0
    have e0 : cs = cs[0] :: cs.drop 1 := by rw [← List.drop_eq_getElem_cons hil, List.drop_zero]
    have kk' := kk
    have ke' := ke
    rw [show lnkA ts L ds cs ws = lnkA ts L ds (cs[0] :: cs.drop 1) ws from congrArg (fun z => lnkA ts L ds z ws) e0, lnkA] at kk' ke'
    have st := m_lkS (d := d) (scr := scr) (kd := kd) (Q := Q) hn hp hdl hv (hcv _ (List.getElem_mem hil)) hcs hd hw h (List.getElem?_eq_getElem hil) (fun f S' v3 v2 e1 e2 h' => ?_) (fun S' e1 z => ?_)
    · obtain ⟨A0, hX, hR⟩ := h
      have b1 := i32_le (a := cs.length) (b := 0) (by omega) (by omega)
      refine eS rfl rfl ?_
      refine eS rfl rfl ?_
      refine eS rfl rfl ?_
      refine eS rfl rfl ?_
      refine gGet hn rfl rfl rfl (mX_f hX).2.2.2.2.2.2 ?_
      refine eIGe rfl rfl (fun z => absurd (b1.mp z) (by omega)) (fun _ => ?_)
      refine eS rfl rfl ?_
      refine gGet hn rfl rfl rfl (mX_f hX).1 ?_
      refine eS rfl rfl ?_
      refine eINe rfl rfl (fun z => absurd rfl z) (fun _ => ?_)
      refine eS rfl rfl ?_
      refine eS rfl rfl ?_
      refine eS rfl rfl ?_
      refine eS rfl rfl ?_
      exact st
    · rw [e1] at kk' ke'
      dsimp only at kk' ke'
      rw [if_pos e2] at kk' ke'
      exact m_lkL hn hp hdl hv hcv hcs hd (cs.length - 1) 1 _ S' v3 v2 (by omega) (by rw [List.length_set]; exact hw) h' kk' ke'
    · rcases e1 with e1 | ⟨f, e1, e2⟩
      · rw [e1] at ke'
        exact ke' _ S' rfl z
      · rw [e1] at ke'
        dsimp only at ke'
        rw [if_neg e2] at ke'
        exact ke' _ S' rfl z
end MSQ
