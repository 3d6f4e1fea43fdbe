section MCO
variable {scr : List Value} {kd : Nat → Nat} {n d L md t vr pr lv df cl : Nat} {S0 A : Nat → List Value} {w0 : Value} {wr tk : Int32} {rest : List Value} {ts : List aTk} {vs ps : List (List Nat)} {A0 S : Nat → List Value} {st dr r : List Nat} {s dp : Nat} {mi : Int32} {sm one : xSt → Except Nat xSt} {Q : aOut → aH → Prop}
/-- errors are places -/
def xEr (f : xSt → Except Nat xSt) : Prop := ∀ x e, f x = .error e → e < 2 ^ 20
theorem inrA_er (hp : ∀ t, plA ts L t < 2 ^ 20) (hs : xEr sm) : xEr (inrA ts L ps sm dp) := by
  intro x e h
  unfold inrA at h
  split at h
  · cases h
  · split at h
    · split at h
      · cases h
      · cases h; exact hp _
    · split at h
      · split at h
        · cases h; exact hp _
        · split at h
          · next e' he => cases h; exact hs _ _ he
          · split at h
            · cases h
            · cases h; exact hp _
      · cases h; exact hp _
theorem fctA_er (hp : ∀ t, plA ts L t < 2 ^ 20) (hs : xEr sm) : xEr (fctA ts L ps sm dp) := by
  intro x e h
  unfold fctA at h
  split at h
  · split at h
    · next e' he => cases h; exact inrA_er hp hs _ _ he
    · cases h
  · exact inrA_er hp hs _ _ h
theorem lopA_er {a b oa ob : Nat} (h1 : xEr one) : ∀ (k : Nat), xEr (lopA ts a b oa ob one k)
  | 0 => fun x e h => by cases h
  | k + 1 => fun x e h => by
    rw [lopA] at h
    split at h
    · split at h
      · next e' he => cases h; exact h1 _ _ he
      · exact lopA_er h1 k _ _ h
    · cases h
theorem prdA_er (hp : ∀ t, plA ts L t < 2 ^ 20) (hs : xEr sm) : xEr (prdA ts L ps sm dp) := by
  intro x e h
  unfold prdA at h
  split at h
  · next e' he => cases h; exact fctA_er hp hs _ _ he
  · exact lopA_er (fctA_er hp hs) _ _ _ h
theorem sumA_er (hp : ∀ t, plA ts L t < 2 ^ 20) : ∀ (f dp : Nat), xEr (sumA ts L ps f dp)
  | 0, dp => fun x e h => by cases h; exact hp _
  | f + 1, dp => fun x e h => by
    rw [sumA] at h
    split at h
    · next e' he => cases h; exact prdA_er hp (sumA_er hp f (dp + 1)) _ _ he
    · exact lopA_er (prdA_er hp (sumA_er hp f (dp + 1))) _ _ _ h
theorem cndA_er (hp : ∀ t, plA ts L t < 2 ^ 20) : xEr (cndA ts L ps) := by
  intro x e h
  unfold cndA at h
  split at h
  · next e' he => cases h; exact sumA_er hp _ _ _ _ he
  · split at h
    · split at h
      · next e' he => cases h; exact sumA_er hp _ _ _ _ he
      · cases h
    · cases h; exact hp _
theorem wdL_len : ∀ (l : List (Nat × Nat × Nat)), (wdL l).length ≤ 3 * l.length
  | [] => Nat.zero_le _
  | q :: l => by
    have h := wdL_len l
    have e : wdL (q :: l) = wdT q ++ wdL l := rfl
    have hq : (wdT q).length ≤ 3 := by
      unfold wdT
      split
      · exact Nat.le_refl _
      · split
        · exact (by decide : 2 ≤ 3)
        · exact (by decide : 1 ≤ 3)
    rw [e, List.length_append]
    show _ ≤ 3 * (l.length + 1)
    omega
set_option maxRecDepth 4000 in
/-- the model's comparison -/
theorem m_cmp (hn : 67 ≤ n) (hl160 : ts.length ≤ 160) (hN : tsN ts) (h3 : ps.length ≤ 3) (hpo : ∀ y ∈ ps, nmOk y) (hP : nmF 27 ps (A0 64)) (hp : ∀ t, plA ts L t < 2 ^ 20) (x : xSt) (dr : List Nat) (S : Nat → List Value) (hx : xOk ts x) (hb : dr.length ≤ 3 * x.1 + 8) (hX : (mX S0 w0 L tk ps.length lv df cl rest A0 ts (-1) x.1 x.2.1 dr [] S))
    (k : ∀ z l S', cndA ts L ps x = .ok z → z.2.2 = x.2.2 ++ l → (mX S0 w0 L tk ps.length lv df cl rest A0 ts (-1) z.1 z.2.1 (dr ++ wdL l) [] S') → (dr ++ wdL l).length ≤ 3 * z.1 + 8 → Q (.inl none) (gH scr kd n S')) (ke : ∀ e, cndA ts L ps x = .error e → mErB scr kd n d L S0 w0 tk lv df cl rest A0 ts ps Q e) : aE aM197 (d + 5) 0 [(0, .ref 56)] [] (gH scr kd n S) Q := by
  refine eS rfl rfl ?_
  have eS56 : gK kd 56 = 36 := rfl
  refine gVk hn rfl rfl rfl rfl rfl ⟨catOk rfl, catOk rfl⟩ rfl (m_expr (tk := tk) hn hl160 hN h3 hpo hP x dr S hx hb hX (fun y l S1 e1 hy X1 hb1 => ⟨rfl, ?_⟩) (fun e he t vs dr' st S' X' g1 g2 g3 => ⟨rfl, m_cmpE hn (neg1_ne (sumA_er hp _ _ _ _ he)) g1 (by omega) X' (fun v S2 X2 => ke e (by unfold cndA; rw [he]) _ _ _ _ S2 X2 (by omega) g2 (by rw [List.length_append, List.length_singleton]; omega))⟩))
  obtain ⟨⟨y1, y2, y3, y4⟩, -, -, -, -⟩ := sumA_rd hN 4 0 x y hx e1
  have i1 := m_isSX (d := d + 4) (scr := scr) (kd := kd) (k := 60) hn y1 (by decide) (by decide) X1
  have i2 := m_isSX (d := d + 4) (scr := scr) (kd := kd) (k := 62) hn y1 (by decide) (by decide) X1
  have i3 := m_isSX (d := d + 4) (scr := scr) (kd := kd) (k := 61) hn y1 (by decide) (by decide) X1
  by_cases c : kA ts y.1 = 60 ∨ kA ts y.1 = 62 ∨ kA ts y.1 = 61
  · have hlt : y.1 < ts.length := by
      rcases c with c | c | c <;> exact kA_lt c (by decide)
    have ok1 : xOk ts (y.1 + 1, y.2) := ⟨by show y.1 + 1 ≤ _; omega, by show y.2.2.length ≤ y.1 + 1; omega, y3, y4⟩
    have f70 : ∀ v : Nat, v = relV (kA ts y.1) → aE aM197 (d + 5) 70 [(1, .int (Int32.ofNat v)), (0, .ref 56)] [] (gH scr kd n S1) Q := by
      intro v hv
      have rv : 4 ≤ v := by
        rw [hv]
        unfold relV
        split
        · decide
        · split <;> decide
      obtain ⟨A, rfl, X3⟩ := mX_tick X1
      refine eS rfl rfl ?_
      refine eS rfl rfl ?_
      refine gGet hn rfl rfl rfl rfl ?_
      refine eS rfl rfl ?_
      refine eS rfl rfl ?_
      rw [show Int32.ofNat y.1 + Int32.ofInt 1 = Int32.ofNat (y.1 + 1) from i32_succ]
      refine gPut hn rfl rfl rfl rfl rfl rfl rfl me_t ?_
      refine eS rfl rfl ?_
      refine gGet hn rfl rfl rfl rfl ?_
      refine eS rfl rfl ?_
      refine eINe rfl rfl (fun z => absurd rfl z) (fun _ => ?_)
      refine eS rfl rfl ?_
      refine gVk hn rfl rfl rfl rfl rfl ⟨catOk rfl, catOk rfl⟩ rfl (m_expr (tk := tk) hn hl160 hN h3 hpo hP (y.1 + 1, y.2) (dr ++ wdL l) _ ok1 (by show _ ≤ 3 * (y.1 + 1) + 8; omega) X3 (fun z l2 S4 e2 hz X4 hb4 => ⟨rfl, ?_⟩) (fun e he t vs dr' st S' X' g1 g2 g3 => ⟨rfl, ?_⟩))
      · have hz : z.2.2 = y.2.2 ++ l2 := hz
        obtain ⟨z0, -, -, -, -⟩ := sumA_rd hN 4 0 (y.1 + 1, y.2) z ok1 e2
        have zl := z0.1
        have e' : cndA ts L ps x = .ok (z.1, z.2.1, z.2.2 ++ [(relV (kA ts y.1), 0, 0)]) := by unfold cndA; rw [e1]; dsimp only; rw [if_pos c, e2]
        obtain ⟨-, q1, q2, -, -⟩ := cndA_rd hN x _ hx e'
        have q1 : x.1 < z.1 := q1
        rw [List.length_append, List.length_singleton] at q2
        have q2 : z.2.2.length + 1 + x.1 ≤ x.2.2.length + z.1 := q2
        have hlen : z.2.2.length = x.2.2.length + l.length + l2.length := by rw [hz, hy, List.length_append, List.length_append]
        have w1 := wdL_len l
        have w2 := wdL_len l2
        obtain ⟨S5, X5, a5⟩ := m_emitX (d := d + 4) (scr := scr) (kd := kd) (v := v) hn (by omega) X4
        have hw : dr ++ wdL l ++ wdL l2 ++ [v] = dr ++ wdL (l ++ l2 ++ [(relV (kA ts y.1), 0, 0)]) := by
          rw [wdL_app, wdL_app, wdL_op (by rw [← hv]; exact rv), hv]
          simp only [List.append_assoc]
        refine eS rfl rfl ?_
        refine eS rfl rfl ?_
        refine gV1 hn rfl rfl rfl rfl rfl ⟨catOk rfl, catOk rfl⟩ (a5) ?_
        refine eR rfl rfl (k _ (l ++ l2 ++ [(relV (kA ts y.1), 0, 0)]) S5 e' (by show z.2.2 ++ _ = _; rw [hz, hy]; simp only [List.append_assoc]) (by rw [← hw]; exact X5) ?_)
        rw [← hw]
        simp only [List.length_append, List.length_singleton]
        show _ ≤ 3 * z.1 + 8
        omega
      · have e' : cndA ts L ps x = .error e := by unfold cndA; rw [e1]; dsimp only; rw [if_pos c, he]
        obtain ⟨S5, X5, a5⟩ := m_emitX (d := d + 4) (scr := scr) (kd := kd) (v := v) hn (by omega) X'
        refine eS rfl rfl ?_
        refine eS rfl rfl ?_
        refine gV1 hn rfl rfl rfl rfl rfl ⟨catOk rfl, catOk rfl⟩ (a5) ?_
        exact eR rfl rfl (ke e e' _ _ _ _ S5 X5 (by omega) g2 (by rw [List.length_append, List.length_singleton]; omega))
    by_cases c1 : kA ts y.1 = 60
    · rw [if_pos c1] at i1
      refine eS rfl rfl ?_
      refine eS rfl rfl ?_
      refine gV1 hn rfl rfl rfl rfl rfl ⟨catOk rfl, catOk rfl⟩ (i1) ?_
      refine eEq rfl rfl (fun z => absurd z (by decide)) (fun _ => ?_)
      refine eS rfl rfl ?_
      refine eS rfl rfl ?_
      refine eS rfl rfl ?_
      refine eS rfl rfl ?_
      refine eS rfl rfl ?_
      refine gV1 hn rfl rfl rfl rfl rfl ⟨catOk rfl, catOk rfl⟩ (i1) ?_
      refine eNe rfl rfl (fun _ => ?_) (fun z => absurd z (by decide))
      exact eLoc (l' := [(1, .int (Int32.ofNat 11)), (0, .ref 56)]) rfl ⟨rfl, rfl, trivial⟩ (f70 11 (by rw [c1]; rfl))
    rw [if_neg c1] at i1
    by_cases c2 : kA ts y.1 = 62
    · rw [if_pos c2] at i2
      refine eS rfl rfl ?_
      refine eS rfl rfl ?_
      refine gV1 hn rfl rfl rfl rfl rfl ⟨catOk rfl, catOk rfl⟩ (i1) ?_
      refine eEq rfl rfl (fun _ => ?_) (fun z => (z rfl).elim)
      refine eS rfl rfl ?_
      refine eS rfl rfl ?_
      refine gV1 hn rfl rfl rfl rfl rfl ⟨catOk rfl, catOk rfl⟩ (i2) ?_
      refine eEq rfl rfl (fun z => absurd z (by decide)) (fun _ => ?_)
      refine eS rfl rfl ?_
      refine eS rfl rfl ?_
      refine eS rfl rfl ?_
      refine eS rfl rfl ?_
      refine eS rfl rfl ?_
      refine gV1 hn rfl rfl rfl rfl rfl ⟨catOk rfl, catOk rfl⟩ (i1) ?_
      refine eNe rfl rfl (fun z => absurd rfl z) (fun _ => ?_)
      refine eS rfl rfl ?_
      refine eS rfl rfl ?_
      refine gV1 hn rfl rfl rfl rfl rfl ⟨catOk rfl, catOk rfl⟩ (i2) ?_
      refine eNe rfl rfl (fun _ => ?_) (fun z => absurd z (by decide))
      exact eLoc (l' := [(1, .int (Int32.ofNat 12)), (0, .ref 56)]) rfl ⟨rfl, rfl, trivial⟩ (f70 12 (by rw [c2]; rfl))
    rw [if_neg c2] at i2
    have c3 : kA ts y.1 = 61 := by omega
    rw [if_pos c3] at i3
    refine eS rfl rfl ?_
    refine eS rfl rfl ?_
    refine gV1 hn rfl rfl rfl rfl rfl ⟨catOk rfl, catOk rfl⟩ (i1) ?_
    refine eEq rfl rfl (fun _ => ?_) (fun z => (z rfl).elim)
    refine eS rfl rfl ?_
    refine eS rfl rfl ?_
    refine gV1 hn rfl rfl rfl rfl rfl ⟨catOk rfl, catOk rfl⟩ (i2) ?_
    refine eEq rfl rfl (fun _ => ?_) (fun z => (z rfl).elim)
    refine eS rfl rfl ?_
    refine eS rfl rfl ?_
    refine eS rfl rfl ?_
    refine eS rfl rfl ?_
    refine gV1 hn rfl rfl rfl rfl rfl ⟨catOk rfl, catOk rfl⟩ (i1) ?_
    refine eNe rfl rfl (fun z => absurd rfl z) (fun _ => ?_)
    refine eS rfl rfl ?_
    refine eS rfl rfl ?_
    refine gV1 hn rfl rfl rfl rfl rfl ⟨catOk rfl, catOk rfl⟩ (i2) ?_
    refine eNe rfl rfl (fun z => absurd rfl z) (fun _ => ?_)
    refine eS rfl rfl ?_
    refine eS rfl rfl ?_
    refine gV1 hn rfl rfl rfl rfl rfl ⟨catOk rfl, catOk rfl⟩ (i3) ?_
    refine eNe rfl rfl (fun _ => ?_) (fun z => absurd z (by decide))
    exact eLoc (l' := [(1, .int (Int32.ofNat 13)), (0, .ref 56)]) rfl ⟨rfl, rfl, trivial⟩ (f70 13 (by rw [c3]; rfl))
  · have e' : cndA ts L ps x = .error (plA ts L y.1) := by unfold cndA; rw [e1]; dsimp only; rw [if_neg c]
    rw [if_neg (by omega)] at i1
    rw [if_neg (by omega)] at i2
    rw [if_neg (by omega)] at i3
    obtain ⟨A, rfl, hT, hh⟩ := X1
    have fl := m_fail (d := d + 4) (scr := scr) (kd := kd) (t := y.1) (md := (dr ++ wdL l).length) (vr := y.2.1.length) (pr := ps.length) (lv := lv) (df := df) (cl := cl) (S0 := S0) (w0 := w0) (tk := tk) (rest := rest) hn hT y1
    have Xe : (mX S0 w0 L tk ps.length lv df cl rest A0 ts (Int32.ofNat (plA ts L y.1)) (y.1 + 1) y.2.1 (dr ++ wdL l) [] (mtS S0 (mE w0 L (Int32.ofNat (plA ts L y.1)) tk (dr ++ wdL l).length (y.1 + 1) y.2.1.length ps.length lv df cl rest) A)) := ⟨A, rfl, hT, hh⟩
    obtain ⟨S5, X5, a5⟩ := m_emitX (d := d + 4) (scr := scr) (kd := kd) (v := 13) hn (by omega) Xe
    refine eS rfl rfl ?_
    refine eS rfl rfl ?_
    refine gV1 hn rfl rfl rfl rfl rfl ⟨catOk rfl, catOk rfl⟩ (i1) ?_
    refine eEq rfl rfl (fun _ => ?_) (fun z => (z rfl).elim)
    refine eS rfl rfl ?_
    refine eS rfl rfl ?_
    refine gV1 hn rfl rfl rfl rfl rfl ⟨catOk rfl, catOk rfl⟩ (i2) ?_
    refine eEq rfl rfl (fun _ => ?_) (fun z => (z rfl).elim)
    refine eS rfl rfl ?_
    refine eS rfl rfl ?_
    refine eS rfl rfl ?_
    refine eS rfl rfl ?_
    refine gV1 hn rfl rfl rfl rfl rfl ⟨catOk rfl, catOk rfl⟩ (i1) ?_
    refine eNe rfl rfl (fun z => absurd rfl z) (fun _ => ?_)
    refine eS rfl rfl ?_
    refine eS rfl rfl ?_
    refine gV1 hn rfl rfl rfl rfl rfl ⟨catOk rfl, catOk rfl⟩ (i2) ?_
    refine eNe rfl rfl (fun z => absurd rfl z) (fun _ => ?_)
    refine eS rfl rfl ?_
    refine eS rfl rfl ?_
    refine gV1 hn rfl rfl rfl rfl rfl ⟨catOk rfl, catOk rfl⟩ (i3) ?_
    refine eNe rfl rfl (fun z => absurd rfl z) (fun _ => ?_)
    refine eS rfl rfl ?_
    refine eS rfl rfl ?_
    refine gGet hn rfl rfl rfl rfl ?_
    refine gV1 hn rfl rfl rfl rfl rfl ⟨catOk rfl, catOk rfl⟩ (fl) ?_
    refine eS rfl rfl ?_
    refine eS rfl rfl ?_
    refine gGet hn rfl rfl rfl rfl ?_
    refine eS rfl rfl ?_
    refine eS rfl rfl ?_
    rw [show Int32.ofNat y.1 + Int32.ofInt 1 = Int32.ofNat (y.1 + 1) from i32_succ]
    refine gPut hn rfl rfl rfl rfl rfl rfl rfl me_t ?_
    refine eS rfl rfl ?_
    refine gGet hn rfl rfl rfl rfl ?_
    refine eS rfl rfl ?_
    refine eINe rfl rfl (fun _ => ?_) (fun z => absurd z (neg1_ne (hp _)))
    refine eS rfl rfl ?_
    refine eS rfl rfl ?_
    refine gV1 hn rfl rfl rfl rfl rfl ⟨catOk rfl, catOk rfl⟩ (a5) ?_
    exact eR rfl rfl (ke _ e' _ _ _ _ S5 X5 (by omega) y3 (by rw [List.length_append, List.length_singleton]; omega))
end MCO
