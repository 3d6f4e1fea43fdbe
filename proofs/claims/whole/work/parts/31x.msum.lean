section MSB
variable {scr : List Value} {kd : Nat → Nat} {n d L md t vr pr lv df cl : Nat} {S0 A : Nat → List Value} {w0 : Value} {wr tk : Int32} {rest : List Value} {ts : List aTk} {vs ps : List (List Nat)} {A0 S : Nat → List Value} {st dr r : List Nat} {s dp : Nat} {mi : Int32} {sm one : xSt → Except Nat xSt} {Q : aOut → aH → Prop}
theorem e_factor (hn : 67 ≤ n) (hl160 : ts.length ≤ 160) (hN : tsN ts) (h3 : ps.length ≤ 3) (hpo : ∀ y ∈ ps, nmOk y) (hP : nmF 27 ps (A0 64)) (hdp : dp ≤ 3) (hs : dp < 3 → xRd ts sm) (hse : dp < 3 → ∀ x y, xOk ts x → sm x = .ok y → kA ts y.1 ≠ 43 ∧ kA ts y.1 ≠ 45 ∧ kA ts y.1 ≠ 42 ∧ kA ts y.1 ≠ 47) (hsm : dp < 3 → mClm scr kd n d L S0 w0 tk lv df cl rest A0 ts ps 1 sm (dp + 1)) : mClm scr kd n d L S0 w0 tk lv df cl rest A0 ts ps 3 (fctA ts L ps sm dp) dp := by
  intro Q x dr st S hx hb hst hX k ke
  have pe := (por_ge (s := 3) (s' := 3) (Nat.le_refl _) hst).2
  by_cases c : kA ts x.1 = 45
  · have hlt := kA_lt c (by decide)
    obtain ⟨x1, x2, x3, x4⟩ := hx
    obtain ⟨b1, b2, b3⟩ := hb
    have ok1 : xOk ts (x.1 + 1, x.2) := ⟨by show x.1 + 1 ≤ _; omega, by show x.2.2.length ≤ x.1 + 1; omega, x3, x4⟩
    have t10 := por_top (s := 3) (w := 10) (r := st) (by decide)
    refine ex_minus hn c (by omega) hX (fun S1 X1 => ?_)
    refine e_inner (x := (x.1 + 1, x.2)) (st := 10 :: st) hn hl160 hN h3 hpo hP hdp hs hse hsm ok1 ⟨by show dr.length + (st.length + 1) ≤ 3 * (x.1 + 1) + 8; omega, by show st.length + 1 ≤ x.1 + 1; omega, fun w hw => ?_⟩ (fun _ => by decide) X1 (fun y l S' e hy X' hb' => ?_) (fun e he => ke e (by unfold fctA; rw [if_pos c, he]))
    · rcases List.mem_cons.mp hw with rfl | hw
      · decide
      · exact b3 w hw
    · rw [t10.1, t10.2, pe, hst] at X' hb'
      rw [t10.2, hst]
      have e' : fctA ts L ps sm dp x = .ok (y.1, y.2.1, y.2.2 ++ [(10, 0, 0)]) := by unfold fctA; rw [if_pos c, e]
      refine k _ (l ++ [(10, 0, 0)]) S' (dr ++ wdL l ++ [10]) st e' (by show y.2.2 ++ _ = _; rw [hy, List.append_assoc]) X' hb' hst ?_
      rw [pe, List.append_nil, wdL_app, wdL_op (by decide), List.append_assoc]
  · refine e_inner hn hl160 hN h3 hpo hP hdp hs hse hsm hx hb (fun z => absurd z c) hX (fun y l S' e hy X' hb' => ?_) (fun e he => ke e (by unfold fctA; rw [if_neg c, he]))
    rw [pe, List.append_nil, hst] at X' hb'
    rw [hst]
    exact k y l S' _ st (by unfold fctA; rw [if_neg c, e]) hy X' hb' hst (by rw [pe, List.append_nil])
theorem e_prd_loop (hn : 67 ≤ n) (hl160 : ts.length ≤ 160) (h1 : xRd ts one) (hc : mClm scr kd n d L S0 w0 tk lv df cl rest A0 ts ps 3 one dp) {Q : aOut → aH → Prop} {x0 : xSt} {dr0 st0 : List Nat} (hst0 : porL 2 st0 = st0) : ∀ (m : Nat) (x : xSt) (l : List (Nat × Nat × Nat)) (dr st : List Nat) (S : Nat → List Value), xOk ts x → x.2.2 = x0.2.2 ++ l → bnd x.1 dr st → porL 2 st = st0 → dr ++ porE 2 st = dr0 ++ wdL l → (mX S0 w0 L tk ps.length lv df cl rest A0 ts (-1) x.1 x.2.1 dr st S) →
    (∀ y l S' dr' st', lopA ts 42 47 8 9 one m x = .ok y → y.2.2 = x0.2.2 ++ l → (mX S0 w0 L tk ps.length lv df cl rest A0 ts (-1) y.1 y.2.1 dr' st' S') → bnd y.1 dr' st' → porL 2 st' = st0 → dr' ++ porE 2 st' = dr0 ++ wdL l → aE aM190 (d + 4) 12 (exL st'.length dp 0 0) [] (gH scr kd n S') Q) → (∀ e, lopA ts 42 47 8 9 one m x = .error e → mErr scr kd n d L S0 w0 tk lv df cl rest A0 ts ps Q e) → aE aM190 (d + 4) 12 (exL st.length dp 0 0) [] (gH scr kd n S) Q
  | 0, x, l, dr, st, S, hx, hl, hb, hL, hE, hX, k, ke => k x l S dr st rfl hl hX hb hL hE
  | m + 1, x, l, dr, st, S, hx, hl, hb, hL, hE, hX, k, ke => by
    by_cases c : kA ts x.1 = 42 ∨ kA ts x.1 = 47
    · have hlt : x.1 < ts.length := c.elim (fun z => kA_lt z (by decide)) (fun z => kA_lt z (by decide))
      have hx0 := hx
      obtain ⟨x1, x2, x3, x4⟩ := hx
      obtain ⟨b1, b2, b3⟩ := hb
      have pl := porE_len (s := 2) st
      rw [hL] at pl
      have ok1 : xOk ts (x.1 + 1, x.2) := ⟨by show x.1 + 1 ≤ _; omega, by show x.2.2.length ≤ x.1 + 1; omega, x3, x4⟩
      have s0b : ∀ w ∈ st0, w < 2 ^ 20 := fun w hw => b3 w (porL_mem (by rw [hL]; exact hw))
      have go : ∀ op : Nat, op = (if kA ts x.1 = 42 then 8 else 9) → (op = 8 ∨ op = 9) → ∀ S1, (mX S0 w0 L tk ps.length lv df cl rest A0 ts (-1) (x.1 + 1) x.2.1 (dr ++ porE 2 st) (op :: st0) S1) → aE aM190 (d + 4) 12 (exL (op :: st0).length dp 1 0) [] (gH scr kd n S1) Q := by
        intro op hop hop2 S1 X1
        have tp : porE 2 (op :: st0) = op :: porE 2 st0 ∧ porL 2 (op :: st0) = porL 2 st0 := por_top (by rcases hop2 with rfl | rfl <;> decide)
        have np : porL 3 (op :: st0) = op :: st0 := (por_no (by rcases hop2 with rfl | rfl <;> decide)).2
        have pe0 := (por_ge (Nat.le_refl _) hst0).2
        refine hc Q (x.1 + 1, x.2) _ (op :: st0) S1 ok1 ⟨by rw [List.length_append]; show dr.length + _ + (st0.length + 1) ≤ 3 * (x.1 + 1) + 8; omega, by show st0.length + 1 ≤ x.1 + 1; omega, fun w hw => ?_⟩ np X1 (fun y l2 S' dr' st' e hy X' hb' hL' hE' => ?_) (fun e he => ke e (by rw [lopA, if_pos c, he]))
        · rcases List.mem_cons.mp hw with rfl | hw
          · rcases hop2 with h | h <;> (rw [h]; decide)
          · exact s0b w hw
        · obtain ⟨⟨y1, y2, y3, y4⟩, g1, g2, g3, g4⟩ := h1 (x.1 + 1, x.2) y ok1 e
          have g1 : x.1 + 1 < y.1 := g1
          have g2 : y.2.2.length + (x.1 + 1) ≤ x.2.2.length + y.1 := g2
          have hy : y.2.2 = x.2.2 ++ l2 := hy
          have two := por_two (s := 2) (s' := 3) (by decide) st'
          rw [hL', tp.1, tp.2, pe0, hst0] at two
          have rw1 : lopA ts 42 47 8 9 one (m + 1) x = lopA ts 42 47 8 9 one m (y.1, y.2.1, y.2.2 ++ [(op, 0, 0)]) := by rw [lopA, if_pos c, e, hop]
          refine e_prd_loop hn hl160 h1 hc hst0 m (y.1, y.2.1, y.2.2 ++ [(op, 0, 0)]) (l ++ l2 ++ [(op, 0, 0)]) dr' st' S' ⟨y1, by rw [List.length_append, List.length_singleton]; show _ ≤ y.1; omega, y3, y4⟩ (by show y.2.2 ++ _ = _; rw [hy, hl]; simp only [List.append_assoc]) hb' two.2 ?_ X' (fun y' l' S'' dr'' st'' e' => k y' l' S'' dr'' st'' (by rw [rw1]; exact e')) (fun e' he' => ke e' (by rw [rw1]; exact he'))
          rw [two.1, ← List.append_assoc, hE', hE, wdL_app, wdL_app, wdL_op (by rcases hop2 with rfl | rfl <;> decide)]
          simp only [List.append_assoc]
      by_cases ca : kA ts x.1 = 42
      · refine ex_op8 hn ca (by omega) (by omega) b3 (by rw [hL]; omega) hX (fun S1 X1 => ?_)
        rw [hL] at X1 ⊢
        exact go 8 (if_pos ca).symm (Or.inl rfl) S1 X1
      · have cb := c.resolve_left ca
        refine ex_op9 hn cb (by omega) (by omega) b3 (by rw [hL]; omega) hX (fun S1 X1 => ?_)
        rw [hL] at X1 ⊢
        exact go 9 (if_neg ca).symm (Or.inr rfl) S1 X1
    · exact k x l S dr st (by rw [lopA, if_neg c]) hl hX hb hL hE
theorem e_sum_loop (hn : 67 ≤ n) (hl160 : ts.length ≤ 160) (h1 : xRd ts one) (hc : mClm scr kd n d L S0 w0 tk lv df cl rest A0 ts ps 2 one dp) {Q : aOut → aH → Prop} {x0 : xSt} {dr0 st0 : List Nat} (hst0 : porL 1 st0 = st0) : ∀ (m : Nat) (x : xSt) (l : List (Nat × Nat × Nat)) (dr st : List Nat) (S : Nat → List Value), xOk ts x → x.2.2 = x0.2.2 ++ l → bnd x.1 dr st → porL 1 st = st0 → dr ++ porE 1 st = dr0 ++ wdL l → (mX S0 w0 L tk ps.length lv df cl rest A0 ts (-1) x.1 x.2.1 dr st S) →
    (∀ y l S' dr' st', lopA ts 43 45 6 7 one m x = .ok y → y.2.2 = x0.2.2 ++ l → (mX S0 w0 L tk ps.length lv df cl rest A0 ts (-1) y.1 y.2.1 dr' st' S') → bnd y.1 dr' st' → porL 1 st' = st0 → dr' ++ porE 1 st' = dr0 ++ wdL l → aE aM190 (d + 4) 12 (exL st'.length dp 0 0) [] (gH scr kd n S') Q) → (∀ e, lopA ts 43 45 6 7 one m x = .error e → mErr scr kd n d L S0 w0 tk lv df cl rest A0 ts ps Q e) → aE aM190 (d + 4) 12 (exL st.length dp 0 0) [] (gH scr kd n S) Q
  | 0, x, l, dr, st, S, hx, hl, hb, hL, hE, hX, k, ke => k x l S dr st rfl hl hX hb hL hE
  | m + 1, x, l, dr, st, S, hx, hl, hb, hL, hE, hX, k, ke => by
    by_cases c : kA ts x.1 = 43 ∨ kA ts x.1 = 45
    · have hlt : x.1 < ts.length := c.elim (fun z => kA_lt z (by decide)) (fun z => kA_lt z (by decide))
      have hx0 := hx
      obtain ⟨x1, x2, x3, x4⟩ := hx
      obtain ⟨b1, b2, b3⟩ := hb
      have pl := porE_len (s := 1) st
      rw [hL] at pl
      have ok1 : xOk ts (x.1 + 1, x.2) := ⟨by show x.1 + 1 ≤ _; omega, by show x.2.2.length ≤ x.1 + 1; omega, x3, x4⟩
      have s0b : ∀ w ∈ st0, w < 2 ^ 20 := fun w hw => b3 w (porL_mem (by rw [hL]; exact hw))
      have go : ∀ op : Nat, op = (if kA ts x.1 = 43 then 6 else 7) → (op = 6 ∨ op = 7) → ∀ S1, (mX S0 w0 L tk ps.length lv df cl rest A0 ts (-1) (x.1 + 1) x.2.1 (dr ++ porE 1 st) (op :: st0) S1) → aE aM190 (d + 4) 12 (exL (op :: st0).length dp 1 0) [] (gH scr kd n S1) Q := by
        intro op hop hop2 S1 X1
        have tp : porE 1 (op :: st0) = op :: porE 1 st0 ∧ porL 1 (op :: st0) = porL 1 st0 := por_top (by rcases hop2 with rfl | rfl <;> decide)
        have np : porL 2 (op :: st0) = op :: st0 := (por_no (by rcases hop2 with rfl | rfl <;> decide)).2
        have pe0 := (por_ge (Nat.le_refl _) hst0).2
        refine hc Q (x.1 + 1, x.2) _ (op :: st0) S1 ok1 ⟨by rw [List.length_append]; show dr.length + _ + (st0.length + 1) ≤ 3 * (x.1 + 1) + 8; omega, by show st0.length + 1 ≤ x.1 + 1; omega, fun w hw => ?_⟩ np X1 (fun y l2 S' dr' st' e hy X' hb' hL' hE' => ?_) (fun e he => ke e (by rw [lopA, if_pos c, he]))
        · rcases List.mem_cons.mp hw with rfl | hw
          · rcases hop2 with h | h <;> (rw [h]; decide)
          · exact s0b w hw
        · obtain ⟨⟨y1, y2, y3, y4⟩, g1, g2, g3, g4⟩ := h1 (x.1 + 1, x.2) y ok1 e
          have g1 : x.1 + 1 < y.1 := g1
          have g2 : y.2.2.length + (x.1 + 1) ≤ x.2.2.length + y.1 := g2
          have hy : y.2.2 = x.2.2 ++ l2 := hy
          have two := por_two (s := 1) (s' := 2) (by decide) st'
          rw [hL', tp.1, tp.2, pe0, hst0] at two
          have rw1 : lopA ts 43 45 6 7 one (m + 1) x = lopA ts 43 45 6 7 one m (y.1, y.2.1, y.2.2 ++ [(op, 0, 0)]) := by rw [lopA, if_pos c, e, hop]
          refine e_sum_loop hn hl160 h1 hc hst0 m (y.1, y.2.1, y.2.2 ++ [(op, 0, 0)]) (l ++ l2 ++ [(op, 0, 0)]) dr' st' S' ⟨y1, by rw [List.length_append, List.length_singleton]; show _ ≤ y.1; omega, y3, y4⟩ (by show y.2.2 ++ _ = _; rw [hy, hl]; simp only [List.append_assoc]) hb' two.2 ?_ X' (fun y' l' S'' dr'' st'' e' => k y' l' S'' dr'' st'' (by rw [rw1]; exact e')) (fun e' he' => ke e' (by rw [rw1]; exact he'))
          rw [two.1, ← List.append_assoc, hE', hE, wdL_app, wdL_app, wdL_op (by rcases hop2 with rfl | rfl <;> decide)]
          simp only [List.append_assoc]
      by_cases ca : kA ts x.1 = 43
      · refine ex_op6 hn ca (by omega) (by omega) b3 (by rw [hL]; omega) hX (fun S1 X1 => ?_)
        rw [hL] at X1 ⊢
        exact go 6 (if_pos ca).symm (Or.inl rfl) S1 X1
      · have cb := c.resolve_left ca
        refine ex_op7 hn cb (by omega) (by omega) b3 (by rw [hL]; omega) hX (fun S1 X1 => ?_)
        rw [hL] at X1 ⊢
        exact go 7 (if_neg ca).symm (Or.inr rfl) S1 X1
    · exact k x l S dr st (by rw [lopA, if_neg c]) hl hX hb hL hE
theorem e_product (hn : 67 ≤ n) (hl160 : ts.length ≤ 160) (hN : tsN ts) (h3 : ps.length ≤ 3) (hpo : ∀ y ∈ ps, nmOk y) (hP : nmF 27 ps (A0 64)) (hdp : dp ≤ 3) (hs : dp < 3 → xRd ts sm) (hse : dp < 3 → ∀ x y, xOk ts x → sm x = .ok y → kA ts y.1 ≠ 43 ∧ kA ts y.1 ≠ 45 ∧ kA ts y.1 ≠ 42 ∧ kA ts y.1 ≠ 47) (hsm : dp < 3 → mClm scr kd n d L S0 w0 tk lv df cl rest A0 ts ps 1 sm (dp + 1)) : mClm scr kd n d L S0 w0 tk lv df cl rest A0 ts ps 2 (prdA ts L ps sm dp) dp := by
  intro Q x dr st S hx hb hst hX k ke
  have fr := fctA_rd (L := L) (ps := ps) (dp := dp) (sm := sm) hN hs
  refine e_factor hn hl160 hN h3 hpo hP hdp hs hse hsm Q x dr st S hx hb (por_ge (by decide) hst).1 hX (fun y l S' dr' st' e hy X' hb' hL hE => ?_) (fun e he => ke e (by unfold prdA; rw [he]))
  have two := por_two (s := 2) (s' := 3) (by decide) st'
  rw [hL, hst, (por_ge (Nat.le_refl _) hst).2, List.append_nil] at two
  exact e_prd_loop (x0 := x) (dr0 := dr) hn hl160 fr (e_factor hn hl160 hN h3 hpo hP hdp hs hse hsm) hst 160 y l dr' st' S' (fr x y hx e).1 hy hb' two.2 (by rw [two.1]; exact hE) X' (fun y' l' S'' dr'' st'' e' => k y' l' S'' dr'' st'' (by unfold prdA; rw [e]; exact e')) (fun e' he' => ke e' (by unfold prdA; rw [e]; exact he'))
theorem e_sumA (hn : 67 ≤ n) (hl160 : ts.length ≤ 160) (hN : tsN ts) (h3 : ps.length ≤ 3) (hpo : ∀ y ∈ ps, nmOk y) (hP : nmF 27 ps (A0 64)) : ∀ (f dp : Nat), dp + (f + 1) = 4 → mClm scr kd n d L S0 w0 tk lv df cl rest A0 ts ps 1 (sumA ts L ps (f + 1) dp) dp
  | f, dp, hd => fun Q x dr st S hx hb hst hX k ke => by
    have sr : ∀ g, xRd ts (sumA ts L ps g (dp + 1)) := fun g => sumA_rd hN g (dp + 1)
    have pr := prdA_rd (L := L) (ps := ps) (dp := dp) (sm := sumA ts L ps f (dp + 1)) hN (fun _ => sr f)
    have pc := e_product (d := d) (scr := scr) (kd := kd) (S0 := S0) (w0 := w0) (tk := tk) (lv := lv) (df := df) (cl := cl) (rest := rest) (dp := dp) (sm := sumA ts L ps f (dp + 1)) hn hl160 hN h3 hpo hP (by omega) (fun _ => sr f) (fun _ => sumA_end hl160 hN f (dp + 1)) (fun z => match f, hd with | 0, hd => absurd z (by omega) | g + 1, hd => e_sumA hn hl160 hN h3 hpo hP g (dp + 1) (by omega))
    refine pc Q x dr st S hx hb (por_ge (by decide) hst).1 hX (fun y l S' dr' st' e hy X' hb' hL hE => ?_) (fun e he => ke e (by rw [sumA, he]))
    have two := por_two (s := 1) (s' := 2) (by decide) st'
    rw [hL, hst, (por_ge (Nat.le_refl _) hst).2, List.append_nil] at two
    exact e_sum_loop (x0 := x) (dr0 := dr) hn hl160 pr pc hst 160 y l dr' st' S' (pr x y hx e).1 hy hb' two.2 (by rw [two.1]; exact hE) X' (fun y' l' S'' dr'' st'' e' => k y' l' S'' dr'' st'' (by rw [sumA, e]; exact e')) (fun e' he' => ke e' (by rw [sumA, e]; exact he'))
end MSB
