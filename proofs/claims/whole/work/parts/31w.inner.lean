/-! the model's expression gives what the pure one gives -/
section MSA
variable {scr : List Value} {kd : Nat → Nat} {n d L md t vr pr lv df cl : Nat} {S0 A : Nat → List Value} {w0 : Value} {wr tk : Int32} {rest : List Value} {ts : List aTk} {vs ps : List (List Nat)} {A0 S : Nat → List Value} {st dr r : List Nat} {s dp : Nat} {mi : Int32} {sm one : xSt → Except Nat xSt} {Q : aOut → aH → Prop}
def bnd (t : Nat) (dr st : List Nat) : Prop := dr.length + st.length ≤ 3 * t + 8 ∧ st.length ≤ t ∧ ∀ w ∈ st, w < 2 ^ 20
/-- what an error leaves -/
def mErr (scr : List Value) (kd : Nat → Nat) (n d L : Nat) (S0 : Nat → List Value) (w0 : Value) (tk : Int32) (lv df cl : Nat) (rest : List Value) (A0 : Nat → List Value) (ts : List aTk) (ps : List (List Nat)) (Q : aOut → aH → Prop) (e : Nat) : Prop := ∀ (t : Nat) (vs : List (List Nat)) (dr st : List Nat) (S : Nat → List Value), (mX S0 w0 L tk ps.length lv df cl rest A0 ts (Int32.ofNat e) t vs dr st S) → t ≤ ts.length + 1 → vs.length ≤ 8 → dr.length ≤ 600 → Q (.inl none) (gH scr kd n S)
/-- reads as f does; s: the strength of what it may leave waiting -/
def mClm (scr : List Value) (kd : Nat → Nat) (n d L : Nat) (S0 : Nat → List Value) (w0 : Value) (tk : Int32) (lv df cl : Nat) (rest : List Value) (A0 : Nat → List Value) (ts : List aTk) (ps : List (List Nat)) (s : Nat) (f : xSt → Except Nat xSt) (dp : Nat) : Prop := ∀ (Q : aOut → aH → Prop) (x : xSt) (dr st : List Nat) (S : Nat → List Value), xOk ts x → bnd x.1 dr st → porL s st = st → (mX S0 w0 L tk ps.length lv df cl rest A0 ts (-1) x.1 x.2.1 dr st S) →
  (∀ y l S' dr' st', f x = .ok y → y.2.2 = x.2.2 ++ l → (mX S0 w0 L tk ps.length lv df cl rest A0 ts (-1) y.1 y.2.1 dr' st' S') → bnd y.1 dr' st' → porL s st' = st → dr' ++ porE s st' = dr ++ wdL l → aE aM190 (d + 4) 12 (exL st'.length dp 0 0) [] (gH scr kd n S') Q) →
  (∀ e, f x = .error e → mErr scr kd n d L S0 w0 tk lv df cl rest A0 ts ps Q e) → aE aM190 (d + 4) 12 (exL st.length dp 1 0) [] (gH scr kd n S) Q
theorem e_inner (hn : 67 ≤ n) (hl160 : ts.length ≤ 160) (hN : tsN ts) (h3 : ps.length ≤ 3) (hpo : ∀ y ∈ ps, nmOk y) (hP : nmF 27 ps (A0 64)) (hdp : dp ≤ 3) (hs : dp < 3 → xRd ts sm) (hse : dp < 3 → ∀ x y, xOk ts x → sm x = .ok y → kA ts y.1 ≠ 43 ∧ kA ts y.1 ≠ 45 ∧ kA ts y.1 ≠ 42 ∧ kA ts y.1 ≠ 47) (hsm : dp < 3 → mClm scr kd n d L S0 w0 tk lv df cl rest A0 ts ps 1 sm (dp + 1))
    {x : xSt} (hx : xOk ts x) (hb : bnd x.1 dr st) (hmi : kA ts x.1 = 45 → mi ≠ 0) (hX : (mX S0 w0 L tk ps.length lv df cl rest A0 ts (-1) x.1 x.2.1 dr st S))
    (k : ∀ y l S', inrA ts L ps sm dp x = .ok y → y.2.2 = x.2.2 ++ l → (mX S0 w0 L tk ps.length lv df cl rest A0 ts (-1) y.1 y.2.1 (dr ++ wdL l ++ porE 3 st) (porL 3 st) S') → bnd y.1 (dr ++ wdL l ++ porE 3 st) (porL 3 st) → aE aM190 (d + 4) 12 (exL (porL 3 st).length dp 0 0) [] (gH scr kd n S') Q) (ke : ∀ e, inrA ts L ps sm dp x = .error e → mErr scr kd n d L S0 w0 tk lv df cl rest A0 ts ps Q e) : aE aM190 (d + 4) 12 (exL st.length dp 1 mi) [] (gH scr kd n S) Q := by
  obtain ⟨x1, x2, x3, x4⟩ := hx
  obtain ⟨b1, b2, b3⟩ := hb
  have pl := porE_len (s := 3) st
  have pm : ∀ w ∈ porL 3 st, w < 2 ^ 20 := fun w hw => b3 w (porL_mem hw)
  have p1 := porE_len (s := 1) st
  have p31 := porE_len (s := 1) (porL 3 st)
  have failc : inrA ts L ps sm dp x = .error (plA ts L x.1) → kA ts x.1 ≠ 1 ∧ kA ts x.1 ≠ 30 → (kA ts x.1 = 40 → 3 ≤ dp) → aE aM190 (d + 4) 12 (exL st.length dp 1 mi) [] (gH scr kd n S) Q := fun e h1 h2 =>
    ex_fail hn x1 h1 hmi h2 hdp (by omega) (by omega) b3 hX (fun S' X' => ke _ e _ _ _ _ S' X' (by omega) x3 (by rw [List.length_append]; omega))
  by_cases c1 : kA ts x.1 = 1
  · have hlt := kA_lt c1 (by decide)
    have e : inrA ts L ps sm dp x = .ok (x.1 + 1, x.2.1, x.2.2 ++ [(1, dgA ts x.1, bhA ts x.1)]) := by unfold inrA; rw [if_pos c1]
    obtain ⟨S1, X1, a1⟩ := m_opnd_num (d := d) (scr := scr) (kd := kd) hn c1 (by omega) hX
    exact ex_opnd hn (Or.inl c1) (by rw [List.length_append]; show dr.length + 3 + _ ≤ _; omega) (by omega) b3 hX X1 a1 (fun S' X' => k _ [(1, dgA ts x.1, bhA ts x.1)] S' e rfl X' ⟨by rw [List.length_append, List.length_append]; show dr.length + 3 + _ + _ ≤ 3 * (x.1 + 1) + 8; omega, by show _ ≤ x.1 + 1; omega, pm⟩)
  by_cases c2 : kA ts x.1 = 30
  · have hlt := kA_lt c2 (by decide)
    have op := m_opnd_name (d := d) (scr := scr) (kd := kd) hn c2 h3 hpo hP x3 x4 (by omega) hX
    cases e : slA ps x.2.1 (nmA ts x.1) with
    | none =>
      have e' : inrA ts L ps sm dp x = .error (plA ts L x.1) := by unfold inrA; rw [if_neg c1, if_pos c2, e]
      obtain ⟨S1, X1, a1⟩ := op.2 e
      exact ex_opndE hn c2 (by rw [List.length_append]; show dr.length + 2 + _ ≤ _; omega) (by omega) b3 (by rw [List.length_append, List.length_append]; show dr.length + 2 + _ + _ ≤ _; omega) (by omega) pm hX X1 a1 (fun S' X' => ke _ e' _ _ _ _ S' X' (by omega) x3 (by rw [List.length_append, List.length_append, List.length_append]; show dr.length + 2 + _ + _ ≤ 600; omega))
    | some r =>
      obtain ⟨p, j, vs'⟩ := r
      have e' : inrA ts L ps sm dp x = .ok (x.1 + 1, vs', x.2.2 ++ [(p, j, 0)]) := by unfold inrA; rw [if_neg c1, if_pos c2, e]
      obtain ⟨S1, X1, a1⟩ := op.1 p j vs' e
      have so := slA_ok x3 x4 (nmA_ok hN c2) e
      have hw : wdL [(p, j, 0)] = [p, j] := by
        rcases so.2.2.2 with ⟨rfl, -⟩ | ⟨rfl, -⟩ <;> rfl
      exact ex_opnd hn (Or.inr c2) (by rw [List.length_append]; show dr.length + 2 + _ ≤ _; omega) (by omega) b3 hX X1 a1 (fun S' X' => k _ [(p, j, 0)] S' e' rfl (by rw [hw]; exact X') ⟨by rw [hw, List.length_append, List.length_append]; show dr.length + 2 + _ + _ ≤ 3 * (x.1 + 1) + 8; omega, by show _ ≤ x.1 + 1; omega, pm⟩)
  by_cases c3 : kA ts x.1 = 40
  · have hlt := kA_lt c3 (by decide)
    by_cases c4 : 3 ≤ dp
    · exact failc (by unfold inrA; rw [if_neg c1, if_neg c2, if_pos c3, if_pos c4]) ⟨c1, c2⟩ (fun _ => c4)
    · have ok1 : xOk ts (x.1 + 1, x.2) := ⟨by show x.1 + 1 ≤ _; omega, by show x.2.2.length ≤ x.1 + 1; omega, x3, x4⟩
      refine ex_open hn c3 (by omega) (by omega) hX (fun S1 X1 => ?_)
      have n40 := por_no (s := 1) (w := 40) (r := st) (by decide)
      refine hsm (by omega) Q (x.1 + 1, x.2) dr (40 :: st) S1 ok1 ⟨by show dr.length + (st.length + 1) ≤ 3 * (x.1 + 1) + 8; omega, by show st.length + 1 ≤ x.1 + 1; omega, fun w hw => ?_⟩ n40.2 X1 (fun y l S' dr' st' e hy X' hb' hL hE => ?_) (fun e he => ke e (by unfold inrA; rw [if_neg c1, if_neg c2, if_pos c3, if_neg c4, he]))
      · rcases List.mem_cons.mp hw with rfl | hw
        · decide
        · exact b3 w hw
      · have yo := (hs (by omega) (x.1 + 1, x.2) y ok1 e).1
        obtain ⟨y1, y2, y3, y4⟩ := hse (by omega) (x.1 + 1, x.2) y ok1 e
        obtain ⟨q1, q2, q3⟩ := hb'
        have yl := yo.1
        have len := porE_len (s := 1) st'
        rw [hL] at len
        have len : _ + (st.length + 1) = st'.length := len
        by_cases c5 : kA ts y.1 = 41
        · have y5 := kA_lt c5 (by decide)
          refine ex_close hn c5 hdp (by omega) (by omega) q3 hL (by rw [List.length_append]; omega) (by omega) b3 X' (fun S2 X2 => ?_)
          rw [hE] at X2
          refine k (y.1 + 1, y.2) l S2 (by unfold inrA; rw [if_neg c1, if_neg c2, if_pos c3, if_neg c4, e]; dsimp only; rw [if_pos c5]) hy X2 ⟨?_, by show _ ≤ y.1 + 1; omega, pm⟩
          rw [← hE, List.length_append, List.length_append]
          show dr'.length + _ + _ + _ ≤ 3 * (y.1 + 1) + 8
          omega
        · exact ex_endE hn yl ⟨y1, y2, y3, y4⟩ c5 hdp (by omega) (by omega) q3 X' (fun S2 X2 => ke _ (by unfold inrA; rw [if_neg c1, if_neg c2, if_pos c3, if_neg c4, e]; dsimp only; rw [if_neg c5]) _ _ _ _ S2 X2 (by omega) yo.2.2.1 (by rw [List.length_append]; omega))
  exact failc (by unfold inrA; rw [if_neg c1, if_neg c2, if_neg c3]) ⟨c1, c2⟩ (fun z => absurd z c3)
end MSA
