/-! the model reads blocks -/
def mStC (scr : List Value) (kd : Nat → Nat) (n d L : Nat) (S0 : Nat → List Value) (w0 : Value) (tk : Int32) (rest : List Value) (ts : List aTk) (ps : List (List Nat)) (ds : List dEf) (Q : aOut → aH → Prop) (f : Nat) : Prop := ∀ (fr : List (Nat × Nat × Nat)) (x : xSt) (dr : List Nat) (cs : List cAl) (S : Nat → List Value), fr.length + f = 3 → xOk ts x → dr.length ≤ 3 * x.1 → 3 * cs.length ≤ x.1 → mY S0 w0 L tk rest ts ps x dr fr ds cs S → ((fr ≠ [] ∧ kA ts x.1 ≠ 125) ∨ (fr = [] ∧ kA ts x.1 ≠ 34 ∧ kA ts x.1 ≠ 31)) → (∀ r S', stA ts L ps (bkA ts L ps f) dr.length x = .ok r → mY S0 w0 L tk rest ts ps r.1 (dr ++ r.2.1) fr ds (cs ++ r.2.2) S' → aE aM177 (d + 7) 35 [(0, .ref 56)] [] (gH scr kd n S') Q) → (∀ e S', stA ts L ps (bkA ts L ps f) dr.length x = .error e → mEz S0 w0 L tk rest e S' → aE aM177 (d + 7) 35 [(0, .ref 56)] [] (gH scr kd n S') Q) → aE aM177 (d + 7) 35 [(0, .ref 56)] [] (gH scr kd n S) Q
def mLsC (scr : List Value) (kd : Nat → Nat) (n d L : Nat) (S0 : Nat → List Value) (w0 : Value) (tk : Int32) (rest : List Value) (ts : List aTk) (ps : List (List Nat)) (ds : List dEf) (Q : aOut → aH → Prop) (f : Nat) : Prop := ∀ (fr : List (Nat × Nat × Nat)), fr.length + f = 3 → fr ≠ [] → ∀ (k : Nat) (x : xSt) (dr : List Nat) (cs : List cAl) (S : Nat → List Value), ts.length ≤ x.1 + k → xOk ts x → dr.length ≤ 3 * x.1 → 3 * cs.length ≤ x.1 → mY S0 w0 L tk rest ts ps x dr fr ds cs S → (∀ y S', lsA (kxA ts) (stA ts L ps (bkA ts L ps f)) 125 k dr.length x = .ok y → kA ts y.1.1 = 125 → mY S0 w0 L tk rest ts ps y.1 (dr ++ y.2.1) fr ds (cs ++ y.2.2) S' → aE aM177 (d + 7) 35 [(0, .ref 56)] [] (gH scr kd n S') Q) → (∀ e S', (lsA (kxA ts) (stA ts L ps (bkA ts L ps f)) 125 k dr.length x = .error e ∨ ∃ y, lsA (kxA ts) (stA ts L ps (bkA ts L ps f)) 125 k dr.length x = .ok y ∧ kA ts y.1.1 ≠ 125 ∧ e = plA ts L y.1.1) → mEz S0 w0 L tk rest e S' → aE aM177 (d + 7) 35 [(0, .ref 56)] [] (gH scr kd n S') Q) → aE aM177 (d + 7) 35 [(0, .ref 56)] [] (gH scr kd n S) Q
section MSI
variable {scr : List Value} {kd : Nat → Nat} {n d L t lv df cl : Nat} {fr : List (Nat × Nat × Nat)} {ds : List dEf} {cs : List cAl} {S0 A A0 S : Nat → List Value} {w0 : Value} {wr tk : Int32} {rest : List Value} {ts : List aTk} {vs ps : List (List Nat)} {dr st : List Nat} {s : Nat} {x : xSt} {f : Nat} {bl : Nat → xSt → Except Nat sRes} {a : Nat} {Q : aOut → aH → Prop}
theorem stA_lo (h : 18 ≤ kA ts x.1 ∧ kA ts x.1 ≤ 22) : stA ts L ps bl a x = sglA ts L ps x := by unfold stA; rw [if_pos h]
theorem stA_pl (h : kA ts x.1 = 17 ∨ (23 ≤ kA ts x.1 ∧ kA ts x.1 ≤ 26)) : stA ts L ps bl a x = .ok ((x.1 + 1, x.2), [0, kA ts x.1], []) := by unfold stA; rw [if_neg (by omega), if_pos h]
theorem stA_32 (h : kA ts x.1 = 32) : stA ts L ps bl a x = letA ts L ps x := by unfold stA; rw [if_neg (by omega), if_neg (by omega), if_pos h]
theorem stA_28 (h : kA ts x.1 = 28) : stA ts L ps bl a x = loopA bl (sumA ts L ps 4 0) 28 a x := by unfold stA; rw [if_neg (by omega), if_neg (by omega), if_neg (by omega), if_pos h]
theorem stA_29 (h : kA ts x.1 = 29) : stA ts L ps bl a x = loopA bl (cndA ts L ps) 29 a x := by unfold stA; rw [if_neg (by omega), if_neg (by omega), if_neg (by omega), if_neg (by omega), if_pos h]
theorem stA_15 (h : kA ts x.1 = 15) : stA ts L ps bl a x = ifA ts L ps bl a x := by unfold stA; rw [if_neg (by omega), if_neg (by omega), if_neg (by omega), if_neg (by omega), if_neg (by omega), if_pos h]
theorem stA_30 (h : kA ts x.1 = 30) : stA ts L ps bl a x = callA ts L ps a x := by unfold stA; rw [if_neg (by omega), if_neg (by omega), if_neg (by omega), if_neg (by omega), if_neg (by omega), if_neg (by omega), if_pos h]
theorem stA_no (h1 : ¬ (18 ≤ kA ts x.1 ∧ kA ts x.1 ≤ 22)) (h2 : ¬ (kA ts x.1 = 17 ∨ (23 ≤ kA ts x.1 ∧ kA ts x.1 ≤ 26))) (h3 : kA ts x.1 ≠ 32) (h4 : kA ts x.1 ≠ 28) (h5 : kA ts x.1 ≠ 29) (h6 : kA ts x.1 ≠ 15) (h7 : kA ts x.1 ≠ 30) : stA ts L ps bl a x = .error (plA ts L x.1) := by unfold stA; rw [if_neg h1, if_neg h2, if_neg h3, if_neg h4, if_neg h5, if_neg h6, if_neg h7]
theorem m_ls (hn : 67 ≤ n) (hl160 : ts.length ≤ 160) (hN : tsN ts) (h3 : ps.length ≤ 3) (hpo : ∀ y ∈ ps, nmOk y) (hp : ∀ t, plA ts L t < 2 ^ 20) (hst : mStC scr kd n d L S0 w0 tk rest ts ps ds Q f) : mLsC scr kd n d L S0 w0 tk rest ts ps ds Q f := by
  intro fr hf hfr k
  induction k with
  | zero =>
    intro x dr cs S hk hx hb hc h kk ke
    have h34 : kA ts x.1 = 34 := by unfold kA; rw [List.getElem?_eq_none (by omega)]
    refine hst fr x dr cs S hf hx hb hc h (Or.inl ⟨hfr, by omega⟩) (fun r S' e _ => ?_) (fun e S' he z => ?_)
    · rw [stA_no (by omega) (by omega) (by omega) (by omega) (by omega) (by omega) (by omega)] at e
      cases e
    · rw [stA_no (by omega) (by omega) (by omega) (by omega) (by omega) (by omega) (by omega)] at he
      cases he
      exact ke _ S' (Or.inr ⟨(x, [], []), rfl, by show kA ts x.1 ≠ 125; omega, rfl⟩) z
  | succ k ih =>
    intro x dr cs S hk hx hb hc h kk ke
    rw [lsA] at kk ke
    by_cases c : kA ts x.1 = 125
    · rw [if_pos (show kxA ts x = 125 from c)] at kk
      exact kk _ S rfl c (by show mY S0 w0 L tk rest ts ps x (dr ++ []) fr ds (cs ++ []) S; rw [List.append_nil, List.append_nil]; exact h)
    · rw [if_neg (show ¬ kxA ts x = 125 from c)] at kk ke
      refine hst fr x dr cs S hf hx hb hc h (Or.inl ⟨hfr, c⟩) (fun r S1 e1 h1 => ?_) (fun e S' he z => ke e S' (Or.inl (by rw [he])) z)
      rw [e1] at kk ke
      dsimp only at kk ke
      obtain ⟨r1, r2, r3, r4, r5, r6⟩ := stA_rd hN (bkA_rd hN f) _ x r hx e1
      refine ih r.1 (dr ++ r.2.1) (cs ++ r.2.2) S1 (by omega) r1 (by rw [List.length_append]; omega) (by rw [List.length_append]; omega) h1 (fun y S2 e2 hy h2 => ?_) (fun e S2 he z => ?_)
      · rw [List.length_append] at e2
        rw [e2] at kk
        dsimp only at kk
        rw [List.append_assoc, List.append_assoc] at h2
        exact kk _ S2 rfl hy h2
      · rw [List.length_append] at he
        refine ke e S2 ?_ z
        rcases he with he | ⟨y, hy, h3, h4⟩
        · exact Or.inl (by rw [he])
        · exact Or.inr ⟨(y.1, r.2.1 ++ y.2.1, r.2.2 ++ y.2.2), by rw [hy], h3, h4⟩
end MSI
