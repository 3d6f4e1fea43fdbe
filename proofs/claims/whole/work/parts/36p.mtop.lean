/-! the model reads a text -/
section MSP
variable {scr : List Value} {kd : Nat → Nat} {n d L t lv df cl : Nat} {fr : List (Nat × Nat × Nat)} {ds : List dEf} {cs : List cAl} {S0 A A0 S : Nat → List Value} {w0 : Value} {wr tk : Int32} {rest : List Value} {ts : List aTk} {vs ps : List (List Nat)} {dr st : List Nat} {s : Nat} {x : xSt} {Q : aOut → aH → Prop}
theorem tsA_df (h : kA ts x.1 = 31) {a : Nat} : tsA ts L a (x, ds) = dfA ts L a (x, ds) := by unfold tsA; rw [if_pos h]
theorem tsA_st (h : kA ts x.1 ≠ 31) {a : Nat} : tsA ts L a (x, ds) = match stA ts L [] (bkA ts L [] 3) a x with | .error e => .error e | .ok y => .ok ((y.1, ds), y.2) := by unfold tsA; rw [if_neg h]; rfl
theorem dfA_ok {a : Nat} {q : Nat × List (List Nat)} {z : sRes} (c1 : kA ts (x.1 + 1) = 30 ∧ hasD ds (nmA ts (x.1 + 1)) = false) (e1 : prA ts L 3 (x.1 + 2) [] = .ok q) (c2 : kA ts q.1 = 123) (e2 : lsA (kxA ts) (stA ts L q.2 (bkA ts L q.2 2)) 125 160 (a + 2) (q.1 + 1, x.2) = .ok z) (c3 : kA ts z.1.1 = 125) : bkA ts L q.2 3 (a + 2) (q.1, x.2) = .ok ((z.1.1 + 1, z.1.2), z.2) ∧ dfA ts L a (x, ds) = .ok (((z.1.1 + 1, z.1.2), ds ++ [(nmA ts (x.1 + 1), q.2.length, a + 2)]), 14 :: (a + 2 + z.2.1.length + 1) :: (z.2.1 ++ [17]), z.2.2) := by
  have eb : bkA ts L q.2 3 (a + 2) (q.1, x.2) = .ok ((z.1.1 + 1, z.1.2), z.2) := by rw [bkA, if_pos c2, e2]; dsimp only; rw [if_pos c3]
  exact ⟨eb, by unfold dfA; rw [if_pos c1, e1]; dsimp only; rw [eb]⟩
theorem m_top (hn : 67 ≤ n) (hl160 : ts.length ≤ 160) (hN : tsN ts) (hp : ∀ t, plA ts L t < 2 ^ 20) (h160 : ∀ t, plA ts L t ≤ 160) (hP : plO ts L) : ∀ (k : Nat) (x : xSt) (ds : List dEf) (dr : List Nat) (cs : List cAl) (S : Nat → List Value), ts.length ≤ x.1 + k → xOk ts x → dr.length ≤ 3 * x.1 → 3 * cs.length ≤ x.1 → 6 * ds.length ≤ plA ts L x.1 → (∀ d ∈ ds, nmOk d.1) → mY S0 w0 L tk rest ts [] x dr [] ds cs S → (∀ y S', lsA (gxA ts) (tsA ts L) 34 k dr.length (x, ds) = .ok y → kA ts y.1.1.1 = 34 → mY S0 w0 L tk rest ts [] y.1.1 (dr ++ y.2.1) [] y.1.2 (cs ++ y.2.2) S' → aE aM177 (d + 7) 110 [(0, .ref 56)] [] (gH scr kd n S') Q) → (∀ e S', lsA (gxA ts) (tsA ts L) 34 k dr.length (x, ds) = .error e → mEz S0 w0 L tk rest e S' → aE aM177 (d + 7) 35 [(0, .ref 56)] [] (gH scr kd n S') Q) → aE aM177 (d + 7) 35 [(0, .ref 56)] [] (gH scr kd n S) Q := by
  have fin : ∀ (x : xSt) (ds : List dEf) (dr : List Nat) (cs : List cAl) (S : Nat → List Value), xOk ts x → kA ts x.1 = 34 → mY S0 w0 L tk rest ts [] x dr [] ds cs S → (mY S0 w0 L tk rest ts [] x (dr ++ []) [] ds (cs ++ []) S → aE aM177 (d + 7) 110 [(0, .ref 56)] [] (gH scr kd n S) Q) → aE aM177 (d + 7) 35 [(0, .ref 56)] [] (gH scr kd n S) Q := fun x ds dr cs S hx hk h kk => m_hdEnd hn hx.1 h hk (kk (by rw [List.append_nil, List.append_nil]; exact h))
  intro k
  induction k with
  | zero =>
    intro x ds dr cs S hk hx hb hc hd hv h kk ke
    have h34 : kA ts x.1 = 34 := by unfold kA; rw [List.getElem?_eq_none (by omega)]
    exact fin x ds dr cs S hx h34 h (fun h' => kk ((x, ds), [], []) S rfl h34 h')
  | succ k ih =>
    intro x ds dr cs S hk hx hb hc hd hv h kk ke
    have hx1 := hx.1
    rw [lsA] at kk ke
    by_cases c : kA ts x.1 = 34
    · rw [if_pos (show gxA ts (x, ds) = 34 from c)] at kk
      exact fin x ds dr cs S hx c h (fun h' => kk ((x, ds), [], []) S rfl c h')
    rw [if_neg (show ¬ gxA ts (x, ds) = 34 from c)] at kk ke
    -- one statement read
    have go : ∀ y S1, tsA ts L dr.length (x, ds) = .ok y → mY S0 w0 L tk rest ts [] y.1.1 (dr ++ y.2.1) [] y.1.2 (cs ++ y.2.2) S1 → aE aM177 (d + 7) 35 [(0, .ref 56)] [] (gH scr kd n S1) Q := fun y S1 e1 h1 => by
      rw [e1] at kk ke
      dsimp only at kk ke
      obtain ⟨r1, r2, r3, r4, r5, l, r6, r7, r8⟩ := tsA_rd hN hP _ (x, ds) y hx e1
      have r2 : x.1 + 1 ≤ y.1.1.1 := r2
      have r3 : y.2.1.length + 3 * x.1 ≤ 3 * y.1.1.1 := r3
      have r4 : 3 * y.2.2.length + x.1 ≤ y.1.1.1 := r4
      have r6 : y.1.2 = ds ++ l := r6
      have r7 : 6 * l.length + plA ts L x.1 ≤ plA ts L y.1.1.1 := r7
      refine ih y.1.1 y.1.2 (dr ++ y.2.1) (cs ++ y.2.2) S1 (by omega) r1 (by rw [List.length_append]; omega) (by rw [List.length_append]; omega) (by rw [r6, List.length_append]; omega) (fun d hd' => ?_) h1 (fun z S2 e2 hz h2 => ?_) (fun e S2 he z => ?_)
      · rw [r6] at hd'
        rcases List.mem_append.mp hd' with g | g
        · exact hv d g
        · exact (r8 d g).2.1
      · rw [List.length_append] at e2
        rw [e2] at kk
        dsimp only at kk
        rw [List.append_assoc, List.append_assoc] at h2
        exact kk _ S2 rfl hz h2
      · rw [List.length_append] at he
        rw [he] at ke
        exact ke e S2 rfl z
    have ge : ∀ e S1, tsA ts L dr.length (x, ds) = .error e → mEz S0 w0 L tk rest e S1 → aE aM177 (d + 7) 35 [(0, .ref 56)] [] (gH scr kd n S1) Q := fun e S1 he z => by
      rw [he] at ke
      exact ke e S1 rfl z
    by_cases c2 : kA ts x.1 = 31
    · rw [tsA_df c2] at go ge
      have lx := kA_lt c2 (by decide)
      have := h160 x.1
      refine m_hdDef hn hx1 h c2 (m_defn (d := d + 2) hn hl160 hN hp hx hb (by omega) (by omega) hv c2 h (fun q S1 c3 e3 c4 h1 => ⟨rfl, ?_⟩) (fun e S1 he z => ⟨rfl, ge e S1 ?_ z⟩))
      · have lx1 := kA_lt c3.1 (by decide)
        obtain ⟨p1, p2, p3, p4⟩ := prA_rd hN 3 (x.1 + 2) [] q (by omega) (fun y hy => by cases hy) e3
        have p4 : q.2.length ≤ 0 + 3 := p4
        have lq := kA_lt c4 (by decide)
        have oq : xOk ts (q.1, x.2) := ⟨p1, by show x.2.2.length ≤ q.1; have := hx.2.1; omega, hx.2.2.1, hx.2.2.2⟩
        have ln : (dr ++ [14, 0]).length = dr.length + 2 := by rw [List.length_append]; rfl
        refine (m_stRec (d := d) (ps := q.2) (ds := (ds ++ [(nmA ts (x.1 + 1), q.2.length, dr.length + 2)])) (Q := Q) hn hl160 hN (by omega) p3 hp 3).2 2 (by decide) [(0, dr.length + 1, 0)] rfl (by simp) 160 (q.1 + 1, x.2) _ cs S1 (by show ts.length ≤ q.1 + 1 + 160; omega) (xTick oq c4 (by decide)) (by rw [ln]; show _ ≤ 3 * (q.1 + 1); omega) (by show _ ≤ q.1 + 1; omega) h1 (fun z S2 e2 kz h2 => ?_) (fun e S2 he z => ge e S2 ?_ z)
        · rw [ln] at e2
          obtain ⟨eb, ed⟩ := dfA_ok c3 e3 c4 e2 kz
          obtain ⟨z1, z2, z3, z4, z5, z6⟩ := bkA_rd hN 3 _ _ _ oq eb
          have z1 : z.1.1 + 1 ≤ ts.length := z1.1
          have z5 : z.2.1.length + 3 * (q.1 + 2) ≤ 3 * (z.1.1 + 1) := z5
          have lz : (dr ++ [14, 0] ++ z.2.1).length = dr.length + 2 + z.2.1.length := by rw [List.length_append, ln]
          refine m_hdClose hn (by omega) (by show 1 ≤ 3; decide) (by simp) h2 kz (m_closeTo (d := d + 3) (fr := []) (f := (0, dr.length + 1, 0)) hn (by omega) (by decide) rfl (by show dr.length + 1 < 800; omega) (by rw [lz]; omega) h2 (fun S3 h3 => ⟨rfl, ?_⟩))
          have ew : (dr ++ [14, 0] ++ z.2.1 ++ [17]).set (dr.length + 1) ((dr ++ [14, 0] ++ z.2.1).length + 1) = dr ++ (14 :: (dr.length + 2 + z.2.1.length + 1) :: (z.2.1 ++ [17])) := by
            rw [lz, List.append_assoc (dr ++ _), set_mid]
          rw [ew] at h3
          exact go _ S3 ed h3
        · rw [ln] at he
          unfold dfA
          rw [if_pos c3, e3]
          dsimp only
          rw [bkA, if_pos c4]
          rcases he with he | ⟨z, hz, h3, h4⟩
          · rw [he]
          · rw [hz]
            dsimp only
            rw [if_neg h3, h4]
      · unfold dfA
        rcases he with ⟨h1, h2⟩ | ⟨h1, h2⟩
        · rw [if_neg h1, h2]
        · rw [if_pos h1]
          rcases h2 with h2 | ⟨q, h2, h3, h4⟩
          · rw [h2]
          · rw [h2]
            dsimp only
            rw [bkA, if_neg h3, h4]
    · rw [tsA_st c2] at go ge
      refine (m_stRec (d := d) (ps := []) (ds := ds) (Q := Q) hn hl160 hN (by decide) (fun y hy => by cases hy) hp 3).1 [] x dr cs S rfl hx hb hc h (Or.inr ⟨rfl, c, c2⟩) (fun r S1 e1 h1 => ?_) (fun e S1 he z => ?_)
      · rw [e1] at go
        exact go _ S1 rfl h1
      · rw [he] at ge
        exact ge e S1 rfl z
end MSP
