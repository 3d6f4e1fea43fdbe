/-! the model reads any statement -/
section MSJ
variable {scr : List Value} {kd : Nat → Nat} {n d L t lv df cl : Nat} {fr : List (Nat × Nat × Nat)} {ds : List dEf} {cs : List cAl} {S0 A A0 S : Nat → List Value} {w0 : Value} {wr tk : Int32} {rest : List Value} {ts : List aTk} {vs ps : List (List Nat)} {dr st : List Nat} {s : Nat} {x : xSt} {f : Nat} {Q : aOut → aH → Prop}
theorem m_repC (hn : 67 ≤ n) (hl160 : ts.length ≤ 160) (hN : tsN ts) (h3 : ps.length ≤ 3) (hpo : ∀ y ∈ ps, nmOk y) (hp : ∀ t, plA ts L t < 2 ^ 20) (hls : ∀ f', f' < f → mLsC scr kd n d L S0 w0 tk rest ts ps ds Q f') (hf : fr.length + f = 3) (hx : xOk ts x) (hb : dr.length ≤ 3 * x.1) (hc : 3 * cs.length ≤ x.1) (hk : kA ts x.1 = 28) (h : mY S0 w0 L tk rest ts ps x dr fr ds cs S) (hhead : (fr ≠ [] ∧ kA ts x.1 ≠ 125) ∨ (fr = [] ∧ kA ts x.1 ≠ 34 ∧ kA ts x.1 ≠ 31)) (kk : ∀ r S', loopA (bkA ts L ps f) (sumA ts L ps 4 0) 28 dr.length x = .ok r → mY S0 w0 L tk rest ts ps r.1 (dr ++ r.2.1) fr ds (cs ++ r.2.2) S' → aE aM177 (d + 7) 35 [(0, .ref 56)] [] (gH scr kd n S') Q) (ke : ∀ e S', loopA (bkA ts L ps f) (sumA ts L ps 4 0) 28 dr.length x = .error e → mEz S0 w0 L tk rest e S' → aE aM177 (d + 7) 35 [(0, .ref 56)] [] (gH scr kd n S') Q) : aE aM177 (d + 7) 35 [(0, .ref 56)] [] (gH scr kd n S) Q := by
  have hx1 := hx.1
  have ok1 := xTick hx hk (by decide)
  have hlt := kA_lt hk (by decide)
  refine m_hdSt hn (by omega) (by omega) h hhead (m_stRepeat (d := d) hn hl160 hN h3 hpo hp hx (by omega) (by omega) h (by omega) hk (fun y S1 e1 k1 l1 h1 => ⟨rfl, ?_⟩) (fun e e1 S1 z => ⟨rfl, ke e S1 (by unfold loopA; rw [e1]) z⟩) (fun y e1 c1 S1 z => ⟨rfl, ke _ S1 ?_ z⟩))
  · obtain ⟨f', rfl⟩ : ∃ f', f = f' + 1 := ⟨f - 1, by omega⟩
    have hy := sumA_rd hN 4 0 _ y ok1 e1
    have hnw := nwW_len (x := x) hy.2 rfl
    obtain ⟨oy, g⟩ := hy
    have g1 : x.1 + 1 < y.1 := g.1
    have hw1 : (nwW x y).length + 3 * (x.1 + 1) ≤ 3 * y.1 := hnw.1
    have oy1 := xTick oy k1 (by decide)
    have ln : (dr ++ 0 :: (nwW x y ++ [28, 0])).length = dr.length + 1 + (nwW x y).length + 2 := by rw [List.length_append]; simp only [List.length_cons, List.length_append, List.length_nil]; omega
    refine hls f' (Nat.lt_succ_self _) (fr ++ [(1, dr.length + 1 + (nwW x y).length + 1, dr.length + 1 + (nwW x y).length)]) (by rw [List.length_append, List.length_singleton]; omega) (by simp) 160 (y.1 + 1, y.2) _ cs S1 (by show ts.length ≤ y.1 + 1 + 160; omega) oy1 (by rw [ln]; show _ ≤ 3 * (y.1 + 1); omega) (by show _ ≤ y.1 + 1; omega) h1 (fun z S2 e2 kz h2 => ?_) (fun e S2 he z => ke e S2 ?_ z)
    · rw [ln] at e2
      have eb : bkA ts L ps (f' + 1) (dr.length + 1 + (nwW x y).length + 2) y = .ok ((z.1.1 + 1, z.1.2), z.2) := by rw [bkA, if_pos k1, e2]; dsimp only; rw [if_pos kz]
      obtain ⟨z1, z2, z3, z4, z5, z6⟩ := bkA_rd hN (f' + 1) _ y _ oy eb
      have z1 : z.1.1 + 1 ≤ ts.length := z1.1
      have z5 : z.2.1.length + 3 * (y.1 + 2) ≤ 3 * (z.1.1 + 1) := z5
      have z6 : 3 * z.2.2.length + y.1 ≤ z.1.1 + 1 := z6
      have lz : (dr ++ 0 :: (nwW x y ++ [28, 0]) ++ z.2.1).length = dr.length + 1 + (nwW x y).length + 2 + z.2.1.length := by rw [List.length_append, ln]
      refine m_hdClose hn (by omega) (by rw [List.length_append, List.length_singleton]; omega) (by simp) h2 kz (m_closeLoop (d := d + 3) (f := (1, dr.length + 1 + (nwW x y).length + 1, dr.length + 1 + (nwW x y).length)) hn (by omega) (by omega) (Or.inl rfl) (by show (dr.length + 1 + (nwW x y).length) < 2 ^ 20; omega) (by show dr.length + 1 + (nwW x y).length + 1 < 800; omega) (by rw [lz]; omega) h2 (fun S3 h3 => ⟨rfl, ?_⟩))
      have ew : (dr ++ 0 :: (nwW x y ++ [28, 0]) ++ z.2.1 ++ [14, dr.length + 1 + (nwW x y).length]).set (dr.length + 1 + (nwW x y).length + 1) ((dr ++ 0 :: (nwW x y ++ [28, 0]) ++ z.2.1).length + 2) = dr ++ (0 :: (nwW x y ++ (28 :: (dr.length + 1 + (nwW x y).length + 2 + z.2.1.length + 2) :: (z.2.1 ++ [14, dr.length + 1 + (nwW x y).length])))) := by
        rw [lz]
        have lp : (dr ++ 0 :: nwW x y).length = dr.length + 1 + (nwW x y).length := by rw [List.length_append, List.length_cons]; omega
        have key := set_mid (p := dr ++ 0 :: nwW x y) (x := 28) (y := 0) (z := dr.length + 1 + (nwW x y).length + 2 + z.2.1.length + 2) (r := z.2.1 ++ [14, dr.length + 1 + (nwW x y).length])
        rw [lp] at key
        have e1 : dr ++ 0 :: (nwW x y ++ [28, 0]) ++ z.2.1 ++ [14, dr.length + 1 + (nwW x y).length] = dr ++ 0 :: nwW x y ++ [28, 0] ++ (z.2.1 ++ [14, dr.length + 1 + (nwW x y).length]) := by simp
        rw [e1, key]
        simp
      rw [ew] at h3
      refine kk _ S3 (by unfold loopA; rw [e1]; dsimp only; rw [eb]) ?_
      exact h3
    · rw [ln] at he
      unfold loopA
      rw [e1]
      dsimp only
      rw [bkA, if_pos k1]
      rcases he with he | ⟨z, hz, h3, h4⟩
      · rw [he]
      · rw [hz]
        dsimp only
        rw [if_neg h3, h4]
  · unfold loopA
    rw [e1]
    dsimp only
    cases f with
    | zero => rw [bkA]
    | succ f' =>
      rw [bkA, if_neg (fun c => c1 ⟨c, by omega⟩)]
theorem m_whlC (hn : 67 ≤ n) (hl160 : ts.length ≤ 160) (hN : tsN ts) (h3 : ps.length ≤ 3) (hpo : ∀ y ∈ ps, nmOk y) (hp : ∀ t, plA ts L t < 2 ^ 20) (hls : ∀ f', f' < f → mLsC scr kd n d L S0 w0 tk rest ts ps ds Q f') (hf : fr.length + f = 3) (hx : xOk ts x) (hb : dr.length ≤ 3 * x.1) (hc : 3 * cs.length ≤ x.1) (hk : kA ts x.1 = 29) (h : mY S0 w0 L tk rest ts ps x dr fr ds cs S) (hhead : (fr ≠ [] ∧ kA ts x.1 ≠ 125) ∨ (fr = [] ∧ kA ts x.1 ≠ 34 ∧ kA ts x.1 ≠ 31)) (kk : ∀ r S', loopA (bkA ts L ps f) (cndA ts L ps) 29 dr.length x = .ok r → mY S0 w0 L tk rest ts ps r.1 (dr ++ r.2.1) fr ds (cs ++ r.2.2) S' → aE aM177 (d + 7) 35 [(0, .ref 56)] [] (gH scr kd n S') Q) (ke : ∀ e S', loopA (bkA ts L ps f) (cndA ts L ps) 29 dr.length x = .error e → mEz S0 w0 L tk rest e S' → aE aM177 (d + 7) 35 [(0, .ref 56)] [] (gH scr kd n S') Q) : aE aM177 (d + 7) 35 [(0, .ref 56)] [] (gH scr kd n S) Q := by
  have hx1 := hx.1
  have ok1 := xTick hx hk (by decide)
  have hlt := kA_lt hk (by decide)
  refine m_hdSt hn (by omega) (by omega) h hhead (m_stWhile (d := d) hn hl160 hN h3 hpo hp hx (by omega) (by omega) h (by omega) hk (fun y S1 e1 k1 l1 h1 => ⟨rfl, ?_⟩) (fun e e1 S1 z => ⟨rfl, ke e S1 (by unfold loopA; rw [e1]) z⟩) (fun y e1 c1 S1 z => ⟨rfl, ke _ S1 ?_ z⟩))
  · obtain ⟨f', rfl⟩ : ∃ f', f = f' + 1 := ⟨f - 1, by omega⟩
    have hy := cndA_rd hN _ y ok1 e1
    have hnw := nwW_len (x := x) hy.2 rfl
    obtain ⟨oy, g⟩ := hy
    have g1 : x.1 + 1 < y.1 := g.1
    have hw1 : (nwW x y).length + 3 * (x.1 + 1) ≤ 3 * y.1 := hnw.1
    have oy1 := xTick oy k1 (by decide)
    have ln : (dr ++ 0 :: (nwW x y ++ [29, 0])).length = dr.length + 1 + (nwW x y).length + 2 := by rw [List.length_append]; simp only [List.length_cons, List.length_append, List.length_nil]; omega
    refine hls f' (Nat.lt_succ_self _) (fr ++ [(2, dr.length + 1 + (nwW x y).length + 1, dr.length + 1)]) (by rw [List.length_append, List.length_singleton]; omega) (by simp) 160 (y.1 + 1, y.2) _ cs S1 (by show ts.length ≤ y.1 + 1 + 160; omega) oy1 (by rw [ln]; show _ ≤ 3 * (y.1 + 1); omega) (by show _ ≤ y.1 + 1; omega) h1 (fun z S2 e2 kz h2 => ?_) (fun e S2 he z => ke e S2 ?_ z)
    · rw [ln] at e2
      have eb : bkA ts L ps (f' + 1) (dr.length + 1 + (nwW x y).length + 2) y = .ok ((z.1.1 + 1, z.1.2), z.2) := by rw [bkA, if_pos k1, e2]; dsimp only; rw [if_pos kz]
      obtain ⟨z1, z2, z3, z4, z5, z6⟩ := bkA_rd hN (f' + 1) _ y _ oy eb
      have z1 : z.1.1 + 1 ≤ ts.length := z1.1
      have z5 : z.2.1.length + 3 * (y.1 + 2) ≤ 3 * (z.1.1 + 1) := z5
      have z6 : 3 * z.2.2.length + y.1 ≤ z.1.1 + 1 := z6
      have lz : (dr ++ 0 :: (nwW x y ++ [29, 0]) ++ z.2.1).length = dr.length + 1 + (nwW x y).length + 2 + z.2.1.length := by rw [List.length_append, ln]
      refine m_hdClose hn (by omega) (by rw [List.length_append, List.length_singleton]; omega) (by simp) h2 kz (m_closeLoop (d := d + 3) (f := (2, dr.length + 1 + (nwW x y).length + 1, dr.length + 1)) hn (by omega) (by omega) (Or.inr rfl) (by show (dr.length + 1) < 2 ^ 20; omega) (by show dr.length + 1 + (nwW x y).length + 1 < 800; omega) (by rw [lz]; omega) h2 (fun S3 h3 => ⟨rfl, ?_⟩))
      have ew : (dr ++ 0 :: (nwW x y ++ [29, 0]) ++ z.2.1 ++ [14, dr.length + 1]).set (dr.length + 1 + (nwW x y).length + 1) ((dr ++ 0 :: (nwW x y ++ [29, 0]) ++ z.2.1).length + 2) = dr ++ (0 :: (nwW x y ++ (29 :: (dr.length + 1 + (nwW x y).length + 2 + z.2.1.length + 2) :: (z.2.1 ++ [14, dr.length + 1])))) := by
        rw [lz]
        have lp : (dr ++ 0 :: nwW x y).length = dr.length + 1 + (nwW x y).length := by rw [List.length_append, List.length_cons]; omega
        have key := set_mid (p := dr ++ 0 :: nwW x y) (x := 29) (y := 0) (z := dr.length + 1 + (nwW x y).length + 2 + z.2.1.length + 2) (r := z.2.1 ++ [14, dr.length + 1])
        rw [lp] at key
        have e1 : dr ++ 0 :: (nwW x y ++ [29, 0]) ++ z.2.1 ++ [14, dr.length + 1] = dr ++ 0 :: nwW x y ++ [29, 0] ++ (z.2.1 ++ [14, dr.length + 1]) := by simp
        rw [e1, key]
        simp
      rw [ew] at h3
      refine kk _ S3 (by unfold loopA; rw [e1]; dsimp only; rw [eb]) ?_
      exact h3
    · rw [ln] at he
      unfold loopA
      rw [e1]
      dsimp only
      rw [bkA, if_pos k1]
      rcases he with he | ⟨z, hz, h3, h4⟩
      · rw [he]
      · rw [hz]
        dsimp only
        rw [if_neg h3, h4]
  · unfold loopA
    rw [e1]
    dsimp only
    cases f with
    | zero => rw [bkA]
    | succ f' =>
      rw [bkA, if_neg (fun c => c1 ⟨c, by omega⟩)]
end MSJ
