/-! the model reads if, and any statement -/
section MSK
variable {scr : List Value} {kd : Nat → Nat} {n d L t lv df cl : Nat} {fr : List (Nat × Nat × Nat)} {ds : List dEf} {cs : List cAl} {S0 A A0 S : Nat → List Value} {w0 : Value} {wr tk : Int32} {rest : List Value} {ts : List aTk} {vs ps : List (List Nat)} {dr st : List Nat} {s : Nat} {x : xSt} {f : Nat} {Q : aOut → aH → Prop}
theorem m_ifC (hn : 67 ≤ n) (hl160 : ts.length ≤ 160) (hN : tsN ts) (h3 : ps.length ≤ 3) (hpo : ∀ y ∈ ps, nmOk y) (hp : ∀ t, plA ts L t < 2 ^ 20) (hls : ∀ f', f' < f → mLsC scr kd n d L S0 w0 tk rest ts ps ds Q f') (hf : fr.length + f = 3) (hx : xOk ts x) (hb : dr.length ≤ 3 * x.1) (hc : 3 * cs.length ≤ x.1) (hk : kA ts x.1 = 15) (h : mY S0 w0 L tk rest ts ps x dr fr ds cs S) (hhead : (fr ≠ [] ∧ kA ts x.1 ≠ 125) ∨ (fr = [] ∧ kA ts x.1 ≠ 34 ∧ kA ts x.1 ≠ 31)) (kk : ∀ r S', ifA ts L ps (bkA ts L ps f) dr.length x = .ok r → mY S0 w0 L tk rest ts ps r.1 (dr ++ r.2.1) fr ds (cs ++ r.2.2) S' → aE aM177 (d + 7) 35 [(0, .ref 56)] [] (gH scr kd n S') Q) (ke : ∀ e S', ifA ts L ps (bkA ts L ps f) dr.length x = .error e → mEz S0 w0 L tk rest e S' → aE aM177 (d + 7) 35 [(0, .ref 56)] [] (gH scr kd n S') Q) : aE aM177 (d + 7) 35 [(0, .ref 56)] [] (gH scr kd n S) Q := by
  have hx1 := hx.1
  have ok1 := xTick hx hk (by decide)
  have hlt := kA_lt hk (by decide)
  refine m_hdSt hn (by omega) (by omega) h hhead (m_stIf (d := d) hn hl160 hN h3 hpo hp hx (by omega) (by omega) h (by omega) hk (fun y S1 e1 k1 l1 h1 => ⟨rfl, ?_⟩) (fun e e1 S1 z => ⟨rfl, ke e S1 (by unfold ifA; rw [e1]) z⟩) (fun y e1 c1 S1 z => ⟨rfl, ke _ S1 ?_ z⟩))
  · obtain ⟨f', rfl⟩ : ∃ f', f = f' + 1 := ⟨f - 1, by omega⟩
    have hy := cndA_rd hN _ y ok1 e1
    have hnw := nwW_len (x := x) hy.2 rfl
    obtain ⟨oy, g⟩ := hy
    have g1 : x.1 + 1 < y.1 := g.1
    have hw1 : (nwW x y).length + 3 * (x.1 + 1) ≤ 3 * y.1 := hnw.1
    have oy1 := xTick oy k1 (by decide)
    have ln : (dr ++ 0 :: (nwW x y ++ [15, 0])).length = dr.length + 1 + (nwW x y).length + 2 := by rw [List.length_append]; simp only [List.length_cons, List.length_append, List.length_nil]; omega
    have lp : (dr ++ 0 :: nwW x y).length = dr.length + 1 + (nwW x y).length := by rw [List.length_append, List.length_cons]; omega
    have eD : dr ++ 0 :: (nwW x y ++ [15, 0]) = dr ++ 0 :: nwW x y ++ [15, 0] := by simp
    refine hls f' (Nat.lt_succ_self _) (fr ++ [(3, dr.length + 1 + (nwW x y).length + 1, dr.length + 1)]) (by rw [List.length_append, List.length_singleton]; omega) (by simp) 160 (y.1 + 1, y.2) _ cs S1 (by show ts.length ≤ y.1 + 1 + 160; omega) oy1 (by rw [ln]; show _ ≤ 3 * (y.1 + 1); omega) (by show _ ≤ y.1 + 1; omega) h1 (fun z S2 e2 kz h2 => ?_) (fun e S2 he z => ke e S2 ?_ z)
    · rw [ln] at e2
      have eb : bkA ts L ps (f' + 1) (dr.length + 1 + (nwW x y).length + 2) y = .ok ((z.1.1 + 1, z.1.2), z.2) := by rw [bkA, if_pos k1, e2]; dsimp only; rw [if_pos kz]
      obtain ⟨z1, z2, z3, z4, z5, z6⟩ := bkA_rd hN (f' + 1) _ y _ oy eb
      have oz1 : xOk ts (z.1.1 + 1, z.1.2) := z1
      have z1 : z.1.1 + 1 ≤ ts.length := z1.1
      have z5 : z.2.1.length + 3 * (y.1 + 2) ≤ 3 * (z.1.1 + 1) := z5
      have z6 : 3 * z.2.2.length + y.1 ≤ z.1.1 + 1 := z6
      have z2 : y.1 + 2 ≤ z.1.1 + 1 := z2
      have lz : (dr ++ 0 :: (nwW x y ++ [15, 0]) ++ z.2.1).length = dr.length + 1 + (nwW x y).length + 2 + z.2.1.length := by rw [List.length_append, ln]
      refine m_hdClose hn (by omega) (by rw [List.length_append, List.length_singleton]; omega) (by simp) h2 kz (m_closeIf (d := d + 3) (f := (3, dr.length + 1 + (nwW x y).length + 1, dr.length + 1)) hn (by omega) (by omega) rfl (by show dr.length + 1 + (nwW x y).length + 1 < 800; omega) (by rw [lz]; omega) (by rw [List.length_append]; omega) h2 (fun c S3 h3 => ⟨rfl, ?_⟩) (fun c c2 l2 S3 h3 => ⟨rfl, ?_⟩) (fun c c2 S3 z' => ⟨rfl, ?_⟩))
      · have key := set_mid (p := dr ++ 0 :: nwW x y) (x := 15) (y := 0) (z := dr.length + 1 + (nwW x y).length + 2 + z.2.1.length) (r := z.2.1)
        rw [lp] at key
        have ew : (dr ++ 0 :: (nwW x y ++ [15, 0]) ++ z.2.1).set (dr.length + 1 + (nwW x y).length + 1) (dr ++ 0 :: (nwW x y ++ [15, 0]) ++ z.2.1).length = dr ++ (0 :: (nwW x y ++ (15 :: (dr.length + 1 + (nwW x y).length + 2 + z.2.1.length) :: z.2.1))) := by
          rw [lz, eD, key]
          simp
        rw [ew] at h3
        exact kk _ S3 (by unfold ifA; rw [e1]; dsimp only; rw [eb]; dsimp only; rw [if_neg c]) h3
      · have key := set_mid (p := dr ++ 0 :: nwW x y) (x := 15) (y := 0) (z := dr.length + 1 + (nwW x y).length + 2 + z.2.1.length + 2) (r := z.2.1 ++ [14, 0])
        rw [lp] at key
        have ew : (dr ++ 0 :: (nwW x y ++ [15, 0]) ++ z.2.1 ++ [14, 0]).set (dr.length + 1 + (nwW x y).length + 1) ((dr ++ 0 :: (nwW x y ++ [15, 0]) ++ z.2.1).length + 2) = dr ++ (0 :: (nwW x y ++ (15 :: (dr.length + 1 + (nwW x y).length + 2 + z.2.1.length + 2) :: (z.2.1 ++ [14, 0])))) := by
          rw [lz, eD, List.append_assoc (dr ++ 0 :: nwW x y ++ [15, 0]), key]
          simp
        rw [ew, lz] at h3
        have ln3 : (dr ++ (0 :: (nwW x y ++ (15 :: (dr.length + 1 + (nwW x y).length + 2 + z.2.1.length + 2) :: (z.2.1 ++ [14, 0]))))).length = dr.length + 1 + (nwW x y).length + 2 + z.2.1.length + 2 := by simp only [List.length_cons, List.length_append, List.length_nil]; omega
        have hlt2 := kA_lt c2 (by decide)
        have ou : xOk ts (z.1.1 + 2, z.1.2) := xTick oz1 c (by decide)
        have ou2 : xOk ts (z.1.1 + 3, z.1.2) := xTick ou c2 (by decide)
        refine hls f' (Nat.lt_succ_self _) (fr ++ [(4, dr.length + 1 + (nwW x y).length + 2 + z.2.1.length + 1, 0)]) (by rw [List.length_append, List.length_singleton]; omega) (by simp) 160 (z.1.1 + 3, z.1.2) _ (cs ++ z.2.2) S3 (by show ts.length ≤ z.1.1 + 3 + 160; omega) ou2 (by rw [ln3]; show _ ≤ 3 * (z.1.1 + 3); omega) (by rw [List.length_append]; show _ ≤ z.1.1 + 3; omega) h3 (fun u S4 e4 ku h4 => ?_) (fun e S4 he z' => ke e S4 ?_ z')
        · rw [ln3] at e4
          have eb2 : bkA ts L ps (f' + 1) (dr.length + 1 + (nwW x y).length + 2 + z.2.1.length + 2) (z.1.1 + 1 + 1, z.1.2) = .ok ((u.1.1 + 1, u.1.2), u.2) := by rw [bkA, if_pos c2, e4]; dsimp only; rw [if_pos ku]
          obtain ⟨u1, u2, u3, u4, u5, u6⟩ := bkA_rd hN (f' + 1) _ _ _ ou eb2
          have u1 : u.1.1 + 1 ≤ ts.length := u1.1
          have u5 : u.2.1.length + 3 * (z.1.1 + 2 + 2) ≤ 3 * (u.1.1 + 1) := u5
          have l4 : (dr ++ (0 :: (nwW x y ++ (15 :: (dr.length + 1 + (nwW x y).length + 2 + z.2.1.length + 2) :: (z.2.1 ++ [14, 0])))) ++ u.2.1).length = dr.length + 1 + (nwW x y).length + 2 + z.2.1.length + 2 + u.2.1.length := by rw [List.length_append, ln3]
          refine m_hdClose hn (by omega) (by rw [List.length_append, List.length_singleton]; omega) (by simp) h4 ku (m_closeElse (d := d + 3) (f := (4, dr.length + 1 + (nwW x y).length + 2 + z.2.1.length + 1, 0)) hn (by omega) (by omega) rfl (by show dr.length + 1 + (nwW x y).length + 2 + z.2.1.length + 1 < 800; omega) (by rw [l4]; omega) h4 (fun S5 h5 => ⟨rfl, ?_⟩))
          have lq : (dr ++ (0 :: (nwW x y ++ (15 :: (dr.length + 1 + (nwW x y).length + 2 + z.2.1.length + 2) :: z.2.1)))).length = dr.length + 1 + (nwW x y).length + 2 + z.2.1.length := by simp only [List.length_cons, List.length_append]; omega
          have key2 := set_mid (p := dr ++ (0 :: (nwW x y ++ (15 :: (dr.length + 1 + (nwW x y).length + 2 + z.2.1.length + 2) :: z.2.1)))) (x := 14) (y := 0) (z := dr.length + 1 + (nwW x y).length + 2 + z.2.1.length + 2 + u.2.1.length) (r := u.2.1)
          rw [lq] at key2
          have ew2 : (dr ++ (0 :: (nwW x y ++ (15 :: (dr.length + 1 + (nwW x y).length + 2 + z.2.1.length + 2) :: (z.2.1 ++ [14, 0])))) ++ u.2.1).set (dr.length + 1 + (nwW x y).length + 2 + z.2.1.length + 1) (dr ++ (0 :: (nwW x y ++ (15 :: (dr.length + 1 + (nwW x y).length + 2 + z.2.1.length + 2) :: (z.2.1 ++ [14, 0])))) ++ u.2.1).length = dr ++ (0 :: (nwW x y ++ (15 :: (dr.length + 1 + (nwW x y).length + 2 + z.2.1.length + 2) :: (z.2.1 ++ (14 :: (dr.length + 1 + (nwW x y).length + 2 + z.2.1.length + 2 + u.2.1.length) :: u.2.1))))) := by
            have e0 : dr ++ (0 :: (nwW x y ++ (15 :: (dr.length + 1 + (nwW x y).length + 2 + z.2.1.length + 2) :: (z.2.1 ++ [14, 0])))) ++ u.2.1 = dr ++ (0 :: (nwW x y ++ (15 :: (dr.length + 1 + (nwW x y).length + 2 + z.2.1.length + 2) :: z.2.1))) ++ [14, 0] ++ u.2.1 := by simp
            rw [l4, e0, key2]
            simp
          rw [ew2] at h5
          have h5 : mY S0 w0 L tk rest ts ps (u.1.1 + 1, u.1.2) (dr ++ (0 :: (nwW x y ++ (15 :: (dr.length + 1 + (nwW x y).length + 2 + z.2.1.length + 2) :: (z.2.1 ++ (14 :: (dr.length + 1 + (nwW x y).length + 2 + z.2.1.length + 2 + u.2.1.length) :: u.2.1)))))) fr ds (cs ++ (z.2.2 ++ u.2.2)) S5 := by rw [← List.append_assoc]; exact h5
          exact kk ((u.1.1 + 1, u.1.2), 0 :: (nwW x y ++ (15 :: (dr.length + 1 + (nwW x y).length + 2 + z.2.1.length + 2) :: (z.2.1 ++ (14 :: (dr.length + 1 + (nwW x y).length + 2 + z.2.1.length + 2 + u.2.1.length) :: u.2.1)))), z.2.2 ++ u.2.2) S5 (by unfold ifA; rw [e1]; dsimp only; rw [eb]; dsimp only; rw [if_pos c]; rw [eb2]) h5
        · rw [ln3] at he
          unfold ifA
          rw [e1]
          dsimp only
          rw [eb]
          dsimp only
          rw [if_pos c, bkA, if_pos (show kA ts (z.1.1 + 1 + 1) = 123 from c2)]
          rcases he with he | ⟨u, hu, h3, h4⟩
          · rw [he]
          · rw [hu]
            dsimp only
            rw [if_neg h3, h4]
      · refine ke _ S3 ?_ z'
        unfold ifA
        rw [e1]
        dsimp only
        rw [eb]
        dsimp only
        rw [if_pos c, bkA, if_neg (fun w => c2 ⟨w, by omega⟩)]
    · rw [ln] at he
      unfold ifA
      rw [e1]
      dsimp only
      rw [bkA, if_pos k1]
      rcases he with he | ⟨z, hz, h3, h4⟩
      · rw [he]
      · rw [hz]
        dsimp only
        rw [if_neg h3, h4]
  · unfold ifA
    rw [e1]
    dsimp only
    cases f with
    | zero => rw [bkA]
    | succ f' =>
      rw [bkA, if_neg (fun c => c1 ⟨c, by omega⟩)]
theorem m_stAll (hn : 67 ≤ n) (hl160 : ts.length ≤ 160) (hN : tsN ts) (h3 : ps.length ≤ 3) (hpo : ∀ y ∈ ps, nmOk y) (hp : ∀ t, plA ts L t < 2 ^ 20) (f : Nat) (hls : ∀ f', f' < f → mLsC scr kd n d L S0 w0 tk rest ts ps ds Q f') : mStC scr kd n d L S0 w0 tk rest ts ps ds Q f := by
  intro fr x dr cs S hf hx hb hc h hhead kk ke
  have hx1 := hx.1
  by_cases c1 : 18 ≤ kA ts x.1 ∧ kA ts x.1 ≤ 22
  · rw [stA_lo c1] at kk ke
    exact m_hdSt hn (by omega) (by omega) h hhead (m_stOne (d := d) hn hl160 hN h3 hpo hp hx (by omega) (by omega) h c1 (fun y ws S1 e1 h1 => ⟨rfl, kk _ S1 e1 (by show mY S0 w0 L tk rest ts ps y (dr ++ ws) fr ds (cs ++ []) S1; rw [List.append_nil]; exact h1)⟩) (fun e e1 S1 z => ⟨rfl, ke e S1 e1 z⟩))
  by_cases c2 : kA ts x.1 = 17 ∨ (23 ≤ kA ts x.1 ∧ kA ts x.1 ≤ 26)
  · rw [stA_pl c2] at kk ke
    exact m_hdSt hn (by omega) (by omega) h hhead (m_stPlain (d := d) hn hl160 hN h3 hpo hp hx (by omega) (by omega) h c2 (fun S1 h1 => ⟨rfl, kk _ S1 rfl (by show mY S0 w0 L tk rest ts ps (x.1 + 1, x.2) (dr ++ [0, kA ts x.1]) fr ds (cs ++ []) S1; rw [List.append_nil]; exact h1)⟩))
  by_cases c3 : kA ts x.1 = 32
  · rw [stA_32 c3] at kk ke
    exact m_hdSt hn (by omega) (by omega) h hhead (m_stLet (d := d) hn hl160 hN h3 hpo hp hx (by omega) (by omega) h c3 (fun y ws S1 e1 h1 => ⟨rfl, kk _ S1 e1 (by show mY S0 w0 L tk rest ts ps y (dr ++ ws) fr ds (cs ++ []) S1; rw [List.append_nil]; exact h1)⟩) (fun e e1 S1 z => ⟨rfl, ke e S1 e1 z⟩))
  by_cases c4 : kA ts x.1 = 28
  · rw [stA_28 c4] at kk ke
    exact m_repC hn hl160 hN h3 hpo hp hls hf hx hb hc c4 h hhead kk ke
  by_cases c5 : kA ts x.1 = 29
  · rw [stA_29 c5] at kk ke
    exact m_whlC hn hl160 hN h3 hpo hp hls hf hx hb hc c5 h hhead kk ke
  by_cases c6 : kA ts x.1 = 15
  · rw [stA_15 c6] at kk ke
    exact m_ifC hn hl160 hN h3 hpo hp hls hf hx hb hc c6 h hhead kk ke
  by_cases c7 : kA ts x.1 = 30
  · rw [stA_30 c7] at kk ke
    exact m_hdSt hn (by omega) (by omega) h hhead (m_stCall (d := d) hn hl160 hN h3 hpo hp hx (by omega) (by omega) h c7 (fun r S1 e1 h1 => ⟨rfl, kk r S1 e1 h1⟩) (fun e e1 S1 z => ⟨rfl, ke e S1 e1 z⟩))
  · rw [stA_no c1 c2 c3 c4 c5 c6 c7] at ke
    exact m_hdSt hn (by omega) (by omega) h hhead (m_stElse (d := d) hn hl160 hN h3 hpo hp hx (by omega) (by omega) h c1 c2 c3 c4 c5 c6 c7 (fun S1 z => ⟨rfl, ke _ S1 rfl z⟩))
theorem m_stRec (hn : 67 ≤ n) (hl160 : ts.length ≤ 160) (hN : tsN ts) (h3 : ps.length ≤ 3) (hpo : ∀ y ∈ ps, nmOk y) (hp : ∀ t, plA ts L t < 2 ^ 20) : ∀ (f : Nat), mStC scr kd n d L S0 w0 tk rest ts ps ds Q f ∧ ∀ f', f' < f → mLsC scr kd n d L S0 w0 tk rest ts ps ds Q f'
  | 0 => ⟨m_stAll hn hl160 hN h3 hpo hp 0 (fun f' h => absurd h (Nat.not_lt_zero _)), fun f' h => absurd h (Nat.not_lt_zero _)⟩
  | f + 1 => by
    have h1 := m_stRec hn hl160 hN h3 hpo hp f
    have h2 : ∀ f', f' < f + 1 → mLsC scr kd n d L S0 w0 tk rest ts ps ds Q f' := fun f' h => by
      by_cases e : f' = f
      · subst e; exact m_ls hn hl160 hN h3 hpo hp h1.1
      · exact h1.2 f' (by omega)
    exact ⟨m_stAll hn hl160 hN h3 hpo hp (f + 1) h2, h2⟩
end MSK
