/-! the model makes a program out of tokens -/
section MSR
variable {scr : List Value} {kd : Nat → Nat} {n d L t lv df cl : Nat} {fr : List (Nat × Nat × Nat)} {ds : List dEf} {cs : List cAl} {S0 A A0 S : Nat → List Value} {w0 : Value} {w : Nat → Value} {wr tk : Int32} {rest : List Value} {ts : List aTk} {vs ps : List (List Nat)} {dr st : List Nat} {s : Nat} {x : xSt} {Q : aOut → aH → Prop}
theorem m_make35 (hn : 67 ≤ n) (hl160 : ts.length ≤ 160) (hN : tsN ts) (hp : ∀ t, plA ts L t < 2 ^ 20) (h160 : ∀ t, plA ts L t ≤ 160) (hP : plO ts L) (h : mY S0 w0 L tk rest ts [] (0, [], []) [] [] [] [] S) (kk : ∀ r S', cplA ts L = .ok r → mY S0 w0 L tk rest ts [] r.1.1 r.2.2.2 [] r.1.2 r.2.2.1 S' → Q (.inl none) (gH scr kd n S')) (ke : ∀ e S', cplA ts L = .error e → mEn S0 w0 L tk rest e S' → Q (.inl none) (gH scr kd n S')) : aE aM177 (d + 7) 35 [(0, .ref 56)] [] (gH scr kd n S) Q := by
  refine m_top hn hl160 hN hp h160 hP 160 (0, [], []) [] [] [] S (by show ts.length ≤ 0 + 160; omega) ⟨Nat.zero_le _, Nat.zero_le _, Nat.zero_le _, fun y hy => by cases hy⟩ (Nat.zero_le _) (Nat.zero_le _) (Nat.zero_le _) (fun d hd => by cases hd) h (fun y S1 e1 hy h1 => ?_) (fun e S1 he z => ?_)
  · have e1 : tpA ts L = .ok y := e1
    obtain ⟨r1, r2, r3, r4, r5, r6⟩ := tpA_rd hN hP e1
    have nd := tpA_nd e1
    have r1 := r1.1
    have r7 := h160 y.1.1.1
    unfold cplA at kk ke
    rw [e1] at kk ke
    dsimp only at kk ke
    rw [List.nil_append, List.nil_append] at h1
    obtain ⟨A0, X1, hR⟩ := h1
    obtain ⟨S2, X2, a2⟩ := m_emitX (v := 27) (d := d + 6) (scr := scr) (kd := kd) hn (by omega) X1
    have ln : (y.2.1 ++ [27]).length = y.2.1.length + 1 := by rw [List.length_append]; rfl
    have lk := m_link (d := d + 5) (scr := scr) (kd := kd) (Q := fun o h' => o = .inl none ∧ Q (.inl none) h') hn hp (by omega) (fun d hd => ⟨(r6 d hd).2.1, by have := (r6 d hd).1; omega⟩) (fun c hc => by
      obtain ⟨c1, c2, c3, c4, c5⟩ := r4 c hc
      exact ⟨c3, by omega, by omega, c2⟩) (by show y.2.2.length < 60; omega) nd (by rw [ln]; omega) ⟨A0, X2, hR⟩ (fun ws' S' e2 h2 => ⟨rfl, kk _ S' (by rw [e2]) h2⟩) (fun e S' he z => ⟨rfl, ke e S' (by rw [he]) z⟩)

    refine eS rfl rfl ?_
    refine eS rfl rfl ?_
    refine gV1 hn rfl rfl rfl rfl rfl ⟨catOk rfl, catOk rfl⟩ (a2) ?_
    refine eS rfl rfl ?_
    exact gVk hn rfl rfl rfl rfl rfl ⟨catOk rfl, catOk rfl⟩ rfl (aE.mono (fun o h' z => ⟨z.1, eR rfl rfl z.2⟩) lk)
  · have he : tpA ts L = .error e := he
    refine m_hdErr hn (tpA_er hp he) z (fun S' z' => ke e S' ?_ z')
    unfold cplA
    rw [he]
theorem m_make (hn : 67 ≤ n) (hl160 : ts.length ≤ 160) (hN : tsN ts) (hp : ∀ t, plA ts L t < 2 ^ 20) (h160 : ∀ t, plA ts L t ≤ 160) (hP : plO ts L) (hT : mTok ts L A) (h62 : (A 62).length = 800) (h63 : (A 63).length = 8) (h65 : (A 65).length = 400) (hR : rLn A) (kk : ∀ r S', cplA ts L = .ok r → mY S0 (w 0) L tk rest ts [] r.1.1 r.2.2.2 [] r.1.2 r.2.2.1 S' → Q (.inl none) (gH scr kd n S')) (ke : ∀ e S', cplA ts L = .error e → mEn S0 (w 0) L tk rest e S' → Q (.inl none) (gH scr kd n S')) : aE aM177 (d + 7) 0 [(0, .ref 56)] [] (gH scr kd n (mtS S0 (mK w L (-1) tk rest) A)) Q := by
  have h0 : mY S0 (w 0) L tk rest ts [] (0, [], []) [] [] [] [] (mtS S0 (mE (w 0) L (-1) tk 0 0 0 0 0 0 0 rest) A) := by
    obtain ⟨q64, q66, q67, q68, q69, q70, q71, q72, q73, q74, q75⟩ := hR
    exact ⟨A, ⟨A, rfl, hT, h62, fun i y hy => (by cases hy), h63, fun i y hy => (by cases hy), h65, fun i y hy => (by cases hy), fun q _ _ _ => rfl⟩, ⟨⟨fun i y hy => (by cases hy), q64⟩, ⟨q66, q67, q68, fun i y hy => (by cases hy)⟩, ⟨q69, q70, q71, fun i y hy => (by cases hy)⟩, ⟨q72, q73, q74, q75, fun i y hy => (by cases hy)⟩⟩⟩

  refine eS rfl rfl ?_
  refine eS rfl rfl ?_
  refine gPut hn rfl rfl rfl rfl rfl rfl rfl mt_56 ?_
  refine eS rfl rfl ?_
  refine eS rfl rfl ?_
  refine gPut hn rfl rfl rfl rfl rfl rfl rfl mt_56 ?_
  refine eS rfl rfl ?_
  refine eS rfl rfl ?_
  refine gPut hn rfl rfl rfl rfl rfl rfl rfl mt_56 ?_
  refine eS rfl rfl ?_
  refine eS rfl rfl ?_
  refine gPut hn rfl rfl rfl rfl rfl rfl rfl mt_56 ?_
  refine eS rfl rfl ?_
  refine eS rfl rfl ?_
  refine gPut hn rfl rfl rfl rfl rfl rfl rfl mt_56 ?_
  refine eS rfl rfl ?_
  refine eS rfl rfl ?_
  refine gPut hn rfl rfl rfl rfl rfl rfl rfl mt_56 ?_
  refine eS rfl rfl ?_
  refine eS rfl rfl ?_
  refine gPut hn rfl rfl rfl rfl rfl rfl rfl mt_56 ?_
  exact m_make35 hn hl160 hN hp h160 hP h0 kk ke
end MSR
