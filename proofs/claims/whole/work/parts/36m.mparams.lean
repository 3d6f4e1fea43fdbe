/-! the model reads parameters -/
section MSM
variable {scr : List Value} {kd : Nat → Nat} {n d L t lv df cl : Nat} {fr : List (Nat × Nat × Nat)} {ds : List dEf} {cs : List cAl} {S0 A A0 S : Nat → List Value} {w0 : Value} {wr tk : Int32} {rest : List Value} {ts : List aTk} {vs ps : List (List Nat)} {dr st : List Nat} {s : Nat} {x : xSt} {nm : List Nat} {Q : aOut → aH → Prop}
theorem m_prmTurn (hn : 67 ≤ n) (h3 : ps.length < 3) (hpo : ∀ y ∈ ps, nmOk y) (hk : kA ts t = 30) (hx : nmOk (nmA ts t)) (hp : ∀ t, plA ts L t < 2 ^ 20) (hP : rP ps A0) {j : Int32} (hS : (mX S0 w0 L tk ps.length lv df cl rest A0 ts wr t vs dr [] S)) (kk : ∀ S' j', (mX S0 w0 L tk (ps ++ [nmA ts t]).length lv df cl rest (aUp A0 64 ((A0 64).set ps.length (.long (Int64.ofNat (pk 27 (nmA ts t)))))) ts (dupW ts L t ps wr) (t + 1) vs dr [] S') → rP (ps ++ [nmA ts t]) (aUp A0 64 ((A0 64).set ps.length (.long (Int64.ofNat (pk 27 (nmA ts t)))))) → aE aM187 (d + 3) 106 [(2, .int j'), (1, .int 1), (0, .ref 56)] [] (gH scr kd n S') Q) : aE aM187 (d + 3) 106 [(2, .int j), (1, .int 1), (0, .ref 56)] [] (gH scr kd n S) Q := by
  have hlt := kA_lt hk (by decide)
  have h160 : ts.length ≤ 160 := by
    obtain ⟨A, rfl, hT, -⟩ := hS
    exact hT.2.2.2.2.1
  have b3 := i32_le (a := 3) (b := ps.length) (by omega) (by omega)
  have nm := m_isNameX (d := d) (scr := scr) (kd := kd) (ps := ps) hn (by omega) hS
  rw [if_pos hk] at nm
  have DL := m_dupL (d := d + 1) (Q := Q) (scr := scr) (kd := kd) hn (by omega) hpo hk hx hp hP ps.length 0 wr S (Nat.zero_add _) hS (fun S2 j2 X2 => ?_)
  · skip
    refine eS rfl rfl ?_
    refine gGet hn rfl rfl rfl (mX_f hS).2.2.2.1 ?_
    refine eS rfl rfl ?_
    refine eIGe rfl rfl (fun z => absurd (b3.mp z) (by omega)) (fun _ => ?_)
    refine eS rfl rfl ?_
    refine gV1 hn rfl rfl rfl rfl rfl ⟨catOk rfl, catOk rfl⟩ (nm) ?_
    refine eEq rfl rfl (fun z => absurd z (by decide)) (fun _ => ?_)
    refine eS rfl rfl ?_
    refine eS rfl rfl ?_
    exact eLoc (l' := [(2, .int (Int32.ofNat 0)), (1, .int 1), (0, .ref 56)]) rfl ⟨rfl, rfl, rfl, trivial⟩ DL
  · rw [List.drop_zero] at X2
    obtain ⟨w1, w2, -, w4, -⟩ := mX_word hk X2
    obtain ⟨X3, e64⟩ := mX_row (q := 64) (b := (A0 64).set ps.length (.long (Int64.ofNat (pk 27 (nmA ts t))))) (by decide) X2
    have X4 := mX_pr (ps' := ps ++ [nmA ts t]) X3
    have l64 := hP.2
    have hP' : rP (ps ++ [nmA ts t]) (aUp A0 64 ((A0 64).set ps.length (.long (Int64.ofNat (pk 27 (nmA ts t)))))) := by
      unfold rP
      rw [aUp_same, List.length_set]
      exact ⟨nmF_snoc hP.1 (by omega), l64⟩
    have ec : (ps ++ [nmA ts t]).length = ps.length + 1 := by rw [List.length_append, List.length_singleton]
    refine eS rfl rfl ?_
    refine gGet hn rfl rfl rfl w4 ?_
    refine eS rfl rfl ?_
    refine gGet hn rfl rfl rfl (mX_f X2).2.2.2.1 ?_
    refine eS rfl rfl ?_
    refine gGet hn rfl rfl rfl w2 ?_
    refine eS rfl rfl ?_
    refine gGet hn rfl rfl rfl (mX_f X2).2.2.1 ?_
    refine gRd2 hn rfl rfl rfl t (by omega) w1 ?_
    refine gWr2 hn rfl rfl rfl ps.length (by omega) (by rw [e64]; omega) (by rw [e64]) ?_
    refine eS rfl rfl ?_
    refine eS rfl rfl ?_
    refine gGet hn rfl rfl rfl (mX_f X3).2.2.2.1 ?_
    refine eS rfl rfl ?_
    refine eS rfl rfl ?_
    rw [i32_succ, ← ec]
    refine gPut hn rfl rfl rfl rfl (by obtain ⟨A, e, -⟩ := X3; rw [e]; rfl) rfl rfl rfl ?_
    refine M_tick hn rfl rfl rfl rfl rfl rfl rfl X4 (fun S5 X5 => ?_)
    refine eS rfl rfl ?_
    exact kk S5 j2 X5 hP'
theorem m_prmE (hn : 67 ≤ n) (hN : tsN ts) (hp : ∀ t, plA ts L t < 2 ^ 20) (hw : wr ≠ -1) : ∀ (m : Nat) (ps : List (List Nat)) (A0 : Nat → List Value) (t : Nat) (S : Nat → List Value) (j : Int32), ps.length + m = 3 → (∀ y ∈ ps, nmOk y) → rP ps A0 → t ≤ ts.length → (mX S0 w0 L tk ps.length lv df cl rest A0 ts wr t vs dr [] S) → (∀ (t' : Nat) (ps' : List (List Nat)) (A0' S' : Nat → List Value) (j' : Int32), (mX S0 w0 L tk ps'.length lv df cl rest A0' ts wr t' vs dr [] S') → t' ≤ ts.length → ps'.length ≤ 3 → (A0' 64).length = 3 → (∀ q, q ≠ 64 → A0' q = A0 q) → aE aM187 (d + 3) 205 [(2, .int j'), (1, .int 1), (0, .ref 56)] [] (gH scr kd n S') Q) → aE aM187 (d + 3) 106 [(2, .int j), (1, .int 1), (0, .ref 56)] [] (gH scr kd n S) Q
  | m, ps, A0, t, S, j, hm, hpo, hP, ht, hS, ke => by
    have h160 : ts.length ≤ 160 := by
      obtain ⟨A, rfl, hT, -⟩ := hS
      exact hT.2.2.2.2.1
    have b3 := i32_le (a := 3) (b := ps.length) (by omega) (by omega)
    have nm := m_isNameX (d := d) (scr := scr) (kd := kd) (ps := ps) hn ht hS
    have F := fun j' => ke t ps A0 S j' hS ht (by omega) hP.2 (fun _ _ => rfl)
    match m, hm with
    | 0, hm => 
      refine eS rfl rfl ?_
      refine gGet hn rfl rfl rfl (mX_f hS).2.2.2.1 ?_
      refine eS rfl rfl ?_
      refine eIGe rfl rfl (fun _ => ?_) (fun z => absurd (b3.mpr (by omega)) z)
      exact F _
    | m + 1, hm =>
      by_cases c : kA ts t = 30
      · refine m_prmTurn hn (by omega) hpo c (nmA_ok hN c) hp hP hS (fun S' j' X' hP' => ?_)
        have ew : dupW ts L t ps wr = wr := by unfold dupW; exact if_neg (fun z => hw z.1)
        rw [ew] at X'
        refine m_prmE hn hN hp hw m _ _ (t + 1) S' j' (by rw [List.length_append, List.length_singleton]; omega) (fun y hy => ?_) hP' (by have := kA_lt c (by decide); omega) X' (fun t2 ps2 A2 S2 j2 X2 q1 q2 q3 q4 => ke t2 ps2 A2 S2 j2 X2 q1 q2 q3 (fun q hq => (q4 q hq).trans (aUp_ne hq)))
        rcases List.mem_append.mp hy with hy | hy
        · exact hpo y hy
        · rw [List.mem_singleton.mp hy]; exact nmA_ok hN c
      · rw [if_neg c] at nm
        refine eS rfl rfl ?_
        refine gGet hn rfl rfl rfl (mX_f hS).2.2.2.1 ?_
        refine eS rfl rfl ?_
        refine eIGe rfl rfl (fun z => absurd (b3.mp z) (by omega)) (fun _ => ?_)
        refine eS rfl rfl ?_
        refine gV1 hn rfl rfl rfl rfl rfl ⟨catOk rfl, catOk rfl⟩ (nm) ?_
        refine eEq rfl rfl (fun _ => ?_) (fun z => absurd rfl z)
        exact F _
theorem m_prmL (hn : 67 ≤ n) (hN : tsN ts) (hp : ∀ t, plA ts L t < 2 ^ 20) : ∀ (m : Nat) (ps : List (List Nat)) (A0 : Nat → List Value) (t : Nat) (S : Nat → List Value) (j : Int32), ps.length + m = 3 → (∀ y ∈ ps, nmOk y) → rP ps A0 → t ≤ ts.length → (mX S0 w0 L tk ps.length lv df cl rest A0 ts (-1) t vs dr [] S) → (∀ (t' : Nat) (ps' : List (List Nat)) (A0' S' : Nat → List Value) (j' : Int32), prA ts L m t ps = .ok (t', ps') → (mX S0 w0 L tk ps'.length lv df cl rest A0' ts (-1) t' vs dr [] S') → rP ps' A0' → (∀ q, q ≠ 64 → A0' q = A0 q) → aE aM187 (d + 3) 205 [(2, .int j'), (1, .int 1), (0, .ref 56)] [] (gH scr kd n S') Q) → (∀ (e t' : Nat) (ps' : List (List Nat)) (A0' S' : Nat → List Value) (j' : Int32), prA ts L m t ps = .error e → (mX S0 w0 L tk ps'.length lv df cl rest A0' ts (Int32.ofNat e) t' vs dr [] S') → t' ≤ ts.length → ps'.length ≤ 3 → (A0' 64).length = 3 → (∀ q, q ≠ 64 → A0' q = A0 q) → aE aM187 (d + 3) 205 [(2, .int j'), (1, .int 1), (0, .ref 56)] [] (gH scr kd n S') Q) → aE aM187 (d + 3) 106 [(2, .int j), (1, .int 1), (0, .ref 56)] [] (gH scr kd n S) Q
  | m, ps, A0, t, S, j, hm, hpo, hP, ht, hS, kk, ke => by
    have h160 : ts.length ≤ 160 := by
      obtain ⟨A, rfl, hT, -⟩ := hS
      exact hT.2.2.2.2.1
    have b3 := i32_le (a := 3) (b := ps.length) (by omega) (by omega)
    have nm := m_isNameX (d := d) (scr := scr) (kd := kd) (ps := ps) hn ht hS
    match m, hm, kk, ke with
    | 0, hm, kk, ke =>
      have F := fun j' => kk t ps A0 S j' rfl hS hP (fun _ _ => rfl)
      refine eS rfl rfl ?_
      refine gGet hn rfl rfl rfl (mX_f hS).2.2.2.1 ?_
      refine eS rfl rfl ?_
      refine eIGe rfl rfl (fun _ => ?_) (fun z => absurd (b3.mpr (by omega)) z)
      exact F _
    | m + 1, hm, kk, ke =>
      by_cases c : kA ts t = 30
      · have hpo' : ∀ y ∈ ps ++ [nmA ts t], nmOk y := fun y hy => by
          rcases List.mem_append.mp hy with hy | hy
          · exact hpo y hy
          · rw [List.mem_singleton.mp hy]; exact nmA_ok hN c
        have hl := kA_lt c (by decide)
        refine m_prmTurn hn (by omega) hpo c (nmA_ok hN c) hp hP hS (fun S' j' X' hP' => ?_)
        by_cases cm : nmA ts t ∈ ps
        · have ew : dupW ts L t ps (-1) = Int32.ofNat (plA ts L t) := by unfold dupW; exact if_pos ⟨rfl, cm⟩
          rw [ew] at X'
          exact m_prmE hn hN hp (neg1_ne (hp t)) m _ _ (t + 1) S' j' (by rw [List.length_append, List.length_singleton]; omega) hpo' hP' (by omega) X' (fun t2 ps2 A2 S2 j2 X2 q1 q2 q3 q4 => ke _ t2 ps2 A2 S2 j2 (by rw [prA, if_pos c, if_pos cm]) X2 q1 q2 q3 (fun q hq => (q4 q hq).trans (aUp_ne hq)))
        · have ew : dupW ts L t ps (-1) = -1 := by unfold dupW; exact if_neg (fun z => cm z.2)
          rw [ew] at X'
          exact m_prmL hn hN hp m _ _ (t + 1) S' j' (by rw [List.length_append, List.length_singleton]; omega) hpo' hP' (by omega) X' (fun t2 ps2 A2 S2 j2 e X2 q3 q4 => kk t2 ps2 A2 S2 j2 (by rw [prA, if_pos c, if_neg cm]; exact e) X2 q3 (fun q hq => (q4 q hq).trans (aUp_ne hq))) (fun e t2 ps2 A2 S2 j2 he X2 q1 q2 q3 q4 => ke e t2 ps2 A2 S2 j2 (by rw [prA, if_pos c, if_neg cm]; exact he) X2 q1 q2 q3 (fun q hq => (q4 q hq).trans (aUp_ne hq)))
      · rw [if_neg c] at nm
        have F := fun j' => kk t ps A0 S j' (by rw [prA, if_neg c]) hS hP (fun _ _ => rfl)
        refine eS rfl rfl ?_
        refine gGet hn rfl rfl rfl (mX_f hS).2.2.2.1 ?_
        refine eS rfl rfl ?_
        refine eIGe rfl rfl (fun z => absurd (b3.mp z) (by omega)) (fun _ => ?_)
        refine eS rfl rfl ?_
        refine gV1 hn rfl rfl rfl rfl rfl ⟨catOk rfl, catOk rfl⟩ (nm) ?_
        refine eEq rfl rfl (fun _ => ?_) (fun z => absurd rfl z)
        exact F _
end MSM
