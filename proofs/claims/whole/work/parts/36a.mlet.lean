/-! the model: steps under its state, jumps, let -/
/-- what an error leaves, wherever -/
def mErC (scr : List Value) (kd : Nat → Nat) (n L : Nat) (S0 : Nat → List Value) (w0 : Value) (tk : Int32) (lv df cl : Nat) (rest : List Value) (A0 : Nat → List Value) (ts : List aTk) (ps : List (List Nat)) (Q : aOut → aH → Prop) (e : Nat) : Prop := ∀ (t : Nat) (vs : List (List Nat)) (dr st : List Nat) (S : Nat → List Value), (mX S0 w0 L tk ps.length lv df cl rest A0 ts (Int32.ofNat e) t vs dr st S) → vs.length ≤ 8 → dr.length ≤ 690 → Q (.inl none) (gH scr kd n S)
section MLA
variable {scr : List Value} {kd : Nat → Nat} {n d L t lv df cl : Nat} {S0 A A0 S : Nat → List Value} {w0 : Value} {wr tk : Int32} {rest : List Value} {ts : List aTk} {vs ps : List (List Nat)} {dr st : List Nat} {s : Nat} {x : xSt} {Q : aOut → aH → Prop}
theorem mX_f (hS : (mX S0 w0 L tk ps.length lv df cl rest A0 ts wr t vs dr st S)) : (S 56)[3]? = some (.int wr) ∧ (S 56)[9]? = some (.int (Int32.ofNat dr.length)) ∧ (S 56)[11]? = some (.int (Int32.ofNat t)) ∧ (S 56)[14]? = some (.int (Int32.ofNat ps.length)) ∧ (S 56)[17]? = some (.int (Int32.ofNat lv)) ∧ (S 56)[21]? = some (.int (Int32.ofNat df)) ∧ (S 56)[25]? = some (.int (Int32.ofNat cl)) := by
  obtain ⟨A, rfl, -⟩ := hS
  exact ⟨rfl, rfl, rfl, rfl, rfl, rfl, rfl⟩
theorem M_tick {M : aMt} {pc i1 i2 : Nat} {ls : aLc} {sk : List Value} {res : aOut → aH → Prop} {k0 k1 k3 k4 : aLk} (hn : 67 ≤ n) (f0 : aFind M.cd pc = some (.aload_n 0, k0)) (f1 : aFind M.cd (pc + 1) = some (.dup, k1)) (f2 : aFind M.cd (pc + 2) = some (.getfield i1, (14, 11, 0, .null))) (f3 : aFind M.cd (pc + 5) = some (.iconst 1, k3)) (f4 : aFind M.cd (pc + 6) = some (.iadd, k4)) (f5 : aFind M.cd (pc + 7) = some (.putfield i2, (14, 11, 0, .null))) (hl : aGet ls 0 = some (.ref 56))
    (h : (mX S0 w0 L tk ps.length lv df cl rest A0 ts wr t vs dr st S)) (k : ∀ S', (mX S0 w0 L tk ps.length lv df cl rest A0 ts wr (t + 1) vs dr st S') → aE M d (pc + 10) ls sk (gH scr kd n S') res) : aE M d pc ls sk (gH scr kd n S) res := by
  refine eS (ls' := ls) (st' := .ref 56 :: sk) (h' := gH scr kd n S) (pc' := pc + 1) f0 ?_ ?_
  · show (match aPure (.aload_n 0) k0.2.2.2 sk with
    | some st' => some (Sum.inl (pc + 1, ls, st', gH scr kd n S))
    | none => match (aLdA 0 ls sk).map (fun t => (ls, t)) with
      | some (ls', st') => some (Sum.inl (pc + 1, ls', st', gH scr kd n S))
      | none => _) = _
    unfold aLdA
    rw [hl]
    rfl
  obtain ⟨A, rfl, X'⟩ := mX_tick h
  refine eS f1 rfl ?_
  refine gGet hn f2 rfl rfl rfl ?_
  refine eS f3 rfl ?_
  refine eS f4 rfl ?_
  rw [i32_succ]
  refine gPut hn f5 rfl rfl rfl rfl rfl rfl me_t ?_
  exact k _ X'
theorem m_jump {w : Nat} (hn : 67 ≤ n) (hd : dr.length + 1 < 800) (hS : (mX S0 w0 L tk ps.length lv df cl rest A0 ts wr t vs dr st S)) : ∃ S', (mX S0 w0 L tk ps.length lv df cl rest A0 ts wr t vs (dr ++ [w, 0]) st S') ∧ aE aM184 (d + 1) 0 [(0, .ref 56), (1, .int (Int32.ofNat w))] [] (gH scr kd n S) (aIs (some (.int (Int32.ofNat (dr.length + 1)))) (gH scr kd n S')) := by
  obtain ⟨S2, h2, a2⟩ := m_emitX (v := w) (d := d) (scr := scr) (kd := kd) hn (by omega) hS
  obtain ⟨S3, h3, a3⟩ := m_emitX (v := 0) (d := d) (scr := scr) (kd := kd) hn (by rw [List.length_append, List.length_singleton]; omega) h2
  rw [List.append_assoc] at h3
  have e : (dr ++ ([w] ++ [0])).length = dr.length + 1 + 1 := by rw [List.length_append]; rfl
  refine ⟨S3, h3, ?_⟩
  refine eS rfl rfl ?_
  refine eS rfl rfl ?_
  refine gV1 hn rfl rfl rfl rfl rfl ⟨catOk rfl, catOk rfl⟩ (a2) ?_
  refine eS rfl rfl ?_
  refine eS rfl rfl ?_
  refine gV1 hn rfl rfl rfl rfl rfl ⟨catOk rfl, catOk rfl⟩ (a3) ?_
  refine eS rfl rfl ?_
  refine gGet hn rfl rfl rfl (mX_f h3).2.1 ?_
  refine eS rfl rfl ?_
  refine eS rfl rfl ?_
  rw [e, i32_pre]
  exact eR rfl rfl ⟨rfl, rfl⟩
theorem m_expM {k : Nat} (hn : 67 ≤ n) (ht : t ≤ ts.length) (hk : k < 2 ^ 20) (h40 : 40 ≤ k) (hS : (mX S0 w0 L tk ps.length lv df cl rest A0 ts (-1) t vs dr st S)) : (kA ts t = k → ∃ S', (mX S0 w0 L tk ps.length lv df cl rest A0 ts (-1) (t + 1) vs dr st S') ∧ aE aM196 (d + 1) 0 [(0, .ref 56), (1, .int (Int32.ofNat k))] [] (gH scr kd n S) (aIs none (gH scr kd n S'))) ∧ (kA ts t ≠ k → ∃ S', (mX S0 w0 L tk ps.length lv df cl rest A0 ts (Int32.ofNat (plA ts L t)) t vs dr st S') ∧ aE aM196 (d + 1) 0 [(0, .ref 56), (1, .int (Int32.ofNat k))] [] (gH scr kd n S) (aIs none (gH scr kd n S'))) := by
  have is := m_isSX (d := d) (scr := scr) (kd := kd) (k := k) hn ht hk h40 hS
  refine ⟨fun c => ?_, fun c => ?_⟩
  · rw [if_pos c] at is
    obtain ⟨A, rfl, X'⟩ := mX_tick hS
    refine ⟨_, X', ?_⟩
    refine eS rfl rfl ?_
    refine eS rfl rfl ?_
    refine gV1 hn rfl rfl rfl rfl rfl ⟨catOk rfl, catOk rfl⟩ (is) ?_
    refine eEq rfl rfl (fun z => absurd z (by decide)) (fun _ => ?_)
    refine eS rfl rfl ?_
    refine eS rfl rfl ?_
    refine gGet hn rfl rfl rfl rfl ?_
    refine eS rfl rfl ?_
    refine eS rfl rfl ?_
    rw [i32_succ]
    refine gPut hn rfl rfl rfl rfl rfl rfl rfl me_t ?_
    refine eS rfl rfl ?_
    exact eR rfl rfl ⟨rfl, rfl⟩
  · rw [if_neg c] at is
    obtain ⟨A, rfl, hT, hh⟩ := hS
    have fl := m_fail (d := d) (scr := scr) (kd := kd) (u := t) (t := t) (md := dr.length) (vr := vs.length) (pr := ps.length) (lv := lv) (df := df) (cl := cl) (S0 := S0) (w0 := w0) (tk := tk) (rest := rest) hn hT ht
    refine ⟨_, ⟨A, rfl, hT, hh⟩, ?_⟩
    refine eS rfl rfl ?_
    refine eS rfl rfl ?_
    refine gV1 hn rfl rfl rfl rfl rfl ⟨catOk rfl, catOk rfl⟩ (is) ?_
    refine eEq rfl rfl (fun _ => ?_) (fun z => absurd rfl z)
    refine eS rfl rfl ?_
    refine eS rfl rfl ?_
    refine gGet hn rfl rfl rfl rfl ?_
    refine gV1 hn rfl rfl rfl rfl rfl ⟨catOk rfl, catOk rfl⟩ (fl) ?_
    exact eR rfl rfl ⟨rfl, rfl⟩
theorem m_failX {u : Nat} (hn : 67 ≤ n) (ht : u ≤ ts.length) (hS : (mX S0 w0 L tk ps.length lv df cl rest A0 ts (-1) t vs dr st S)) : ∃ S', (mX S0 w0 L tk ps.length lv df cl rest A0 ts (Int32.ofNat (plA ts L u)) t vs dr st S') ∧ aE aM186 d 0 [(0, .ref 56), (1, .int (Int32.ofNat u))] [] (gH scr kd n S) (aIs none (gH scr kd n S')) := by
  obtain ⟨A, rfl, hT, hh⟩ := hS
  exact ⟨_, ⟨A, rfl, hT, hh⟩, m_fail hn hT ht⟩
theorem m_letTail (hn : 67 ≤ n) (hs : s < 2 ^ 20) (hd : dr.length + 2 ≤ 790) (hS : (mX S0 w0 L tk ps.length lv df cl rest A0 ts wr t vs dr st S)) (k : ∀ S', (mX S0 w0 L tk ps.length lv df cl rest A0 ts wr t vs (dr ++ [if s < 4 then 5 else 4, if s < 4 then s else s - 4]) st S') → Q (.inl none) (gH scr kd n S')) : aE aM195 (d + 1) 67 [(1, .int (Int32.ofNat s)), (0, .ref 56)] [] (gH scr kd n S) Q := by
  have v4 := i32_le (a := 4) (b := s) (by omega) (by omega)
  by_cases c : s < 4
  · rw [if_pos c, if_pos c] at k
    obtain ⟨S2, h2, a2⟩ := m_emitX (v := 5) (d := d) (scr := scr) (kd := kd) hn (by omega) hS
    obtain ⟨S3, h3, a3⟩ := m_emitX (v := s) (d := d) (scr := scr) (kd := kd) hn (by rw [List.length_append, List.length_singleton]; omega) h2
    rw [List.append_assoc] at h3
    refine eS rfl rfl ?_
    refine eS rfl rfl ?_
    refine eS rfl rfl ?_
    refine eIGe rfl rfl (fun z => absurd (v4.mp z) (by omega)) (fun _ => ?_)
    refine eS rfl rfl ?_
    refine eS rfl rfl ?_
    refine gV1 hn rfl rfl rfl rfl rfl ⟨catOk rfl, catOk rfl⟩ (a2) ?_
    refine eS rfl rfl ?_
    refine eS rfl rfl ?_
    refine eS rfl rfl ?_
    refine eIGe rfl rfl (fun z => absurd (v4.mp z) (by omega)) (fun _ => ?_)
    refine eS rfl rfl ?_
    refine eS rfl rfl ?_
    refine gV1 hn rfl rfl rfl rfl rfl ⟨catOk rfl, catOk rfl⟩ (a3) ?_
    exact eR rfl rfl (k _ h3)
  · rw [if_neg c, if_neg c] at k
    obtain ⟨S2, h2, a2⟩ := m_emitX (v := 4) (d := d) (scr := scr) (kd := kd) hn (by omega) hS
    obtain ⟨S3, h3, a3⟩ := m_emitX (v := s - 4) (d := d) (scr := scr) (kd := kd) hn (by rw [List.length_append, List.length_singleton]; omega) h2
    rw [List.append_assoc] at h3
    have e4 : Int32.ofNat s - Int32.ofInt 4 = Int32.ofNat (s - 4) := i32_sub (a := s) (b := 4) (by omega)
    refine eS rfl rfl ?_
    refine eS rfl rfl ?_
    refine eS rfl rfl ?_
    refine eIGe rfl rfl (fun _ => ?_) (fun z => absurd (v4.mpr (by omega)) z)
    refine eS rfl rfl ?_
    refine gV1 hn rfl rfl rfl rfl rfl ⟨catOk rfl, catOk rfl⟩ (a2) ?_
    refine eS rfl rfl ?_
    refine eS rfl rfl ?_
    refine eS rfl rfl ?_
    refine eIGe rfl rfl (fun _ => ?_) (fun z => absurd (v4.mpr (by omega)) z)
    refine eS rfl rfl ?_
    refine eS rfl rfl ?_
    refine eS rfl rfl ?_
    rw [e4]
    refine gV1 hn rfl rfl rfl rfl rfl ⟨catOk rfl, catOk rfl⟩ (a3) ?_
    exact eR rfl rfl (k _ h3)
theorem m_let (hn : 67 ≤ n) (hl160 : ts.length ≤ 160) (hN : tsN ts) (h3 : ps.length ≤ 3) (hpo : ∀ y ∈ ps, nmOk y) (hP : nmF 27 ps (A0 64)) (hp : ∀ t, plA ts L t < 2 ^ 20) (hx : xOk ts x) (hk : kA ts x.1 = 32) (hb : dr.length ≤ 3 * x.1 + 8) (hX : (mX S0 w0 L tk ps.length lv df cl rest A0 ts (-1) x.1 x.2.1 dr [] S)) (k : ∀ y p i S', letA ts L ps x = .ok (y, 0 :: (nwW x y ++ [p + 2, i]), []) → (mX S0 w0 L tk ps.length lv df cl rest A0 ts (-1) y.1 y.2.1 (dr ++ (nwW x y ++ [p + 2, i])) [] S') → Q (.inl none) (gH scr kd n S')) (ke : ∀ e, letA ts L ps x = .error e → mErC scr kd n L S0 w0 tk lv df cl rest A0 ts ps Q e) : aE aM195 (d + 5) 0 [(0, .ref 56)] [] (gH scr kd n S) Q := by
  have hlt := kA_lt hk (by decide)
  have hx2 := hx.2.1
  refine M_tick hn rfl rfl rfl rfl rfl rfl rfl hX (fun S2 h2 => ?_)
  have nm := m_isNameX (d := d + 2) (scr := scr) (kd := kd) (ps := ps) hn (by omega) h2
  by_cases c : kA ts (x.1 + 1) = 30
  · rw [if_pos c] at nm
    have hlt2 := kA_lt c (by decide)
    obtain ⟨g1, g2⟩ := m_slotX (d := d + 3) (scr := scr) (kd := kd) hn c h3 hpo hP hx.2.2.1 hx.2.2.2 h2
    cases e : slA ps x.2.1 (nmA ts (x.1 + 1)) with
    | none =>
      obtain ⟨S3, X3, a3⟩ := g2 e
      have e' : letA ts L ps x = .error (plA ts L (x.1 + 1)) := by unfold letA; rw [if_pos c, e]
      have hw := neg1_ne (hp (x.1 + 1))
      refine eS rfl rfl ?_
      refine gV1 hn rfl rfl rfl rfl rfl ⟨catOk rfl, catOk rfl⟩ (nm) ?_
      refine eNe rfl rfl (fun _ => ?_) (fun z => absurd z (by decide))
      refine eS rfl rfl ?_
      refine gV1 hn rfl rfl rfl rfl rfl ⟨catOk rfl, catOk rfl⟩ (a3) ?_
      refine eS rfl rfl ?_
      refine M_tick hn rfl rfl rfl rfl rfl rfl rfl X3 (fun S4 X4 => ?_)
      refine eS rfl rfl ?_
      refine gGet hn rfl rfl rfl (mX_f X4).1 ?_
      refine eS rfl rfl ?_
      refine eINe rfl rfl (fun _ => ?_) (fun z => absurd z hw)
      refine eS rfl rfl ?_
      refine gGet hn rfl rfl rfl (mX_f X4).1 ?_
      refine eS rfl rfl ?_
      refine eINe rfl rfl (fun _ => ?_) (fun z => absurd z hw)
      exact m_letTail (s := 4) hn (by decide) (by omega) X4 (fun S5 X5 => ke _ e' _ _ _ _ _ X5 hx.2.2.1 (by rw [List.length_append]; simp only [List.length_cons, List.length_nil]; omega))
    | some r =>
      obtain ⟨p, i, vs'⟩ := r
      obtain ⟨S3, X3, a3⟩ := g1 p i vs' e
      obtain ⟨s1, s2, -, s4⟩ := slA_ok hx.2.2.1 hx.2.2.2 (nmA_ok hN c) e
      have hs4 : (if p = 3 then i else 4 + i) < 2 ^ 20 := by
        rcases s4 with ⟨rfl, z⟩ | ⟨rfl, z⟩
        · rw [if_pos rfl]; omega
        · rw [if_neg (by decide)]; omega
      have hsv : (if (if p = 3 then i else 4 + i) < 4 then 5 else 4) = p + 2 ∧ (if (if p = 3 then i else 4 + i) < 4 then (if p = 3 then i else 4 + i) else (if p = 3 then i else 4 + i) - 4) = i := by
        rcases s4 with ⟨rfl, z⟩ | ⟨rfl, z⟩
        · rw [if_pos rfl, if_pos (by omega), if_pos (by omega)]
          exact ⟨rfl, rfl⟩
        · have e2 : (if (2 : Nat) = 3 then i else 4 + i) = 4 + i := if_neg (by decide)
          rw [e2, if_neg (by omega), if_neg (by omega)]
          exact ⟨rfl, by omega⟩
      generalize (if p = 3 then i else 4 + i) = sv at hs4 hsv a3
      refine eS rfl rfl ?_
      refine gV1 hn rfl rfl rfl rfl rfl ⟨catOk rfl, catOk rfl⟩ (nm) ?_
      refine eNe rfl rfl (fun _ => ?_) (fun z => absurd z (by decide))
      refine eS rfl rfl ?_
      refine gV1 hn rfl rfl rfl rfl rfl ⟨catOk rfl, catOk rfl⟩ (a3) ?_
      refine eS rfl rfl ?_
      refine M_tick hn rfl rfl rfl rfl rfl rfl rfl X3 (fun S4 X4 => ?_)
      obtain ⟨x1, x2⟩ := m_expM (d := d + 3) (scr := scr) (kd := kd) (k := 61) (ps := ps) hn (by omega) (by decide) (by decide) X4
      by_cases c2 : kA ts (x.1 + 2) = 61
      · have hlt3 := kA_lt c2 (by decide)
        obtain ⟨S5, X5, a5⟩ := x1 c2
        have ox : xOk ts (x.1 + 3, vs', x.2.2) := ⟨by show x.1 + 3 ≤ _; omega, by show x.2.2.length ≤ x.1 + 3; omega, s1, s2⟩
        refine eS rfl rfl ?_
        refine gGet hn rfl rfl rfl (mX_f X4).1 ?_
        refine eS rfl rfl ?_
        refine eINe rfl rfl (fun z => absurd rfl z) (fun _ => ?_)
        refine eS rfl rfl ?_
        refine eS rfl rfl ?_
        refine gV1 hn rfl rfl rfl rfl rfl ⟨catOk rfl, catOk rfl⟩ (a5) ?_
        refine eS rfl rfl ?_
        refine gGet hn rfl rfl rfl (mX_f X5).1 ?_
        refine eS rfl rfl ?_
        refine eINe rfl rfl (fun z => absurd rfl z) (fun _ => ?_)
        refine eS rfl rfl ?_
        refine gVk hn rfl rfl rfl rfl rfl ⟨catOk rfl, catOk rfl⟩ rfl (m_expr (tk := tk) hn hl160 hN h3 hpo hP (x.1 + 3, vs', x.2.2) dr S5 ox (by show dr.length ≤ 3 * (x.1 + 3) + 8; omega) X5 (fun y l S6 e6 hy X6 hb6 => ⟨rfl, ?_⟩) (fun w he t vs dr' st S' X' q1 q2 q3 => ⟨rfl, ?_⟩))
        · have e' : letA ts L ps x = .ok (y, 0 :: (nwW x y ++ [p + 2, i]), []) := by unfold letA; rw [if_pos c, e]; dsimp only; rw [if_pos c2, e6]
          have y1 := (sumA_rd hN 4 0 _ y ox e6).1.1
          refine m_letTail (s := sv) hn hs4 (by omega) X6 (fun S7 X7 => k y p i S7 e' ?_)
          rw [hsv.1, hsv.2, List.append_assoc] at X7
          rw [nw_of (x := x) hy]
          exact X7
        · have e' : letA ts L ps x = .error w := by unfold letA; rw [if_pos c, e]; dsimp only; rw [if_pos c2, he]
          exact m_letTail (s := sv) hn hs4 (by omega) X' (fun S7 X7 => ke w e' _ _ _ _ _ X7 q2 (by rw [List.length_append]; simp only [List.length_cons, List.length_nil]; omega))
      · obtain ⟨S5, X5, a5⟩ := x2 c2
        have e' : letA ts L ps x = .error (plA ts L (x.1 + 2)) := by unfold letA; rw [if_pos c, e]; dsimp only; rw [if_neg c2]
        have hw := neg1_ne (hp (x.1 + 2))
        refine eS rfl rfl ?_
        refine gGet hn rfl rfl rfl (mX_f X4).1 ?_
        refine eS rfl rfl ?_
        refine eINe rfl rfl (fun z => absurd rfl z) (fun _ => ?_)
        refine eS rfl rfl ?_
        refine eS rfl rfl ?_
        refine gV1 hn rfl rfl rfl rfl rfl ⟨catOk rfl, catOk rfl⟩ (a5) ?_
        refine eS rfl rfl ?_
        refine gGet hn rfl rfl rfl (mX_f X5).1 ?_
        refine eS rfl rfl ?_
        refine eINe rfl rfl (fun _ => ?_) (fun z => absurd z hw)
        exact m_letTail (s := sv) hn hs4 (by omega) X5 (fun S6 X6 => ke _ e' _ _ _ _ _ X6 s1 (by rw [List.length_append]; simp only [List.length_cons, List.length_nil]; omega))
  · rw [if_neg c] at nm
    obtain ⟨S3, X3, a3⟩ := m_failX (d := d + 4) (scr := scr) (kd := kd) (ps := ps) hn (u := x.1 + 1) (by omega) h2
    have e' : letA ts L ps x = .error (plA ts L (x.1 + 1)) := by unfold letA; rw [if_neg c]
    refine eS rfl rfl ?_
    refine gV1 hn rfl rfl rfl rfl rfl ⟨catOk rfl, catOk rfl⟩ (nm) ?_
    refine eNe rfl rfl (fun z => absurd rfl z) (fun _ => ?_)
    refine eS rfl rfl ?_
    refine eS rfl rfl ?_
    refine gGet hn rfl rfl rfl (mX_f h2).2.2.1 ?_
    refine gV1 hn rfl rfl rfl rfl rfl ⟨catOk rfl, catOk rfl⟩ (a3) ?_
    exact eR rfl rfl (ke _ e' _ _ _ _ _ X3 hx.2.2.1 (by omega))
end MLA
