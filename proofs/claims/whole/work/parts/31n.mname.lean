section MOQ
variable {scr : List Value} {kd : Nat → Nat} {n d L md t vr pr lv df cl : Nat} {S0 A : Nat → List Value} {w0 : Value} {wr tk : Int32} {rest : List Value} {ts : List aTk} {vs ps : List (List Nat)} {A0 S : Nat → List Value} {st dr : List Nat} {s : Nat} {x : List Nat} {Q : aOut → aH → Prop}
/-- emitting, in the state -/
theorem m_emitX {v : Nat} (hn : 67 ≤ n) (hd : dr.length < 800) (hS : (mX S0 w0 L tk ps.length lv df cl rest A0 ts wr t vs dr st S)) : ∃ S', (mX S0 w0 L tk ps.length lv df cl rest A0 ts wr t vs (dr ++ [v]) st S') ∧ aE aM180 d 0 [(0, .ref 56), (1, .int (Int32.ofNat v))] [] (gH scr kd n S) (aIs none (gH scr kd n S')) := by
  obtain ⟨A, rfl, hT, h62, hD, h63, hV, h65, hW, hR⟩ := hS
  have D1 := drF_snoc (x := v) hD (by omega)
  refine ⟨_, ⟨aUp A 62 ((A 62).set dr.length (.int (Int32.ofNat v))), rfl, hT, by rw [aUp_same, List.length_set]; exact h62, by rw [aUp_same]; exact D1, h63, hV, h65, hW, fun q q1 q2 q3 => (aUp_ne q1).trans (hR q q1 q2 q3)⟩, ?_⟩
  rw [List.length_append, List.length_singleton]
  exact m_emit hn h62 hd
theorem mX_at (hn : 67 ≤ n) (hS : (mX S0 w0 L tk ps.length lv df cl rest A0 ts wr t vs dr st S)) : (gH scr kd n S)[56]? = some (36, S 56) := gH_at (by decide) (by omega)
theorem m_isX {k : Nat} (hn : 67 ≤ n) (ht : t ≤ ts.length) (hk : k < 2 ^ 20) (hS : (mX S0 w0 L tk ps.length lv df cl rest A0 ts wr t vs dr st S)) : aE aM178 d 0 [(0, .ref 56), (1, .int (Int32.ofNat k))] [] (gH scr kd n S) (aIs (some (.int (if mkA ts t = k then 1 else 0))) (gH scr kd n S)) := by
  obtain ⟨A, rfl, hT, -⟩ := hS
  exact m_is hn hT ht hk
theorem mTok_tr {A A' : Nat → List Value} (h1 : A' 58 = A 58) (h2 : A' 59 = A 59) (h3 : A' 60 = A 60) (h4 : A' 61 = A 61) (h : mTok ts L A) : mTok ts L A' := by
  unfold mTok mkF mk1 mkL
  rw [h1, h2, h3, h4]
  exact h
theorem nmA_okX (hk : kA ts t = 30) (hW : ∀ (i : Nat) (tk : aTk), ts[i]? = some tk → tkW L tk) : nmOk (nmA ts t) := by
  obtain ⟨u, e, u1⟩ := kA_in hk (by decide)
  rw [show nmA ts t = u.2.2.1 by unfold nmA; rw [e]]
  rcases kA_kind hW e with c | c | c
  · omega
  · omega
  · exact c.2.1
theorem m_slotX (hn : 67 ≤ n) (hk : kA ts t = 30) (h3 : ps.length ≤ 3) (hpo : ∀ y ∈ ps, nmOk y) (hP : nmF 27 ps (A0 64)) (h8 : vs.length ≤ 8) (hvo : ∀ y ∈ vs, nmOk y) (hS : (mX S0 w0 L tk ps.length lv df cl rest A0 ts (-1) t vs dr st S)) :
    (∀ p k vs', slA ps vs (nmA ts t) = some (p, k, vs') → ∃ S', (mX S0 w0 L tk ps.length lv df cl rest A0 ts (-1) t vs' dr st S') ∧ aE aM192 (d + 1) 0 [(0, .ref 56)] [] (gH scr kd n S) (aIs (some (.int (Int32.ofNat (if p = 3 then k else 4 + k)))) (gH scr kd n S'))) ∧
    (slA ps vs (nmA ts t) = none → ∃ S', (mX S0 w0 L tk ps.length lv df cl rest A0 ts (Int32.ofNat (plA ts L t)) t vs dr st S') ∧ aE aM192 (d + 1) 0 [(0, .ref 56)] [] (gH scr kd n S) (aIs (some (.int (Int32.ofNat 4))) (gH scr kd n S'))) := by
  obtain ⟨A, rfl, hT, h62, hD, h63, hV, h65, hW, hR⟩ := hS
  obtain ⟨u, e, u1⟩ := kA_in hk (by decide)
  have ht := ts_lt e
  have hx : nmOk (nmA ts t) := by
    rw [show nmA ts t = u.2.2.1 by unfold nmA; rw [e]]
    rcases kA_kind hT.2.2.2.2.2.2 e with c | c | c
    · omega
    · omega
    · exact c.2.1
  have hw : (A 60)[t]? = some (.long (Int64.ofNat (pk 27 (nmA ts t)))) := by
    rw [show nmA ts t = u.2.2.1 by unfold nmA; rw [e]]
    have := (hT.1 t u e).2.2.1
    rw [show mwd u = pk 27 u.2.2.1 from if_neg (by omega)] at this
    exact this
  have e64 : A 64 = A0 64 := hR 64 (by decide) (by decide) (by decide)
  have sl := m_slot (d := d) (scr := scr) (kd := kd) (md := dr.length) (lv := lv) (df := df) (cl := cl) (S0 := S0) (w0 := w0) (tk := tk) (rest := rest) hn hT ht hw (by rw [e64]; exact hP) h3 hpo hV h63 h8 hvo hx
  refine ⟨fun p k vs' h => ?_, fun h => ?_⟩
  · obtain ⟨A', a1, a2, a3, a4⟩ := sl.1 p k vs' h
    have a5 : ∀ q, q ≠ 63 → A' q = A q := a1
    refine ⟨_, ⟨A', rfl, ?_, by rw [a5 62 (by decide)]; exact h62, by rw [a5 62 (by decide)]; exact hD, a2, a3, by rw [a5 65 (by decide)]; exact h65, by rw [a5 65 (by decide)]; exact hW, fun q q1 q2 q3 => (a5 q q2).trans (hR q q1 q2 q3)⟩, a4⟩
    exact mTok_tr (a5 58 (by decide)) (a5 59 (by decide)) (a5 60 (by decide)) (a5 61 (by decide)) hT
  · exact ⟨_, ⟨A, rfl, hT, h62, hD, h63, hV, h65, hW, hR⟩, sl.2 h⟩
theorem m_opnd_name (hn : 67 ≤ n) (hk : kA ts t = 30) (h3 : ps.length ≤ 3) (hpo : ∀ y ∈ ps, nmOk y) (hP : nmF 27 ps (A0 64)) (h8 : vs.length ≤ 8) (hvo : ∀ y ∈ vs, nmOk y) (hd : dr.length + 2 ≤ 800) (hS : (mX S0 w0 L tk ps.length lv df cl rest A0 ts (-1) t vs dr st S)) :
    (∀ p k vs', slA ps vs (nmA ts t) = some (p, k, vs') → ∃ S', (mX S0 w0 L tk ps.length lv df cl rest A0 ts (-1) t vs' (dr ++ [p, k]) st S') ∧ aE aM191 (d + 3) 0 [(0, .ref 56)] [] (gH scr kd n S) (aIs none (gH scr kd n S'))) ∧
    (slA ps vs (nmA ts t) = none → ∃ S', (mX S0 w0 L tk ps.length lv df cl rest A0 ts (Int32.ofNat (plA ts L t)) t vs (dr ++ [2, 0]) st S') ∧ aE aM191 (d + 3) 0 [(0, .ref 56)] [] (gH scr kd n S) (aIs none (gH scr kd n S'))) := by
  have ht : t ≤ ts.length := Nat.le_of_lt (kA_lt hk (by decide))
  have is2 := m_isX (d := d + 2) (scr := scr) (kd := kd) (k := 2) hn ht (by decide) hS
  rw [if_neg (fun z => by rw [mkA_2.mp z] at hk; cases hk)] at is2
  have sl := m_slotX (d := d + 1) (scr := scr) (kd := kd) hn hk h3 hpo hP h8 hvo hS
  refine ⟨fun p k vs' h => ?_, fun h => ?_⟩
  · obtain ⟨S1, X1, a1⟩ := sl.1 p k vs' h
    obtain ⟨S2, X2, a2⟩ := m_emitX (d := d + 2) (scr := scr) (kd := kd) (v := p) hn (by omega) X1
    obtain ⟨S3, X3, a3⟩ := m_emitX (d := d + 2) (scr := scr) (kd := kd) (v := k) hn (by rw [List.length_append, List.length_singleton]; omega) X2
    rw [List.append_assoc] at X3
    refine ⟨S3, X3, ?_⟩
    have so := slA_ok h8 hvo (nmA_okX hk (show ∀ (i : Nat) (tk : aTk), ts[i]? = some tk → tkW L tk by obtain ⟨A, -, hT, -⟩ := hS; exact hT.2.2.2.2.2.2)) h
    rcases so.2.2.2 with ⟨rfl, hk3⟩ | ⟨rfl, hk8⟩
    · rw [if_pos rfl] at a1
      refine eS rfl rfl ?_
      refine eS rfl rfl ?_
      refine gV1 hn rfl rfl rfl rfl rfl ⟨catOk rfl, catOk rfl⟩ (is2) ?_
      refine eEq rfl rfl (fun _ => ?_) (fun z => (z rfl).elim)
      refine eS rfl rfl ?_
      refine gV1 hn rfl rfl rfl rfl rfl ⟨catOk rfl, catOk rfl⟩ (a1) ?_
      refine eS rfl rfl ?_
      refine eS rfl rfl ?_
      refine eS rfl rfl ?_
      refine eS rfl rfl ?_
      refine eIGe rfl rfl (fun z => absurd ((i32_le (a := 4) (b := k) (by omega) (by omega)).mp z) (by omega)) (fun _ => ?_)
      refine eS rfl rfl ?_
      refine eS rfl rfl ?_
      refine gV1 hn rfl rfl rfl rfl rfl ⟨catOk rfl, catOk rfl⟩ (a2) ?_
      refine eS rfl rfl ?_
      refine eS rfl rfl ?_
      refine eS rfl rfl ?_
      refine eIGe rfl rfl (fun z => absurd ((i32_le (a := 4) (b := k) (by omega) (by omega)).mp z) (by omega)) (fun _ => ?_)
      refine eS rfl rfl ?_
      refine eS rfl rfl ?_
      refine gV1 hn rfl rfl rfl rfl rfl ⟨catOk rfl, catOk rfl⟩ (a3) ?_
      exact eR rfl rfl ⟨rfl, rfl⟩
    · rw [if_neg (by decide)] at a1
      refine eS rfl rfl ?_
      refine eS rfl rfl ?_
      refine gV1 hn rfl rfl rfl rfl rfl ⟨catOk rfl, catOk rfl⟩ (is2) ?_
      refine eEq rfl rfl (fun _ => ?_) (fun z => (z rfl).elim)
      refine eS rfl rfl ?_
      refine gV1 hn rfl rfl rfl rfl rfl ⟨catOk rfl, catOk rfl⟩ (a1) ?_
      refine eS rfl rfl ?_
      refine eS rfl rfl ?_
      refine eS rfl rfl ?_
      refine eS rfl rfl ?_
      refine eIGe rfl rfl (fun _ => ?_) (fun z => absurd ((i32_le (a := 4) (b := 4 + k) (by omega) (by omega)).mpr (by omega)) z)
      refine eS rfl rfl ?_
      refine gV1 hn rfl rfl rfl rfl rfl ⟨catOk rfl, catOk rfl⟩ (a2) ?_
      refine eS rfl rfl ?_
      refine eS rfl rfl ?_
      refine eS rfl rfl ?_
      refine eIGe rfl rfl (fun _ => ?_) (fun z => absurd ((i32_le (a := 4) (b := 4 + k) (by omega) (by omega)).mpr (by omega)) z)
      refine eS rfl rfl ?_
      refine eS rfl rfl ?_
      refine eS rfl rfl ?_
      rw [show Int32.ofNat (4 + k) - Int32.ofInt 4 = Int32.ofNat k from (i32_sub (b := 4) (by omega)).trans (congrArg Int32.ofNat (by omega))]
      refine gV1 hn rfl rfl rfl rfl rfl ⟨catOk rfl, catOk rfl⟩ (a3) ?_
      exact eR rfl rfl ⟨rfl, rfl⟩
  · obtain ⟨S1, X1, a1⟩ := sl.2 h
    obtain ⟨S2, X2, a2⟩ := m_emitX (d := d + 2) (scr := scr) (kd := kd) (v := 2) hn (by omega) X1
    obtain ⟨S3, X3, a3⟩ := m_emitX (d := d + 2) (scr := scr) (kd := kd) (v := 0) hn (by rw [List.length_append, List.length_singleton]; omega) X2
    rw [List.append_assoc] at X3
    refine ⟨S3, X3, ?_⟩
    refine eS rfl rfl ?_
    refine eS rfl rfl ?_
    refine gV1 hn rfl rfl rfl rfl rfl ⟨catOk rfl, catOk rfl⟩ (is2) ?_
    refine eEq rfl rfl (fun _ => ?_) (fun z => (z rfl).elim)
    refine eS rfl rfl ?_
    refine gV1 hn rfl rfl rfl rfl rfl ⟨catOk rfl, catOk rfl⟩ (a1) ?_
    refine eS rfl rfl ?_
    refine eS rfl rfl ?_
    refine eS rfl rfl ?_
    refine eS rfl rfl ?_
    refine eIGe rfl rfl (fun _ => ?_) (fun z => absurd (show (Int32.ofNat 4) ≤ (Int32.ofNat 4) by decide) z)
    refine eS rfl rfl ?_
    refine gV1 hn rfl rfl rfl rfl rfl ⟨catOk rfl, catOk rfl⟩ (a2) ?_
    refine eS rfl rfl ?_
    refine eS rfl rfl ?_
    refine eS rfl rfl ?_
    refine eIGe rfl rfl (fun _ => ?_) (fun z => absurd (show (Int32.ofNat 4) ≤ (Int32.ofNat 4) by decide) z)
    refine eS rfl rfl ?_
    refine eS rfl rfl ?_
    refine eS rfl rfl ?_
    rw [show Int32.ofNat 4 - Int32.ofInt 4 = Int32.ofNat 0 from rfl]
    refine gV1 hn rfl rfl rfl rfl rfl ⟨catOk rfl, catOk rfl⟩ (a3) ?_
    exact eR rfl rfl ⟨rfl, rfl⟩
end MOQ
