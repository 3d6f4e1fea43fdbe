/-! the model's names and operators -/
def keyOf (k : Nat) : Nat := match kwds.findIdx? (fun q => q.2 == k) with | some i => i + 1 | none => 0
section MNM
variable {scr : List Value} {kd : Nat → Nat} {n d L md t vr pr lv df cl : Nat} {S0 A : Nat → List Value} {w0 : Value} {wr tk : Int32} {rest : List Value} {ts : List aTk} {vs ps : List (List Nat)} {Q : aOut → aH → Prop}
theorem kwd_tab {l : List Nat} : (∃ q ∈ kwds, q.1 = l) ∨ (kwd l = 30 ∧ rsvV l = 0) := by
  by_cases h : ∃ q ∈ kwds, q.1 = l
  · exact Or.inl h
  · right
    have e1 : kwds.find? (fun q => q.1 == l) = none := by
      rw [List.find?_eq_none]
      intro q hq z
      exact h ⟨q, hq, eq_of_beq z⟩
    have e2 : kwds.findIdx? (fun q => q.1 == l) = none := by
      rw [List.findIdx?_eq_none_iff]
      intro q hq
      rw [beq_eq_false_iff_ne]
      exact fun z => h ⟨q, hq, z⟩
    unfold kwd rsvV
    rw [e1, e2]
    exact ⟨rfl, rfl⟩
theorem rsv_key {l : List Nat} : rsvV l = keyOf (kwd l) := by
  rcases kwd_tab (l := l) with ⟨q, hq, rfl⟩ | ⟨h1, h2⟩
  · exact (show ∀ q ∈ kwds, rsvV q.1 = keyOf (kwd q.1) by decide) q hq
  · rw [h1, h2]; rfl
theorem rsv_30 {l : List Nat} : rsvV l = 0 ↔ kwd l = 30 := by
  rcases kwd_tab (l := l) with ⟨q, hq, rfl⟩ | ⟨h1, h2⟩
  · exact (show ∀ q ∈ kwds, (rsvV q.1 = 0 ↔ kwd q.1 = 30) by decide) q hq
  · rw [h1, h2]; simp
theorem keyOf_no {k : Nat} (h : k = 1 ∨ k = 34 ∨ 40 ≤ k) : keyOf k = 0 := by
  unfold keyOf
  have : kwds.findIdx? (fun q => q.2 == k) = none := by
    rw [List.findIdx?_eq_none_iff]
    intro q hq
    rw [beq_eq_false_iff_ne]
    have := (show ∀ q ∈ kwds, q.2 ≠ 1 ∧ q.2 ≠ 34 ∧ q.2 < 40 by decide) q hq
    omega
  rw [this]
/-- a word, or not -/
theorem mkA_1 (hW : ∀ (i : Nat) (tk : aTk), ts[i]? = some tk → tkW L tk) : (∃ tk, ts[t]? = some tk ∧ mkA ts t = 1 ∧ kA ts t = kwd tk.2.2.1 ∧ tk.1 ≠ 1 ∧ nmOk tk.2.2.1) ∨ (mkA ts t ≠ 1 ∧ (kA ts t = 1 ∨ kA ts t = 34 ∨ 40 ≤ kA ts t)) := by
  unfold mkA kA
  cases e : ts[t]? with
  | none => exact Or.inr ⟨(by decide), Or.inr (Or.inl rfl)⟩
  | some tk =>
    dsimp only
    rcases kA_kind hW e with c | c | c
    · refine Or.inr ⟨?_, Or.inl c⟩
      unfold mkd
      rw [if_pos c]
      decide
    · refine Or.inr ⟨?_, Or.inr (Or.inr c.2)⟩
      unfold mkd
      rw [if_neg (by omega), if_neg (by omega)]
      omega
    · refine Or.inl ⟨tk, rfl, ?_, c.1, c.2.2.1, c.2.1⟩
      unfold mkd
      rw [if_neg c.2.2.1, if_pos c.2.2.2]
theorem m_keyword (hn : 67 ≤ n) (hT : mTok ts L A) (ht : t ≤ ts.length) : aE aM181 (d + 2) 0 [(0, .ref 56)] [] (gH scr kd n (mtS S0 (mE w0 L wr tk md t vr pr lv df cl rest) A)) (aIs (some (.int (Int32.ofNat (keyOf (kA ts t))))) (gH scr kd n (mtS S0 (mE w0 L wr tk md t vr pr lv df cl rest) A))) := by
  have hl := hT.2.2.2.2.1
  have is1 := m_is (d := d + 1) (scr := scr) (kd := kd) (md := md) (vr := vr) (pr := pr) (lv := lv) (df := df) (cl := cl) (S0 := S0) (w0 := w0) (wr := wr) (tk := tk) (rest := rest) (k := 1) hn hT ht (by decide)
  rcases mkA_1 (t := t) hT.2.2.2.2.2.2 with ⟨u, e, h1, h2, h3, h4⟩ | ⟨h1, h2⟩
  · rw [if_pos h1] at is1
    have rs := m_reserved (d := d) (h := (gH scr kd n (mtS S0 (mE w0 L wr tk md t vr pr lv df cl rest) A))) h4
    have f := (hT.1 t u e).2.2.1
    rw [show mwd u = pk 27 u.2.2.1 from if_neg h3] at f
    rw [h2, ← rsv_key]
    refine eS rfl rfl ?_
    refine eS rfl rfl ?_
    refine gV1 hn rfl rfl rfl rfl rfl ⟨catOk rfl, catOk rfl⟩ (is1) ?_
    refine eEq rfl rfl (fun z => absurd z (by decide)) (fun _ => ?_)
    refine eS rfl rfl ?_
    refine gGet hn rfl rfl rfl rfl ?_
    refine eS rfl rfl ?_
    refine gGet hn rfl rfl rfl rfl ?_
    refine gRd2 hn rfl rfl rfl t (by omega) f ?_
    refine eC1 rfl rfl rfl ⟨catOk rfl, catOk rfl⟩ (rs) ?_
    refine eS rfl rfl ?_
    exact eR rfl rfl ⟨rfl, rfl⟩
  · rw [if_neg h1] at is1
    rw [keyOf_no h2]
    refine eS rfl rfl ?_
    refine eS rfl rfl ?_
    refine gV1 hn rfl rfl rfl rfl rfl ⟨catOk rfl, catOk rfl⟩ (is1) ?_
    refine eEq rfl rfl (fun _ => ?_) (fun z => (z rfl).elim)
    refine eS rfl rfl ?_
    exact eR rfl rfl ⟨rfl, rfl⟩
theorem m_isName (hn : 67 ≤ n) (hT : mTok ts L A) (ht : t ≤ ts.length) : aE aM188 (d + 2) 0 [(0, .ref 56)] [] (gH scr kd n (mtS S0 (mE w0 L wr tk md t vr pr lv df cl rest) A)) (aIs (some (.int (if kA ts t = 30 then 1 else 0))) (gH scr kd n (mtS S0 (mE w0 L wr tk md t vr pr lv df cl rest) A))) := by
  have hl := hT.2.2.2.2.1
  have is1 := m_is (d := d + 1) (scr := scr) (kd := kd) (md := md) (vr := vr) (pr := pr) (lv := lv) (df := df) (cl := cl) (S0 := S0) (w0 := w0) (wr := wr) (tk := tk) (rest := rest) (k := 1) hn hT ht (by decide)
  rcases mkA_1 (t := t) hT.2.2.2.2.2.2 with ⟨u, e, h1, h2, h3, h4⟩ | ⟨h1, h2⟩
  · rw [if_pos h1] at is1
    have rs := m_reserved (d := d) (h := (gH scr kd n (mtS S0 (mE w0 L wr tk md t vr pr lv df cl rest) A))) h4
    have f := (hT.1 t u e).2.2.1
    rw [show mwd u = pk 27 u.2.2.1 from if_neg h3] at f
    have rb : rsvV u.2.2.1 < 2 ^ 20 := by
      rcases kwd_tab (l := u.2.2.1) with ⟨q, hq, hql⟩ | ⟨_, h⟩
      · rw [← hql]
        exact Nat.lt_of_le_of_lt ((show ∀ q ∈ kwds, rsvV q.1 ≤ 16 by decide) q hq) (by decide)
      · rw [h]; decide
    have z0 := i32_eq (a := rsvV u.2.2.1) (b := 0) (by omega) (by decide)
    by_cases k30 : kA ts t = 30
    · rw [if_pos k30]
      have r0 := rsv_30.mpr (h2.symm.trans k30)
      refine eS rfl rfl ?_
      refine eS rfl rfl ?_
      refine gV1 hn rfl rfl rfl rfl rfl ⟨catOk rfl, catOk rfl⟩ (is1) ?_
      refine eEq rfl rfl (fun z => absurd z (by decide)) (fun _ => ?_)
      refine eS rfl rfl ?_
      refine gGet hn rfl rfl rfl rfl ?_
      refine eS rfl rfl ?_
      refine gGet hn rfl rfl rfl rfl ?_
      refine gRd2 hn rfl rfl rfl t (by omega) f ?_
      refine eC1 rfl rfl rfl ⟨catOk rfl, catOk rfl⟩ (rs) ?_
      refine eNe rfl rfl (fun z => absurd (z0.mpr r0) z) (fun _ => ?_)
      refine eS rfl rfl ?_
      refine eS rfl rfl ?_
      exact eR rfl rfl ⟨rfl, rfl⟩
    · rw [if_neg k30]
      have r0 : rsvV u.2.2.1 ≠ 0 := fun z => k30 (h2.trans (rsv_30.mp z))
      refine eS rfl rfl ?_
      refine eS rfl rfl ?_
      refine gV1 hn rfl rfl rfl rfl rfl ⟨catOk rfl, catOk rfl⟩ (is1) ?_
      refine eEq rfl rfl (fun z => absurd z (by decide)) (fun _ => ?_)
      refine eS rfl rfl ?_
      refine gGet hn rfl rfl rfl rfl ?_
      refine eS rfl rfl ?_
      refine gGet hn rfl rfl rfl rfl ?_
      refine gRd2 hn rfl rfl rfl t (by omega) f ?_
      refine eC1 rfl rfl rfl ⟨catOk rfl, catOk rfl⟩ (rs) ?_
      refine eNe rfl rfl (fun _ => ?_) (fun z => absurd (z0.mp z) r0)
      refine eS rfl rfl ?_
      exact eR rfl rfl ⟨rfl, rfl⟩
  · rw [if_neg h1] at is1
    rw [if_neg (show kA ts t ≠ 30 by omega)]
    refine eS rfl rfl ?_
    refine eS rfl rfl ?_
    refine gV1 hn rfl rfl rfl rfl rfl ⟨catOk rfl, catOk rfl⟩ (is1) ?_
    refine eEq rfl rfl (fun _ => ?_) (fun z => (z rfl).elim)
    refine eS rfl rfl ?_
    exact eR rfl rfl ⟨rfl, rfl⟩
def strg (w : Nat) : Nat := if w = 40 then 0 else if w < 8 then 1 else if w < 10 then 2 else 3
theorem m_strength {w : Nat} {h : aH} (hw : w < 2 ^ 20) : aE aM194 d 0 [(0, .int (Int32.ofNat w))] [] h (aIs (some (.int (Int32.ofNat (strg w)))) h) := by
  unfold strg
  by_cases c1 : w = 40
  · rw [if_pos c1]
    refine eS rfl rfl ?_
    refine eS rfl rfl ?_
    refine eINe rfl rfl (fun z => absurd (((i32_eq (a := w) (b := 40) (by omega) (by omega)).mpr) c1) z) (fun _ => ?_)
    refine eS rfl rfl ?_
    refine eS rfl rfl ?_
    exact eR rfl rfl ⟨rfl, rfl⟩
  · rw [if_neg c1]
    by_cases c2 : w < 8
    · rw [if_pos c2]
      refine eS rfl rfl ?_
      refine eS rfl rfl ?_
      refine eINe rfl rfl (fun _ => ?_) (fun z => absurd (((i32_eq (a := w) (b := 40) (by omega) (by omega)).mp) z) c1)
      refine eS rfl rfl ?_
      refine eS rfl rfl ?_
      refine eIGe rfl rfl (fun z => absurd ((i32_le (a := 8) (b := w) (by omega) (by omega)).mp z) (by omega)) (fun _ => ?_)
      refine eS rfl rfl ?_
      refine eS rfl rfl ?_
      exact eR rfl rfl ⟨rfl, rfl⟩
    · rw [if_neg c2]
      by_cases c3 : w < 10
      · rw [if_pos c3]
        refine eS rfl rfl ?_
        refine eS rfl rfl ?_
        refine eINe rfl rfl (fun _ => ?_) (fun z => absurd (((i32_eq (a := w) (b := 40) (by omega) (by omega)).mp) z) c1)
        refine eS rfl rfl ?_
        refine eS rfl rfl ?_
        refine eIGe rfl rfl (fun _ => ?_) (fun z => absurd ((i32_le (a := 8) (b := w) (by omega) (by omega)).mpr (by omega)) z)
        refine eS rfl rfl ?_
        refine eS rfl rfl ?_
        refine eIGe rfl rfl (fun z => absurd ((i32_le (a := 10) (b := w) (by omega) (by omega)).mp z) (by omega)) (fun _ => ?_)
        refine eS rfl rfl ?_
        refine eS rfl rfl ?_
        exact eR rfl rfl ⟨rfl, rfl⟩
      · rw [if_neg c3]
        refine eS rfl rfl ?_
        refine eS rfl rfl ?_
        refine eINe rfl rfl (fun _ => ?_) (fun z => absurd (((i32_eq (a := w) (b := 40) (by omega) (by omega)).mp) z) c1)
        refine eS rfl rfl ?_
        refine eS rfl rfl ?_
        refine eIGe rfl rfl (fun _ => ?_) (fun z => absurd ((i32_le (a := 8) (b := w) (by omega) (by omega)).mpr (by omega)) z)
        refine eS rfl rfl ?_
        refine eS rfl rfl ?_
        refine eIGe rfl rfl (fun _ => ?_) (fun z => absurd ((i32_le (a := 10) (b := w) (by omega) (by omega)).mpr (by omega)) z)
        refine eS rfl rfl ?_
        exact eR rfl rfl ⟨rfl, rfl⟩
end MNM
