/-! the model's state within an expression -/
def mX (S0 : Nat → List Value) (w0 : Value) (L : Nat) (tk : Int32) (pr lv df cl : Nat) (rest : List Value) (A0 : Nat → List Value) (ts : List aTk) (wr : Int32) (t : Nat) (vs : List (List Nat)) (dr st : List Nat) (S : Nat → List Value) : Prop := ∃ A, S = (mtS S0 (mE w0 L wr tk dr.length t vs.length pr lv df cl rest) A) ∧ mTok ts L A ∧ (A 62).length = 800 ∧ drF dr (A 62) ∧ (A 63).length = 8 ∧ nmF 27 vs (A 63) ∧ (A 65).length = 400 ∧ wtF st (A 65) ∧ ∀ q, q ≠ 62 → q ≠ 63 → q ≠ 65 → A q = A0 q
section MOP
variable {scr : List Value} {kd : Nat → Nat} {n d L md t vr pr lv df cl : Nat} {S0 A : Nat → List Value} {w0 : Value} {wr tk : Int32} {rest : List Value} {ts : List aTk} {vs ps : List (List Nat)} {A0 S : Nat → List Value} {st dr : List Nat} {s : Nat} {x : List Nat} {Q : aOut → aH → Prop}
theorem l2i_ok {v : Nat} (h : v < 2 ^ 31) : (Int64.ofNat v).toInt32 = Int32.ofNat v := by
  apply Int32.toInt_inj.mp
  rw [Int32.toInt_ofNat_of_lt (by omega), Int64.toInt_toInt32, Int64.toInt_ofNat_of_lt (by omega)]
  exact Int.bmod_eq_of_le (by omega) (by omega)
theorem m_opnd_num (hn : 67 ≤ n) (hk : kA ts t = 1) (hd : dr.length + 3 ≤ 800) (hS : (mX S0 w0 L tk ps.length lv df cl rest A0 ts (-1) t vs dr st S)) : ∃ S', (mX S0 w0 L tk ps.length lv df cl rest A0 ts (-1) t vs (dr ++ [1, dgA ts t, bhA ts t]) st S') ∧ aE aM191 (d + 3) 0 [(0, .ref 56)] [] (gH scr kd n S) (aIs none (gH scr kd n S')) := by
  obtain ⟨A, rfl, hT, h62, hD, h63, hV, h65, hW, hR⟩ := hS
  obtain ⟨u, e, u1⟩ := kA_in hk (by decide)
  have ht := ts_lt e
  have h160 := hT.2.2.2.2.1
  have is2 := m_is (d := d + 2) (scr := scr) (kd := kd) (md := dr.length) (vr := vs.length) (pr := ps.length) (lv := lv) (df := df) (cl := cl) (S0 := S0) (w0 := w0) (wr := -1) (tk := tk) (rest := rest) (k := 2) hn hT (Nat.le_of_lt ht) (by decide)
  rw [if_pos (mkA_2.mpr hk)] at is2
  have f := hT.1 t u e
  have f60 : (A 60)[t]? = some (.long (Int64.ofNat (dgA ts t))) := by
    have := f.2.2.1
    rw [show mwd u = u.2.2.2.1 from if_pos u1] at this
    rw [show dgA ts t = u.2.2.2.1 by unfold dgA; rw [e]]
    exact this
  have f61 : (A 61)[t]? = some (.int (Int32.ofNat (bhA ts t))) := by
    rw [show bhA ts t = u.2.2.2.2 by unfold bhA; rw [e]]
    exact f.2.2.2 u1
  have dlt : dgA ts t < 2 ^ 31 := by
    rw [show dgA ts t = u.2.2.2.1 by unfold dgA; rw [e]]
    rcases (hT.2.2.2.2.2.2 t u e).2 with c | c | c
    · omega
    · rw [u1] at c; cases c
    · have := (kwd_rng u.2.2.1).1
      rw [← c.1] at this
      exact absurd u1 this
  have D1 := drF_snoc (x := 1) hD (by omega)
  have D2 := drF_snoc (x := dgA ts t) D1 (by rw [List.length_set, List.length_append, List.length_singleton]; omega)
  have D3 := drF_snoc (x := bhA ts t) D2 (by rw [List.length_set, List.length_set, List.length_append, List.length_append, List.length_singleton, List.length_singleton]; omega)
  rw [List.length_append, List.length_singleton] at D2 D3
  rw [List.length_append, List.length_append, List.length_singleton, List.length_singleton] at D3
  have m1 := m_emit (d := d + 2) (scr := scr) (kd := kd) (t := t) (vr := vs.length) (pr := ps.length) (lv := lv) (df := df) (cl := cl) (S0 := S0) (w0 := w0) (wr := -1) (tk := tk) (L := L) (rest := rest) (A := A) (md := dr.length) (v := .ofNat 1) hn h62 (by omega)
  have m2 := m_emit (d := d + 2) (scr := scr) (kd := kd) (t := t) (vr := vs.length) (pr := ps.length) (lv := lv) (df := df) (cl := cl) (S0 := S0) (w0 := w0) (wr := -1) (tk := tk) (L := L) (rest := rest) (A := aUp A 62 ((A 62).set dr.length (.int (Int32.ofNat 1)))) (md := dr.length + 1) (v := Int32.ofNat (dgA ts t)) hn (by rw [aUp_same, List.length_set]; exact h62) (by omega)
  rw [aUp_same, aUp_aUp] at m2
  have m3 := m_emit (d := d + 2) (scr := scr) (kd := kd) (t := t) (vr := vs.length) (pr := ps.length) (lv := lv) (df := df) (cl := cl) (S0 := S0) (w0 := w0) (wr := -1) (tk := tk) (L := L) (rest := rest) (A := aUp A 62 (((A 62).set dr.length (.int (Int32.ofNat 1))).set (dr.length + 1) (.int (Int32.ofNat (dgA ts t))))) (md := dr.length + 1 + 1) (v := Int32.ofNat (bhA ts t)) hn (by rw [aUp_same, List.length_set, List.length_set]; exact h62) (by omega)
  rw [aUp_same, aUp_aUp] at m3
  refine ⟨_, ⟨aUp A 62 ((((A 62).set dr.length (.int (Int32.ofNat 1))).set (dr.length + 1) (.int (Int32.ofNat (dgA ts t)))).set (dr.length + 1 + 1) (.int (Int32.ofNat (bhA ts t)))), rfl, hT, by rw [aUp_same, List.length_set, List.length_set, List.length_set]; exact h62, ?_, h63, hV, h65, hW, fun q q1 q2 q3 => (aUp_ne q1).trans (hR q q1 q2 q3)⟩, ?_⟩
  · rw [aUp_same, show dr ++ [1, dgA ts t, bhA ts t] = dr ++ [1] ++ [dgA ts t] ++ [bhA ts t] by simp]
    exact D3
  · rw [show (dr ++ [1, dgA ts t, bhA ts t]).length = dr.length + 1 + 1 + 1 by simp]
    refine eS rfl rfl ?_
    refine eS rfl rfl ?_
    refine gV1 hn rfl rfl rfl rfl rfl ⟨catOk rfl, catOk rfl⟩ (is2) ?_
    refine eEq rfl rfl (fun z => absurd z (by decide)) (fun _ => ?_)
    refine eS rfl rfl ?_
    refine eS rfl rfl ?_
    refine gV1 hn rfl rfl rfl rfl rfl ⟨catOk rfl, catOk rfl⟩ (m1) ?_
    refine eS rfl rfl ?_
    refine eS rfl rfl ?_
    refine gGet hn rfl rfl rfl rfl ?_
    refine eS rfl rfl ?_
    refine gGet hn rfl rfl rfl rfl ?_
    refine gRd2 hn rfl rfl rfl t (by omega) f60 ?_
    refine eS rfl rfl ?_
    rw [l2i_ok dlt]
    refine gV1 hn rfl rfl rfl rfl rfl ⟨catOk rfl, catOk rfl⟩ (m2) ?_
    refine eS rfl rfl ?_
    refine eS rfl rfl ?_
    refine gGet hn rfl rfl rfl rfl ?_
    refine eS rfl rfl ?_
    refine gGet hn rfl rfl rfl rfl ?_
    refine gRd0 hn rfl rfl rfl t (by omega) f61 ?_
    refine gV1 hn rfl rfl rfl rfl rfl ⟨catOk rfl, catOk rfl⟩ (m3) ?_
    exact eR rfl rfl ⟨rfl, rfl⟩
end MOP
