section MEY
variable {scr : List Value} {kd : Nat → Nat} {n d L md t vr pr lv df cl : Nat} {S0 A : Nat → List Value} {w0 : Value} {wr tk : Int32} {rest : List Value} {ts : List aTk} {vs ps : List (List Nat)} {A0 S : Nat → List Value} {st dr : List Nat} {s dp : Nat} {mi : Int32} {x : List Nat} {Q : aOut → aH → Prop}
theorem wtF_left {a : List Value} : ∀ (st : List Nat), wtF st a → wtF (porL s st) a
  | [], h => h
  | w :: r, h => by
    unfold porL
    split
    · exact wtF_left r (wtF_pop h)
    · exact h
theorem m_pourX (hn : 67 ≤ n) (hs : s < 2 ^ 20) (hl : dr.length + st.length ≤ 800) (h4 : st.length ≤ 400) (hw : ∀ w ∈ st, w < 2 ^ 20) (hS : (mX S0 w0 L tk ps.length lv df cl rest A0 ts wr t vs dr st S)) : ∃ S', (mX S0 w0 L tk ps.length lv df cl rest A0 ts wr t vs (dr ++ porE s st) (porL s st) S') ∧ aE aM193 (d + 1) 0 [(0, .ref 56), (1, .int (Int32.ofNat st.length)), (2, .int (Int32.ofNat s))] [] (gH scr kd n S) (aIs (some (.int (Int32.ofNat (porL s st).length))) (gH scr kd n S')) := by
  obtain ⟨A, rfl, hT, h62, hD, h63, hV, h65, hW, hR⟩ := hS
  obtain ⟨A', a1, a2, a3, a4⟩ := m_pour (d := d) (scr := scr) (kd := kd) (t := t) (vr := vs.length) (pr := ps.length) (lv := lv) (df := df) (cl := cl) (S0 := S0) (w0 := w0) (wr := wr) (tk := tk) (L := L) (rest := rest) hn hs hD hW h62 hl h4 hw
  exact ⟨_, ⟨A', rfl, mTok_tr (a1 58 (by decide)) (a1 59 (by decide)) (a1 60 (by decide)) (a1 61 (by decide)) hT, a2, a3, by rw [a1 63 (by decide)]; exact h63, by rw [a1 63 (by decide)]; exact hV, by rw [a1 65 (by decide)]; exact h65, by rw [a1 65 (by decide)]; exact wtF_left st hW, fun q q1 q2 q3 => (a1 q q1).trans (hR q q1 q2 q3)⟩, a4⟩
theorem mX_tick (hS : (mX S0 w0 L tk ps.length lv df cl rest A0 ts wr t vs dr st S)) : ∃ A, S = (mtS S0 (mE w0 L wr tk dr.length t vs.length ps.length lv df cl rest) A) ∧ (mX S0 w0 L tk ps.length lv df cl rest A0 ts wr (t + 1) vs dr st (mtS S0 (mE w0 L wr tk dr.length (t + 1) vs.length ps.length lv df cl rest) A)) := by
  obtain ⟨A, rfl, hh⟩ := hS
  exact ⟨A, rfl, A, rfl, hh⟩
theorem ex_opnd {vs' : List (List Nat)} {e : List Nat} {S1 : Nat → List Value} (hn : 67 ≤ n) (hk : kA ts t = 1 ∨ kA ts t = 30) (hl : (dr ++ e).length + st.length ≤ 800) (h4 : st.length ≤ 400) (hw : ∀ w ∈ st, w < 2 ^ 20) (hS : (mX S0 w0 L tk ps.length lv df cl rest A0 ts (-1) t vs dr st S)) (hS1 : (mX S0 w0 L tk ps.length lv df cl rest A0 ts (-1) t vs' (dr ++ e) st S1)) (ho : aE aM191 (d + 3) 0 [(0, .ref 56)] [] (gH scr kd n S) (aIs none (gH scr kd n S1))) (k : ∀ S', (mX S0 w0 L tk ps.length lv df cl rest A0 ts (-1) (t + 1) vs' (dr ++ e ++ porE 3 st) (porL 3 st) S') → aE aM190 (d + 4) 12 (exL (porL 3 st).length dp 0 0) [] (gH scr kd n S') Q) : aE aM190 (d + 4) 12 (exL st.length dp 1 mi) [] (gH scr kd n S) Q := by
  have ht : t ≤ ts.length := Nat.le_of_lt (hk.elim (fun z => kA_lt z (by decide)) (fun z => kA_lt z (by decide)))
  refine ex_pre hn ht hS ?_
  have i45 := m_isSX (d := d + 3) (scr := scr) (kd := kd) (k := 45) hn ht (by decide) (by decide) hS
  rw [if_neg (by omega)] at i45
  rw [if_pos hk, if_neg (show ¬ kA ts t = 40 by omega)]
  obtain ⟨S2, X2, a2⟩ := m_pourX (d := d + 2) (scr := scr) (kd := kd) (s := 3) hn (by decide) hl h4 hw hS1
  obtain ⟨A, rfl, X3⟩ := mX_tick X2
  refine eS rfl rfl ?_
  refine eS rfl rfl ?_
  refine gV1 hn rfl rfl rfl rfl rfl ⟨catOk rfl, catOk rfl⟩ (i45) ?_
  refine eEq rfl rfl (fun _ => ?_) (fun z => (z rfl).elim)
  refine eS rfl rfl ?_
  refine eEq rfl rfl (fun _ => ?_) (fun z => (z rfl).elim)
  refine eS rfl rfl ?_
  refine eEq rfl rfl (fun z => absurd z (by decide)) (fun _ => ?_)
  refine eS rfl rfl ?_
  refine gV1 hn rfl rfl rfl rfl rfl ⟨catOk rfl, catOk rfl⟩ (ho) ?_
  refine eS rfl rfl ?_
  refine eS rfl rfl ?_
  refine eS rfl rfl ?_
  refine gV1 hn rfl rfl rfl rfl rfl ⟨catOk rfl, catOk rfl⟩ (a2) ?_
  refine eS rfl rfl ?_
  refine eS rfl rfl ?_
  refine eS rfl rfl ?_
  refine eS rfl rfl ?_
  refine eS rfl rfl ?_
  refine eS rfl rfl ?_
  refine eS rfl rfl ?_
  refine eS rfl rfl ?_
  refine gGet hn rfl rfl rfl rfl ?_
  refine eS rfl rfl ?_
  refine eS rfl rfl ?_
  rw [show Int32.ofNat t + Int32.ofInt 1 = Int32.ofNat (t + 1) from i32_succ]
  refine gPut hn rfl rfl rfl rfl rfl rfl rfl me_t ?_
  refine eS rfl rfl ?_
  exact eLoc (l' := exL (porL 3 st).length dp 0 0) rfl ⟨rfl, rfl, rfl, rfl, rfl, rfl, trivial⟩ (k _ X3)
end MEY
