/-! the model begins a definition -/
section MSL
variable {scr : List Value} {kd : Nat → Nat} {n d L t lv df cl : Nat} {fr : List (Nat × Nat × Nat)} {ds : List dEf} {cs : List cAl} {S0 A A0 S : Nat → List Value} {w0 : Value} {wr tk : Int32} {rest : List Value} {ts : List aTk} {vs ps : List (List Nat)} {dr st : List Nat} {s : Nat} {x : xSt} {nm : List Nat} {Q : aOut → aH → Prop}
theorem mX_row {q : Nat} {b : List Value} (hq : 64 ≤ q ∧ q ≤ 75 ∧ q ≠ 65) (hS : (mX S0 w0 L tk ps.length lv df cl rest A0 ts wr t vs dr st S)) : (mX S0 w0 L tk ps.length lv df cl rest (aUp A0 q b) ts wr t vs dr st (aUp S q b)) ∧ S q = A0 q := by
  obtain ⟨A, rfl, hT, h62, hD, h63, hV, h65, hW, hR⟩ := hS
  have hb : (Nat.ble 58 q && Nat.ble q 75) = true := by rw [Bool.and_eq_true, Nat.ble_eq, Nat.ble_eq]; omega
  refine ⟨⟨aUp A q b, mt_up hb, mTok_tr (aUp_ne (by omega)) (aUp_ne (by omega)) (aUp_ne (by omega)) (aUp_ne (by omega)) hT, by rw [aUp_ne (by omega)]; exact h62, by rw [aUp_ne (by omega)]; exact hD, by rw [aUp_ne (by omega)]; exact h63, by rw [aUp_ne (by omega)]; exact hV, by rw [aUp_ne (by omega)]; exact h65, by rw [aUp_ne (by omega)]; exact hW, fun i h1 h2 h3 => ?_⟩, ?_⟩
  · by_cases e : i = q
    · subst e; rw [aUp_same, aUp_same]
    · rw [aUp_ne e, aUp_ne e]; exact hR i h1 h2 h3
  · show (if q = 56 then _ else if (Nat.ble 58 q && Nat.ble q 75) = true then A q else S0 q) = A0 q
    rw [if_neg (by omega), if_pos hb]
    exact hR q (by omega) (by omega) (by omega)
theorem mX_df {u : Nat} (hS : (mX S0 w0 L tk ps.length lv df cl rest A0 ts wr t vs dr st S)) : (mX S0 w0 L tk ps.length lv u cl rest A0 ts wr t vs dr st (aUp S 56 ((S 56).set 21 (.int (Int32.ofNat u))))) ∧ (S 56).length = 30 + rest.length := by
  obtain ⟨A, rfl, h⟩ := hS
  refine ⟨⟨A, me_df, h⟩, ?_⟩
  show (mE _ _ _ _ _ _ _ _ _ _ _ _).length = _
  unfold mE
  rw [List.length_append]
  rfl
theorem mX_pr {ps' : List (List Nat)} (hS : (mX S0 w0 L tk ps.length lv df cl rest A0 ts wr t vs dr st S)) : (mX S0 w0 L tk ps'.length lv df cl rest A0 ts wr t vs dr st (aUp S 56 ((S 56).set 14 (.int (Int32.ofNat ps'.length))))) := by
  obtain ⟨A, rfl, h⟩ := hS
  exact ⟨A, me_pr, h⟩
theorem mX_word (hk : kA ts t = 30) (hS : (mX S0 w0 L tk ps.length lv df cl rest A0 ts wr t vs dr st S)) : (S 60)[t]? = some (.long (Int64.ofNat (pk 27 (nmA ts t)))) ∧ (S 56)[7]? = some (.ref 60) ∧ (S 56)[22]? = some (.ref 69) ∧ (S 56)[15]? = some (.ref 64) ∧ (S 56)[23]? = some (.ref 70) ∧ (S 56)[24]? = some (.ref 71) := by
  obtain ⟨A, rfl, hT, -⟩ := hS
  obtain ⟨u, hu, hu1⟩ := kA_in hk (by decide)
  have := (hT.1 t u hu).2.2.1
  rw [show mwd u = pk 27 u.2.2.1 by unfold mwd; rw [if_neg (by omega)]] at this
  rw [show nmA ts t = u.2.2.1 by unfold nmA; rw [hu]]
  exact ⟨this, rfl, rfl, rfl, rfl, rfl⟩
theorem mX_refs (hS : (mX S0 w0 L tk ps.length lv df cl rest A0 ts wr t vs dr st S)) : (S 56)[7]? = some (.ref 60) ∧ (S 56)[22]? = some (.ref 69) ∧ (S 56)[15]? = some (.ref 64) ∧ (S 56)[23]? = some (.ref 70) ∧ (S 56)[24]? = some (.ref 71) := by
  obtain ⟨A, rfl, hT, -⟩ := hS
  exact ⟨rfl, rfl, rfl, rfl, rfl⟩
theorem m_dfL0 (hn : 67 ≤ n) (hdl : ds.length < 2 ^ 20) (hS : (mX S0 w0 L tk ps.length lv ds.length cl rest A0 ts wr t vs dr [] S)) (kk : aE aM187 (d + 1) 60 [(2, .int (Int32.ofNat ds.length)), (1, .int 0), (0, .ref 56)] [] (gH scr kd n S) Q) : ∀ (k i : Nat), i + k = ds.length → aE aM187 (d + 1) 17 [(2, .int (Int32.ofNat i)), (1, .int 0), (0, .ref 56)] [] (gH scr kd n S) Q
  | 0, i, hi => by
    obtain rfl : i = ds.length := by omega
    have b1 := i32_le (a := ds.length) (b := ds.length) (by omega) (by omega)
    refine eS rfl rfl ?_
    refine eS rfl rfl ?_
    refine gGet hn rfl rfl rfl (mX_f hS).2.2.2.2.2.1 ?_
    refine eIGe rfl rfl (fun _ => ?_) (fun z => absurd (b1.mpr (Nat.le_refl _)) z)
    exact kk
  | k + 1, i, hi => by
    have b1 := i32_le (a := ds.length) (b := i) (by omega) (by omega)
    refine eS rfl rfl ?_
    refine eS rfl rfl ?_
    refine gGet hn rfl rfl rfl (mX_f hS).2.2.2.2.2.1 ?_
    refine eIGe rfl rfl (fun z => absurd (b1.mp z) (by omega)) (fun _ => ?_)
    refine eS rfl rfl ?_
    refine eEq rfl rfl (fun _ => ?_) (fun z => absurd rfl z)
    refine eS rfl rfl ?_
    refine eS rfl rfl ?_
    refine eS rfl rfl ?_
    rw [i32_succ]
    refine eS rfl rfl ?_
    exact eLoc (l' := [(2, .int (Int32.ofNat (i + 1))), (1, .int 0), (0, .ref 56)]) rfl ⟨rfl, rfl, rfl, trivial⟩ (m_dfL0 hn hdl hS kk k (i + 1) (by omega))
theorem m_dfL1 (hn : 67 ≤ n) (hdl : ds.length < 2 ^ 20) (ht : t < 2 ^ 20) (hv : ∀ d ∈ ds, nmOk d.1) (hS : (mX S0 w0 L tk ps.length lv ds.length cl rest A0 ts wr t vs dr [] S)) (h69 : ∀ (i : Nat) (f : dEf), ds[i]? = some f → (S 69)[i]? = some (.long (Int64.ofNat (pk 27 f.1)))) (hk : kA ts t = 30) (hx : nmOk (nmA ts t)) : ∀ (k i : Nat), i + k = ds.length → aE aM187 (d + 1) 60 [(2, .int (Int32.ofNat ds.length)), (1, .int (if hasD (ds.drop i) (nmA ts t) = true then 0 else 1)), (0, .ref 56)] [] (gH scr kd n S) Q → aE aM187 (d + 1) 17 [(2, .int (Int32.ofNat i)), (1, .int 1), (0, .ref 56)] [] (gH scr kd n S) Q
  | 0, i, hi, kk => by
    obtain rfl : i = ds.length := by omega
    rw [List.drop_length] at kk
    have b1 := i32_le (a := ds.length) (b := ds.length) (by omega) (by omega)
    refine eS rfl rfl ?_
    refine eS rfl rfl ?_
    refine gGet hn rfl rfl rfl (mX_f hS).2.2.2.2.2.1 ?_
    refine eIGe rfl rfl (fun _ => ?_) (fun z => absurd (b1.mpr (Nat.le_refl _)) z)
    exact kk
  | k + 1, i, hi, kk => by
    have hil : i < ds.length := by omega
    have b1 := i32_le (a := ds.length) (b := i) (by omega) (by omega)
    obtain ⟨w1, w2, w3, -⟩ := mX_word hk hS
    have r69 := h69 i _ (List.getElem?_eq_getElem hil)
    have oi := hv _ (List.getElem_mem hil)
    rw [List.drop_eq_getElem_cons hil] at kk
    have eh : hasD (ds[i] :: ds.drop (i + 1)) (nmA ts t) = (ds[i].1 == nmA ts t || hasD (ds.drop (i + 1)) (nmA ts t)) := rfl
    rw [eh] at kk
    by_cases c : ds[i].1 = nmA ts t
    · rw [show (ds[i].1 == nmA ts t) = true by rw [c]; exact beq_self_eq_true _, Bool.true_or, if_pos rfl] at kk
      have L0 := m_dfL0 hn hdl hS kk k (i + 1) (by omega)
      refine eS rfl rfl ?_
      refine eS rfl rfl ?_
      refine gGet hn rfl rfl rfl (mX_f hS).2.2.2.2.2.1 ?_
      refine eIGe rfl rfl (fun z => absurd (b1.mp z) (by omega)) (fun _ => ?_)
      refine eS rfl rfl ?_
      refine eEq rfl rfl (fun z => absurd z (by decide)) (fun _ => ?_)
      refine eS rfl rfl ?_
      refine gGet hn rfl rfl rfl w3 ?_
      refine eS rfl rfl ?_
      refine gRd2 hn rfl rfl rfl i (by omega) r69 ?_
      refine eS rfl rfl ?_
      refine gGet hn rfl rfl rfl w2 ?_
      refine eS rfl rfl ?_
      refine gGet hn rfl rfl rfl (mX_f hS).2.2.1 ?_
      refine gRd2 hn rfl rfl rfl t (by omega) w1 ?_
      refine eS rfl rfl ?_
      refine eEq rfl rfl (fun _ => ?_) (fun z => absurd (lg_eq.mpr ((nm_eq (Or.inl rfl) oi hx).mpr c)) z)
      refine eS rfl rfl ?_
      refine eS rfl rfl ?_
      refine eS rfl rfl ?_
      rw [i32_succ]
      refine eS rfl rfl ?_
      exact eLoc (l' := [(2, .int (Int32.ofNat (i + 1))), (1, .int 0), (0, .ref 56)]) rfl ⟨rfl, rfl, rfl, trivial⟩ L0
    · rw [show (ds[i].1 == nmA ts t) = false by rw [beq_eq_false_iff_ne]; exact c, Bool.false_or] at kk
      have L1 := m_dfL1 hn hdl ht hv hS h69 hk hx k (i + 1) (by omega) kk
      refine eS rfl rfl ?_
      refine eS rfl rfl ?_
      refine gGet hn rfl rfl rfl (mX_f hS).2.2.2.2.2.1 ?_
      refine eIGe rfl rfl (fun z => absurd (b1.mp z) (by omega)) (fun _ => ?_)
      refine eS rfl rfl ?_
      refine eEq rfl rfl (fun z => absurd z (by decide)) (fun _ => ?_)
      refine eS rfl rfl ?_
      refine gGet hn rfl rfl rfl w3 ?_
      refine eS rfl rfl ?_
      refine gRd2 hn rfl rfl rfl i (by omega) r69 ?_
      refine eS rfl rfl ?_
      refine gGet hn rfl rfl rfl w2 ?_
      refine eS rfl rfl ?_
      refine gGet hn rfl rfl rfl (mX_f hS).2.2.1 ?_
      refine gRd2 hn rfl rfl rfl t (by omega) w1 ?_
      refine eS rfl rfl ?_
      refine eEq rfl rfl (fun z => absurd ((nm_eq (Or.inl rfl) oi hx).mp (lg_eq.mp z)) c) (fun _ => ?_)
      refine eS rfl rfl ?_
      refine eS rfl rfl ?_
      refine eS rfl rfl ?_
      refine eS rfl rfl ?_
      rw [i32_succ]
      refine eS rfl rfl ?_
      exact eLoc (l' := [(2, .int (Int32.ofNat (i + 1))), (1, .int 1), (0, .ref 56)]) rfl ⟨rfl, rfl, rfl, trivial⟩ L1
/-- the state after a parameter was compared with those before it -/
def dupW (ts : List aTk) (L t : Nat) (qs : List (List Nat)) (wr : Int32) : Int32 := if wr = -1 ∧ nmA ts t ∈ qs then Int32.ofNat (plA ts L t) else wr
theorem m_dupL (hn : 67 ≤ n) (h3 : ps.length ≤ 3) (hpo : ∀ y ∈ ps, nmOk y) (hk : kA ts t = 30) (hx : nmOk (nmA ts t)) (hp : ∀ t, plA ts L t < 2 ^ 20) (hP : rP ps A0) : ∀ (k i : Nat) (wr : Int32) (S : Nat → List Value), i + k = ps.length → (mX S0 w0 L tk ps.length lv df cl rest A0 ts wr t vs dr [] S) → (∀ S' j, (mX S0 w0 L tk ps.length lv df cl rest A0 ts (dupW ts L t (ps.drop i) wr) t vs dr [] S') → aE aM187 (d + 2) 164 [(2, .int j), (1, .int 1), (0, .ref 56)] [] (gH scr kd n S') Q) → aE aM187 (d + 2) 123 [(2, .int (Int32.ofNat i)), (1, .int 1), (0, .ref 56)] [] (gH scr kd n S) Q
  | 0, i, wr, S, hi, hS, kk => by
    obtain rfl : i = ps.length := by omega
    rw [List.drop_length] at kk
    have b1 := i32_le (a := ps.length) (b := ps.length) (by omega) (by omega)
    have F := kk S (Int32.ofNat ps.length) (by unfold dupW; rw [if_neg (fun z => by cases z.2)]; exact hS)
    refine eS rfl rfl ?_
    refine eS rfl rfl ?_
    refine gGet hn rfl rfl rfl (mX_f hS).2.2.2.1 ?_
    refine eIGe rfl rfl (fun _ => ?_) (fun z => absurd (b1.mpr (Nat.le_refl _)) z)
    exact F
  | k + 1, i, wr, S, hi, hS, kk => by
    have hil : i < ps.length := by omega
    have b1 := i32_le (a := ps.length) (b := i) (by omega) (by omega)
    obtain ⟨w1, w2, -, w4, -⟩ := mX_word hk hS
    have hlt := kA_lt hk (by decide)
    have h160 : ts.length ≤ 160 := by
      obtain ⟨A, rfl, hT, -⟩ := hS
      exact hT.2.2.2.2.1
    have r64 : (S 64)[i]? = some (.long (Int64.ofNat (pk 27 ps[i]))) := by
      rw [(mX_row (q := 64) (b := []) (by decide) hS).2]
      exact hP.1 i _ (List.getElem?_eq_getElem hil)
    have oi := hpo _ (List.getElem_mem hil)
    rw [List.drop_eq_getElem_cons hil] at kk
    by_cases c : ps[i] = nmA ts t
    · have hm : nmA ts t ∈ ps[i] :: ps.drop (i + 1) := by rw [c]; exact List.mem_cons_self ..
      have st : ∃ S2, (mX S0 w0 L tk ps.length lv df cl rest A0 ts (dupW ts L t (ps[i] :: ps.drop (i + 1)) wr) t vs dr [] S2) ∧ aE aM186 (d + 1) 0 [(0, .ref 56), (1, .int (Int32.ofNat t))] [] (gH scr kd n S) (aIs none (gH scr kd n S2)) := by
        by_cases cw : wr = -1
        · subst cw
          obtain ⟨S2, X2, a2⟩ := m_failX (d := d + 1) (scr := scr) (kd := kd) (ps := ps) hn (u := t) (by omega) hS
          exact ⟨S2, by unfold dupW; rw [if_pos ⟨rfl, hm⟩]; exact X2, a2⟩
        · exact ⟨S, by unfold dupW; rw [if_neg (fun z => cw z.1)]; exact hS, m_failE hn cw hS⟩
      obtain ⟨S2, X2, a2⟩ := st
      have ne2 : dupW ts L t (ps[i] :: ps.drop (i + 1)) wr ≠ -1 := by
        unfold dupW
        by_cases cw : wr = -1
        · rw [if_pos ⟨cw, hm⟩]; exact neg1_ne (hp t)
        · rw [if_neg (fun z => cw z.1)]; exact cw
      have IH := m_dupL hn h3 hpo hk hx hp hP k (i + 1) _ S2 (by omega) X2 (fun S' j X' => kk S' j (by
        have : dupW ts L t (ps.drop (i + 1)) (dupW ts L t (ps[i] :: ps.drop (i + 1)) wr) = dupW ts L t (ps[i] :: ps.drop (i + 1)) wr := by
          conv => lhs; unfold dupW
          exact if_neg (fun z => ne2 z.1)
        rw [this] at X'
        exact X'))
      refine eS rfl rfl ?_
      refine eS rfl rfl ?_
      refine gGet hn rfl rfl rfl (mX_f hS).2.2.2.1 ?_
      refine eIGe rfl rfl (fun z => absurd (b1.mp z) (by omega)) (fun _ => ?_)
      refine eS rfl rfl ?_
      refine gGet hn rfl rfl rfl w4 ?_
      refine eS rfl rfl ?_
      refine gRd2 hn rfl rfl rfl i (by omega) r64 ?_
      refine eS rfl rfl ?_
      refine gGet hn rfl rfl rfl w2 ?_
      refine eS rfl rfl ?_
      refine gGet hn rfl rfl rfl (mX_f hS).2.2.1 ?_
      refine gRd2 hn rfl rfl rfl t (by omega) w1 ?_
      refine eS rfl rfl ?_
      refine eNe rfl rfl (fun z => absurd (lg_eq.mpr ((nm_eq (Or.inl rfl) oi hx).mpr c)) z) (fun _ => ?_)
      refine eS rfl rfl ?_
      refine eS rfl rfl ?_
      refine gGet hn rfl rfl rfl (mX_f hS).2.2.1 ?_
      refine gV1 hn rfl rfl rfl rfl rfl ⟨catOk rfl, catOk rfl⟩ (a2) ?_
      refine eS rfl rfl ?_
      rw [i32_succ]
      refine eS rfl rfl ?_
      exact eLoc (l' := [(2, .int (Int32.ofNat (i + 1))), (1, .int 1), (0, .ref 56)]) rfl ⟨rfl, rfl, rfl, trivial⟩ IH
    · have ew : dupW ts L t (ps[i] :: ps.drop (i + 1)) wr = dupW ts L t (ps.drop (i + 1)) wr := by
        unfold dupW
        have : (nmA ts t ∈ ps[i] :: ps.drop (i + 1)) ↔ nmA ts t ∈ ps.drop (i + 1) := ⟨fun z => (List.mem_cons.mp z).elim (fun y => absurd y.symm c) id, List.mem_cons_of_mem _⟩
        simp only [this]
      rw [ew] at kk
      have IH := m_dupL hn h3 hpo hk hx hp hP k (i + 1) wr S (by omega) hS kk
      refine eS rfl rfl ?_
      refine eS rfl rfl ?_
      refine gGet hn rfl rfl rfl (mX_f hS).2.2.2.1 ?_
      refine eIGe rfl rfl (fun z => absurd (b1.mp z) (by omega)) (fun _ => ?_)
      refine eS rfl rfl ?_
      refine gGet hn rfl rfl rfl w4 ?_
      refine eS rfl rfl ?_
      refine gRd2 hn rfl rfl rfl i (by omega) r64 ?_
      refine eS rfl rfl ?_
      refine gGet hn rfl rfl rfl w2 ?_
      refine eS rfl rfl ?_
      refine gGet hn rfl rfl rfl (mX_f hS).2.2.1 ?_
      refine gRd2 hn rfl rfl rfl t (by omega) w1 ?_
      refine eS rfl rfl ?_
      refine eNe rfl rfl (fun _ => ?_) (fun z => absurd ((nm_eq (Or.inl rfl) oi hx).mp (lg_eq.mp z)) c)
      refine eS rfl rfl ?_
      rw [i32_succ]
      refine eS rfl rfl ?_
      exact eLoc (l' := [(2, .int (Int32.ofNat (i + 1))), (1, .int 1), (0, .ref 56)]) rfl ⟨rfl, rfl, rfl, trivial⟩ IH
end MSL
