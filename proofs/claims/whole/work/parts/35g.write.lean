/-! a program is written, whole -/
section CDG
variable {scr : List Value} {kd : Nat → Nat} {n n0 d pa tc : Nat} {S1 U U' S : Nat → List Value} {fs fc : Value} {ws pre : List Nat} {g a q hi : Nat} {M : List (Nat × Nat)} {ts : List aTk} {L : Nat} {w k : Nat} {tm : List (Nat × Nat × Nat)} {f : Bool} {P : cPst}
theorem cpU_at : ∀ (M : List (Nat × Nat)) (U : Nat → List Value), M.Pairwise (fun p q => p.1 < q.1 ∧ p.2 < q.2) → (∀ p ∈ M, (U p.1).length = 13) → ∀ p ∈ M, (cpU M U p.1)[12]? = some (.int (Int32.ofNat p.2))
  | [], U, _, _, p, hp => by cases hp
  | a :: r, U, hd, hl, p, hp => by
    have hd' := List.pairwise_cons.mp hd
    have hn : ∀ (r : List (Nat × Nat)) (U : Nat → List Value) (q : Nat), (∀ z ∈ r, q < z.1) → cpU r U q = U q := fun r => by
      induction r with
      | nil => exact fun U q _ => rfl
      | cons b r ih =>
        intro U q hq
        show cpU r _ q = U q
        rw [ih _ q (fun z hz => hq z (List.mem_cons_of_mem _ hz)), aUp_ne (by have := hq b (List.mem_cons_self ..); omega)]
    rcases List.mem_cons.mp hp with e | hp
    · subst e
      show (cpU r _ p.1)[12]? = _
      rw [hn r _ p.1 (fun z hz => (hd'.1 z hz).1), aUp_same, List.getElem?_set_self (by rw [hl p (List.mem_cons_self ..)]; decide)]
    · refine cpU_at r _ hd'.2 (fun z hz => ?_) p hp
      by_cases e : z.1 = a.1
      · rw [e, aUp_same, List.length_set]; exact hl a (List.mem_cons_self ..)
      · rw [aUp_ne e]; exact hl z (List.mem_cons_of_mem _ hz)
theorem c_lnk2 {D : List (Nat × dEf)} (hn0 : 67 ≤ n0) (hnn : n0 ≤ n) (hpa : pa = 46 ∨ pa = 51) (ho : oOk n0 n kd U) (hD : ∀ z ∈ D, n0 + 20 ≤ z.1 ∧ z.1 < n + 20 ∧ (U z.1)[12]? = some (.int (Int32.ofNat z.2.2.2))) : ∀ (r : List (Nat × cAl)) (v : Value) (S : Nat → List Value) (ws ws' : List Nat), chF U v (r.map (fun p => p.1)) → (∀ p ∈ r, n0 + 20 ≤ p.1 ∧ p.1 < n + 20 ∧ p.2.2.2.1 < 2 ^ 20 ∧ (U p.1)[11]? = some (fndD D p.2.1) ∧ (U p.1)[12]? = some (.int (Int32.ofNat p.2.2.2.1))) → lnkA ts L (D.map (fun p => p.2)) (r.map (fun p => p.2)) ws = .ok ws' → dX S1 pa fs fc tc U ws S → ∃ S', dX S1 pa fs fc tc U ws' S' ∧ aE aM94 (d + 1) 24 [(2, v), (0, .ref 34), (1, .ref pa)] [] (gH scr kd n S) (aIs none (gH scr kd n S'))
  | [], v, S, ws, ws', hc, hr, hl, h => by
    have hc : v = .null := hc
    subst hc
    cases hl
    refine ⟨S, h, ?_⟩
    refine eS rfl rfl ?_
    refine eS rfl rfl ?_
    exact eR rfl rfl ⟨rfl, rfl⟩
  | p :: r, v, S, ws, ws', ⟨h1, h2, w, h3, h4⟩, hr, hl, h => by
    subst h1
    have hn : 67 ≤ n := by omega
    obtain ⟨p1, p2, p3, p4, p5⟩ := hr p (List.mem_cons_self ..)
    have hw : w = .null ∨ ∃ q, w = .ref q := by
      cases r with
      | nil => exact Or.inl h4
      | cons p2 r2 => exact Or.inr ⟨_, h4.1⟩
    rw [List.map_cons, lnkA, fnd_map] at hl
    cases ef : D.find? (fun z => z.2.1 == p.2.1) with
    | none => rw [ef] at hl; cases hl
    | some z =>
      rw [ef] at hl
      have hl : (if z.2.2.1 = p.2.2.1 then lnkA ts L (D.map (fun p => p.2)) (r.map (fun p => p.2)) (ws.set p.2.2.2.1 z.2.2.2) else .error (plA ts L p.2.2.2.2)) = .ok ws' := hl
      have ev : fndD D p.2.1 = .ref z.1 := by unfold fndD; rw [ef]
      rw [ev] at p4
      obtain ⟨z1, z2, z3⟩ := hD z (List.mem_of_find?_eq_some ef)
      by_cases ec : z.2.2.1 = p.2.2.1
      · rw [if_pos ec] at hl
        obtain ⟨S2, h5, h6⟩ := d_set (k := p.2.2.2.1) (w := z.2.2.2) (d := d) (scr := scr) (kd := kd) hn hpa p3 h
        obtain ⟨S', h7, h8⟩ := c_lnk2 hn0 hnn hpa ho hD r w S2 _ ws' h4 (fun y hy => hr y (List.mem_cons_of_mem _ hy)) hl h5
        refine ⟨S', h7, ?_⟩
        refine eS rfl rfl ?_
        refine eS rfl rfl ?_
        refine eS rfl rfl ?_
        refine gGetO (p := p.1) (c := U p.1) rfl (by omega) p2 (ho p.1 p1 p2).1 (d_87 h (by omega)) p4 ?_
        refine eS rfl rfl ?_
        refine eS rfl rfl ?_
        refine eS rfl rfl ?_
        refine gGetO (p := p.1) (c := U p.1) rfl (by omega) p2 (ho p.1 p1 p2).1 (d_87 h (by omega)) p5 ?_
        refine eS rfl rfl ?_
        refine gGetO (p := p.1) (c := U p.1) rfl (by omega) p2 (ho p.1 p1 p2).1 (d_87 h (by omega)) p4 ?_
        refine gGetO (p := z.1) (c := U z.1) rfl (by omega) z2 (ho z.1 z1 z2).1 (d_87 h (by omega)) z3 ?_
        refine gV1 hn rfl rfl (pa_h0 hpa) (pa_k0 hpa) rfl ⟨catOk rfl, catOk rfl⟩ h6 ?_
        refine eS rfl rfl ?_
        refine gGetO (p := p.1) (c := U p.1) rfl (by omega) p2 (ho p.1 p1 p2).1 (d_87 h5 (by omega)) h3 ?_
        skip
        rcases hw with rfl | ⟨q, rfl⟩
        · refine eS rfl rfl ?_
          refine eS rfl rfl ?_
          exact eLoc (l' := [(2, .null), (0, .ref 34), (1, .ref pa)]) rfl ⟨rfl, rfl, rfl, trivial⟩ h8
        · refine eS rfl rfl ?_
          refine eS rfl rfl ?_
          exact eLoc (l' := [(2, .ref q), (0, .ref 34), (1, .ref pa)]) rfl ⟨rfl, rfl, rfl, trivial⟩ h8
      · rw [if_neg ec] at hl; cases hl
theorem dX_0 (hpa : pa = 46 ∨ pa = 51) (hp : S1 pa = [fs, fc, .ref (pa + 1), .ref (pa + 2), .ref (pa + 3), .int (Int32.ofNat tc), .ref (pa + 4), .int 0]) (h4 : (S1 (pa + 4)).length = 240) (hU : ∀ p, 87 ≤ p → S1 p = U p) : dX S1 pa fs fc tc U [] (aUp S1 34 [.ref pa]) := by
  refine ⟨S1 (pa + 4), ?_, h4, fun i x _ hx => by cases hx⟩
  funext q
  unfold aUp cdS
  by_cases h87 : Nat.ble 87 q = true
  · have := Nat.ble_eq.mp h87
    rw [if_pos h87, if_neg (by omega)]
    exact hU q this
  rw [if_neg h87]
  by_cases e1 : q = 34
  · rw [if_pos e1, if_pos e1]
  rw [if_neg e1, if_neg e1]
  by_cases e6 : q = pa
  · rw [if_pos (by rw [Bool.and_eq_true, Nat.ble_eq, Nat.ble_eq]; omega), if_pos e6, e6, hp]
    rfl
  by_cases e7 : (Nat.ble 46 q && Nat.ble q 55) = true
  · rw [if_pos e7, if_neg e6]
    by_cases e8 : q = pa + 4
    · rw [if_pos e8, e8]
    · rw [if_neg e8]
  · rw [if_neg e7]
theorem c_writeT {D : List (Nat × dEf)} {K : List (Nat × cAl)} {ws' : List Nat} (hn0 : 67 ≤ n0) (hnn : n0 ≤ n) (hpa : pa = 46 ∨ pa = 51) (hF : tmF tm (S1 (pa + 1)) (S1 (pa + 2)) (S1 (pa + 3))) (htc : tc = tm.length) (h160 : tm.length ≤ 160) (h34 : (S1 34).length = 1) (hp : S1 pa = [fs, fc, .ref (pa + 1), .ref (pa + 2), .ref (pa + 3), .int (Int32.ofNat tc), .ref (pa + 4), .int 0]) (h4 : (S1 (pa + 4)).length = 240) (hU : ∀ p, 87 ≤ p → S1 p = U p) (ho : oOk n0 n kd U) (hT : hLs U (tpP U tm) k fs 0 ws M (n0 + 20) (n + 20)) (hw : ws.length + 1 < 2 ^ 19) (hc : chF U fc (K.map (fun p => p.1))) (hK : ∀ p ∈ K, n0 + 20 ≤ p.1 ∧ p.1 < n + 20 ∧ p.2.2.2.1 < 2 ^ 20 ∧ (U p.1)[11]? = some (fndD D p.2.1) ∧ (p.1, p.2.2.2.1) ∈ M) (hD : ∀ z ∈ D, n0 + 20 ≤ z.1 ∧ z.1 < n + 20 ∧ (z.1, z.2.2.2) ∈ M) (hl : lnkA ts L (D.map (fun p => p.2)) (K.map (fun p => p.2)) (ws ++ [27]) = .ok ws') : ∃ S', dX S1 pa fs fc tc (cpU M U) ws' S' ∧ aE aM94 (d + 23) 0 [(0, .ref 34), (1, .ref pa)] [] (gH scr kd n S1) (aIs none (gH scr kd n S')) := by
  have hn : 67 ≤ n := by omega
  have h0 := dX_0 (fs := fs) (fc := fc) (tc := tc) hpa hp h4 hU
  have hM := tpP_M hT
  have hlen : ∀ p ∈ M, (U p.1).length = 13 := fun p hp => (ho p.1 (by have := hM.1 p hp; omega) (by have := hM.1 p hp; omega)).2
  obtain ⟨S2, h2, a2⟩ := c_wrAll (d := d + 21) (scr := scr) (kd := kd) (P := tpP) hn0 tpP_okA (c_oneTp (d := d) hn0 hnn hpa hF htc h160) hT rfl (by show 0 + ws.length < _; omega) (Nat.le_refl _) (Nat.le_refl _) ho h0
  rw [List.nil_append] at h2
  obtain ⟨S3, h3, a3⟩ := d_add (w := 27) (d := d + 21) (scr := scr) (kd := kd) hn hpa (by omega) h2
  have at12 := cpU_at M U hM.2 hlen
  obtain ⟨S4, h4', a4⟩ := c_lnk2 (d := d + 22) (scr := scr) (kd := kd) (ts := ts) (L := L) hn0 hnn hpa (oOk_cp (M := M) ho) (fun z hz => ⟨(hD z hz).1, (hD z hz).2.1, at12 _ (hD z hz).2.2⟩) K fc S3 _ ws' (chF_tr (fun z _ => by
    rcases cpU_fr M U z with e | ⟨i, e⟩
    · rw [e]
    · rw [e, List.getElem?_set_ne (by decide)]) hc) (fun p hp => ⟨(hK p hp).1, (hK p hp).2.1, (hK p hp).2.2.1, by
    rw [← (hK p hp).2.2.2.1]
    rcases cpU_fr M U p.1 with e | ⟨i, e⟩
    · rw [e]
    · rw [e, List.getElem?_set_ne (by decide)], at12 _ (hK p hp).2.2.2.2⟩) hl h3
  refine ⟨S4, h4', ?_⟩
  obtain ⟨x, hx⟩ : ∃ x, S1 34 = [x] := by
    match hS : S1 34, h34 with
    | [x], _ => exact ⟨x, rfl⟩
  have fcv : fc = .null ∨ ∃ q, fc = .ref q := by
    cases K with
    | nil => exact Or.inl hc
    | cons p2 r2 => exact Or.inr ⟨_, hc.1⟩
  have fsv := hLs_v hT
  refine eS rfl rfl ?_
  refine eS rfl rfl ?_
  refine gPut (S' := aUp S1 34 [.ref pa]) hn rfl rfl rfl rfl (by rw [hx]; rfl) rfl rfl (by rw [hx]; rfl) ?_
  refine eS rfl rfl ?_
  refine eS rfl rfl ?_
  refine gGet hn rfl (pa_h0 hpa) (pa_k0 hpa) (by rw [(d_pa hpa h0).1]; rfl) ?_
  refine gV1 hn rfl rfl rfl rfl rfl ⟨catOk rfl, cat2 fsv⟩ a2 ?_
  refine eS rfl rfl ?_
  refine eS rfl rfl ?_
  refine gV1 hn rfl rfl (pa_h0 hpa) (pa_k0 hpa) rfl ⟨catOk rfl, catOk rfl⟩ a3 ?_
  refine eS rfl rfl ?_
  refine gGet hn rfl (pa_h0 hpa) (pa_k0 hpa) (by rw [(d_pa hpa h3).1]; rfl) ?_
  skip
  rcases fcv with rfl | ⟨q, rfl⟩
  · refine eS rfl rfl ?_
    exact eLoc (l' := [(2, .null), (0, .ref 34), (1, .ref pa)]) rfl ⟨rfl, rfl, rfl, trivial⟩ a4
  · refine eS rfl rfl ?_
    exact eLoc (l' := [(2, .ref q), (0, .ref 34), (1, .ref pa)]) rfl ⟨rfl, rfl, rfl, trivial⟩ a4
end CDG
