/-! each call of the law, out of what its methods do -/
section LAWOPS
variable {h h1 h2 h3 : aH} {Q : aOut → aH → Prop} {scr : List Value} {i kd : Nat} {w a b r k : Int32} {k20 k56 k56' ko : List Value}
theorem lr0 {x : Int32} {l : aLc} (h1 : ∀ q ∈ aL0 x, q ∈ l) (h2 : (l.map (·.1)).Nodup) : aLR (aL0 x) l := ⟨h1, h2⟩
set_option maxRecDepth 100000 in
theorem law_skip (hw : ¬ (w &&& 15).toInt ≤ 13) (kk : aE aMlaw 800 28 (aL0 (Int32.ofNat (i + 3))) [] h Q) : aE aMlaw 800 44 (aL0 (Int32.ofNat i)) [.int (w &&& 15)] h Q := by
  refine eB (I := .tableswitch _ _ _ _) (pc' := 640) rfl rfl rfl ?_ (law_back (lr0 (fun q hq => hq) (by show List.Nodup [5, 4, 3, 2, 1, 0]; decide)) kk)
  show (if (w &&& 15).toInt < 0 ∨ 13 < (w &&& 15).toInt then _ else _) = _
  rw [if_pos (Or.inr (by omega))]
  rfl
set_option maxRecDepth 100000 in
theorem law_put (h0 : h[0]? = some (0, scr)) (h01 : h1[0]? = some (0, scr)) (hi : i + 3 ≤ scr.length) (hL : scr.length ≤ 1536) (hw : w &&& 15 = Int32.ofNat 0) (ha : scr[i + 1]? = some (.int a)) (hb : scr[i + 2]? = some (.int b))
    (hk : h[20]? = some (8, k20)) (hk1 : h1[56]? = some (36, k56))
    (s1 : aE aM22 799 0 [(0, .ref 20), (1, .int a), (2, .int b)] [] h (aIs (some (.int r)) h1)) (s2 : aE aM165 799 0 [(0, .ref 56), (1, .int a), (2, .int b)] [] h1 (aIs (some (.int r)) h2))
    (kk : aE aMlaw 800 28 (aL0 (Int32.ofNat (i + 3))) [] h2 Q) : aE aMlaw 800 44 (aL0 (Int32.ofNat i)) [.int (w &&& 15)] h Q := by
  rw [hw]
  refine eB (I := .tableswitch _ _ _ _) (pc' := 116) rfl rfl rfl rfl ?_
  refine eS rfl rfl ?_
  refine eS rfl rfl ?_
  refine eS rfl rfl ?_
  refine eS rfl rfl ?_
  refine eS rfl rfl ?_
  refine eH (I := .iaload) rfl rfl rfl rfl (aRd_at h0 (j := i + 1) (Int32.ofNat_add ..).symm (by omega) ha) ?_
  refine eS rfl rfl ?_
  refine eS rfl rfl ?_
  refine eS rfl rfl ?_
  refine eS rfl rfl ?_
  refine eH (I := .iaload) rfl rfl rfl rfl (aRd_at h0 (j := i + 2) (Int32.ofNat_add ..).symm (by omega) hb) ?_
  refine eV1 rfl rfl hk rfl rfl ⟨catOk rfl, catOk rfl⟩ s1 ?_
  refine eS rfl rfl ?_
  refine eS rfl rfl ?_
  refine eS rfl rfl ?_
  refine eS rfl rfl ?_
  refine eS rfl rfl ?_
  refine eH (I := .iaload) rfl rfl rfl rfl (aRd_at h01 (j := i + 1) (Int32.ofNat_add ..).symm (by omega) ha) ?_
  refine eS rfl rfl ?_
  refine eS rfl rfl ?_
  refine eS rfl rfl ?_
  refine eS rfl rfl ?_
  refine eH (I := .iaload) rfl rfl rfl rfl (aRd_at h01 (j := i + 2) (Int32.ofNat_add ..).symm (by omega) hb) ?_
  refine eV1 rfl rfl hk1 rfl rfl ⟨catOk rfl, catOk rfl⟩ s2 ?_
  refine eIEq rfl rfl (fun _ => ?_) (fun z => absurd rfl z)
  exact law_back (lr0 (fun q hq => hq) (by show List.Nodup [5, 4, 3, 2, 1, 0]; decide)) kk
set_option maxRecDepth 100000 in
theorem law_clear (hw : w &&& 15 = Int32.ofNat 1) (hk : h[20]? = some (8, k20)) (hk1 : h1[56]? = some (36, k56))
    (s1 : aE aM25 799 0 [(0, .ref 20)] [] h (aIs none h1)) (s2 : aE aM167 799 0 [(0, .ref 56)] [] h1 (aIs none h2))
    (kk : aE aMlaw 800 28 (aL0 (Int32.ofNat (i + 3))) [] h2 Q) : aE aMlaw 800 44 (aL0 (Int32.ofNat i)) [.int (w &&& 15)] h Q := by
  rw [hw]
  refine eB (I := .tableswitch _ _ _ _) (pc' := 153) rfl rfl rfl rfl ?_
  refine eS rfl rfl ?_
  refine eV1 rfl rfl hk rfl rfl ⟨catOk rfl, catOk rfl⟩ s1 ?_
  refine eS rfl rfl ?_
  refine eV1 rfl rfl hk1 rfl rfl ⟨catOk rfl, catOk rfl⟩ s2 ?_
  refine eS rfl rfl ?_
  exact law_back (lr0 (fun q hq => hq) (by show List.Nodup [5, 4, 3, 2, 1, 0]; decide)) kk
set_option maxRecDepth 100000 in
theorem law_error (hw : w &&& 15 = Int32.ofNat 3) (hk : h[20]? = some (8, k20)) (hk1 : h1[56]? = some (36, k56))
    (s1 : aE aM26 799 0 [(0, .ref 20)] [] h (aIs (some (.int r)) h1)) (s2 : aE aM201 799 0 [(0, .ref 56)] [] h1 (aIs (some (.int r)) h2))
    (kk : aE aMlaw 800 28 (aL0 (Int32.ofNat (i + 3))) [] h2 Q) : aE aMlaw 800 44 (aL0 (Int32.ofNat i)) [.int (w &&& 15)] h Q := by
  rw [hw]
  refine eB (I := .tableswitch _ _ _ _) (pc' := 208) rfl rfl rfl rfl ?_
  refine eS rfl rfl ?_
  refine eV1 rfl rfl hk rfl rfl ⟨catOk rfl, catOk rfl⟩ s1 ?_
  refine eS rfl rfl ?_
  refine eV1 rfl rfl hk1 rfl rfl ⟨catOk rfl, catOk rfl⟩ s2 ?_
  refine eIEq rfl rfl (fun _ => ?_) (fun z => absurd rfl z)
  exact law_back (lr0 (fun q hq => hq) (by show List.Nodup [5, 4, 3, 2, 1, 0]; decide)) kk
set_option maxRecDepth 100000 in
theorem law_size (hw : w &&& 15 = Int32.ofNat 4) (hk : h[20]? = some (8, k20)) (hk1 : h1[56]? = some (36, k56))
    (s1 : aE aM27 799 0 [(0, .ref 20)] [] h (aIs (some (.int r)) h1)) (s2 : aE aM202 799 0 [(0, .ref 56)] [] h1 (aIs (some (.int r)) h2))
    (kk : aE aMlaw 800 28 (aL0 (Int32.ofNat (i + 3))) [] h2 Q) : aE aMlaw 800 44 (aL0 (Int32.ofNat i)) [.int (w &&& 15)] h Q := by
  rw [hw]
  refine eB (I := .tableswitch _ _ _ _) (pc' := 221) rfl rfl rfl rfl ?_
  refine eS rfl rfl ?_
  refine eV1 rfl rfl hk rfl rfl ⟨catOk rfl, catOk rfl⟩ s1 ?_
  refine eS rfl rfl ?_
  refine eV1 rfl rfl hk1 rfl rfl ⟨catOk rfl, catOk rfl⟩ s2 ?_
  refine eIEq rfl rfl (fun _ => ?_) (fun z => absurd rfl z)
  exact law_back (lr0 (fun q hq => hq) (by show List.Nodup [5, 4, 3, 2, 1, 0]; decide)) kk
set_option maxRecDepth 100000 in
theorem law_pixel (h0 : h[0]? = some (0, scr)) (h01 : h1[0]? = some (0, scr)) (hi : i + 3 ≤ scr.length) (hL : scr.length ≤ 1536) (hw : w &&& 15 = Int32.ofNat 9) (ha : scr[i + 1]? = some (.int a)) (hb : scr[i + 2]? = some (.int b))
    (hk : h[20]? = some (8, k20)) (hk1 : h1[56]? = some (36, k56))
    (s1 : aE aM28 799 0 [(0, .ref 20), (1, .int a), (2, .int b)] [] h (aIs (some (.int r)) h1)) (s2 : aE aM229 799 0 [(0, .ref 56), (1, .int a), (2, .int b)] [] h1 (aIs (some (.int r)) h2))
    (kk : aE aMlaw 800 28 (aL0 (Int32.ofNat (i + 3))) [] h2 Q) : aE aMlaw 800 44 (aL0 (Int32.ofNat i)) [.int (w &&& 15)] h Q := by
  rw [hw]
  refine eB (I := .tableswitch _ _ _ _) (pc' := 426) rfl rfl rfl rfl ?_
  refine eS rfl rfl ?_
  refine eS rfl rfl ?_
  refine eS rfl rfl ?_
  refine eS rfl rfl ?_
  refine eS rfl rfl ?_
  refine eH (I := .iaload) rfl rfl rfl rfl (aRd_at h0 (j := i + 1) (Int32.ofNat_add ..).symm (by omega) ha) ?_
  refine eS rfl rfl ?_
  refine eS rfl rfl ?_
  refine eS rfl rfl ?_
  refine eS rfl rfl ?_
  refine eH (I := .iaload) rfl rfl rfl rfl (aRd_at h0 (j := i + 2) (Int32.ofNat_add ..).symm (by omega) hb) ?_
  refine eV1 rfl rfl hk rfl rfl ⟨catOk rfl, catOk rfl⟩ s1 ?_
  refine eS rfl rfl ?_
  refine eS rfl rfl ?_
  refine eS rfl rfl ?_
  refine eS rfl rfl ?_
  refine eS rfl rfl ?_
  refine eH (I := .iaload) rfl rfl rfl rfl (aRd_at h01 (j := i + 1) (Int32.ofNat_add ..).symm (by omega) ha) ?_
  refine eS rfl rfl ?_
  refine eS rfl rfl ?_
  refine eS rfl rfl ?_
  refine eS rfl rfl ?_
  refine eH (I := .iaload) rfl rfl rfl rfl (aRd_at h01 (j := i + 2) (Int32.ofNat_add ..).symm (by omega) hb) ?_
  refine eV1 rfl rfl hk1 rfl rfl ⟨catOk rfl, catOk rfl⟩ s2 ?_
  refine eIEq rfl rfl (fun _ => ?_) (fun z => absurd rfl z)
  exact law_back (lr0 (fun q hq => hq) (by show List.Nodup [5, 4, 3, 2, 1, 0]; decide)) kk
set_option maxRecDepth 100000 in
theorem law_heading (hw : w &&& 15 = Int32.ofNat 12) (hk : h[20]? = some (8, k20)) (hk1 : h1[56]? = some (36, k56))
    (s1 : aE aM33 799 0 [(0, .ref 20)] [] h (aIs (some (.int r)) h1)) (s2 : aE aM232 799 0 [(0, .ref 56)] [] h1 (aIs (some (.int r)) h2))
    (kk : aE aMlaw 800 28 (aL0 (Int32.ofNat (i + 3))) [] h2 Q) : aE aMlaw 800 44 (aL0 (Int32.ofNat i)) [.int (w &&& 15)] h Q := by
  rw [hw]
  refine eB (I := .tableswitch _ _ _ _) (pc' := 549) rfl rfl rfl rfl ?_
  refine eS rfl rfl ?_
  refine eV1 rfl rfl hk rfl rfl ⟨catOk rfl, catOk rfl⟩ s1 ?_
  refine eS rfl rfl ?_
  refine eV1 rfl rfl hk1 rfl rfl ⟨catOk rfl, catOk rfl⟩ s2 ?_
  refine eIEq rfl rfl (fun _ => ?_) (fun z => absurd rfl z)
  exact law_back (lr0 (fun q hq => hq) (by show List.Nodup [5, 4, 3, 2, 1, 0]; decide)) kk
end LAWOPS
