section LAWOPS
variable {h h1 h2 h3 : aH} {Q : aOut → aH → Prop} {scr : List Value} {i kd : Nat} {w a b r k : Int32} {k20 k56 k56' ko : List Value}
theorem mem2 {q e1 e2 : Nat × Value} {l : aLc} (h : q ∈ l) : q ∈ e1 :: e2 :: l := List.mem_cons_of_mem _ (List.mem_cons_of_mem _ h)
set_option maxRecDepth 100000 in
theorem law_compile (hw : w &&& 15 = Int32.ofNat 2) (hk1 : h1[56]? = some (36, k56)) (hk2 : h2[56]? = some (36, k56'))
    (s1 : aE aM34 799 0 [(0, .ref 20), (1, .ref 85)] [] h (aIs (some (.int k)) h1)) (s2 : aE aM168 799 0 [(0, .ref 56)] [] h1 (aIs (some (.int b)) h2)) (s3 : aE aM164 799 0 [(0, .ref 56)] [] h2 (aIs (some (.int k)) h2))
    (ho : k = 0 → h2[85]? = some (2, [.long b.toInt64])) (kk : aE aMlaw 800 28 (aL0 (Int32.ofNat (i + 3))) [] h2 Q) : aE aMlaw 800 44 (aL0 (Int32.ofNat i)) [.int (w &&& 15)] h Q := by
  rw [hw]
  refine eB (I := .tableswitch _ _ _ _) (pc' := 164) rfl rfl rfl rfl ?_
  refine eS rfl rfl ?_
  refine eS rfl rfl ?_
  refine eC1 rfl rfl rfl ⟨catOk rfl, catOk rfl⟩ s1 ?_
  refine eS rfl rfl ?_
  refine eS rfl rfl ?_
  refine eV1 rfl rfl hk1 rfl rfl ⟨catOk rfl, catOk rfl⟩ s2 ?_
  refine eS rfl rfl ?_
  refine eS rfl rfl ?_
  refine eV1 rfl rfl hk2 rfl rfl ⟨catOk rfl, catOk rfl⟩ s3 ?_
  refine eS rfl rfl ?_
  refine eIEq rfl rfl (fun _ => ?_) (fun z => absurd rfl z)
  refine eS rfl rfl ?_
  refine eNe rfl rfl (fun _ => ?_) (fun hz => ?_)
  · refine eS rfl rfl ?_
    exact law_back (lr0 (fun q hq => mem2 hq) (by show List.Nodup [7, 6, 5, 4, 3, 2, 1, 0]; decide)) kk
  · refine eS rfl rfl ?_
    refine eS rfl rfl ?_
    refine eH (I := .laload) rfl rfl rfl rfl (aRd_at (ho hz) (j := 0) rfl (by decide) rfl) ?_
    refine eS rfl rfl ?_
    refine eS rfl rfl ?_
    refine eS rfl rfl ?_
    rw [lg_cmp_self]
    refine eEq rfl rfl (fun _ => ?_) (fun z => absurd rfl z)
    refine eS rfl rfl ?_
    exact law_back (lr0 (fun q hq => mem2 hq) (by show List.Nodup [7, 6, 5, 4, 3, 2, 1, 0]; decide)) kk
set_option maxRecDepth 100000 in
theorem law_word (h0 : h[0]? = some (0, scr)) (h01 : h1[0]? = some (0, scr)) (hi : i + 3 ≤ scr.length) (hL : scr.length ≤ 1536) (hw : w &&& 15 = Int32.ofNat 5) (ha : scr[i + 1]? = some (.int a)) (hk1 : h1[56]? = some (36, k56)) (hk2 : h2[56]? = some (36, k56'))
    (s1 : aE aM110 799 0 [(0, .ref 20), (1, .int a), (2, .ref 85)] [] h (aIs (some (.int k)) h1)) (s2 : aE aM203 799 0 [(0, .ref 56), (1, .int a)] [] h1 (aIs (some (.int b)) h2)) (s3 : aE aM164 799 0 [(0, .ref 56)] [] h2 (aIs (some (.int k)) h2))
    (ho : k = 0 → h2[85]? = some (2, [.long b.toInt64])) (kk : aE aMlaw 800 28 (aL0 (Int32.ofNat (i + 3))) [] h2 Q) : aE aMlaw 800 44 (aL0 (Int32.ofNat i)) [.int (w &&& 15)] h Q := by
  rw [hw]
  refine eB (I := .tableswitch _ _ _ _) (pc' := 234) rfl rfl rfl rfl ?_
  refine eS rfl rfl ?_
  refine eS rfl rfl ?_
  refine eS rfl rfl ?_
  refine eS rfl rfl ?_
  refine eS rfl rfl ?_
  refine eH (I := .iaload) rfl rfl rfl rfl (aRd_at h0 (j := i + 1) (Int32.ofNat_add ..).symm (by omega) ha) ?_
  refine eS rfl rfl ?_
  refine eC1 rfl rfl rfl ⟨catOk rfl, catOk rfl⟩ s1 ?_
  refine eS rfl rfl ?_
  refine eS rfl rfl ?_
  refine eS rfl rfl ?_
  refine eS rfl rfl ?_
  refine eS rfl rfl ?_
  refine eS rfl rfl ?_
  refine eH (I := .iaload) rfl rfl rfl rfl (aRd_at h01 (j := i + 1) (Int32.ofNat_add ..).symm (by omega) ha) ?_
  refine eV1 rfl rfl hk1 rfl rfl ⟨catOk rfl, catOk rfl⟩ s2 ?_
  refine eS rfl rfl ?_
  refine eS rfl rfl ?_
  refine eV1 rfl rfl hk2 rfl rfl ⟨catOk rfl, catOk rfl⟩ s3 ?_
  refine eS rfl rfl ?_
  refine eIEq rfl rfl (fun _ => ?_) (fun z => absurd rfl z)
  refine eS rfl rfl ?_
  refine eNe rfl rfl (fun _ => ?_) (fun hz => ?_)
  · refine eS rfl rfl ?_
    exact law_back (lr0 (fun q hq => mem2 hq) (by show List.Nodup [7, 6, 5, 4, 3, 2, 1, 0]; decide)) kk
  · refine eS rfl rfl ?_
    refine eS rfl rfl ?_
    refine eH (I := .laload) rfl rfl rfl rfl (aRd_at (ho hz) (j := 0) rfl (by decide) rfl) ?_
    refine eS rfl rfl ?_
    refine eS rfl rfl ?_
    refine eS rfl rfl ?_
    rw [lg_cmp_self]
    refine eEq rfl rfl (fun _ => ?_) (fun z => absurd rfl z)
    refine eS rfl rfl ?_
    exact law_back (lr0 (fun q hq => mem2 hq) (by show List.Nodup [7, 6, 5, 4, 3, 2, 1, 0]; decide)) kk
set_option maxRecDepth 100000 in
theorem law_run (h0 : h[0]? = some (0, scr)) (h01 : h1[0]? = some (0, scr)) (hi : i + 3 ≤ scr.length) (hL : scr.length ≤ 1536) (hw : w &&& 15 = Int32.ofNat 7) (ha : scr[i + 1]? = some (.int a)) (hk1 : h1[56]? = some (36, k56)) (hk2 : h2[56]? = some (36, k56'))
    (s1 : aE aM116 799 0 [(0, .ref 20), (1, .int a), (2, .ref 85)] [] h (aIs (some (.int k)) h1)) (s2 : aE aM205 799 0 [(0, .ref 56), (1, .int a)] [] h1 (aIs (some (.int b)) h2)) (s3 : aE aM164 799 0 [(0, .ref 56)] [] h2 (aIs (some (.int k)) h2))
    (ho : k = 0 → h2[85]? = some (2, [.long b.toInt64])) (kk : aE aMlaw 800 28 (aL0 (Int32.ofNat (i + 3))) [] h2 Q) : aE aMlaw 800 44 (aL0 (Int32.ofNat i)) [.int (w &&& 15)] h Q := by
  rw [hw]
  refine eB (I := .tableswitch _ _ _ _) (pc' := 314) rfl rfl rfl rfl ?_
  refine eS rfl rfl ?_
  refine eS rfl rfl ?_
  refine eS rfl rfl ?_
  refine eS rfl rfl ?_
  refine eS rfl rfl ?_
  refine eH (I := .iaload) rfl rfl rfl rfl (aRd_at h0 (j := i + 1) (Int32.ofNat_add ..).symm (by omega) ha) ?_
  refine eS rfl rfl ?_
  refine eC1 rfl rfl rfl ⟨catOk rfl, catOk rfl⟩ s1 ?_
  refine eS rfl rfl ?_
  refine eS rfl rfl ?_
  refine eS rfl rfl ?_
  refine eS rfl rfl ?_
  refine eS rfl rfl ?_
  refine eS rfl rfl ?_
  refine eH (I := .iaload) rfl rfl rfl rfl (aRd_at h01 (j := i + 1) (Int32.ofNat_add ..).symm (by omega) ha) ?_
  refine eV1 rfl rfl hk1 rfl rfl ⟨catOk rfl, catOk rfl⟩ s2 ?_
  refine eS rfl rfl ?_
  refine eS rfl rfl ?_
  refine eV1 rfl rfl hk2 rfl rfl ⟨catOk rfl, catOk rfl⟩ s3 ?_
  refine eS rfl rfl ?_
  refine eIEq rfl rfl (fun _ => ?_) (fun z => absurd rfl z)
  refine eS rfl rfl ?_
  refine eNe rfl rfl (fun _ => ?_) (fun hz => ?_)
  · refine eS rfl rfl ?_
    exact law_back (lr0 (fun q hq => mem2 hq) (by show List.Nodup [7, 6, 5, 4, 3, 2, 1, 0]; decide)) kk
  · refine eS rfl rfl ?_
    refine eS rfl rfl ?_
    refine eH (I := .laload) rfl rfl rfl rfl (aRd_at (ho hz) (j := 0) rfl (by decide) rfl) ?_
    refine eS rfl rfl ?_
    refine eS rfl rfl ?_
    refine eS rfl rfl ?_
    rw [lg_cmp_self]
    refine eEq rfl rfl (fun _ => ?_) (fun z => absurd rfl z)
    refine eS rfl rfl ?_
    exact law_back (lr0 (fun q hq => mem2 hq) (by show List.Nodup [7, 6, 5, 4, 3, 2, 1, 0]; decide)) kk
set_option maxRecDepth 100000 in
theorem law_interpret (h0 : h[0]? = some (0, scr)) (h01 : h1[0]? = some (0, scr)) (hi : i + 3 ≤ scr.length) (hL : scr.length ≤ 1536) (hw : w &&& 15 = Int32.ofNat 8) (ha : scr[i + 1]? = some (.int a)) (hk1 : h1[56]? = some (36, k56)) (hk2 : h2[56]? = some (36, k56'))
    (s1 : aE aM149 799 0 [(0, .ref 20), (1, .int a), (2, .ref 85)] [] h (aIs (some (.int k)) h1)) (s2 : aE aM227 799 0 [(0, .ref 56), (1, .int a)] [] h1 (aIs (some (.int b)) h2)) (s3 : aE aM164 799 0 [(0, .ref 56)] [] h2 (aIs (some (.int k)) h2))
    (ho : k = 0 → h2[85]? = some (2, [.long b.toInt64])) (kk : aE aMlaw 800 28 (aL0 (Int32.ofNat (i + 3))) [] h2 Q) : aE aMlaw 800 44 (aL0 (Int32.ofNat i)) [.int (w &&& 15)] h Q := by
  rw [hw]
  refine eB (I := .tableswitch _ _ _ _) (pc' := 370) rfl rfl rfl rfl ?_
  refine eS rfl rfl ?_
  refine eS rfl rfl ?_
  refine eS rfl rfl ?_
  refine eS rfl rfl ?_
  refine eS rfl rfl ?_
  refine eH (I := .iaload) rfl rfl rfl rfl (aRd_at h0 (j := i + 1) (Int32.ofNat_add ..).symm (by omega) ha) ?_
  refine eS rfl rfl ?_
  refine eC1 rfl rfl rfl ⟨catOk rfl, catOk rfl⟩ s1 ?_
  refine eS rfl rfl ?_
  refine eS rfl rfl ?_
  refine eS rfl rfl ?_
  refine eS rfl rfl ?_
  refine eS rfl rfl ?_
  refine eS rfl rfl ?_
  refine eH (I := .iaload) rfl rfl rfl rfl (aRd_at h01 (j := i + 1) (Int32.ofNat_add ..).symm (by omega) ha) ?_
  refine eV1 rfl rfl hk1 rfl rfl ⟨catOk rfl, catOk rfl⟩ s2 ?_
  refine eS rfl rfl ?_
  refine eS rfl rfl ?_
  refine eV1 rfl rfl hk2 rfl rfl ⟨catOk rfl, catOk rfl⟩ s3 ?_
  refine eS rfl rfl ?_
  refine eIEq rfl rfl (fun _ => ?_) (fun z => absurd rfl z)
  refine eS rfl rfl ?_
  refine eNe rfl rfl (fun _ => ?_) (fun hz => ?_)
  · refine eS rfl rfl ?_
    exact law_back (lr0 (fun q hq => mem2 hq) (by show List.Nodup [7, 6, 5, 4, 3, 2, 1, 0]; decide)) kk
  · refine eS rfl rfl ?_
    refine eS rfl rfl ?_
    refine eH (I := .laload) rfl rfl rfl rfl (aRd_at (ho hz) (j := 0) rfl (by decide) rfl) ?_
    refine eS rfl rfl ?_
    refine eS rfl rfl ?_
    refine eS rfl rfl ?_
    rw [lg_cmp_self]
    refine eEq rfl rfl (fun _ => ?_) (fun z => absurd rfl z)
    refine eS rfl rfl ?_
    exact law_back (lr0 (fun q hq => mem2 hq) (by show List.Nodup [7, 6, 5, 4, 3, 2, 1, 0]; decide)) kk
set_option maxRecDepth 100000 in
theorem law_restart (hw : w &&& 15 = Int32.ofNat 6) (hk1 : h1[56]? = some (36, k56)) (hk2 : h2[56]? = some (36, k56'))
    (s1 : aE aM113 799 0 [(0, .ref 20)] [] h (aIs (some (.int k)) h1)) (s2 : aE aM204 799 0 [(0, .ref 56)] [] h1 (aIs none h2)) (s3 : aE aM164 799 0 [(0, .ref 56)] [] h2 (aIs (some (.int k)) h2))
    (kk : aE aMlaw 800 28 (aL0 (Int32.ofNat (i + 3))) [] h2 Q) : aE aMlaw 800 44 (aL0 (Int32.ofNat i)) [.int (w &&& 15)] h Q := by
  rw [hw]
  refine eB (I := .tableswitch _ _ _ _) (pc' := 290) rfl rfl rfl rfl ?_
  refine eS rfl rfl ?_
  refine eC1 rfl rfl rfl ⟨catOk rfl, catOk rfl⟩ s1 ?_
  refine eS rfl rfl ?_
  refine eS rfl rfl ?_
  refine eV1 rfl rfl hk1 rfl rfl ⟨catOk rfl, catOk rfl⟩ s2 ?_
  refine eS rfl rfl ?_
  refine eV1 rfl rfl hk2 rfl rfl ⟨catOk rfl, catOk rfl⟩ s3 ?_
  refine eS rfl rfl ?_
  refine eIEq rfl rfl (fun _ => ?_) (fun z => absurd rfl z)
  refine eS rfl rfl ?_
  exact law_back (lr0 (fun q hq => List.mem_cons_of_mem _ hq) (by show List.Nodup [6, 5, 4, 3, 2, 1, 0]; decide)) kk
set_option maxRecDepth 100000 in
theorem law_x {f : UInt32} (hw : w &&& 15 = Int32.ofNat 10) (hk : h[20]? = some (8, k20)) (hk1 : h1[56]? = some (36, k56)) (hn : aN64 (FP.f2d f) = true) (hc : Op.cmpValue (FP.dcmp (FP.f2d f) (FP.f2d f)) .l = 0)
    (s1 : aE aM31 799 0 [(0, .ref 20)] [] h (aIs (some (.float f)) h1)) (s2 : aE aM230 799 0 [(0, .ref 56)] [] h1 (aIs (some (.float f)) h2))
    (kk : aE aMlaw 800 28 (aL0 (Int32.ofNat (i + 3))) [] h2 Q) : aE aMlaw 800 44 (aL0 (Int32.ofNat i)) [.int (w &&& 15)] h Q := by
  rw [hw]
  refine eB (I := .tableswitch _ _ _ _) (pc' := 463) rfl rfl rfl rfl ?_
  refine eS rfl rfl ?_
  refine eV1 rfl rfl hk rfl rfl ⟨catOk rfl, catOk rfl⟩ s1 ?_
  refine eP (I := .f2d) rfl (f2d_ok hn) ?_
  refine eS rfl rfl ?_
  refine eS rfl rfl ?_
  refine eV1 rfl rfl hk1 rfl rfl ⟨catOk rfl, catOk rfl⟩ s2 ?_
  refine eP (I := .f2d) rfl (f2d_ok hn) ?_
  refine eS rfl rfl ?_
  refine eS rfl rfl ?_
  refine eS rfl rfl ?_
  refine eS rfl rfl ?_
  rw [hc]
  refine eEq rfl rfl (fun _ => ?_) (fun z => absurd rfl z)
  refine eS rfl rfl ?_
  exact law_back (lr0 (fun q hq => mem2 hq) (by show List.Nodup [8, 6, 5, 4, 3, 2, 1, 0]; decide)) kk
set_option maxRecDepth 100000 in
theorem law_y {f : UInt32} (hw : w &&& 15 = Int32.ofNat 11) (hk : h[20]? = some (8, k20)) (hk1 : h1[56]? = some (36, k56)) (hn : aN64 (FP.f2d f) = true) (hc : Op.cmpValue (FP.dcmp (FP.f2d f) (FP.f2d f)) .l = 0)
    (s1 : aE aM32 799 0 [(0, .ref 20)] [] h (aIs (some (.float f)) h1)) (s2 : aE aM231 799 0 [(0, .ref 56)] [] h1 (aIs (some (.float f)) h2))
    (kk : aE aMlaw 800 28 (aL0 (Int32.ofNat (i + 3))) [] h2 Q) : aE aMlaw 800 44 (aL0 (Int32.ofNat i)) [.int (w &&& 15)] h Q := by
  rw [hw]
  refine eB (I := .tableswitch _ _ _ _) (pc' := 506) rfl rfl rfl rfl ?_
  refine eS rfl rfl ?_
  refine eV1 rfl rfl hk rfl rfl ⟨catOk rfl, catOk rfl⟩ s1 ?_
  refine eP (I := .f2d) rfl (f2d_ok hn) ?_
  refine eS rfl rfl ?_
  refine eS rfl rfl ?_
  refine eV1 rfl rfl hk1 rfl rfl ⟨catOk rfl, catOk rfl⟩ s2 ?_
  refine eP (I := .f2d) rfl (f2d_ok hn) ?_
  refine eS rfl rfl ?_
  refine eS rfl rfl ?_
  refine eS rfl rfl ?_
  refine eS rfl rfl ?_
  rw [hc]
  refine eEq rfl rfl (fun _ => ?_) (fun z => absurd rfl z)
  refine eS rfl rfl ?_
  exact law_back (lr0 (fun q hq => mem2 hq) (by show List.Nodup [8, 6, 5, 4, 3, 2, 1, 0]; decide)) kk
set_option maxRecDepth 100000 in
theorem law_value {f : UInt32} (h0 : h[0]? = some (0, scr)) (h01 : h1[0]? = some (0, scr)) (hi : i + 3 ≤ scr.length) (hL : scr.length ≤ 1536) (hw : w &&& 15 = Int32.ofNat 13) (ha : scr[i + 1]? = some (.int a)) (hk1 : h1[56]? = some (36, k56)) (hk2 : h2[56]? = some (36, k56'))
    (s1 : aE aM160 799 0 [(0, .ref 20), (1, .int a), (2, .ref 86)] [] h (aIs (some (.int k)) h1)) (s2 : aE aM233 799 0 [(0, .ref 56), (1, .int a)] [] h1 (aIs (some (.float f)) h2)) (s3 : aE aM164 799 0 [(0, .ref 56)] [] h2 (aIs (some (.int k)) h2))
    (ho : k = 0 → h2[86]? = some (4, [.double (FP.f2d f)]) ∧ aN64 (FP.f2d f) = true ∧ Op.cmpValue (FP.dcmp (FP.f2d f) (FP.f2d f)) .l = 0) (kk : aE aMlaw 800 28 (aL0 (Int32.ofNat (i + 3))) [] h2 Q) : aE aMlaw 800 44 (aL0 (Int32.ofNat i)) [.int (w &&& 15)] h Q := by
  rw [hw]
  refine eB (I := .tableswitch _ _ _ _) (pc' := 562) rfl rfl rfl rfl ?_
  refine eS rfl rfl ?_
  refine eS rfl rfl ?_
  refine eS rfl rfl ?_
  refine eS rfl rfl ?_
  refine eS rfl rfl ?_
  refine eH (I := .iaload) rfl rfl rfl rfl (aRd_at h0 (j := i + 1) (Int32.ofNat_add ..).symm (by omega) ha) ?_
  refine eS rfl rfl ?_
  refine eC1 rfl rfl rfl ⟨catOk rfl, catOk rfl⟩ s1 ?_
  refine eS rfl rfl ?_
  refine eS rfl rfl ?_
  refine eS rfl rfl ?_
  refine eS rfl rfl ?_
  refine eS rfl rfl ?_
  refine eS rfl rfl ?_
  refine eH (I := .iaload) rfl rfl rfl rfl (aRd_at h01 (j := i + 1) (Int32.ofNat_add ..).symm (by omega) ha) ?_
  refine eV1 rfl rfl hk1 rfl rfl ⟨catOk rfl, catOk rfl⟩ s2 ?_
  refine eS rfl rfl ?_
  refine eS rfl rfl ?_
  refine eV1 rfl rfl hk2 rfl rfl ⟨catOk rfl, catOk rfl⟩ s3 ?_
  refine eS rfl rfl ?_
  refine eIEq rfl rfl (fun _ => ?_) (fun z => absurd rfl z)
  refine eS rfl rfl ?_
  refine eNe rfl rfl (fun _ => ?_) (fun hz => ?_)
  · refine eS rfl rfl ?_
    exact law_back (lr0 (fun q hq => mem2 hq) (by show List.Nodup [7, 6, 5, 4, 3, 2, 1, 0]; decide)) kk
  · obtain ⟨ho1, ho2, ho3⟩ := ho hz
    refine eS rfl rfl ?_
    refine eS rfl rfl ?_
    refine eH (I := .daload) rfl rfl rfl rfl (aRd_at ho1 (j := 0) rfl (by decide) rfl) ?_
    refine eS rfl rfl ?_
    refine eP (I := .f2d) rfl (f2d_ok ho2) ?_
    refine eS rfl rfl ?_
    rw [ho3]
    refine eEq rfl rfl (fun _ => ?_) (fun z => absurd rfl z)
    refine eS rfl rfl ?_
    exact law_back (lr0 (fun q hq => mem2 hq) (by show List.Nodup [7, 6, 5, 4, 3, 2, 1, 0]; decide)) kk
end LAWOPS
