/-! compile, under the invariant -/
section STP
variable {scr : List Value} {kd kd' : Nat → Nat} {n n' c d L : Nat} {S S1 : Nat → List Value} {w0 : Nat → Value} {nn wr0 : Int32} {cf : Nat → Nat} {h0 : aH} {Q : aOut → aH → Prop}
theorem m_at (hn' : 67 ≤ n') (hM : aMem scr S h0) (hL : aLks S) (hT : txOk (S 57) L cf) (hk : mkL S) {pc en hi un : Int32} {x y : UInt32} {hd co dn : Int32} (me : S 56 = mM w0 nn pc en hi un x y hd co dn) (h2 : (S 56)[2]? = some (.int (Int32.ofNat L))) (h3 : (S 56)[3]? = some (.int wr0)) (f : ∀ q, 56 ≤ q → q < 84 → S1 q = S q)
    (kA : ∀ e S', (tokA cf L L 0 [] = .error e ∨ ∃ ts, tokA cf L L 0 [] = .ok ts ∧ cplA ts L = .error e) → mDn S1 (.int 1) L (Int32.ofNat e) ((S 56).drop 30) S' → Q (.inl (some (.int 0))) (gH scr kd' n' S'))
    (kB : ∀ ts r S', tokA cf L L 0 [] = .ok ts → cplA ts L = .ok r → 240 < r.2.2.2.length → mDn S1 (.int 2) L (-1) ((S 56).drop 30) S' → Q (.inl (some (.int 0))) (gH scr kd' n' S'))
    (kC : ∀ (ts : List aTk) (r : gSt × List Nat × List cAl × List Nat) (b : List Value) (S' : Nat → List Value), tokA cf L L 0 [] = .ok ts → cplA ts L = .ok r → r.2.2.2.length ≤ 240 → b.length = 240 → (∀ (j x : Nat), r.2.2.2[j]? = some x → b[j]? = some (.int (Int32.ofNat x))) → mDn (aUp S1 76 b) (.int 0) L (-1) (.int (Int32.ofNat r.2.2.2.length) :: .ref 76 :: (S 56).drop 32) S' → ∃ S3 : Nat → List Value, (S3 56)[30]? = some (.int (Int32.ofNat r.2.2.2.length)) ∧ aE aM163 798 0 [(0, .ref 56)] [] (gH scr kd' n' S') (aIs none (gH scr kd' n' S3)) ∧ Q (.inl (some (.int (Int32.ofNat r.2.2.2.length)))) (gH scr kd' n' S3)) : aE aM168 799 0 [(0, .ref 56)] [] (gH scr kd' n' S1) Q := by
  have e := st56 hL me h2 h3
  have d32 : (S 56).drop 32 = [.int pc, .int en, .int hi, .ref 77, .int un, .ref 78, .ref 79, .ref 80, .ref 81, .float x, .float y, .int hd, .int co, .int dn, .ref 82, .ref 83, .ref 84] := by rw [me]; rfl
  have d30 : (S 56).drop 30 = .int nn :: .ref 76 :: (S 56).drop 32 := by rw [me]; rfl
  have e1 : S1 56 = (mK w0 L wr0 0 (.int nn :: .ref 76 :: (S 56).drop 32)).set 4 (w0 4) := by
    rw [f 56 (by decide) (by decide), d32]
    exact e
  rw [d30] at kA kB
  obtain ⟨b58, b59, b60, b61, b62, b63, b64, b65, b66, b67, b68, b69, b70, b71, b72, b73, b74, b75, b76⟩ := aLn_m
  have ln : ∀ q, 56 ≤ q → q < 84 → (S1 q).length = aLn q := fun q q1 q2 => by rw [f q q1 q2]; exact hM.ln q (by omega) (by omega)
  obtain ⟨k1, k2, k3, k4, k5⟩ := hk
  rw [show gH scr kd' n' S1 = gH scr kd' n' (mtS S1 ((mK w0 L wr0 0 (.int nn :: .ref 76 :: (S 56).drop 32)).set 4 (w0 4)) S1) from congrArg _ (mtS_id e1).symm]
  exact m_compile (d := 790) hn' (by rw [f 57 (by decide) (by decide)]; exact hT) ((ln 76 (by decide) (by decide)).trans b76) ⟨by rw [f 58 (by decide) (by decide)]; exact k1, by rw [f 59 (by decide) (by decide)]; exact k2, by rw [f 60 (by decide) (by decide)]; exact k3, by rw [f 61 (by decide) (by decide)]; exact k4, by rw [f 58 (by decide) (by decide)]; exact k5⟩ ((ln 62 (by decide) (by decide)).trans b62) ((ln 63 (by decide) (by decide)).trans b63) ((ln 65 (by decide) (by decide)).trans b65) ⟨(ln 64 (by decide) (by decide)).trans b64, (ln 66 (by decide) (by decide)).trans b66, (ln 67 (by decide) (by decide)).trans b67, (ln 68 (by decide) (by decide)).trans b68, (ln 69 (by decide) (by decide)).trans b69, (ln 70 (by decide) (by decide)).trans b70, (ln 71 (by decide) (by decide)).trans b71, (ln 72 (by decide) (by decide)).trans b72, (ln 73 (by decide) (by decide)).trans b73, (ln 74 (by decide) (by decide)).trans b74, (ln 75 (by decide) (by decide)).trans b75⟩ kA kB kC
theorem mDn_0 {t : Int32} {wr : Int32} {rest : List Value} {S' : Nat → List Value} (h : mDn S1 (.int t) L wr rest S') : (S' 56)[0]? = some (.int t) := by
  obtain ⟨w, tk, A, rfl, h0, -⟩ := h
  show some (w 0) = _
  rw [h0]
/-- what the class's side leaves -/
def cmpP (scr : List Value) (kd : Nat → Nat) (n : Nat) (S : Nat → List Value) (pa pb L : Nat) (cf : Nat → Nat) (par : List UInt32) (x : Int32 × aH) : Prop :=
  (∃ e kd1 n1 S2, (tokA cf L L 0 [] = .error e ∨ ∃ ts, tokA cf L L 0 [] = .ok ts ∧ cplA ts L = .error e) ∧ kFr kd n S pb (Int32.ofNat e) kd1 n1 S2 ∧ x.1 = 1 ∧ x.2 = gH scr (kUp kd1 (n1 + 20) 28) (n1 + 1) (aUp S2 (n1 + 20) [])) ∨
  (∃ ts r kd1 n1 S2, tokA cf L L 0 [] = .ok ts ∧ cplA ts L = .ok r ∧ 240 < r.2.2.2.length ∧ kFr kd n S pb (-1) kd1 n1 S2 ∧ x.1 = 2 ∧ x.2 = gH scr (kUp kd1 (n1 + 20) 32) (n1 + 1) (aUp S2 (n1 + 20) [])) ∨
  ∃ ts r kd1 n1 S2 S3, tokA cf L L 0 [] = .ok ts ∧ cplA ts L = .ok r ∧ r.2.2.2.length ≤ 240 ∧ kFr kd n S pb (-1) kd1 n1 S2 ∧ kPr n n1 pb kd1 r S2 ∧ cRep (aUp S2 20 [.ref 21, .int (Int32.ofNat L), .ref 22, .ref 34, .ref 35, .ref 45, .ref pb, .ref pa]) (s0A par) S3 ∧ x.1 = 0 ∧ x.2 = gH scr kd1 n1 (aUp S3 85 [.long (Int32.ofNat r.2.2.2.length).toInt64])
theorem step_compile : aOpen1 := fun scr Q i c h w hL0 hi hI kk hw => by
  obtain ⟨kd, n, S, hn, rfl, hM, hL, hA, hl, hE⟩ := inv_norm hI
  obtain ⟨e84, e29, e45, pa, N, W, p1, p2, p3, ⟨s, w0, P, m1, m2, m3, m4, m5⟩, p5⟩ := id hE
  obtain ⟨⟨L, u1, u2, u3, u4⟩, ⟨x0, v1, v2⟩, ⟨pa2, pb, N2, hpp, y1, y2, -⟩, -⟩ := id hA
  have u2 : (S 20)[1]? = some (.int (Int32.ofNat L)) := u2
  have u3 : (S 56)[2]? = some (.int (Int32.ofNat L)) := u3
  have v2 : (S 56)[3]? = some (.int x0) := v2
  have y1 : (S 20)[6]? = some (.ref pa2) := y1
  have y2 : (S 20)[7]? = some (.ref pb) := y2
  have e6 : pa2 = pa := by
    rw [p3] at y1
    cases y1
    rfl
  subst e6
  have hpb : pb = 46 ∨ pb = 51 := by omega
  have ln := fun (p : Nat) (h1 : 20 ≤ p) (h2 : p < 87) => hM.ln p h1 h2
  have al : aLn 20 = 8 ∧ aLn 22 = 9 ∧ aLn 23 = 8 ∧ aLn 24 = 160 ∧ aLn 25 = 160 ∧ aLn 26 = 160 ∧ aLn 27 = 160 ∧ aLn 28 = 160 ∧ aLn 30 = 2 ∧ aLn 31 = 8 ∧ aLn 32 = 2 ∧ aLn 33 = 3 ∧ aLn 34 = 1 ∧ aLn 46 = 8 ∧ aLn 47 = 160 ∧ aLn 48 = 160 ∧ aLn 49 = 160 ∧ aLn 50 = 240 ∧ aLn 51 = 8 ∧ aLn 52 = 160 ∧ aLn 53 = 160 ∧ aLn 54 = 160 ∧ aLn 55 = 240 := by decide +kernel
  obtain ⟨b20, b22, b23, b24, b25, b26, b27, b28, b30, b31, b32, b33, b34, b46, b47, b48, b49, b50, b51, b52, b53, b54, b55⟩ := al
  have h20 := st20 hL u2 p3 y2 ((ln 20 (by decide) (by decide)).trans b20)
  obtain ⟨a3, a4, a5, a6, a7, a8, h22⟩ := st22 hL ((ln 22 (by decide) (by decide)).trans b22)
  obtain ⟨v6, v7, h23⟩ := st23 hL ((ln 23 (by decide) (by decide)).trans b23)
  have lpb : (S pb).length = 8 ∧ (S (pb + 1)).length = 160 ∧ (S (pb + 2)).length = 160 ∧ (S (pb + 3)).length = 160 ∧ (S (pb + 4)).length = 240 := by
    rcases hpb with rfl | rfl
    · exact ⟨(ln 46 (by decide) (by decide)).trans b46, (ln 47 (by decide) (by decide)).trans b47, (ln 48 (by decide) (by decide)).trans b48, (ln 49 (by decide) (by decide)).trans b49, (ln 50 (by decide) (by decide)).trans b50⟩
    · exact ⟨(ln 51 (by decide) (by decide)).trans b51, (ln 52 (by decide) (by decide)).trans b52, (ln 53 (by decide) (by decide)).trans b53, (ln 54 (by decide) (by decide)).trans b54, (ln 55 (by decide) (by decide)).trans b55⟩
  obtain ⟨c0, c1, c5, c7, hp⟩ := stpb hL hpb lpb.1
  have h30 : ∃ b, S 30 = [.ref 31, b] := by
    obtain ⟨a0, a1, e⟩ := len_2 ((ln 30 (by decide) (by decide)).trans b30)
    have q0 : (S 30)[0]? = some (.ref 31) := hL (30, 0, .ref 31) (by decide)
    rw [e] at q0 ⊢
    cases q0
    exact ⟨_, rfl⟩
  have h32 : ∃ b, S 32 = [.ref 33, b] := by
    obtain ⟨a0, a1, e⟩ := len_2 ((ln 32 (by decide) (by decide)).trans b32)
    have q0 : (S 32)[0]? = some (.ref 33) := hL (32, 0, .ref 33) (by decide)
    rw [e] at q0 ⊢
    cases q0
    exact ⟨_, rfl⟩
  obtain ⟨bb30, h30⟩ := h30
  obtain ⟨bb32, h32⟩ := h32
  obtain ⟨v85, h85⟩ := row1 (p := 85) hM (by decide) (by decide) (by decide +kernel)
  obtain ⟨cf, hT⟩ := stTx u1 (fun j hj => (u4 j).2 hj)
  have hT57 : txOk (S 57) L cf := ⟨hT.1, fun j hj => by rw [show (S 57)[j]? = (S 21)[j]? from (u4 j).1]; exact hT.2.1 j hj, hT.2.2⟩
  have hk : mkL S := ⟨(ln 58 (by decide) (by decide)).trans aLn_m.1, (ln 59 (by decide) (by decide)).trans aLn_m.2.1, (ln 60 (by decide) (by decide)).trans aLn_m.2.2.1, (ln 61 (by decide) (by decide)).trans aLn_m.2.2.2.1, e29.2.2⟩
  have hte := stEr hn hT57 hk
  have tkl : tkL (S 24) (S 25) (S 26) (S 27) (S 28) := ⟨(ln 24 (by decide) (by decide)).trans b24, (ln 25 (by decide) (by decide)).trans b25, (ln 26 (by decide) (by decide)).trans b26, (ln 27 (by decide) (by decide)).trans b27, (ln 28 (by decide) (by decide)).trans b28, e29.2.1⟩
  have hraw := stRaw m1 m3
  obtain ⟨hi', un, pcv, a77, a79, a80, a83, me, mrest⟩ := id m2
  have me56 := congrFun me 56
  have cl := aE_ex (α := Int32 × aH) (P := cmpP scr kd n S pa2 pb L cf s.2.2.2.2.1) (R := fun x => aIs (some (.int x.1)) x.2) (c_law34 (d := 764) (scr := scr) (kd0 := kd) (c := cf) (par := s.2.2.2.2.1) (Q := fun o h' => ∃ x : Int32 × aH, cmpP scr kd n S pa2 pb L cf s.2.2.2.2.1 x ∧ aIs (some (.int x.1)) x.2 o h') hn hpb h20 h22 h30 h32 hp hT e29.1 h23 tkl ((ln 31 (by decide) (by decide)).trans b31) ((ln 33 (by decide) (by decide)).trans b33) lpb.2.1 lpb.2.2.1 lpb.2.2.2.1 lpb.2.2.2.2 ((ln 34 (by decide) (by decide)).trans b34) hte h85 hraw
    (fun e kd1 n1 S2 z1 z2 => ⟨(1, _), Or.inl ⟨e, kd1, n1, S2, z1, z2, rfl, rfl⟩, rfl, rfl⟩)
    (fun ts r kd1 n1 S2 z1 z2 z3 z4 => ⟨(2, _), Or.inr (Or.inl ⟨ts, r, kd1, n1, S2, z1, z2, z3, z4, rfl, rfl⟩), rfl, rfl⟩)
    (fun ts r kd1 n1 S2 S3 z1 z2 z3 z4 z5 z6 => ⟨(0, _), Or.inr (Or.inr ⟨ts, r, kd1, n1, S2, S3, z1, z2, z3, z4, z5, z6, rfl, rfl⟩), rfl, rfl⟩))
  obtain ⟨⟨k, h1⟩, hx, a1⟩ := cl
  dsimp only at a1
  rcases hx with ⟨e, kd1, n1, S2, z1, F2, zk, zh⟩ | ⟨ts, r, kd1, n1, S2, z1, z2, z3, F2, zk, zh⟩ | ⟨ts, r, kd1, n1, S2, S3, z1, z2, z3, F2, hP, R3, zk, zh⟩
  · dsimp only at zk zh
    subst zk zh
    have n01 := F2.1.1
    have fS : ∀ q, 56 ≤ q → q < 84 → aUp S2 (n1 + 20) [] q = S q := fun q h1 h2 => (aUp_ne (by omega)).trans (F2.2.1 q (by omega) (by omega) (by omega))
    have m := aE_ex (α := Nat → List Value) (P := fun S' => mDn (aUp S2 (n1 + 20) []) (.int 1) L (Int32.ofNat e) ((S 56).drop 30) S') (R := fun S' => aIs (some (.int 0)) (gH scr (kUp kd1 (n1 + 20) 28) (n1 + 1) S')) (m_at (by omega) hM hL hT57 hk me56 u3 v2 fS (fun e' S' y1 y2 => ⟨S', by
        have : e' = e := by
          rcases z1 with z1 | ⟨ts, z1, z2⟩
          · rcases y1 with y1 | ⟨ts', y1, -⟩
            · rw [z1] at y1; cases y1; rfl
            · rw [z1] at y1; cases y1
          · rcases y1 with y1 | ⟨ts', y1, y2⟩
            · rw [z1] at y1; cases y1
            · rw [z1] at y1; cases y1; rw [z2] at y2; cases y2; rfl
        rw [this] at y2
        exact y2, rfl, rfl⟩) (fun ts r S' y1 y2 => by
        rcases z1 with z1 | ⟨ts, z1, z2⟩
        · rw [z1] at y1; cases y1
        · rw [z1] at y1; cases y1; rw [z2] at y2; cases y2) (fun ts r b S' y1 y2 => by
        rcases z1 with z1 | ⟨ts, z1, z2⟩
        · rw [z1] at y1; cases y1
        · rw [z1] at y1; cases y1; rw [z2] at y2; cases y2))
    obtain ⟨S', hD, a2⟩ := m
    have e56 : (gH scr (kUp kd1 (n1 + 20) 28) (n1 + 1) S')[56]? = some (36, S' 56) := gH_at (by decide) (by omega)
    exact law_compile hw (gH_at (p := 56) (by decide) (by omega)) e56 a1 a2 (s_thrown e56 (mDn_0 hD)) (fun z => absurd z (by decide)) (kk _ (fin_AB hn hM hL hA hl hE hpp h20 p1 p2 m1 m2 m3 m4 m5 p5 F2 (Or.inl rfl) hD))
  · dsimp only at zk zh
    subst zk zh
    have n01 := F2.1.1
    have fS : ∀ q, 56 ≤ q → q < 84 → aUp S2 (n1 + 20) [] q = S q := fun q h1 h2 => (aUp_ne (by omega)).trans (F2.2.1 q (by omega) (by omega) (by omega))
    have m := aE_ex (α := Nat → List Value) (P := fun S' => mDn (aUp S2 (n1 + 20) []) (.int 2) L (-1) ((S 56).drop 30) S') (R := fun S' => aIs (some (.int 0)) (gH scr (kUp kd1 (n1 + 20) 32) (n1 + 1) S')) (m_at (by omega) hM hL hT57 hk me56 u3 v2 fS (fun e' S' y1 y2 => by
        rcases y1 with y1 | ⟨ts', y1, y2⟩
        · rw [z1] at y1; cases y1
        · rw [z1] at y1; cases y1; rw [z2] at y2; cases y2) (fun ts r S' y1 y2 y3 y4 => ⟨S', y4, rfl, rfl⟩) (fun ts r b S' y1 y2 y3 => by
        rw [z1] at y1; cases y1; rw [z2] at y2; cases y2; omega))
    obtain ⟨S', hD, a2⟩ := m
    have e56 : (gH scr (kUp kd1 (n1 + 20) 32) (n1 + 1) S')[56]? = some (36, S' 56) := gH_at (by decide) (by omega)
    exact law_compile hw (gH_at (p := 56) (by decide) (by omega)) e56 a1 a2 (s_thrown e56 (mDn_0 hD)) (fun z => absurd z (by decide)) (kk _ (fin_AB hn hM hL hA hl hE hpp h20 p1 p2 m1 m2 m3 m4 m5 p5 F2 (Or.inr rfl) hD))
  · dsimp only at zk zh
    subst zk zh
    have n01 := F2.1.1
    have fS : ∀ q, 56 ≤ q → q < 84 → aUp S3 85 [.long (Int32.ofNat r.2.2.2.length).toInt64] q = S q := fun q h1 h2 => by
      obtain ⟨ht, cl, pc, a36, a39, a40, a44, rc, ce, crest⟩ := id R3
      rw [aUp_ne (by omega), ce, cS_ne (by omega), aUp_ne (by omega)]
      exact F2.2.1 q (by omega) (by omega) (by omega)
    have d30 : (S 56).drop 30 = .int (Int32.ofNat N) :: .ref 76 :: (S 56).drop 32 := by rw [me56]; rfl
    have m := aE_ex (α := Nat → List Value) (P := fun SF => aInv iExt scr (c + 1) (gH scr kd1 n1 SF) ∧ SF 85 = [.long (Int32.ofNat r.2.2.2.length).toInt64] ∧ (SF 56)[0]? = some (.int 0)) (R := fun SF => aIs (some (.int (Int32.ofNat r.2.2.2.length))) (gH scr kd1 n1 SF)) (m_at (scr := scr) (kd' := kd1) (n' := n1) (by omega) hM hL hT57 hk me56 u3 v2 fS (fun e' S' y1 y2 => by
        rcases y1 with y1 | ⟨ts', y1, y2⟩
        · rw [z1] at y1; cases y1
        · rw [z1] at y1; cases y1; rw [z2] at y2; cases y2) (fun ts r S' y1 y2 y3 y4 => by
        rw [z1] at y1; cases y1; rw [z2] at y2; cases y2; omega) (fun ts' r' b S' y1 y2 y3 hb hB hD => by
        rw [z1] at y1; cases y1; rw [z2] at y2; cases y2
        obtain ⟨w', w0', Rm, fin⟩ := fin_C hn hM hL hA hl hE hpp h20 m2 m3 z3 F2 hP R3 hb hB d30 hD
        obtain ⟨SF, RF, ab⟩ := m_begin2 (d := 798) (scr := scr) (kd := kd1) (n := n1) (by omega) m3 Rm
        obtain ⟨f1, f2⟩ := fin SF RF
        obtain ⟨hi2, un2, pcv2, b77, b79, b80, b83, me2, -⟩ := id RF
        exact ⟨SF, by rw [congrFun me2 56]; rfl, ab, SF, ⟨f1, f2, by rw [congrFun me2 56]; show some (w' 0) = _; rw [w0']⟩, rfl, rfl⟩))
    obtain ⟨SF, ⟨i1, i2, i3⟩, a2⟩ := m
    have e56 : (gH scr kd1 n1 SF)[56]? = some (36, SF 56) := gH_at (by decide) (by omega)
    exact law_compile hw (gH_at (p := 56) (by decide) (by omega)) e56 a1 a2 (s_thrown e56 i3) (fun _ => by rw [gH_at (by decide) (by omega), i2]; rfl) (kk _ i1)
end STP
