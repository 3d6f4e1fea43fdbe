/-! one word of the machine, on the model's side -/
def mRep (S0 : Nat → List Value) (w : Nat → Value) (nn : Int32) (s : aSt) (S : Nat → List Value) : Prop := ∃ (hi un pcv : Int32) (a77 a79 a80 a83 : List Value),
  S = mS S0 (mM w nn pcv s.1 hi un s.2.2.2.2.2.2.1 s.2.2.2.2.2.2.2.1 (Int32.ofNat s.2.2.2.2.2.2.2.2.1) s.2.2.2.2.2.2.2.2.2.1 s.2.2.2.2.2.2.2.2.2.2.1) a77 (s.2.2.2.2.1.map Value.float) a79 a80 (s.2.2.2.2.2.1.map Value.float) (s.2.2.2.2.2.2.2.2.2.2.2.map Value.int) a83 ∧
  a77.length = 24 ∧ a79.length = 3 ∧ a80.length = 3 ∧ a83.length = 768 ∧ (s.1 = 0 → hi = Int32.ofNat s.2.2.1.length ∧ un = Int32.ofNat s.2.2.2.1.length ∧ pcv = Int32.ofNat s.2.1 ∧ (∃ g, a77 = fA s.2.2.1 g) ∧ (∃ g, a79 = iA (s.2.2.2.1.map (·.1)) g) ∧ ∃ g, a80 = iA (s.2.2.2.1.map (·.2)) g)
theorem tyW_num {W : Nat → Nat} {P : Nat → Nat → Bool → Prop} {pc k : Nat} {f : Bool} (h : tyW W P pc k f) (h1 : W pc = 1) : W (pc + 2) ≤ 2 := by
  rcases h with ⟨w, p⟩ | ⟨w, a, b, p⟩ | ⟨w, a, p⟩ | ⟨w, ff, a, p⟩ | ⟨w, a, b, p⟩ | ⟨w, ff, a, b, p⟩ | ⟨w, a, p⟩ | ⟨w, a, p⟩ | ⟨w, a, p⟩ | ⟨w, p⟩ | ⟨w, a, p, q⟩ | ⟨w, a, p, q⟩ | ⟨w, a, b, p, q⟩ | w | w | ⟨w, a, p⟩ | ⟨w, p⟩ <;> omega
section MONE
variable {scr : List Value} {kd : Nat → Nat} {n N d : Nat} {S S0 : Nat → List Value} {W : Nat → Nat} {P : Nat → Nat → Bool → Prop} {w : Nat → Value} {nn hi un en co dn hd : Int32} {x y : UInt32} {a77 a78 a79 a80 a81 a82 a83 : List Value} {pc : Nat} {Q : aOut → aH → Prop}
theorem m_one_pre (hn : 67 ≤ n) (hP : prgM S0 N W) (hpc : pc < N) (hw : W pc ≤ 29)
    (K : aE aM207 (d + 1) 20 [(2, .int (Int32.ofNat (pc + lenA (W pc)))), (1, .int (Int32.ofNat (W pc))), (0, .ref 56)] [] (gH scr kd n (mS S0 (mM w nn (Int32.ofNat pc) en hi un x y hd co dn) a77 a78 a79 a80 a81 a82 a83)) Q) :
    aE aM207 (d + 1) 0 [(0, .ref 56)] [] (gH scr kd n (mS S0 (mM w nn (Int32.ofNat pc) en hi un x y hd co dn) a77 a78 a79 a80 a81 a82 a83)) Q := by
  have hN := hP.1
  refine eS rfl rfl ?_
  refine gGet hn rfl rfl rfl rfl ?_
  refine eS rfl rfl ?_
  refine gGet hn rfl rfl rfl rfl ?_
  refine gRd0 hn rfl rfl rfl pc (by omega) (hP.2 pc hpc) ?_
  refine eS rfl rfl ?_
  refine eS rfl rfl ?_
  refine gGet hn rfl rfl rfl rfl ?_
  refine eS rfl rfl ?_
  refine eC1 rfl rfl rfl ⟨catOk rfl, catOk rfl⟩ (m_lengthOf hw) ?_
  refine eS rfl rfl ?_
  rw [← Int32.ofNat_add]
  refine eS rfl rfl ?_
  exact K
theorem m_one {s : aSt} (hn : 67 ≤ n) (hP : prgM S0 N W) (hsn : S0 84 = sinL) (hC : cOk W N P) (hS : okS s) (hL : okL P s) (h0 : s.1 = 0) (hR : mRep S0 w nn s S) : ∃ S', mRep S0 w nn (oneA W s) S' ∧ aE aM207 (d + 6) 0 [(0, .ref 56)] [] (gH scr kd n S) (aIs none (gH scr kd n S')) := by
  obtain ⟨an, pc, stk, fr, par, vrs, x, y, hd, co, dn, px⟩ := s
  obtain ⟨hi, un, pcv, a77, a79, a80, a83, e0, q77, q79, q80, q83, q0⟩ := hR
  obtain ⟨s1, s2, s3, s4, s5⟩ := hS
  obtain ⟨l1, l2, l3, l4⟩ := hL
  dsimp only at s1 s2 s3 s4 s5 l1 l2 l3 l4 h0 e0 q0
  subst h0
  obtain ⟨rfl, rfl, rfl, ⟨g, rfl⟩, ⟨gp, rfl⟩, ⟨gh, rfl⟩⟩ := q0 rfl
  subst e0
  obtain ⟨k, f, hPk, hk, hf, hF⟩ := tyF_top l4
  obtain ⟨hpc, hT, hJ⟩ := hC.2 pc k f hPk
  have hN := hP.1
  have hg : stk.length + g.length = 24 := by rw [← fA_len]; exact q77
  have hgp : fr.length + gp.length = 3 := by rw [iA_len, List.length_map] at q79; exact q79
  have hgh : fr.length + gh.length = 3 := by rw [iA_len, List.length_map] at q80; exact q80
  have p1 : Int32.ofNat pc + Int32.ofInt 1 = Int32.ofNat (pc + 1) := i32_succ
  have p2 : Int32.ofNat pc + Int32.ofInt 2 = Int32.ofNat (pc + 2) := (Int32.ofNat_add ..).symm
  rcases tyW_op hT hk hf l3 with ⟨o, p⟩ | ⟨o, p⟩ | o | o | ⟨o, a, b, p, q⟩ | ⟨o, a, p, q⟩ | ⟨o, a, p, q⟩ | ⟨oo, o, a, p⟩ | ⟨oo, o, a, p⟩
  · rw [oneA_st o]
    refine ⟨_, ⟨Int32.ofNat stk.length, Int32.ofNat fr.length, Int32.ofNat (pc + 1), fA stk g, iA (fr.map (·.1)) gp, iA (fr.map (·.2)) gh, a83, rfl, q77, q79, q80, q83, fun _ => ⟨rfl, rfl, rfl, ⟨_, rfl⟩, ⟨_, rfl⟩, ⟨_, rfl⟩⟩⟩, ?_⟩
    refine m_one_pre hn hP hpc (by omega) ?_
    rw [o]
    refine eLoc (l' := [(2, .int (Int32.ofNat (pc + 1))), (1, .int (Int32.ofNat 0)), (0, .ref 56)]) rfl ⟨rfl, rfl, rfl, trivial⟩ ?_
    have e : aE aM212 (d + 5) 0 [(0, .ref 56), (1, .int (Int32.ofNat 0))] [] (gH scr kd n (mS S0 (mM w nn (Int32.ofNat pc) 0 (Int32.ofNat stk.length) (Int32.ofNat fr.length) x y (Int32.ofNat hd) co dn) (fA stk g) (par.map Value.float) (iA (fr.map (·.1)) gp) (iA (fr.map (·.2)) gh) (vrs.map Value.float) (px.map Value.int) a83)) (aIs none (gH scr kd n (mS S0 (mM w nn (Int32.ofNat pc) 0 (Int32.ofNat stk.length) (Int32.ofNat fr.length) x y (Int32.ofNat hd) co dn) (fA stk g) (par.map Value.float) (iA (fr.map (·.1)) gp) (iA (fr.map (·.2)) gh) (vrs.map Value.float) (px.map Value.int) a83))) := by
      refine eS rfl rfl ?_
      refine eS rfl rfl ?_
      refine eILt rfl rfl (fun _ => ?_) (fun z => absurd (by decide) z)
      refine eS rfl rfl ?_
      refine eS rfl rfl ?_
      refine eINe rfl rfl (fun _ => ?_) (fun z => absurd z (by decide))
      refine eS rfl rfl ?_
      refine eS rfl rfl ?_
      refine eINe rfl rfl (fun _ => ?_) (fun z => absurd z (by decide))
      refine eS rfl rfl ?_
      refine eS rfl rfl ?_
      refine eILt rfl rfl (fun _ => ?_) (fun z => absurd (by decide) z)
      refine eS rfl rfl ?_
      refine eS rfl rfl ?_
      refine eINe rfl rfl (fun _ => ?_) (fun z => absurd z (by decide))
      refine eS rfl rfl ?_
      refine eS rfl rfl ?_
      refine eILt rfl rfl (fun _ => ?_) (fun z => absurd (by decide) z)
      refine eS rfl rfl ?_
      refine eS rfl rfl ?_
      refine eINe rfl rfl (fun _ => ?_) (fun z => absurd z (by decide))
      refine eS rfl rfl ?_
      refine eS rfl rfl ?_
      refine eINe rfl rfl (fun _ => ?_) (fun z => absurd z (by decide))
      refine eS rfl rfl ?_
      refine eS rfl rfl ?_
      refine eILt rfl rfl (fun _ => ?_) (fun z => absurd (by decide) z)
      refine eS rfl rfl ?_
      refine eS rfl rfl ?_
      refine eIEq rfl rfl (fun z => absurd z (by decide)) (fun _ => ?_)
      refine eS rfl rfl ?_
      refine eS rfl rfl ?_
      refine eINe rfl rfl (fun _ => ?_) (fun z => absurd z (by decide))
      refine eS rfl rfl ?_
      refine eS rfl rfl ?_
      refine eINe rfl rfl (fun _ => ?_) (fun z => absurd z (by decide))
      refine eS rfl rfl ?_
      refine eS rfl rfl ?_
      refine eINe rfl rfl (fun _ => ?_) (fun z => absurd z (by decide))
      exact eR rfl rfl ⟨rfl, rfl⟩
    refine eS rfl rfl ?_
    refine eS rfl rfl ?_
    refine eINe rfl rfl (fun _ => ?_) (fun z => absurd z (by decide))
    refine eS rfl rfl ?_
    refine eS rfl rfl ?_
    refine eIEq rfl rfl (fun z => absurd z (by decide)) (fun _ => ?_)
    refine eS rfl rfl ?_
    refine eS rfl rfl ?_
    refine eINe rfl rfl (fun _ => ?_) (fun z => absurd z (by decide))
    refine eS rfl rfl ?_
    refine eS rfl rfl ?_
    refine eINe rfl rfl (fun _ => ?_) (fun z => absurd z (by decide))
    refine eS rfl rfl ?_
    refine eS rfl rfl ?_
    refine eINe rfl rfl (fun _ => ?_) (fun z => absurd z (by decide))
    refine eS rfl rfl ?_
    refine eS rfl rfl ?_
    refine eINe rfl rfl (fun _ => ?_) (fun z => absurd z (by decide))
    refine eS rfl rfl ?_
    refine eS rfl rfl ?_
    refine eINe rfl rfl (fun _ => ?_) (fun z => absurd z (by decide))
    refine eS rfl rfl ?_
    refine eS rfl rfl ?_
    refine gV1 hn rfl rfl rfl rfl rfl ⟨catOk rfl, catOk rfl⟩ (e) ?_
    refine eS rfl rfl ?_
    refine eS rfl rfl ?_
    refine gPut hn rfl rfl rfl rfl rfl rfl rfl mS_56 ?_
    exact eR rfl rfl ⟨rfl, rfl⟩
  · have hj := hJ o
    rw [oneA_jmp o]
    refine ⟨_, ⟨Int32.ofNat stk.length, Int32.ofNat fr.length, Int32.ofNat (W (pc + 1)), fA stk g, iA (fr.map (·.1)) gp, iA (fr.map (·.2)) gh, a83, rfl, q77, q79, q80, q83, fun _ => ⟨rfl, rfl, rfl, ⟨_, rfl⟩, ⟨_, rfl⟩, ⟨_, rfl⟩⟩⟩, ?_⟩
    refine m_one_pre hn hP hpc (by omega) ?_
    rw [o]
    refine eS rfl rfl ?_
    refine eS rfl rfl ?_
    refine eINe rfl rfl (fun z => absurd rfl z) (fun _ => ?_)
    refine eS rfl rfl ?_
    refine eS rfl rfl ?_
    refine gGet hn rfl rfl rfl rfl ?_
    refine eS rfl rfl ?_
    refine gGet hn rfl rfl rfl rfl ?_
    refine eS rfl rfl ?_
    refine eS rfl rfl ?_
    rw [p1]
    refine gRd0 hn rfl rfl rfl (pc + 1) (by omega) (hP.2 (pc + 1) hj) ?_
    refine gPut hn rfl rfl rfl rfl rfl rfl rfl mS_56 ?_
    refine eS rfl rfl ?_
    exact eR rfl rfl ⟨rfl, rfl⟩
  · match fr, l3, l4, hgp, hgh, q79, q80, q0 with
    | [], _, _, hgp, hgh, q79, q80, _ =>
      rw [oneA_ret0 o]
      refine ⟨_, ⟨Int32.ofNat stk.length, Int32.ofNat 0, Int32.ofNat pc, fA stk g, iA [] gp, iA [] gh, a83, rfl, q77, q79, q80, q83, fun z => absurd (show (1 : Int32) = 0 from z) (by decide)⟩, ?_⟩
      refine m_one_pre hn hP hpc (by omega) ?_
      rw [o]
      refine eS rfl rfl ?_
      refine eS rfl rfl ?_
      refine eINe rfl rfl (fun _ => ?_) (fun z => absurd z (by decide))
      refine eS rfl rfl ?_
      refine eS rfl rfl ?_
      refine eIEq rfl rfl (fun z => absurd z (by decide)) (fun _ => ?_)
      refine eS rfl rfl ?_
      refine eS rfl rfl ?_
      refine eINe rfl rfl (fun _ => ?_) (fun z => absurd z (by decide))
      refine eS rfl rfl ?_
      refine eS rfl rfl ?_
      refine eINe rfl rfl (fun _ => ?_) (fun z => absurd z (by decide))
      refine eS rfl rfl ?_
      refine eS rfl rfl ?_
      refine eINe rfl rfl (fun _ => ?_) (fun z => absurd z (by decide))
      refine eS rfl rfl ?_
      refine eS rfl rfl ?_
      refine eINe rfl rfl (fun z => absurd rfl z) (fun _ => ?_)
      refine eS rfl rfl ?_
      refine gV1 hn rfl rfl rfl rfl rfl ⟨catOk rfl, catOk rfl⟩ (m_leave_0 hn) ?_
      refine eS rfl rfl ?_
      exact eR rfl rfl ⟨rfl, rfl⟩
    | (b, h) :: fr', l3, l4, hgp, hgh, q79, q80, _ =>
      rw [oneA_ret o]
      obtain ⟨m1, m2, m3⟩ := l4
      have hl : fr'.length < 3 := by simp at l3; omega
      refine ⟨_, ⟨Int32.ofNat h, Int32.ofNat fr'.length, Int32.ofNat b, fA stk g, iA (b :: List.map (fun q : Nat × Nat => q.1) fr') gp, iA (h :: List.map (fun q : Nat × Nat => q.2) fr') gh, a83, rfl, q77, q79, q80, q83, fun _ => ⟨?_, rfl, rfl, ⟨_, fA_drop⟩, ⟨_, iA_cons⟩, ⟨_, iA_cons⟩⟩⟩, ?_⟩
      · dsimp only
        rw [List.length_drop]
        congr 1
        omega
      refine m_one_pre hn hP hpc (by omega) ?_
      rw [o]
      have e := m_leave (d := d + 5) (scr := scr) (kd := kd) (S0 := S0) (w := w) (nn := nn) (x := x) (y := y) (hd := Int32.ofNat hd) (co := co) (dn := dn) (a77 := fA stk g) (a78 := par.map Value.float) (a81 := vrs.map Value.float) (a82 := px.map Value.int) (a83 := a83) (pcv := Int32.ofNat pc) (en := 0) (hi := Int32.ofNat stk.length) (pb := b) (hb := h) (pbs := fr'.map (fun q : Nat × Nat => q.1)) (hbs := fr'.map (fun q : Nat × Nat => q.2)) (gp := gp) (gh := gh) hn (by rw [List.length_map]; exact hl) (by rw [List.length_map, List.length_map])
      rw [List.length_map] at e
      refine eS rfl rfl ?_
      refine eS rfl rfl ?_
      refine eINe rfl rfl (fun _ => ?_) (fun z => absurd z (by decide))
      refine eS rfl rfl ?_
      refine eS rfl rfl ?_
      refine eIEq rfl rfl (fun z => absurd z (by decide)) (fun _ => ?_)
      refine eS rfl rfl ?_
      refine eS rfl rfl ?_
      refine eINe rfl rfl (fun _ => ?_) (fun z => absurd z (by decide))
      refine eS rfl rfl ?_
      refine eS rfl rfl ?_
      refine eINe rfl rfl (fun _ => ?_) (fun z => absurd z (by decide))
      refine eS rfl rfl ?_
      refine eS rfl rfl ?_
      refine eINe rfl rfl (fun _ => ?_) (fun z => absurd z (by decide))
      refine eS rfl rfl ?_
      refine eS rfl rfl ?_
      refine eINe rfl rfl (fun z => absurd rfl z) (fun _ => ?_)
      refine eS rfl rfl ?_
      refine gV1 hn rfl rfl rfl rfl rfl ⟨catOk rfl, catOk rfl⟩ (e) ?_
      refine eS rfl rfl ?_
      exact eR rfl rfl ⟨rfl, rfl⟩
  · rw [oneA_halt o]
    refine ⟨_, ⟨Int32.ofNat stk.length, Int32.ofNat fr.length, Int32.ofNat pc, fA stk g, iA (fr.map (·.1)) gp, iA (fr.map (·.2)) gh, a83, rfl, q77, q79, q80, q83, fun z => absurd (show (1 : Int32) = 0 from z) (by decide)⟩, ?_⟩
    refine m_one_pre hn hP hpc (by omega) ?_
    rw [o]
    refine eS rfl rfl ?_
    refine eS rfl rfl ?_
    refine eINe rfl rfl (fun _ => ?_) (fun z => absurd z (by decide))
    refine eS rfl rfl ?_
    refine eS rfl rfl ?_
    refine eIEq rfl rfl (fun z => absurd z (by decide)) (fun _ => ?_)
    refine eS rfl rfl ?_
    refine eS rfl rfl ?_
    refine eINe rfl rfl (fun _ => ?_) (fun z => absurd z (by decide))
    refine eS rfl rfl ?_
    refine eS rfl rfl ?_
    refine eINe rfl rfl (fun _ => ?_) (fun z => absurd z (by decide))
    refine eS rfl rfl ?_
    refine eS rfl rfl ?_
    refine eINe rfl rfl (fun _ => ?_) (fun z => absurd z (by decide))
    refine eS rfl rfl ?_
    refine eS rfl rfl ?_
    refine eINe rfl rfl (fun _ => ?_) (fun z => absurd z (by decide))
    refine eS rfl rfl ?_
    refine eS rfl rfl ?_
    refine eINe rfl rfl (fun z => absurd rfl z) (fun _ => ?_)
    refine eS rfl rfl ?_
    refine eS rfl rfl ?_
    refine gPut hn rfl rfl rfl rfl rfl rfl rfl mS_56 ?_
    refine eS rfl rfl ?_
    exact eR rfl rfl ⟨rfl, rfl⟩
  · have hq := (hC.2 _ _ _ q).1
    by_cases h3 : fr.length = 3
    · rw [oneA_call3 o h3]
      refine ⟨_, ⟨Int32.ofNat stk.length, Int32.ofNat 3, Int32.ofNat pc, fA stk g, iA (fr.map (·.1)) gp, iA (fr.map (·.2)) gh, a83, rfl, q77, q79, q80, q83, fun z => absurd (show (14 : Int32) = 0 from z) (by decide)⟩, ?_⟩
      refine m_one_pre hn hP hpc (by omega) ?_
      rw [o, h3]
      refine eS rfl rfl ?_
      refine eS rfl rfl ?_
      refine eINe rfl rfl (fun _ => ?_) (fun z => absurd z (by decide))
      refine eS rfl rfl ?_
      refine eS rfl rfl ?_
      refine eIEq rfl rfl (fun z => absurd z (by decide)) (fun _ => ?_)
      refine eS rfl rfl ?_
      refine eS rfl rfl ?_
      refine eINe rfl rfl (fun _ => ?_) (fun z => absurd z (by decide))
      refine eS rfl rfl ?_
      refine eS rfl rfl ?_
      refine eINe rfl rfl (fun _ => ?_) (fun z => absurd z (by decide))
      refine eS rfl rfl ?_
      refine eS rfl rfl ?_
      refine eINe rfl rfl (fun z => absurd rfl z) (fun _ => ?_)
      refine eS rfl rfl ?_
      refine eS rfl rfl ?_
      refine gGet hn rfl rfl rfl rfl ?_
      refine eS rfl rfl ?_
      refine gGet hn rfl rfl rfl rfl ?_
      refine eS rfl rfl ?_
      refine eS rfl rfl ?_
      rw [p1]
      refine gRd0 hn rfl rfl rfl (pc + 1) (by omega) (hP.2 (pc + 1) (by omega)) ?_
      refine eS rfl rfl ?_
      refine gGet hn rfl rfl rfl rfl ?_
      refine eS rfl rfl ?_
      refine gGet hn rfl rfl rfl rfl ?_
      refine eS rfl rfl ?_
      refine eS rfl rfl ?_
      rw [p2]
      refine gRd0 hn rfl rfl rfl (pc + 2) (by omega) (hP.2 (pc + 2) (by omega)) ?_
      refine gV1 hn rfl rfl rfl rfl rfl ⟨catOk rfl, catOk rfl⟩ (m_enter_no hn) ?_
      refine eS rfl rfl ?_
      exact eR rfl rfl ⟨rfl, rfl⟩
    · rw [oneA_call o h3]
      obtain ⟨g', gp', gh', b1, b2, b3, e⟩ := m_enter (d := d + 4) (scr := scr) (kd := kd) (S0 := S0) (w := w) (nn := nn) (en := 0) (x := x) (y := y) (hd := Int32.ofNat hd) (co := co) (dn := dn) (a81 := vrs.map Value.float) (a82 := px.map Value.int) (a83 := a83) (pc := pc) (cl := fr.length) (c := W (pc + 2)) (to := W (pc + 1)) (pbs := fr.map (·.1)) (hbs := fr.map (·.2)) (gp := gp) (gh := gh) (g := g) (stk := stk) (par := par) hn (by omega) a (by omega) hg s1 (by rw [List.length_map]) (by rw [List.length_map]) hgp hgh
      refine ⟨_, ⟨Int32.ofNat (entA (W (pc + 2)) (3 * fr.length) stk par).1.length, Int32.ofNat (fr.length + 1), Int32.ofNat (W (pc + 1)), _, _, _, a83, rfl, fA_len.trans b1, ?_, ?_, q83, fun _ => ⟨rfl, rfl, rfl, ⟨g', rfl⟩, ⟨gp', rfl⟩, ⟨gh', rfl⟩⟩⟩, ?_⟩
      · rw [iA_len, List.length_map]
        exact b2
      · rw [iA_len, List.length_map]
        exact b3
      refine m_one_pre hn hP hpc (by omega) ?_
      rw [o]
      refine eS rfl rfl ?_
      refine eS rfl rfl ?_
      refine eINe rfl rfl (fun _ => ?_) (fun z => absurd z (by decide))
      refine eS rfl rfl ?_
      refine eS rfl rfl ?_
      refine eIEq rfl rfl (fun z => absurd z (by decide)) (fun _ => ?_)
      refine eS rfl rfl ?_
      refine eS rfl rfl ?_
      refine eINe rfl rfl (fun _ => ?_) (fun z => absurd z (by decide))
      refine eS rfl rfl ?_
      refine eS rfl rfl ?_
      refine eINe rfl rfl (fun _ => ?_) (fun z => absurd z (by decide))
      refine eS rfl rfl ?_
      refine eS rfl rfl ?_
      refine eINe rfl rfl (fun z => absurd rfl z) (fun _ => ?_)
      refine eS rfl rfl ?_
      refine eS rfl rfl ?_
      refine gGet hn rfl rfl rfl rfl ?_
      refine eS rfl rfl ?_
      refine gGet hn rfl rfl rfl rfl ?_
      refine eS rfl rfl ?_
      refine eS rfl rfl ?_
      rw [p1]
      refine gRd0 hn rfl rfl rfl (pc + 1) (by omega) (hP.2 (pc + 1) (by omega)) ?_
      refine eS rfl rfl ?_
      refine gGet hn rfl rfl rfl rfl ?_
      refine eS rfl rfl ?_
      refine gGet hn rfl rfl rfl rfl ?_
      refine eS rfl rfl ?_
      refine eS rfl rfl ?_
      rw [p2]
      refine gRd0 hn rfl rfl rfl (pc + 2) (by omega) (hP.2 (pc + 2) (by omega)) ?_
      refine gV1 hn rfl rfl rfl rfl rfl ⟨catOk rfl, catOk rfl⟩ (e) ?_
      refine eS rfl rfl ?_
      exact eR rfl rfl ⟨rfl, rfl⟩
  · have hq := (hC.2 _ _ _ q).1
    match stk, l1, l2, hk, hF, hg, q77 with
    | [], _, _, hk, _, _, _ => simp at hk; omega
    | f0 :: r, l1, l2, hk, hF, hg, q77 =>
      have hl : r.length < 24 := by simp at hg; omega
      have g0 := l2 f0 (by simp)
      rw [oneA_if o]
      refine ⟨_, ⟨Int32.ofNat r.length, Int32.ofNat fr.length, Int32.ofNat (if FP.fcmp f0 0 = some .eq then W (pc + 1) else pc + 2), fA r (.float f0 :: g), iA (fr.map (·.1)) gp, iA (fr.map (·.2)) gh, a83, rfl, by rw [fA_cons] at q77; exact q77, q79, q80, q83, fun _ => ⟨rfl, rfl, rfl, ⟨_, rfl⟩, ⟨_, rfl⟩, ⟨_, rfl⟩⟩⟩, ?_⟩
      refine m_one_pre hn hP hpc (by omega) ?_
      by_cases c0 : FP.fcmp f0 0 = some .eq
      · rw [if_pos c0]
        rcases o with o | o
        · rw [o]
          refine eS rfl rfl ?_
          refine eS rfl rfl ?_
          refine eINe rfl rfl (fun _ => ?_) (fun z => absurd z (by decide))
          refine eS rfl rfl ?_
          refine eS rfl rfl ?_
          refine eIEq rfl rfl (fun _ => ?_) (fun z => absurd rfl z)
          refine eS rfl rfl ?_
          refine eS rfl rfl ?_
          refine gV1 hn rfl rfl rfl rfl rfl ⟨catOk rfl, catOk rfl⟩ (m_pop (stk := r) hn hl) ?_
          refine eS rfl rfl ?_
          refine eS rfl rfl ?_
          refine eNe rfl rfl (fun z => absurd ((cv_eq g0.nn gF_0.nn).mpr c0) z) (fun _ => ?_)
          refine eS rfl rfl ?_
          refine gGet hn rfl rfl rfl rfl ?_
          refine eS rfl rfl ?_
          refine gGet hn rfl rfl rfl rfl ?_
          refine eS rfl rfl ?_
          refine eS rfl rfl ?_
          rw [p1]
          refine gRd0 hn rfl rfl rfl (pc + 1) (by omega) (hP.2 (pc + 1) (by omega)) ?_
          refine eS rfl rfl ?_
          refine gPut hn rfl rfl rfl rfl rfl rfl rfl mS_56 ?_
          refine eS rfl rfl ?_
          exact eR rfl rfl ⟨rfl, rfl⟩
        · rw [o]
          refine eS rfl rfl ?_
          refine eS rfl rfl ?_
          refine eINe rfl rfl (fun _ => ?_) (fun z => absurd z (by decide))
          refine eS rfl rfl ?_
          refine eS rfl rfl ?_
          refine eIEq rfl rfl (fun z => absurd z (by decide)) (fun _ => ?_)
          refine eS rfl rfl ?_
          refine eS rfl rfl ?_
          refine eINe rfl rfl (fun z => absurd rfl z) (fun _ => ?_)
          refine eS rfl rfl ?_
          refine eS rfl rfl ?_
          refine gV1 hn rfl rfl rfl rfl rfl ⟨catOk rfl, catOk rfl⟩ (m_pop (stk := r) hn hl) ?_
          refine eS rfl rfl ?_
          refine eS rfl rfl ?_
          refine eNe rfl rfl (fun z => absurd ((cv_eq g0.nn gF_0.nn).mpr c0) z) (fun _ => ?_)
          refine eS rfl rfl ?_
          refine gGet hn rfl rfl rfl rfl ?_
          refine eS rfl rfl ?_
          refine gGet hn rfl rfl rfl rfl ?_
          refine eS rfl rfl ?_
          refine eS rfl rfl ?_
          rw [p1]
          refine gRd0 hn rfl rfl rfl (pc + 1) (by omega) (hP.2 (pc + 1) (by omega)) ?_
          refine eS rfl rfl ?_
          refine gPut hn rfl rfl rfl rfl rfl rfl rfl mS_56 ?_
          refine eS rfl rfl ?_
          exact eR rfl rfl ⟨rfl, rfl⟩
      · rw [if_neg c0]
        rcases o with o | o
        · rw [o]
          refine eS rfl rfl ?_
          refine eS rfl rfl ?_
          refine eINe rfl rfl (fun _ => ?_) (fun z => absurd z (by decide))
          refine eS rfl rfl ?_
          refine eS rfl rfl ?_
          refine eIEq rfl rfl (fun _ => ?_) (fun z => absurd rfl z)
          refine eS rfl rfl ?_
          refine eS rfl rfl ?_
          refine gV1 hn rfl rfl rfl rfl rfl ⟨catOk rfl, catOk rfl⟩ (m_pop (stk := r) hn hl) ?_
          refine eS rfl rfl ?_
          refine eS rfl rfl ?_
          refine eNe rfl rfl (fun _ => ?_) (fun z => absurd z (fun y => c0 ((cv_eq g0.nn gF_0.nn).mp y)))
          refine eS rfl rfl ?_
          refine gPut hn rfl rfl rfl rfl rfl rfl rfl mS_56 ?_
          refine eS rfl rfl ?_
          exact eR rfl rfl ⟨rfl, rfl⟩
        · rw [o]
          refine eS rfl rfl ?_
          refine eS rfl rfl ?_
          refine eINe rfl rfl (fun _ => ?_) (fun z => absurd z (by decide))
          refine eS rfl rfl ?_
          refine eS rfl rfl ?_
          refine eIEq rfl rfl (fun z => absurd z (by decide)) (fun _ => ?_)
          refine eS rfl rfl ?_
          refine eS rfl rfl ?_
          refine eINe rfl rfl (fun z => absurd rfl z) (fun _ => ?_)
          refine eS rfl rfl ?_
          refine eS rfl rfl ?_
          refine gV1 hn rfl rfl rfl rfl rfl ⟨catOk rfl, catOk rfl⟩ (m_pop (stk := r) hn hl) ?_
          refine eS rfl rfl ?_
          refine eS rfl rfl ?_
          refine eNe rfl rfl (fun _ => ?_) (fun z => absurd z (fun y => c0 ((cv_eq g0.nn gF_0.nn).mp y)))
          refine eS rfl rfl ?_
          refine gPut hn rfl rfl rfl rfl rfl rfl rfl mS_56 ?_
          refine eS rfl rfl ?_
          exact eR rfl rfl ⟨rfl, rfl⟩
  · have hq := (hC.2 _ _ _ q).1
    match stk, l1, l2, hk, hF, hg, q77 with
    | [], _, _, hk, _, _, _ => simp at hk; omega
    | f0 :: r, l1, l2, hk, hF, hg, q77 =>
      have hl : r.length < 24 := by simp at hg; omega
      have g0 := l2 f0 (by simp)
      rw [oneA_rep o]
      have e1 : Int32.ofNat (f0 :: r).length - Int32.ofInt 1 = Int32.ofNat r.length := i32_pre
      by_cases ht : FP.fcmp f0 1065353216 = some .lt
      · have e : turnA f0 r = (false, r) := if_pos ht
        rw [e]
        refine ⟨_, ⟨Int32.ofNat r.length, Int32.ofNat fr.length, Int32.ofNat (W (pc + 1)), fA r (.float f0 :: g), iA (fr.map (·.1)) gp, iA (fr.map (·.2)) gh, a83, rfl, by rw [fA_cons] at q77; exact q77, q79, q80, q83, fun _ => ⟨rfl, rfl, rfl, ⟨_, rfl⟩, ⟨_, rfl⟩, ⟨_, rfl⟩⟩⟩, ?_⟩
        refine m_one_pre hn hP hpc (by omega) ?_
        rw [o, show fA (f0 :: r) g = fA r (.float f0 :: g) from fA_cons]
        refine eS rfl rfl ?_
        refine eS rfl rfl ?_
        refine eINe rfl rfl (fun _ => ?_) (fun z => absurd z (by decide))
        refine eS rfl rfl ?_
        refine eS rfl rfl ?_
        refine eIEq rfl rfl (fun z => absurd z (by decide)) (fun _ => ?_)
        refine eS rfl rfl ?_
        refine eS rfl rfl ?_
        refine eINe rfl rfl (fun _ => ?_) (fun z => absurd z (by decide))
        refine eS rfl rfl ?_
        refine eS rfl rfl ?_
        refine eINe rfl rfl (fun z => absurd rfl z) (fun _ => ?_)
        refine eS rfl rfl ?_
        refine gGet hn rfl rfl rfl rfl ?_
        refine eS rfl rfl ?_
        refine gGet hn rfl rfl rfl rfl ?_
        refine eS rfl rfl ?_
        refine eS rfl rfl ?_
        rw [e1]
        refine gRd3 hn rfl rfl rfl r.length (by omega) fA_get ?_
        refine eS rfl rfl ?_
        refine eS rfl rfl ?_
        refine eGe rfl rfl (fun z => absurd ht ((cv_ge g0.nn gF_1.nn).mp z)) (fun _ => ?_)
        refine eS rfl rfl ?_
        refine eS rfl rfl ?_
        refine eS rfl rfl ?_
        refine eS rfl rfl ?_
        refine eS rfl rfl ?_
        refine eEq rfl rfl (fun z => absurd z (by decide)) (fun _ => ?_)
        refine eS rfl rfl ?_
        refine gGet hn rfl rfl rfl rfl ?_
        refine eS rfl rfl ?_
        refine eS rfl rfl ?_
        refine eS rfl rfl ?_
        rw [e1]
        refine gPut hn rfl rfl rfl rfl rfl rfl rfl mS_56 ?_
        refine eS rfl rfl ?_
        refine eNe rfl rfl (fun _ => ?_) (fun z => absurd z (by decide))
        refine eS rfl rfl ?_
        refine eS rfl rfl ?_
        refine eEq rfl rfl (fun z => absurd z (by decide)) (fun _ => ?_)
        refine eS rfl rfl ?_
        refine gGet hn rfl rfl rfl rfl ?_
        refine eS rfl rfl ?_
        refine gGet hn rfl rfl rfl rfl ?_
        refine eS rfl rfl ?_
        refine eS rfl rfl ?_
        rw [p1]
        refine gRd0 hn rfl rfl rfl (pc + 1) (by omega) (hP.2 (pc + 1) (by omega)) ?_
        refine eS rfl rfl ?_
        refine gPut hn rfl rfl rfl rfl rfl rfl rfl mS_56 ?_
        refine eS rfl rfl ?_
        exact eR rfl rfl ⟨rfl, rfl⟩
      · have e : turnA f0 r = (true, FP.fsub f0 1065353216 :: r) := if_neg ht
        rw [e]
        refine ⟨_, ⟨Int32.ofNat (f0 :: r).length, Int32.ofNat fr.length, Int32.ofNat (pc + 2), fA (FP.fsub f0 1065353216 :: r) g, iA (fr.map (·.1)) gp, iA (fr.map (·.2)) gh, a83, rfl, fA_len.trans hg, q79, q80, q83, fun _ => ⟨rfl, rfl, rfl, ⟨_, rfl⟩, ⟨_, rfl⟩, ⟨_, rfl⟩⟩⟩, ?_⟩
        refine m_one_pre hn hP hpc (by omega) ?_
        rw [o, show fA (f0 :: r) g = fA r (.float f0 :: g) from fA_cons]
        refine eS rfl rfl ?_
        refine eS rfl rfl ?_
        refine eINe rfl rfl (fun _ => ?_) (fun z => absurd z (by decide))
        refine eS rfl rfl ?_
        refine eS rfl rfl ?_
        refine eIEq rfl rfl (fun z => absurd z (by decide)) (fun _ => ?_)
        refine eS rfl rfl ?_
        refine eS rfl rfl ?_
        refine eINe rfl rfl (fun _ => ?_) (fun z => absurd z (by decide))
        refine eS rfl rfl ?_
        refine eS rfl rfl ?_
        refine eINe rfl rfl (fun z => absurd rfl z) (fun _ => ?_)
        refine eS rfl rfl ?_
        refine gGet hn rfl rfl rfl rfl ?_
        refine eS rfl rfl ?_
        refine gGet hn rfl rfl rfl rfl ?_
        refine eS rfl rfl ?_
        refine eS rfl rfl ?_
        rw [e1]
        refine gRd3 hn rfl rfl rfl r.length (by omega) fA_get ?_
        refine eS rfl rfl ?_
        refine eS rfl rfl ?_
        refine eGe rfl rfl (fun _ => ?_) (fun z => absurd ((cv_ge g0.nn gF_1.nn).mpr ht) z)
        refine eS rfl rfl ?_
        refine eS rfl rfl ?_
        refine eS rfl rfl ?_
        refine eS rfl rfl ?_
        refine eEq rfl rfl (fun _ => ?_) (fun z => absurd rfl z)
        refine eS rfl rfl ?_
        refine gGet hn rfl rfl rfl rfl ?_
        refine gPut hn rfl rfl rfl rfl rfl rfl rfl mS_56 ?_
        refine eS rfl rfl ?_
        refine eNe rfl rfl (fun z => absurd z (by decide)) (fun _ => ?_)
        refine eS rfl rfl ?_
        refine gGet hn rfl rfl rfl rfl ?_
        refine eS rfl rfl ?_
        refine gGet hn rfl rfl rfl rfl ?_
        refine eS rfl rfl ?_
        refine eS rfl rfl ?_
        rw [e1]
        refine eS rfl rfl ?_
        refine gGet hn rfl rfl rfl rfl ?_
        refine eS rfl rfl ?_
        refine gGet hn rfl rfl rfl rfl ?_
        refine eS rfl rfl ?_
        refine eS rfl rfl ?_
        rw [e1]
        refine gRd3 hn rfl rfl rfl r.length (by omega) fA_get ?_
        refine eS rfl rfl ?_
        refine eP rfl (fsub_ok (n32_sub g0 gF_1)) ?_
        refine gWr3 hn rfl rfl rfl r.length (by omega) (by show r.length < (fA r (.float f0 :: g)).length; rw [fA_len]; simp only [List.length_cons]; omega) (mS_77.trans (congrArg (fun z => mS S0 _ z _ _ _ _ _ _) fA_set)) ?_
        refine eS rfl rfl ?_
        refine eS rfl rfl ?_
        refine eEq rfl rfl (fun _ => ?_) (fun z => absurd rfl z)
        refine eS rfl rfl ?_
        refine gPut hn rfl rfl rfl rfl rfl rfl rfl mS_56 ?_
        refine eS rfl rfl ?_
        exact eR rfl rfl ⟨rfl, rfl⟩
  · rw [oneA_mov o]
    obtain ⟨g', a83', b1, b2, e⟩ := m_plain_mov (d := d) (scr := scr) (kd := kd) (w := w) (nn := nn) (pc := pc) (cl := fr.length) (par := par) (vrs := vrs) (a79 := iA (fr.map (·.1)) gp) (a80 := iA (fr.map (·.2)) gh) (a83 := a83) (g := g) hn hsn hg l2 s5 q83 oo
    refine ⟨_, ⟨Int32.ofNat (movA (W pc) stk (x, y, hd, co, dn, px)).2.1.length, Int32.ofNat fr.length, Int32.ofNat (pc + 1), fA _ g', iA (fr.map (·.1)) gp, iA (fr.map (·.2)) gh, a83', rfl, fA_len.trans b1, q79, q80, b2, fun _ => ⟨rfl, rfl, rfl, ⟨_, rfl⟩, ⟨_, rfl⟩, ⟨_, rfl⟩⟩⟩, ?_⟩
    refine m_one_pre hn hP hpc (by omega) ?_
    have hw : W pc = 18 ∨ W pc = 19 ∨ W pc = 20 ∨ W pc = 21 ∨ W pc = 22 ∨ W pc = 23 ∨ W pc = 24 ∨ W pc = 25 ∨ W pc = 26 := by omega
    rcases hw with o | o | o | o | o | o | o | o | o
    · rw [o] at e ⊢
      refine eS rfl rfl ?_
      refine eS rfl rfl ?_
      refine eINe rfl rfl (fun _ => ?_) (fun z => absurd z (by decide))
      refine eS rfl rfl ?_
      refine eS rfl rfl ?_
      refine eIEq rfl rfl (fun z => absurd z (by decide)) (fun _ => ?_)
      refine eS rfl rfl ?_
      refine eS rfl rfl ?_
      refine eINe rfl rfl (fun _ => ?_) (fun z => absurd z (by decide))
      refine eS rfl rfl ?_
      refine eS rfl rfl ?_
      refine eINe rfl rfl (fun _ => ?_) (fun z => absurd z (by decide))
      refine eS rfl rfl ?_
      refine eS rfl rfl ?_
      refine eINe rfl rfl (fun _ => ?_) (fun z => absurd z (by decide))
      refine eS rfl rfl ?_
      refine eS rfl rfl ?_
      refine eINe rfl rfl (fun _ => ?_) (fun z => absurd z (by decide))
      refine eS rfl rfl ?_
      refine eS rfl rfl ?_
      refine eINe rfl rfl (fun _ => ?_) (fun z => absurd z (by decide))
      refine eS rfl rfl ?_
      refine eS rfl rfl ?_
      refine gV1 hn rfl rfl rfl rfl rfl ⟨catOk rfl, catOk rfl⟩ (e) ?_
      refine eS rfl rfl ?_
      refine eS rfl rfl ?_
      refine gPut hn rfl rfl rfl rfl rfl rfl rfl mS_56 ?_
      exact eR rfl rfl ⟨rfl, rfl⟩
    · rw [o] at e ⊢
      refine eS rfl rfl ?_
      refine eS rfl rfl ?_
      refine eINe rfl rfl (fun _ => ?_) (fun z => absurd z (by decide))
      refine eS rfl rfl ?_
      refine eS rfl rfl ?_
      refine eIEq rfl rfl (fun z => absurd z (by decide)) (fun _ => ?_)
      refine eS rfl rfl ?_
      refine eS rfl rfl ?_
      refine eINe rfl rfl (fun _ => ?_) (fun z => absurd z (by decide))
      refine eS rfl rfl ?_
      refine eS rfl rfl ?_
      refine eINe rfl rfl (fun _ => ?_) (fun z => absurd z (by decide))
      refine eS rfl rfl ?_
      refine eS rfl rfl ?_
      refine eINe rfl rfl (fun _ => ?_) (fun z => absurd z (by decide))
      refine eS rfl rfl ?_
      refine eS rfl rfl ?_
      refine eINe rfl rfl (fun _ => ?_) (fun z => absurd z (by decide))
      refine eS rfl rfl ?_
      refine eS rfl rfl ?_
      refine eINe rfl rfl (fun _ => ?_) (fun z => absurd z (by decide))
      refine eS rfl rfl ?_
      refine eS rfl rfl ?_
      refine gV1 hn rfl rfl rfl rfl rfl ⟨catOk rfl, catOk rfl⟩ (e) ?_
      refine eS rfl rfl ?_
      refine eS rfl rfl ?_
      refine gPut hn rfl rfl rfl rfl rfl rfl rfl mS_56 ?_
      exact eR rfl rfl ⟨rfl, rfl⟩
    · rw [o] at e ⊢
      refine eS rfl rfl ?_
      refine eS rfl rfl ?_
      refine eINe rfl rfl (fun _ => ?_) (fun z => absurd z (by decide))
      refine eS rfl rfl ?_
      refine eS rfl rfl ?_
      refine eIEq rfl rfl (fun z => absurd z (by decide)) (fun _ => ?_)
      refine eS rfl rfl ?_
      refine eS rfl rfl ?_
      refine eINe rfl rfl (fun _ => ?_) (fun z => absurd z (by decide))
      refine eS rfl rfl ?_
      refine eS rfl rfl ?_
      refine eINe rfl rfl (fun _ => ?_) (fun z => absurd z (by decide))
      refine eS rfl rfl ?_
      refine eS rfl rfl ?_
      refine eINe rfl rfl (fun _ => ?_) (fun z => absurd z (by decide))
      refine eS rfl rfl ?_
      refine eS rfl rfl ?_
      refine eINe rfl rfl (fun _ => ?_) (fun z => absurd z (by decide))
      refine eS rfl rfl ?_
      refine eS rfl rfl ?_
      refine eINe rfl rfl (fun _ => ?_) (fun z => absurd z (by decide))
      refine eS rfl rfl ?_
      refine eS rfl rfl ?_
      refine gV1 hn rfl rfl rfl rfl rfl ⟨catOk rfl, catOk rfl⟩ (e) ?_
      refine eS rfl rfl ?_
      refine eS rfl rfl ?_
      refine gPut hn rfl rfl rfl rfl rfl rfl rfl mS_56 ?_
      exact eR rfl rfl ⟨rfl, rfl⟩
    · rw [o] at e ⊢
      refine eS rfl rfl ?_
      refine eS rfl rfl ?_
      refine eINe rfl rfl (fun _ => ?_) (fun z => absurd z (by decide))
      refine eS rfl rfl ?_
      refine eS rfl rfl ?_
      refine eIEq rfl rfl (fun z => absurd z (by decide)) (fun _ => ?_)
      refine eS rfl rfl ?_
      refine eS rfl rfl ?_
      refine eINe rfl rfl (fun _ => ?_) (fun z => absurd z (by decide))
      refine eS rfl rfl ?_
      refine eS rfl rfl ?_
      refine eINe rfl rfl (fun _ => ?_) (fun z => absurd z (by decide))
      refine eS rfl rfl ?_
      refine eS rfl rfl ?_
      refine eINe rfl rfl (fun _ => ?_) (fun z => absurd z (by decide))
      refine eS rfl rfl ?_
      refine eS rfl rfl ?_
      refine eINe rfl rfl (fun _ => ?_) (fun z => absurd z (by decide))
      refine eS rfl rfl ?_
      refine eS rfl rfl ?_
      refine eINe rfl rfl (fun _ => ?_) (fun z => absurd z (by decide))
      refine eS rfl rfl ?_
      refine eS rfl rfl ?_
      refine gV1 hn rfl rfl rfl rfl rfl ⟨catOk rfl, catOk rfl⟩ (e) ?_
      refine eS rfl rfl ?_
      refine eS rfl rfl ?_
      refine gPut hn rfl rfl rfl rfl rfl rfl rfl mS_56 ?_
      exact eR rfl rfl ⟨rfl, rfl⟩
    · rw [o] at e ⊢
      refine eS rfl rfl ?_
      refine eS rfl rfl ?_
      refine eINe rfl rfl (fun _ => ?_) (fun z => absurd z (by decide))
      refine eS rfl rfl ?_
      refine eS rfl rfl ?_
      refine eIEq rfl rfl (fun z => absurd z (by decide)) (fun _ => ?_)
      refine eS rfl rfl ?_
      refine eS rfl rfl ?_
      refine eINe rfl rfl (fun _ => ?_) (fun z => absurd z (by decide))
      refine eS rfl rfl ?_
      refine eS rfl rfl ?_
      refine eINe rfl rfl (fun _ => ?_) (fun z => absurd z (by decide))
      refine eS rfl rfl ?_
      refine eS rfl rfl ?_
      refine eINe rfl rfl (fun _ => ?_) (fun z => absurd z (by decide))
      refine eS rfl rfl ?_
      refine eS rfl rfl ?_
      refine eINe rfl rfl (fun _ => ?_) (fun z => absurd z (by decide))
      refine eS rfl rfl ?_
      refine eS rfl rfl ?_
      refine eINe rfl rfl (fun _ => ?_) (fun z => absurd z (by decide))
      refine eS rfl rfl ?_
      refine eS rfl rfl ?_
      refine gV1 hn rfl rfl rfl rfl rfl ⟨catOk rfl, catOk rfl⟩ (e) ?_
      refine eS rfl rfl ?_
      refine eS rfl rfl ?_
      refine gPut hn rfl rfl rfl rfl rfl rfl rfl mS_56 ?_
      exact eR rfl rfl ⟨rfl, rfl⟩
    · rw [o] at e ⊢
      refine eS rfl rfl ?_
      refine eS rfl rfl ?_
      refine eINe rfl rfl (fun _ => ?_) (fun z => absurd z (by decide))
      refine eS rfl rfl ?_
      refine eS rfl rfl ?_
      refine eIEq rfl rfl (fun z => absurd z (by decide)) (fun _ => ?_)
      refine eS rfl rfl ?_
      refine eS rfl rfl ?_
      refine eINe rfl rfl (fun _ => ?_) (fun z => absurd z (by decide))
      refine eS rfl rfl ?_
      refine eS rfl rfl ?_
      refine eINe rfl rfl (fun _ => ?_) (fun z => absurd z (by decide))
      refine eS rfl rfl ?_
      refine eS rfl rfl ?_
      refine eINe rfl rfl (fun _ => ?_) (fun z => absurd z (by decide))
      refine eS rfl rfl ?_
      refine eS rfl rfl ?_
      refine eINe rfl rfl (fun _ => ?_) (fun z => absurd z (by decide))
      refine eS rfl rfl ?_
      refine eS rfl rfl ?_
      refine eINe rfl rfl (fun _ => ?_) (fun z => absurd z (by decide))
      refine eS rfl rfl ?_
      refine eS rfl rfl ?_
      refine gV1 hn rfl rfl rfl rfl rfl ⟨catOk rfl, catOk rfl⟩ (e) ?_
      refine eS rfl rfl ?_
      refine eS rfl rfl ?_
      refine gPut hn rfl rfl rfl rfl rfl rfl rfl mS_56 ?_
      exact eR rfl rfl ⟨rfl, rfl⟩
    · rw [o] at e ⊢
      refine eS rfl rfl ?_
      refine eS rfl rfl ?_
      refine eINe rfl rfl (fun _ => ?_) (fun z => absurd z (by decide))
      refine eS rfl rfl ?_
      refine eS rfl rfl ?_
      refine eIEq rfl rfl (fun z => absurd z (by decide)) (fun _ => ?_)
      refine eS rfl rfl ?_
      refine eS rfl rfl ?_
      refine eINe rfl rfl (fun _ => ?_) (fun z => absurd z (by decide))
      refine eS rfl rfl ?_
      refine eS rfl rfl ?_
      refine eINe rfl rfl (fun _ => ?_) (fun z => absurd z (by decide))
      refine eS rfl rfl ?_
      refine eS rfl rfl ?_
      refine eINe rfl rfl (fun _ => ?_) (fun z => absurd z (by decide))
      refine eS rfl rfl ?_
      refine eS rfl rfl ?_
      refine eINe rfl rfl (fun _ => ?_) (fun z => absurd z (by decide))
      refine eS rfl rfl ?_
      refine eS rfl rfl ?_
      refine eINe rfl rfl (fun _ => ?_) (fun z => absurd z (by decide))
      refine eS rfl rfl ?_
      refine eS rfl rfl ?_
      refine gV1 hn rfl rfl rfl rfl rfl ⟨catOk rfl, catOk rfl⟩ (e) ?_
      refine eS rfl rfl ?_
      refine eS rfl rfl ?_
      refine gPut hn rfl rfl rfl rfl rfl rfl rfl mS_56 ?_
      exact eR rfl rfl ⟨rfl, rfl⟩
    · rw [o] at e ⊢
      refine eS rfl rfl ?_
      refine eS rfl rfl ?_
      refine eINe rfl rfl (fun _ => ?_) (fun z => absurd z (by decide))
      refine eS rfl rfl ?_
      refine eS rfl rfl ?_
      refine eIEq rfl rfl (fun z => absurd z (by decide)) (fun _ => ?_)
      refine eS rfl rfl ?_
      refine eS rfl rfl ?_
      refine eINe rfl rfl (fun _ => ?_) (fun z => absurd z (by decide))
      refine eS rfl rfl ?_
      refine eS rfl rfl ?_
      refine eINe rfl rfl (fun _ => ?_) (fun z => absurd z (by decide))
      refine eS rfl rfl ?_
      refine eS rfl rfl ?_
      refine eINe rfl rfl (fun _ => ?_) (fun z => absurd z (by decide))
      refine eS rfl rfl ?_
      refine eS rfl rfl ?_
      refine eINe rfl rfl (fun _ => ?_) (fun z => absurd z (by decide))
      refine eS rfl rfl ?_
      refine eS rfl rfl ?_
      refine eINe rfl rfl (fun _ => ?_) (fun z => absurd z (by decide))
      refine eS rfl rfl ?_
      refine eS rfl rfl ?_
      refine gV1 hn rfl rfl rfl rfl rfl ⟨catOk rfl, catOk rfl⟩ (e) ?_
      refine eS rfl rfl ?_
      refine eS rfl rfl ?_
      refine gPut hn rfl rfl rfl rfl rfl rfl rfl mS_56 ?_
      exact eR rfl rfl ⟨rfl, rfl⟩
    · rw [o] at e ⊢
      refine eS rfl rfl ?_
      refine eS rfl rfl ?_
      refine eINe rfl rfl (fun _ => ?_) (fun z => absurd z (by decide))
      refine eS rfl rfl ?_
      refine eS rfl rfl ?_
      refine eIEq rfl rfl (fun z => absurd z (by decide)) (fun _ => ?_)
      refine eS rfl rfl ?_
      refine eS rfl rfl ?_
      refine eINe rfl rfl (fun _ => ?_) (fun z => absurd z (by decide))
      refine eS rfl rfl ?_
      refine eS rfl rfl ?_
      refine eINe rfl rfl (fun _ => ?_) (fun z => absurd z (by decide))
      refine eS rfl rfl ?_
      refine eS rfl rfl ?_
      refine eINe rfl rfl (fun _ => ?_) (fun z => absurd z (by decide))
      refine eS rfl rfl ?_
      refine eS rfl rfl ?_
      refine eINe rfl rfl (fun _ => ?_) (fun z => absurd z (by decide))
      refine eS rfl rfl ?_
      refine eS rfl rfl ?_
      refine eINe rfl rfl (fun _ => ?_) (fun z => absurd z (by decide))
      refine eS rfl rfl ?_
      refine eS rfl rfl ?_
      refine gV1 hn rfl rfl rfl rfl rfl ⟨catOk rfl, catOk rfl⟩ (e) ?_
      refine eS rfl rfl ?_
      refine eS rfl rfl ?_
      refine gPut hn rfl rfl rfl rfl rfl rfl rfl mS_56 ?_
      exact eR rfl rfl ⟨rfl, rfl⟩
  · have hq := (hC.2 _ _ _ p).1
    rw [oneA_op o]
    obtain ⟨hi', a77', b1, b2, e⟩ := m_plain_op (d := d + 2) (scr := scr) (kd := kd) (w := w) (nn := nn) (pc := pc) (cl := fr.length) (x := x) (y := y) (hd := hd) (co := co) (dn := dn) (px := px) (par := par) (vrs := vrs) (a79 := iA (fr.map (·.1)) gp) (a80 := iA (fr.map (·.2)) gh) (a83 := a83) (g := g) hn hP hg s1 s3 l2 oo (tyW_num hT) (by omega)
    refine ⟨_, ⟨hi', Int32.ofNat fr.length, Int32.ofNat (pc + lenA (W pc)), a77', iA (fr.map (·.1)) gp, iA (fr.map (·.2)) gh, a83, rfl, b1, q79, q80, q83, fun z => ⟨(b2 z).1, rfl, rfl, (b2 z).2, ⟨_, rfl⟩, ⟨_, rfl⟩⟩⟩, ?_⟩
    refine m_one_pre hn hP hpc (by omega) ?_
    have hw : W pc = 1 ∨ W pc = 2 ∨ W pc = 3 ∨ W pc = 4 ∨ W pc = 5 ∨ W pc = 6 ∨ W pc = 7 ∨ W pc = 8 ∨ W pc = 9 ∨ W pc = 10 ∨ W pc = 11 ∨ W pc = 12 ∨ W pc = 13 := by omega
    rcases hw with o | o | o | o | o | o | o | o | o | o | o | o | o
    · rw [o] at e ⊢
      refine eS rfl rfl ?_
      refine eS rfl rfl ?_
      refine eINe rfl rfl (fun _ => ?_) (fun z => absurd z (by decide))
      refine eS rfl rfl ?_
      refine eS rfl rfl ?_
      refine eIEq rfl rfl (fun z => absurd z (by decide)) (fun _ => ?_)
      refine eS rfl rfl ?_
      refine eS rfl rfl ?_
      refine eINe rfl rfl (fun _ => ?_) (fun z => absurd z (by decide))
      refine eS rfl rfl ?_
      refine eS rfl rfl ?_
      refine eINe rfl rfl (fun _ => ?_) (fun z => absurd z (by decide))
      refine eS rfl rfl ?_
      refine eS rfl rfl ?_
      refine eINe rfl rfl (fun _ => ?_) (fun z => absurd z (by decide))
      refine eS rfl rfl ?_
      refine eS rfl rfl ?_
      refine eINe rfl rfl (fun _ => ?_) (fun z => absurd z (by decide))
      refine eS rfl rfl ?_
      refine eS rfl rfl ?_
      refine eINe rfl rfl (fun _ => ?_) (fun z => absurd z (by decide))
      refine eS rfl rfl ?_
      refine eS rfl rfl ?_
      refine gV1 hn rfl rfl rfl rfl rfl ⟨catOk rfl, catOk rfl⟩ (e) ?_
      refine eS rfl rfl ?_
      refine eS rfl rfl ?_
      refine gPut hn rfl rfl rfl rfl rfl rfl rfl mS_56 ?_
      exact eR rfl rfl ⟨rfl, rfl⟩
    · rw [o] at e ⊢
      refine eS rfl rfl ?_
      refine eS rfl rfl ?_
      refine eINe rfl rfl (fun _ => ?_) (fun z => absurd z (by decide))
      refine eS rfl rfl ?_
      refine eS rfl rfl ?_
      refine eIEq rfl rfl (fun z => absurd z (by decide)) (fun _ => ?_)
      refine eS rfl rfl ?_
      refine eS rfl rfl ?_
      refine eINe rfl rfl (fun _ => ?_) (fun z => absurd z (by decide))
      refine eS rfl rfl ?_
      refine eS rfl rfl ?_
      refine eINe rfl rfl (fun _ => ?_) (fun z => absurd z (by decide))
      refine eS rfl rfl ?_
      refine eS rfl rfl ?_
      refine eINe rfl rfl (fun _ => ?_) (fun z => absurd z (by decide))
      refine eS rfl rfl ?_
      refine eS rfl rfl ?_
      refine eINe rfl rfl (fun _ => ?_) (fun z => absurd z (by decide))
      refine eS rfl rfl ?_
      refine eS rfl rfl ?_
      refine eINe rfl rfl (fun _ => ?_) (fun z => absurd z (by decide))
      refine eS rfl rfl ?_
      refine eS rfl rfl ?_
      refine gV1 hn rfl rfl rfl rfl rfl ⟨catOk rfl, catOk rfl⟩ (e) ?_
      refine eS rfl rfl ?_
      refine eS rfl rfl ?_
      refine gPut hn rfl rfl rfl rfl rfl rfl rfl mS_56 ?_
      exact eR rfl rfl ⟨rfl, rfl⟩
    · rw [o] at e ⊢
      refine eS rfl rfl ?_
      refine eS rfl rfl ?_
      refine eINe rfl rfl (fun _ => ?_) (fun z => absurd z (by decide))
      refine eS rfl rfl ?_
      refine eS rfl rfl ?_
      refine eIEq rfl rfl (fun z => absurd z (by decide)) (fun _ => ?_)
      refine eS rfl rfl ?_
      refine eS rfl rfl ?_
      refine eINe rfl rfl (fun _ => ?_) (fun z => absurd z (by decide))
      refine eS rfl rfl ?_
      refine eS rfl rfl ?_
      refine eINe rfl rfl (fun _ => ?_) (fun z => absurd z (by decide))
      refine eS rfl rfl ?_
      refine eS rfl rfl ?_
      refine eINe rfl rfl (fun _ => ?_) (fun z => absurd z (by decide))
      refine eS rfl rfl ?_
      refine eS rfl rfl ?_
      refine eINe rfl rfl (fun _ => ?_) (fun z => absurd z (by decide))
      refine eS rfl rfl ?_
      refine eS rfl rfl ?_
      refine eINe rfl rfl (fun _ => ?_) (fun z => absurd z (by decide))
      refine eS rfl rfl ?_
      refine eS rfl rfl ?_
      refine gV1 hn rfl rfl rfl rfl rfl ⟨catOk rfl, catOk rfl⟩ (e) ?_
      refine eS rfl rfl ?_
      refine eS rfl rfl ?_
      refine gPut hn rfl rfl rfl rfl rfl rfl rfl mS_56 ?_
      exact eR rfl rfl ⟨rfl, rfl⟩
    · rw [o] at e ⊢
      refine eS rfl rfl ?_
      refine eS rfl rfl ?_
      refine eINe rfl rfl (fun _ => ?_) (fun z => absurd z (by decide))
      refine eS rfl rfl ?_
      refine eS rfl rfl ?_
      refine eIEq rfl rfl (fun z => absurd z (by decide)) (fun _ => ?_)
      refine eS rfl rfl ?_
      refine eS rfl rfl ?_
      refine eINe rfl rfl (fun _ => ?_) (fun z => absurd z (by decide))
      refine eS rfl rfl ?_
      refine eS rfl rfl ?_
      refine eINe rfl rfl (fun _ => ?_) (fun z => absurd z (by decide))
      refine eS rfl rfl ?_
      refine eS rfl rfl ?_
      refine eINe rfl rfl (fun _ => ?_) (fun z => absurd z (by decide))
      refine eS rfl rfl ?_
      refine eS rfl rfl ?_
      refine eINe rfl rfl (fun _ => ?_) (fun z => absurd z (by decide))
      refine eS rfl rfl ?_
      refine eS rfl rfl ?_
      refine eINe rfl rfl (fun _ => ?_) (fun z => absurd z (by decide))
      refine eS rfl rfl ?_
      refine eS rfl rfl ?_
      refine gV1 hn rfl rfl rfl rfl rfl ⟨catOk rfl, catOk rfl⟩ (e) ?_
      refine eS rfl rfl ?_
      refine eS rfl rfl ?_
      refine gPut hn rfl rfl rfl rfl rfl rfl rfl mS_56 ?_
      exact eR rfl rfl ⟨rfl, rfl⟩
    · rw [o] at e ⊢
      refine eS rfl rfl ?_
      refine eS rfl rfl ?_
      refine eINe rfl rfl (fun _ => ?_) (fun z => absurd z (by decide))
      refine eS rfl rfl ?_
      refine eS rfl rfl ?_
      refine eIEq rfl rfl (fun z => absurd z (by decide)) (fun _ => ?_)
      refine eS rfl rfl ?_
      refine eS rfl rfl ?_
      refine eINe rfl rfl (fun _ => ?_) (fun z => absurd z (by decide))
      refine eS rfl rfl ?_
      refine eS rfl rfl ?_
      refine eINe rfl rfl (fun _ => ?_) (fun z => absurd z (by decide))
      refine eS rfl rfl ?_
      refine eS rfl rfl ?_
      refine eINe rfl rfl (fun _ => ?_) (fun z => absurd z (by decide))
      refine eS rfl rfl ?_
      refine eS rfl rfl ?_
      refine eINe rfl rfl (fun _ => ?_) (fun z => absurd z (by decide))
      refine eS rfl rfl ?_
      refine eS rfl rfl ?_
      refine eINe rfl rfl (fun _ => ?_) (fun z => absurd z (by decide))
      refine eS rfl rfl ?_
      refine eS rfl rfl ?_
      refine gV1 hn rfl rfl rfl rfl rfl ⟨catOk rfl, catOk rfl⟩ (e) ?_
      refine eS rfl rfl ?_
      refine eS rfl rfl ?_
      refine gPut hn rfl rfl rfl rfl rfl rfl rfl mS_56 ?_
      exact eR rfl rfl ⟨rfl, rfl⟩
    · rw [o] at e ⊢
      refine eS rfl rfl ?_
      refine eS rfl rfl ?_
      refine eINe rfl rfl (fun _ => ?_) (fun z => absurd z (by decide))
      refine eS rfl rfl ?_
      refine eS rfl rfl ?_
      refine eIEq rfl rfl (fun z => absurd z (by decide)) (fun _ => ?_)
      refine eS rfl rfl ?_
      refine eS rfl rfl ?_
      refine eINe rfl rfl (fun _ => ?_) (fun z => absurd z (by decide))
      refine eS rfl rfl ?_
      refine eS rfl rfl ?_
      refine eINe rfl rfl (fun _ => ?_) (fun z => absurd z (by decide))
      refine eS rfl rfl ?_
      refine eS rfl rfl ?_
      refine eINe rfl rfl (fun _ => ?_) (fun z => absurd z (by decide))
      refine eS rfl rfl ?_
      refine eS rfl rfl ?_
      refine eINe rfl rfl (fun _ => ?_) (fun z => absurd z (by decide))
      refine eS rfl rfl ?_
      refine eS rfl rfl ?_
      refine eINe rfl rfl (fun _ => ?_) (fun z => absurd z (by decide))
      refine eS rfl rfl ?_
      refine eS rfl rfl ?_
      refine gV1 hn rfl rfl rfl rfl rfl ⟨catOk rfl, catOk rfl⟩ (e) ?_
      refine eS rfl rfl ?_
      refine eS rfl rfl ?_
      refine gPut hn rfl rfl rfl rfl rfl rfl rfl mS_56 ?_
      exact eR rfl rfl ⟨rfl, rfl⟩
    · rw [o] at e ⊢
      refine eS rfl rfl ?_
      refine eS rfl rfl ?_
      refine eINe rfl rfl (fun _ => ?_) (fun z => absurd z (by decide))
      refine eS rfl rfl ?_
      refine eS rfl rfl ?_
      refine eIEq rfl rfl (fun z => absurd z (by decide)) (fun _ => ?_)
      refine eS rfl rfl ?_
      refine eS rfl rfl ?_
      refine eINe rfl rfl (fun _ => ?_) (fun z => absurd z (by decide))
      refine eS rfl rfl ?_
      refine eS rfl rfl ?_
      refine eINe rfl rfl (fun _ => ?_) (fun z => absurd z (by decide))
      refine eS rfl rfl ?_
      refine eS rfl rfl ?_
      refine eINe rfl rfl (fun _ => ?_) (fun z => absurd z (by decide))
      refine eS rfl rfl ?_
      refine eS rfl rfl ?_
      refine eINe rfl rfl (fun _ => ?_) (fun z => absurd z (by decide))
      refine eS rfl rfl ?_
      refine eS rfl rfl ?_
      refine eINe rfl rfl (fun _ => ?_) (fun z => absurd z (by decide))
      refine eS rfl rfl ?_
      refine eS rfl rfl ?_
      refine gV1 hn rfl rfl rfl rfl rfl ⟨catOk rfl, catOk rfl⟩ (e) ?_
      refine eS rfl rfl ?_
      refine eS rfl rfl ?_
      refine gPut hn rfl rfl rfl rfl rfl rfl rfl mS_56 ?_
      exact eR rfl rfl ⟨rfl, rfl⟩
    · rw [o] at e ⊢
      refine eS rfl rfl ?_
      refine eS rfl rfl ?_
      refine eINe rfl rfl (fun _ => ?_) (fun z => absurd z (by decide))
      refine eS rfl rfl ?_
      refine eS rfl rfl ?_
      refine eIEq rfl rfl (fun z => absurd z (by decide)) (fun _ => ?_)
      refine eS rfl rfl ?_
      refine eS rfl rfl ?_
      refine eINe rfl rfl (fun _ => ?_) (fun z => absurd z (by decide))
      refine eS rfl rfl ?_
      refine eS rfl rfl ?_
      refine eINe rfl rfl (fun _ => ?_) (fun z => absurd z (by decide))
      refine eS rfl rfl ?_
      refine eS rfl rfl ?_
      refine eINe rfl rfl (fun _ => ?_) (fun z => absurd z (by decide))
      refine eS rfl rfl ?_
      refine eS rfl rfl ?_
      refine eINe rfl rfl (fun _ => ?_) (fun z => absurd z (by decide))
      refine eS rfl rfl ?_
      refine eS rfl rfl ?_
      refine eINe rfl rfl (fun _ => ?_) (fun z => absurd z (by decide))
      refine eS rfl rfl ?_
      refine eS rfl rfl ?_
      refine gV1 hn rfl rfl rfl rfl rfl ⟨catOk rfl, catOk rfl⟩ (e) ?_
      refine eS rfl rfl ?_
      refine eS rfl rfl ?_
      refine gPut hn rfl rfl rfl rfl rfl rfl rfl mS_56 ?_
      exact eR rfl rfl ⟨rfl, rfl⟩
    · rw [o] at e ⊢
      refine eS rfl rfl ?_
      refine eS rfl rfl ?_
      refine eINe rfl rfl (fun _ => ?_) (fun z => absurd z (by decide))
      refine eS rfl rfl ?_
      refine eS rfl rfl ?_
      refine eIEq rfl rfl (fun z => absurd z (by decide)) (fun _ => ?_)
      refine eS rfl rfl ?_
      refine eS rfl rfl ?_
      refine eINe rfl rfl (fun _ => ?_) (fun z => absurd z (by decide))
      refine eS rfl rfl ?_
      refine eS rfl rfl ?_
      refine eINe rfl rfl (fun _ => ?_) (fun z => absurd z (by decide))
      refine eS rfl rfl ?_
      refine eS rfl rfl ?_
      refine eINe rfl rfl (fun _ => ?_) (fun z => absurd z (by decide))
      refine eS rfl rfl ?_
      refine eS rfl rfl ?_
      refine eINe rfl rfl (fun _ => ?_) (fun z => absurd z (by decide))
      refine eS rfl rfl ?_
      refine eS rfl rfl ?_
      refine eINe rfl rfl (fun _ => ?_) (fun z => absurd z (by decide))
      refine eS rfl rfl ?_
      refine eS rfl rfl ?_
      refine gV1 hn rfl rfl rfl rfl rfl ⟨catOk rfl, catOk rfl⟩ (e) ?_
      refine eS rfl rfl ?_
      refine eS rfl rfl ?_
      refine gPut hn rfl rfl rfl rfl rfl rfl rfl mS_56 ?_
      exact eR rfl rfl ⟨rfl, rfl⟩
    · rw [o] at e ⊢
      refine eS rfl rfl ?_
      refine eS rfl rfl ?_
      refine eINe rfl rfl (fun _ => ?_) (fun z => absurd z (by decide))
      refine eS rfl rfl ?_
      refine eS rfl rfl ?_
      refine eIEq rfl rfl (fun z => absurd z (by decide)) (fun _ => ?_)
      refine eS rfl rfl ?_
      refine eS rfl rfl ?_
      refine eINe rfl rfl (fun _ => ?_) (fun z => absurd z (by decide))
      refine eS rfl rfl ?_
      refine eS rfl rfl ?_
      refine eINe rfl rfl (fun _ => ?_) (fun z => absurd z (by decide))
      refine eS rfl rfl ?_
      refine eS rfl rfl ?_
      refine eINe rfl rfl (fun _ => ?_) (fun z => absurd z (by decide))
      refine eS rfl rfl ?_
      refine eS rfl rfl ?_
      refine eINe rfl rfl (fun _ => ?_) (fun z => absurd z (by decide))
      refine eS rfl rfl ?_
      refine eS rfl rfl ?_
      refine eINe rfl rfl (fun _ => ?_) (fun z => absurd z (by decide))
      refine eS rfl rfl ?_
      refine eS rfl rfl ?_
      refine gV1 hn rfl rfl rfl rfl rfl ⟨catOk rfl, catOk rfl⟩ (e) ?_
      refine eS rfl rfl ?_
      refine eS rfl rfl ?_
      refine gPut hn rfl rfl rfl rfl rfl rfl rfl mS_56 ?_
      exact eR rfl rfl ⟨rfl, rfl⟩
    · rw [o] at e ⊢
      refine eS rfl rfl ?_
      refine eS rfl rfl ?_
      refine eINe rfl rfl (fun _ => ?_) (fun z => absurd z (by decide))
      refine eS rfl rfl ?_
      refine eS rfl rfl ?_
      refine eIEq rfl rfl (fun z => absurd z (by decide)) (fun _ => ?_)
      refine eS rfl rfl ?_
      refine eS rfl rfl ?_
      refine eINe rfl rfl (fun _ => ?_) (fun z => absurd z (by decide))
      refine eS rfl rfl ?_
      refine eS rfl rfl ?_
      refine eINe rfl rfl (fun _ => ?_) (fun z => absurd z (by decide))
      refine eS rfl rfl ?_
      refine eS rfl rfl ?_
      refine eINe rfl rfl (fun _ => ?_) (fun z => absurd z (by decide))
      refine eS rfl rfl ?_
      refine eS rfl rfl ?_
      refine eINe rfl rfl (fun _ => ?_) (fun z => absurd z (by decide))
      refine eS rfl rfl ?_
      refine eS rfl rfl ?_
      refine eINe rfl rfl (fun _ => ?_) (fun z => absurd z (by decide))
      refine eS rfl rfl ?_
      refine eS rfl rfl ?_
      refine gV1 hn rfl rfl rfl rfl rfl ⟨catOk rfl, catOk rfl⟩ (e) ?_
      refine eS rfl rfl ?_
      refine eS rfl rfl ?_
      refine gPut hn rfl rfl rfl rfl rfl rfl rfl mS_56 ?_
      exact eR rfl rfl ⟨rfl, rfl⟩
    · rw [o] at e ⊢
      refine eS rfl rfl ?_
      refine eS rfl rfl ?_
      refine eINe rfl rfl (fun _ => ?_) (fun z => absurd z (by decide))
      refine eS rfl rfl ?_
      refine eS rfl rfl ?_
      refine eIEq rfl rfl (fun z => absurd z (by decide)) (fun _ => ?_)
      refine eS rfl rfl ?_
      refine eS rfl rfl ?_
      refine eINe rfl rfl (fun _ => ?_) (fun z => absurd z (by decide))
      refine eS rfl rfl ?_
      refine eS rfl rfl ?_
      refine eINe rfl rfl (fun _ => ?_) (fun z => absurd z (by decide))
      refine eS rfl rfl ?_
      refine eS rfl rfl ?_
      refine eINe rfl rfl (fun _ => ?_) (fun z => absurd z (by decide))
      refine eS rfl rfl ?_
      refine eS rfl rfl ?_
      refine eINe rfl rfl (fun _ => ?_) (fun z => absurd z (by decide))
      refine eS rfl rfl ?_
      refine eS rfl rfl ?_
      refine eINe rfl rfl (fun _ => ?_) (fun z => absurd z (by decide))
      refine eS rfl rfl ?_
      refine eS rfl rfl ?_
      refine gV1 hn rfl rfl rfl rfl rfl ⟨catOk rfl, catOk rfl⟩ (e) ?_
      refine eS rfl rfl ?_
      refine eS rfl rfl ?_
      refine gPut hn rfl rfl rfl rfl rfl rfl rfl mS_56 ?_
      exact eR rfl rfl ⟨rfl, rfl⟩
    · rw [o] at e ⊢
      refine eS rfl rfl ?_
      refine eS rfl rfl ?_
      refine eINe rfl rfl (fun _ => ?_) (fun z => absurd z (by decide))
      refine eS rfl rfl ?_
      refine eS rfl rfl ?_
      refine eIEq rfl rfl (fun z => absurd z (by decide)) (fun _ => ?_)
      refine eS rfl rfl ?_
      refine eS rfl rfl ?_
      refine eINe rfl rfl (fun _ => ?_) (fun z => absurd z (by decide))
      refine eS rfl rfl ?_
      refine eS rfl rfl ?_
      refine eINe rfl rfl (fun _ => ?_) (fun z => absurd z (by decide))
      refine eS rfl rfl ?_
      refine eS rfl rfl ?_
      refine eINe rfl rfl (fun _ => ?_) (fun z => absurd z (by decide))
      refine eS rfl rfl ?_
      refine eS rfl rfl ?_
      refine eINe rfl rfl (fun _ => ?_) (fun z => absurd z (by decide))
      refine eS rfl rfl ?_
      refine eS rfl rfl ?_
      refine eINe rfl rfl (fun _ => ?_) (fun z => absurd z (by decide))
      refine eS rfl rfl ?_
      refine eS rfl rfl ?_
      refine gV1 hn rfl rfl rfl rfl rfl ⟨catOk rfl, catOk rfl⟩ (e) ?_
      refine eS rfl rfl ?_
      refine eS rfl rfl ?_
      refine gPut hn rfl rfl rfl rfl rfl rfl rfl mS_56 ?_
      exact eR rfl rfl ⟨rfl, rfl⟩
end MONE
