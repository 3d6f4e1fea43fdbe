/-! the class's machine stands for the abstract one -/
def cRep (S0 : Nat → List Value) (s : aSt) (S : Nat → List Value) : Prop := ∃ (ht cl pc : Int32) (a36 a39 a40 a44 : List Value) (rc : Int32),
  S = cS S0 (kM ht cl pc s.1) a36 (s.2.2.2.2.2.1.map Value.float) (s.2.2.2.2.1.map Value.float) a39 a40 (kT s.2.2.2.2.2.2.1 s.2.2.2.2.2.2.2.1 (Int32.ofNat s.2.2.2.2.2.2.2.2.1) s.2.2.2.2.2.2.2.2.2.1 s.2.2.2.2.2.2.2.2.2.2.1) (kPi rc) (s.2.2.2.2.2.2.2.2.2.2.2.map Value.int) a44 ∧
  a36.length = 24 ∧ a39.length = 3 ∧ a40.length = 3 ∧ a44.length = 768 ∧ (s.1 = 0 → ht = Int32.ofNat s.2.2.1.length ∧ cl = Int32.ofNat s.2.2.2.1.length ∧ pc = Int32.ofNat s.2.1 ∧ (∃ g, a36 = fA s.2.2.1 g) ∧ (∃ g, a39 = iA (s.2.2.2.1.map (·.1)) g) ∧ ∃ g, a40 = iA (s.2.2.2.1.map (·.2)) g)
theorem fA_drop {stk : List UInt32} {k : Nat} {g : List Value} : fA stk g = fA (stk.drop k) (((stk.take k).reverse.map Value.float) ++ g) := by
  have h : stk = stk.take k ++ stk.drop k := (List.take_append_drop k stk).symm
  unfold fA
  conv => lhs; rw [h]
  simp only [List.reverse_append, List.map_append, List.append_assoc]
section CSTEP
variable {scr : List Value} {kd : Nat → Nat} {n pa N d : Nat} {S S0 : Nat → List Value} {W : Nat → Nat} {P : Nat → Nat → Bool → Prop}
theorem c_step {s : aSt} (hn : 67 ≤ n) (hp : prgS S0 pa N W) (hC : cOk W N P) (hS : okS s) (hL : okL P s) (h0 : s.1 = 0) (hR : cRep S0 s S) : ∃ S', cRep S0 (oneA W s) S' ∧ aE aM121 (d + 6) 0 [(0, .ref 35), (1, .ref pa)] [] (gH scr kd n S) (aIs none (gH scr kd n S')) := by
  obtain ⟨an, pc, stk, fr, par, vrs, x, y, hd, co, dn, px⟩ := s
  obtain ⟨ht, cl, pcv, a36, a39, a40, a44, rc, e0, q36, q39, q40, q44, q0⟩ := hR
  obtain ⟨s1, s2, s3, s4, s5⟩ := hS
  obtain ⟨l1, l2, l3, l4⟩ := hL
  dsimp only at s1 s2 s3 s4 s5 l1 l2 l3 l4 h0 e0 q0
  subst h0
  obtain ⟨rfl, rfl, rfl, ⟨g, rfl⟩, ⟨gp, rfl⟩, ⟨gh, rfl⟩⟩ := q0 rfl
  subst e0
  obtain ⟨k, f, hP, hk, hf, hF⟩ := tyF_top l4
  obtain ⟨hpc, hT, hJ⟩ := hC.2 pc k f hP
  have hN := hp.2.1
  have hg : stk.length + g.length = 24 := by rw [← fA_len]; exact q36
  have hgp : fr.length + gp.length = 3 := by rw [iA_len, List.length_map] at q39; exact q39
  have hgh : fr.length + gh.length = 3 := by rw [iA_len, List.length_map] at q40; exact q40
  rcases tyW_op hT hk hf l3 with ⟨w, p⟩ | ⟨w, p⟩ | w | w | ⟨w, a, b, p, q⟩ | ⟨w, a, p, q⟩ | ⟨w, a, p, q⟩ | ⟨o, w, a, p⟩ | ⟨o, w, a, p⟩
  · rw [oneA_st w]
    refine ⟨_, ⟨Int32.ofNat stk.length, Int32.ofNat fr.length, Int32.ofNat (pc + 1), fA stk g, iA (fr.map (·.1)) gp, iA (fr.map (·.2)) gh, a44, rc, rfl, q36, q39, q40, q44, fun _ => ⟨rfl, rfl, rfl, ⟨_, rfl⟩, ⟨_, rfl⟩, ⟨_, rfl⟩⟩⟩, ?_⟩
    refine c_step_pre hn hp (by omega) (by omega) ?_
    rw [w]
    refine eS rfl rfl ?_
    refine eS rfl rfl ?_
    refine eS rfl rfl ?_
    refine eS rfl rfl ?_
    refine gPut hn rfl rfl rfl rfl rfl rfl rfl cS_35 ?_
    exact eR rfl rfl ⟨rfl, rfl⟩
  · rw [oneA_jmp w]
    refine ⟨_, ⟨Int32.ofNat stk.length, Int32.ofNat fr.length, Int32.ofNat (W (pc + 1)), fA stk g, iA (fr.map (·.1)) gp, iA (fr.map (·.2)) gh, a44, rc, rfl, q36, q39, q40, q44, fun _ => ⟨rfl, rfl, rfl, ⟨_, rfl⟩, ⟨_, rfl⟩, ⟨_, rfl⟩⟩⟩, ?_⟩
    refine c_step_pre hn hp (by omega) (by omega) ?_
    rw [w]
    refine eS rfl rfl ?_
    refine eS rfl rfl ?_
    refine eS rfl rfl ?_
    refine eS rfl rfl ?_
    refine eS rfl rfl ?_
    refine eS rfl rfl ?_
    refine gPut hn rfl rfl rfl rfl rfl rfl rfl cS_35 ?_
    exact eR rfl rfl ⟨rfl, rfl⟩
  · match fr, l3, l4, hgp, hgh, q39, q40, q0 with
    | [], _, _, hgp, hgh, q39, q40, _ =>
      rw [oneA_ret0 w]
      refine ⟨_, ⟨Int32.ofNat stk.length, Int32.ofNat 0, Int32.ofNat pc, fA stk g, iA [] gp, iA [] gh, a44, rc, rfl, q36, q39, q40, q44, fun z => absurd (show (1 : Int32) = 0 from z) (by decide)⟩, ?_⟩
      refine c_step_pre hn hp (by omega) (by omega) ?_
      rw [w]
      refine eS rfl rfl ?_
      refine eS rfl rfl ?_
      refine gV1 hn rfl rfl rfl rfl rfl ⟨catOk rfl, catOk rfl⟩ (c_leave_0 hn) ?_
      refine eS rfl rfl ?_
      refine eS rfl rfl ?_
      refine eS rfl rfl ?_
      refine eS rfl rfl ?_
      refine gPut hn rfl rfl rfl rfl rfl rfl rfl cS_35 ?_
      exact eR rfl rfl ⟨rfl, rfl⟩
    | (b, h) :: fr', l3, l4, hgp, hgh, q39, q40, _ =>
      rw [oneA_ret w]
      obtain ⟨m1, m2, m3⟩ := l4
      have hl : fr'.length < 3 := by simp at l3; omega
      refine ⟨_, ⟨Int32.ofNat h, Int32.ofNat fr'.length, Int32.ofNat b, fA stk g, iA (b :: List.map (fun q : Nat × Nat => q.1) fr') gp, iA (h :: List.map (fun q : Nat × Nat => q.2) fr') gh, a44, rc, rfl, q36, q39, q40, q44, fun _ => ⟨?_, rfl, rfl, ⟨_, fA_drop⟩, ⟨_, iA_cons⟩, ⟨_, iA_cons⟩⟩⟩, ?_⟩
      · dsimp only
        rw [List.length_drop]
        congr 1
        omega
      refine c_step_pre hn hp (by omega) (by omega) ?_
      rw [w]
      refine eS rfl rfl ?_
      refine eS rfl rfl ?_
      refine gV1 hn rfl rfl rfl rfl rfl ⟨catOk rfl, catOk rfl⟩ (v := some (.int (Int32.ofNat b))) (h' := gH scr kd n (cS S0 (kM (Int32.ofNat h) (Int32.ofNat fr'.length) (Int32.ofNat pc) 0) (fA stk g) (vrs.map Value.float) (par.map Value.float) (iA (b :: List.map (fun q : Nat × Nat => q.1) fr') gp) (iA (h :: List.map (fun q : Nat × Nat => q.2) fr') gh) (kT x y (Int32.ofNat hd) co dn) (kPi rc) (px.map Value.int) a44)) ?_ ?_
      · have := c_leave (d := d + 5) (scr := scr) (kd := kd) (S0 := S0) (a36 := fA stk g) (a37 := vrs.map Value.float) (a38 := par.map Value.float) (a41 := kT x y (Int32.ofNat hd) co dn) (a42 := kPi rc) (a43 := px.map Value.int) (a44 := a44) (pc := Int32.ofNat pc) (an := 0) (pb := b) (hb := h) (pbs := fr'.map (·.1)) (hbs := fr'.map (·.2)) (gp := gp) (gh := gh) (ht := Int32.ofNat stk.length) hn (by rw [List.length_map]; exact hl) (by rw [List.length_map, List.length_map])
        rw [List.length_map] at this
        exact this
      refine eS rfl rfl ?_
      refine eS rfl rfl ?_
      refine eS rfl rfl ?_
      refine eS rfl rfl ?_
      refine gPut hn rfl rfl rfl rfl rfl rfl rfl cS_35 ?_
      exact eR rfl rfl ⟨rfl, rfl⟩
  · rw [oneA_halt w]
    refine ⟨_, ⟨Int32.ofNat stk.length, Int32.ofNat fr.length, Int32.ofNat (pc + 1), fA stk g, iA (fr.map (·.1)) gp, iA (fr.map (·.2)) gh, a44, rc, rfl, q36, q39, q40, q44, fun z => absurd (show (1 : Int32) = 0 from z) (by decide)⟩, ?_⟩
    refine c_step_pre hn hp (by omega) (by omega) ?_
    rw [w]
    refine eS rfl rfl ?_
    refine eS rfl rfl ?_
    refine eS rfl rfl ?_
    refine gPut hn rfl rfl rfl rfl rfl rfl rfl cS_35 ?_
    refine eS rfl rfl ?_
    refine eS rfl rfl ?_
    refine eS rfl rfl ?_
    refine gPut hn rfl rfl rfl rfl rfl rfl rfl cS_35 ?_
    exact eR rfl rfl ⟨rfl, rfl⟩
  · by_cases h3 : fr.length = 3
    · rw [oneA_call3 w h3]
      refine ⟨_, ⟨Int32.ofNat stk.length, Int32.ofNat 3, Int32.ofNat (W (pc + 1)), fA stk g, iA (fr.map (·.1)) gp, iA (fr.map (·.2)) gh, a44, rc, rfl, q36, q39, q40, q44, fun z => absurd (show (14 : Int32) = 0 from z) (by decide)⟩, ?_⟩
      refine c_step_pre hn hp (by omega) (by omega) ?_
      rw [w, h3]
      refine eS rfl rfl ?_
      refine eS rfl rfl ?_
      refine eS rfl rfl ?_
      refine eS rfl rfl ?_
      refine gV1 hn rfl rfl rfl rfl rfl ⟨catOk rfl, catOk rfl⟩ (c_enter_no hn) ?_
      refine eS rfl rfl ?_
      refine eS rfl rfl ?_
      refine eS rfl rfl ?_
      refine eS rfl rfl ?_
      refine eS rfl rfl ?_
      refine eS rfl rfl ?_
      refine gPut hn rfl rfl rfl rfl rfl rfl rfl cS_35 ?_
      exact eR rfl rfl ⟨rfl, rfl⟩
    · rw [oneA_call w h3]
      obtain ⟨g', gp', gh', b1, b2, b3, e⟩ := c_enter (d := d + 4) (scr := scr) (kd := kd) (S0 := S0) (a37 := vrs.map Value.float) (a41 := kT x y (Int32.ofNat hd) co dn) (a42 := kPi rc) (a43 := px.map Value.int) (a44 := a44) (pc := Int32.ofNat pc) (an := 0) (cl := fr.length) (c := W (pc + 2)) (pb := pc + 3) (pbs := fr.map (·.1)) (hbs := fr.map (·.2)) (gp := gp) (gh := gh) (g := g) (stk := stk) (par := par) hn (by omega) a (by omega) hg s1 (by rw [List.length_map]) (by rw [List.length_map]) hgp hgh
      refine ⟨_, ⟨Int32.ofNat (entA (W (pc + 2)) (3 * fr.length) stk par).1.length, Int32.ofNat (fr.length + 1), Int32.ofNat (W (pc + 1)), _, _, _, a44, rc, rfl, fA_len.trans b1, ?_, ?_, q44, fun _ => ⟨rfl, rfl, rfl, ⟨g', rfl⟩, ⟨gp', rfl⟩, ⟨gh', rfl⟩⟩⟩, ?_⟩
      · rw [iA_len, List.length_map]
        exact b2
      · rw [iA_len, List.length_map]
        exact b3
      refine c_step_pre hn hp (by omega) (by omega) ?_
      rw [w]
      refine eS rfl rfl ?_
      refine eS rfl rfl ?_
      refine eS rfl rfl ?_
      refine eS rfl rfl ?_
      refine gV1 hn rfl rfl rfl rfl rfl ⟨catOk rfl, catOk rfl⟩ (e) ?_
      refine eS rfl rfl ?_
      refine eS rfl rfl ?_
      refine eS rfl rfl ?_
      refine eS rfl rfl ?_
      refine eS rfl rfl ?_
      refine eS rfl rfl ?_
      refine gPut hn rfl rfl rfl rfl rfl rfl rfl cS_35 ?_
      exact eR rfl rfl ⟨rfl, rfl⟩
  · match stk, l1, l2, hk, hF, hg, q36 with
    | [], _, _, hk, _, _, _ => simp at hk; omega
    | f0 :: r, l1, l2, hk, hF, hg, q36 =>
      have hl : r.length < 24 := by simp at hg; omega
      have g0 := l2 f0 (by simp)
      rw [oneA_if w]
      refine ⟨_, ⟨Int32.ofNat r.length, Int32.ofNat fr.length, Int32.ofNat (if FP.fcmp f0 0 = some .eq then W (pc + 1) else pc + 2), fA r (.float f0 :: g), iA (fr.map (·.1)) gp, iA (fr.map (·.2)) gh, a44, rc, rfl, by rw [fA_cons] at q36; exact q36, q39, q40, q44, fun _ => ⟨rfl, rfl, rfl, ⟨_, rfl⟩, ⟨_, rfl⟩, ⟨_, rfl⟩⟩⟩, ?_⟩
      refine c_step_pre hn hp (by omega) (by omega) ?_
      by_cases c0 : FP.fcmp f0 0 = some .eq
      · rw [if_pos c0]
        rcases w with w | w
        · rw [w]
          refine eS rfl rfl ?_
          refine eS rfl rfl ?_
          refine gV1 hn rfl rfl rfl rfl rfl ⟨catOk rfl, catOk rfl⟩ (c_takeIsZero hn hl g0) ?_
          rw [if_pos c0]
          refine eEq rfl rfl (fun z => absurd z (by decide)) (fun _ => ?_)
          refine eS rfl rfl ?_
          refine eS rfl rfl ?_
          refine eS rfl rfl ?_
          refine eS rfl rfl ?_
          refine eS rfl rfl ?_
          refine eS rfl rfl ?_
          refine gPut hn rfl rfl rfl rfl rfl rfl rfl cS_35 ?_
          exact eR rfl rfl ⟨rfl, rfl⟩
        · rw [w]
          refine eS rfl rfl ?_
          refine eS rfl rfl ?_
          refine gV1 hn rfl rfl rfl rfl rfl ⟨catOk rfl, catOk rfl⟩ (c_takeIsZero hn hl g0) ?_
          rw [if_pos c0]
          refine eEq rfl rfl (fun z => absurd z (by decide)) (fun _ => ?_)
          refine eS rfl rfl ?_
          refine eS rfl rfl ?_
          refine eS rfl rfl ?_
          refine eS rfl rfl ?_
          refine eS rfl rfl ?_
          refine eS rfl rfl ?_
          refine gPut hn rfl rfl rfl rfl rfl rfl rfl cS_35 ?_
          exact eR rfl rfl ⟨rfl, rfl⟩
      · rw [if_neg c0]
        rcases w with w | w
        · rw [w]
          refine eS rfl rfl ?_
          refine eS rfl rfl ?_
          refine gV1 hn rfl rfl rfl rfl rfl ⟨catOk rfl, catOk rfl⟩ (c_takeIsZero hn hl g0) ?_
          rw [if_neg c0]
          refine eEq rfl rfl (fun _ => ?_) (fun z => absurd rfl z)
          refine eS rfl rfl ?_
          refine eS rfl rfl ?_
          refine eS rfl rfl ?_
          refine eS rfl rfl ?_
          refine eS rfl rfl ?_
          refine gPut hn rfl rfl rfl rfl rfl rfl rfl cS_35 ?_
          exact eR rfl rfl ⟨rfl, rfl⟩
        · rw [w]
          refine eS rfl rfl ?_
          refine eS rfl rfl ?_
          refine gV1 hn rfl rfl rfl rfl rfl ⟨catOk rfl, catOk rfl⟩ (c_takeIsZero hn hl g0) ?_
          rw [if_neg c0]
          refine eEq rfl rfl (fun _ => ?_) (fun z => absurd rfl z)
          refine eS rfl rfl ?_
          refine eS rfl rfl ?_
          refine eS rfl rfl ?_
          refine eS rfl rfl ?_
          refine eS rfl rfl ?_
          refine gPut hn rfl rfl rfl rfl rfl rfl rfl cS_35 ?_
          exact eR rfl rfl ⟨rfl, rfl⟩
  · match stk, l1, l2, hk, hF, hg, q36 with
    | [], _, _, hk, _, _, _ => simp at hk; omega
    | f0 :: r, l1, l2, hk, hF, hg, q36 =>
      have hl : r.length < 24 := by simp at hg; omega
      have g0 := l2 f0 (by simp)
      rw [oneA_rep w]
      obtain ⟨g', b1, e⟩ := c_takeTurn (d := d + 4) (scr := scr) (kd := kd) (S0 := S0) (a37 := vrs.map Value.float) (a38 := par.map Value.float) (a39 := iA (fr.map (·.1)) gp) (a40 := iA (fr.map (·.2)) gh) (a44 := a44) (x := x) (y := y) (hd := hd) (co := co) (dn := dn) (rc := rc) (px := px) (g := g) (cl := Int32.ofNat fr.length) (pc := Int32.ofNat pc) (an := 0) hn hl g0
      refine ⟨_, ⟨Int32.ofNat (turnA f0 r).2.length, Int32.ofNat fr.length, Int32.ofNat (if (turnA f0 r).1 then pc + 2 else W (pc + 1)), fA (turnA f0 r).2 g', iA (fr.map (·.1)) gp, iA (fr.map (·.2)) gh, a44, rc, rfl, fA_len.trans (b1.trans hg), q39, q40, q44, fun _ => ⟨rfl, rfl, rfl, ⟨_, rfl⟩, ⟨_, rfl⟩, ⟨_, rfl⟩⟩⟩, ?_⟩
      refine c_step_pre hn hp (by omega) (by omega) ?_
      rw [w]
      cases hb : (turnA f0 r).1 with
      | true =>
        rw [hb] at e
        refine eS rfl rfl ?_
        refine eS rfl rfl ?_
        refine gV1 hn rfl rfl rfl rfl rfl ⟨catOk rfl, catOk rfl⟩ (e) ?_
        refine eEq rfl rfl (fun z => absurd z (by decide)) (fun _ => ?_)
        refine eS rfl rfl ?_
        refine eS rfl rfl ?_
        refine eS rfl rfl ?_
        refine eS rfl rfl ?_
        refine eS rfl rfl ?_
        refine eS rfl rfl ?_
        refine gPut hn rfl rfl rfl rfl rfl rfl rfl cS_35 ?_
        exact eR rfl rfl ⟨rfl, rfl⟩
      | false =>
        rw [hb] at e
        refine eS rfl rfl ?_
        refine eS rfl rfl ?_
        refine gV1 hn rfl rfl rfl rfl rfl ⟨catOk rfl, catOk rfl⟩ (e) ?_
        refine eEq rfl rfl (fun _ => ?_) (fun z => absurd rfl z)
        refine eS rfl rfl ?_
        refine eS rfl rfl ?_
        refine eS rfl rfl ?_
        refine eS rfl rfl ?_
        refine eS rfl rfl ?_
        refine gPut hn rfl rfl rfl rfl rfl rfl rfl cS_35 ?_
        exact eR rfl rfl ⟨rfl, rfl⟩
  · rw [oneA_mov w]
    obtain ⟨g', rc', a44', b1, b2, e⟩ := c_move (d := d) (scr := scr) (kd := kd) (S0 := S0) (a37 := vrs.map Value.float) (a38 := par.map Value.float) (a39 := iA (fr.map (·.1)) gp) (a40 := iA (fr.map (·.2)) gh) (a44 := a44) (rc := rc) (g := g) (cl := Int32.ofNat fr.length) (pc := Int32.ofNat pc) hn hg l2 s5 q44 o
    refine ⟨_, ⟨Int32.ofNat (movA (W pc) stk (x, y, hd, co, dn, px)).2.1.length, Int32.ofNat fr.length, Int32.ofNat (pc + 1), fA _ g', iA (fr.map (·.1)) gp, iA (fr.map (·.2)) gh, a44', rc', rfl, fA_len.trans b1, q39, q40, b2, fun _ => ⟨rfl, rfl, rfl, ⟨_, rfl⟩, ⟨_, rfl⟩, ⟨_, rfl⟩⟩⟩, ?_⟩
    refine c_step_pre hn hp (by omega) (by omega) ?_
    have hw : W pc = 18 ∨ W pc = 19 ∨ W pc = 20 ∨ W pc = 21 ∨ W pc = 22 ∨ W pc = 23 ∨ W pc = 24 ∨ W pc = 25 ∨ W pc = 26 := by omega
    rcases hw with w | w | w | w | w | w | w | w | w
    · rw [w] at e ⊢
      refine eS rfl rfl ?_
      refine eS rfl rfl ?_
      refine eS rfl rfl ?_
      refine gV1 hn rfl rfl rfl rfl rfl ⟨catOk rfl, catOk rfl⟩ (e) ?_
      refine eS rfl rfl ?_
      refine eS rfl rfl ?_
      refine eS rfl rfl ?_
      refine gPut hn rfl rfl rfl rfl rfl rfl rfl cS_35 ?_
      exact eR rfl rfl ⟨rfl, rfl⟩
    · rw [w] at e ⊢
      refine eS rfl rfl ?_
      refine eS rfl rfl ?_
      refine eS rfl rfl ?_
      refine gV1 hn rfl rfl rfl rfl rfl ⟨catOk rfl, catOk rfl⟩ (e) ?_
      refine eS rfl rfl ?_
      refine eS rfl rfl ?_
      refine eS rfl rfl ?_
      refine gPut hn rfl rfl rfl rfl rfl rfl rfl cS_35 ?_
      exact eR rfl rfl ⟨rfl, rfl⟩
    · rw [w] at e ⊢
      refine eS rfl rfl ?_
      refine eS rfl rfl ?_
      refine eS rfl rfl ?_
      refine gV1 hn rfl rfl rfl rfl rfl ⟨catOk rfl, catOk rfl⟩ (e) ?_
      refine eS rfl rfl ?_
      refine eS rfl rfl ?_
      refine eS rfl rfl ?_
      refine gPut hn rfl rfl rfl rfl rfl rfl rfl cS_35 ?_
      exact eR rfl rfl ⟨rfl, rfl⟩
    · rw [w] at e ⊢
      refine eS rfl rfl ?_
      refine eS rfl rfl ?_
      refine eS rfl rfl ?_
      refine gV1 hn rfl rfl rfl rfl rfl ⟨catOk rfl, catOk rfl⟩ (e) ?_
      refine eS rfl rfl ?_
      refine eS rfl rfl ?_
      refine eS rfl rfl ?_
      refine gPut hn rfl rfl rfl rfl rfl rfl rfl cS_35 ?_
      exact eR rfl rfl ⟨rfl, rfl⟩
    · rw [w] at e ⊢
      refine eS rfl rfl ?_
      refine eS rfl rfl ?_
      refine eS rfl rfl ?_
      refine gV1 hn rfl rfl rfl rfl rfl ⟨catOk rfl, catOk rfl⟩ (e) ?_
      refine eS rfl rfl ?_
      refine eS rfl rfl ?_
      refine eS rfl rfl ?_
      refine gPut hn rfl rfl rfl rfl rfl rfl rfl cS_35 ?_
      exact eR rfl rfl ⟨rfl, rfl⟩
    · rw [w] at e ⊢
      refine eS rfl rfl ?_
      refine eS rfl rfl ?_
      refine eS rfl rfl ?_
      refine gV1 hn rfl rfl rfl rfl rfl ⟨catOk rfl, catOk rfl⟩ (e) ?_
      refine eS rfl rfl ?_
      refine eS rfl rfl ?_
      refine eS rfl rfl ?_
      refine gPut hn rfl rfl rfl rfl rfl rfl rfl cS_35 ?_
      exact eR rfl rfl ⟨rfl, rfl⟩
    · rw [w] at e ⊢
      refine eS rfl rfl ?_
      refine eS rfl rfl ?_
      refine eS rfl rfl ?_
      refine gV1 hn rfl rfl rfl rfl rfl ⟨catOk rfl, catOk rfl⟩ (e) ?_
      refine eS rfl rfl ?_
      refine eS rfl rfl ?_
      refine eS rfl rfl ?_
      refine gPut hn rfl rfl rfl rfl rfl rfl rfl cS_35 ?_
      exact eR rfl rfl ⟨rfl, rfl⟩
    · rw [w] at e ⊢
      refine eS rfl rfl ?_
      refine eS rfl rfl ?_
      refine eS rfl rfl ?_
      refine gV1 hn rfl rfl rfl rfl rfl ⟨catOk rfl, catOk rfl⟩ (e) ?_
      refine eS rfl rfl ?_
      refine eS rfl rfl ?_
      refine eS rfl rfl ?_
      refine gPut hn rfl rfl rfl rfl rfl rfl rfl cS_35 ?_
      exact eR rfl rfl ⟨rfl, rfl⟩
    · rw [w] at e ⊢
      refine eS rfl rfl ?_
      refine eS rfl rfl ?_
      refine eS rfl rfl ?_
      refine gV1 hn rfl rfl rfl rfl rfl ⟨catOk rfl, catOk rfl⟩ (e) ?_
      refine eS rfl rfl ?_
      refine eS rfl rfl ?_
      refine eS rfl rfl ?_
      refine gPut hn rfl rfl rfl rfl rfl rfl rfl cS_35 ?_
      exact eR rfl rfl ⟨rfl, rfl⟩
  · rw [oneA_op w]
    obtain ⟨g', b1, e⟩ := c_operate (d := d + 3) (scr := scr) (kd := kd) (S0 := S0) (a39 := iA (fr.map (·.1)) gp) (a40 := iA (fr.map (·.2)) gh) (a41 := kT x y (Int32.ofNat hd) co dn) (a42 := kPi rc) (a43 := px.map Value.int) (a44 := a44) (g := g) (cl := fr.length) (pc := Int32.ofNat pc) (par := par) (vrs := vrs) hn hg s1 s3 l2 o
    refine ⟨_, ⟨Int32.ofNat (opA (W pc) (W (pc + 1)) (W (pc + 2)) fr.length stk par vrs).2.1.length, Int32.ofNat fr.length, Int32.ofNat (pc + lenA (W pc)), fA _ g', iA (fr.map (·.1)) gp, iA (fr.map (·.2)) gh, a44, rc, rfl, fA_len.trans b1, q39, q40, q44, fun _ => ⟨rfl, rfl, rfl, ⟨_, rfl⟩, ⟨_, rfl⟩, ⟨_, rfl⟩⟩⟩, ?_⟩
    refine c_step_pre hn hp (by omega) (by omega) ?_
    have hw : W pc = 1 ∨ W pc = 2 ∨ W pc = 3 ∨ W pc = 4 ∨ W pc = 5 ∨ W pc = 6 ∨ W pc = 7 ∨ W pc = 8 ∨ W pc = 9 ∨ W pc = 10 ∨ W pc = 11 ∨ W pc = 12 ∨ W pc = 13 := by omega
    rcases hw with w | w | w | w | w | w | w | w | w | w | w | w | w
    · rw [w] at e ⊢
      refine eS rfl rfl ?_
      refine eS rfl rfl ?_
      refine eS rfl rfl ?_
      refine eS rfl rfl ?_
      refine eS rfl rfl ?_
      refine gV1 hn rfl rfl rfl rfl rfl ⟨catOk rfl, catOk rfl⟩ (e) ?_
      refine eS rfl rfl ?_
      refine eS rfl rfl ?_
      refine gPut hn rfl rfl rfl rfl rfl rfl rfl cS_35 ?_
      exact eR rfl rfl ⟨rfl, rfl⟩
    · rw [w] at e ⊢
      refine eS rfl rfl ?_
      refine eS rfl rfl ?_
      refine eS rfl rfl ?_
      refine eS rfl rfl ?_
      refine eS rfl rfl ?_
      refine gV1 hn rfl rfl rfl rfl rfl ⟨catOk rfl, catOk rfl⟩ (e) ?_
      refine eS rfl rfl ?_
      refine eS rfl rfl ?_
      refine gPut hn rfl rfl rfl rfl rfl rfl rfl cS_35 ?_
      exact eR rfl rfl ⟨rfl, rfl⟩
    · rw [w] at e ⊢
      refine eS rfl rfl ?_
      refine eS rfl rfl ?_
      refine eS rfl rfl ?_
      refine eS rfl rfl ?_
      refine eS rfl rfl ?_
      refine gV1 hn rfl rfl rfl rfl rfl ⟨catOk rfl, catOk rfl⟩ (e) ?_
      refine eS rfl rfl ?_
      refine eS rfl rfl ?_
      refine gPut hn rfl rfl rfl rfl rfl rfl rfl cS_35 ?_
      exact eR rfl rfl ⟨rfl, rfl⟩
    · rw [w] at e ⊢
      refine eS rfl rfl ?_
      refine eS rfl rfl ?_
      refine eS rfl rfl ?_
      refine eS rfl rfl ?_
      refine eS rfl rfl ?_
      refine gV1 hn rfl rfl rfl rfl rfl ⟨catOk rfl, catOk rfl⟩ (e) ?_
      refine eS rfl rfl ?_
      refine eS rfl rfl ?_
      refine gPut hn rfl rfl rfl rfl rfl rfl rfl cS_35 ?_
      exact eR rfl rfl ⟨rfl, rfl⟩
    · rw [w] at e ⊢
      refine eS rfl rfl ?_
      refine eS rfl rfl ?_
      refine eS rfl rfl ?_
      refine eS rfl rfl ?_
      refine eS rfl rfl ?_
      refine gV1 hn rfl rfl rfl rfl rfl ⟨catOk rfl, catOk rfl⟩ (e) ?_
      refine eS rfl rfl ?_
      refine eS rfl rfl ?_
      refine gPut hn rfl rfl rfl rfl rfl rfl rfl cS_35 ?_
      exact eR rfl rfl ⟨rfl, rfl⟩
    · rw [w] at e ⊢
      refine eS rfl rfl ?_
      refine eS rfl rfl ?_
      refine eS rfl rfl ?_
      refine eS rfl rfl ?_
      refine eS rfl rfl ?_
      refine gV1 hn rfl rfl rfl rfl rfl ⟨catOk rfl, catOk rfl⟩ (e) ?_
      refine eS rfl rfl ?_
      refine eS rfl rfl ?_
      refine gPut hn rfl rfl rfl rfl rfl rfl rfl cS_35 ?_
      exact eR rfl rfl ⟨rfl, rfl⟩
    · rw [w] at e ⊢
      refine eS rfl rfl ?_
      refine eS rfl rfl ?_
      refine eS rfl rfl ?_
      refine eS rfl rfl ?_
      refine eS rfl rfl ?_
      refine gV1 hn rfl rfl rfl rfl rfl ⟨catOk rfl, catOk rfl⟩ (e) ?_
      refine eS rfl rfl ?_
      refine eS rfl rfl ?_
      refine gPut hn rfl rfl rfl rfl rfl rfl rfl cS_35 ?_
      exact eR rfl rfl ⟨rfl, rfl⟩
    · rw [w] at e ⊢
      refine eS rfl rfl ?_
      refine eS rfl rfl ?_
      refine eS rfl rfl ?_
      refine eS rfl rfl ?_
      refine eS rfl rfl ?_
      refine gV1 hn rfl rfl rfl rfl rfl ⟨catOk rfl, catOk rfl⟩ (e) ?_
      refine eS rfl rfl ?_
      refine eS rfl rfl ?_
      refine gPut hn rfl rfl rfl rfl rfl rfl rfl cS_35 ?_
      exact eR rfl rfl ⟨rfl, rfl⟩
    · rw [w] at e ⊢
      refine eS rfl rfl ?_
      refine eS rfl rfl ?_
      refine eS rfl rfl ?_
      refine eS rfl rfl ?_
      refine eS rfl rfl ?_
      refine gV1 hn rfl rfl rfl rfl rfl ⟨catOk rfl, catOk rfl⟩ (e) ?_
      refine eS rfl rfl ?_
      refine eS rfl rfl ?_
      refine gPut hn rfl rfl rfl rfl rfl rfl rfl cS_35 ?_
      exact eR rfl rfl ⟨rfl, rfl⟩
    · rw [w] at e ⊢
      refine eS rfl rfl ?_
      refine eS rfl rfl ?_
      refine eS rfl rfl ?_
      refine eS rfl rfl ?_
      refine eS rfl rfl ?_
      refine gV1 hn rfl rfl rfl rfl rfl ⟨catOk rfl, catOk rfl⟩ (e) ?_
      refine eS rfl rfl ?_
      refine eS rfl rfl ?_
      refine gPut hn rfl rfl rfl rfl rfl rfl rfl cS_35 ?_
      exact eR rfl rfl ⟨rfl, rfl⟩
    · rw [w] at e ⊢
      refine eS rfl rfl ?_
      refine eS rfl rfl ?_
      refine eS rfl rfl ?_
      refine eS rfl rfl ?_
      refine eS rfl rfl ?_
      refine gV1 hn rfl rfl rfl rfl rfl ⟨catOk rfl, catOk rfl⟩ (e) ?_
      refine eS rfl rfl ?_
      refine eS rfl rfl ?_
      refine gPut hn rfl rfl rfl rfl rfl rfl rfl cS_35 ?_
      exact eR rfl rfl ⟨rfl, rfl⟩
    · rw [w] at e ⊢
      refine eS rfl rfl ?_
      refine eS rfl rfl ?_
      refine eS rfl rfl ?_
      refine eS rfl rfl ?_
      refine eS rfl rfl ?_
      refine gV1 hn rfl rfl rfl rfl rfl ⟨catOk rfl, catOk rfl⟩ (e) ?_
      refine eS rfl rfl ?_
      refine eS rfl rfl ?_
      refine gPut hn rfl rfl rfl rfl rfl rfl rfl cS_35 ?_
      exact eR rfl rfl ⟨rfl, rfl⟩
    · rw [w] at e ⊢
      refine eS rfl rfl ?_
      refine eS rfl rfl ?_
      refine eS rfl rfl ?_
      refine eS rfl rfl ?_
      refine eS rfl rfl ?_
      refine gV1 hn rfl rfl rfl rfl rfl ⟨catOk rfl, catOk rfl⟩ (e) ?_
      refine eS rfl rfl ?_
      refine eS rfl rfl ?_
      refine gPut hn rfl rfl rfl rfl rfl rfl rfl cS_35 ?_
      exact eR rfl rfl ⟨rfl, rfl⟩
end CSTEP
