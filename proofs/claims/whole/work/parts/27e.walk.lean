/-! what a walk of statements comes to -/
def wRes (W : Nat → Nat) (S0 : Nat → List Value) (pa cc : Nat) (x : aSx) (b own : Nat) (Z : (Nat → List Value) → Prop) : Prop := ∃ (m : Nat) (x' : aSx) (st' : Int32) (S' : Nat → List Value), itN W m x = x' ∧ x'.1 ≤ x.1 ∧ m ≤ 250 * (x.1 - x'.1) + own + (if x'.2.1 = 0 then 0 else 250) ∧
  (x'.2.1 ≠ 0 ∨ (x'.2.2.2.2.1 = x.2.2.2.2.1 ∧ ((st' = 0 ∧ x'.2.2.1 = b) ∨ (st' = 1 ∧ W x'.2.2.1 = 17)))) ∧ (st' = 0 ∨ st' = 1) ∧ wRep S0 pa cc x' st' S' ∧ Z S'
theorem wRes.pre {W : Nat → Nat} {S0 : Nat → List Value} {pa cc : Nat} {x x0 : aSx} {b own own' m0 : Nat} {Z Z' : (Nat → List Value) → Prop} (h : wRes W S0 pa cc x0 b own Z) (h1 : itN W m0 x = x0) (h2 : x0.1 ≤ x.1) (h3 : x0.2.2.2.2.1 = x.2.2.2.2.1) (h4 : m0 + own ≤ 250 * (x.1 - x0.1) + own') (hZ : ∀ S', Z S' → Z' S') : wRes W S0 pa cc x b own' Z' := by
  obtain ⟨m, x', st', S', g1, g2, g3, g4, g5, g6, g7⟩ := h
  refine ⟨m0 + m, x', st', S', by rw [itN_add, h1, g1], Nat.le_trans g2 h2, ?_, ?_, g5, g6, hZ S' g7⟩
  · generalize (if x'.2.1 = 0 then 0 else 250) = z at g3 ⊢
    omega
  · rcases g4 with z | ⟨z1, z2⟩
    · exact Or.inl z
    · exact Or.inr ⟨z1.trans h3, z2⟩
/-- one walk behind another -/
theorem wRes.bind {W : Nat → Nat} {P : Nat → Nat → Bool → Prop} {N : Nat} {S0 : Nat → List Value} {pa cc : Nat} {x : aSx} {b b2 own own2 own' : Nat} {Z Z2 : (Nat → List Value) → Prop} (hC : cOk W N P) (hok : okX P x) (h : wRes W S0 pa cc x b own Z) (K : ∀ x' S', okX P x' → x'.1 ≤ x.1 → x'.2.1 = 0 → x'.2.2.1 = b → x'.2.2.2.2.1 = x.2.2.2.2.1 → wRep S0 pa cc x' 0 S' → Z S' → wRes W S0 pa cc x' b2 own2 Z2)
    (E : ∀ x' st' S', (x'.2.1 ≠ 0 ∨ st' = 1) → (st' = 0 ∨ st' = 1) → wRep S0 pa cc x' st' S' → Z S' → Z2 S') (ho : own + own2 ≤ own') : wRes W S0 pa cc x b2 own' Z2 := by
  obtain ⟨m, x', st', S', g1, g2, g3, g4, g5, g6, g7⟩ := h
  have ok' : okX P x' := by rw [← g1]; exact itN_ok hC hok
  by_cases hz : x'.2.1 = 0 ∧ st' = 0
  · obtain ⟨z0, rfl⟩ := hz
    rcases g4 with z | ⟨z1, z2⟩
    · exact absurd z0 z
    · have hp : x'.2.2.1 = b := z2.elim (fun y => y.2) (fun y => absurd y.1 (by decide))
      rw [if_pos z0] at g3
      exact (K x' S' ok' g2 z0 hp z1 g6 g7).pre g1 g2 z1 (by omega) (fun _ z => z)
  · have hz2 : x'.2.1 ≠ 0 ∨ st' = 1 := by
      by_cases z0 : x'.2.1 = 0
      · exact Or.inr (g5.resolve_left (fun y => hz ⟨z0, y⟩))
      · exact Or.inl z0
    refine ⟨m, x', st', S', g1, g2, by omega, ?_, g5, g6, E x' st' S' hz2 g5 g6 g7⟩
    rcases g4 with z | ⟨z1, z2⟩
    · exact Or.inl z
    · by_cases z0 : x'.2.1 = 0
      · rcases z2 with y | y
        · exact absurd ⟨z0, y.1⟩ hz
        · exact Or.inr ⟨z1, Or.inr y⟩
      · exact Or.inl z0
theorem wRes.here {W : Nat → Nat} {S0 S : Nat → List Value} {pa cc : Nat} {x : aSx} {b own : Nat} {Z : (Nat → List Value) → Prop} {st : Int32} (hst : st = 0 ∨ st = 1) (h : x.2.1 ≠ 0 ∨ (st = 0 ∧ x.2.2.1 = b) ∨ (st = 1 ∧ W x.2.2.1 = 17)) (hR : wRep S0 pa cc x st S) (hZ : Z S) : wRes W S0 pa cc x b own Z :=
  ⟨0, x, st, S, rfl, Nat.le_refl _, Nat.zero_le _, h.elim Or.inl (fun z => Or.inr ⟨rfl, z⟩), hst, hR, hZ⟩
/-- blocks that are walked soundly with so many calls under way -/
def blkOk (scr : List Value) (kd : Nat → Nat) (n : Nat) (W : Nat → Nat) (P : Nat → Nat → Bool → Prop) (S0 : Nat → List Value) (pa : Nat) (R : Value → Nat → Nat → Nat → Prop) (cc d : Nat) : Prop := ∀ (v : Value) (k a b : Nat), R v k a b → ∀ (x : aSx) (S : Nat → List Value), okX P x → x.2.1 = 0 → x.2.2.1 = a → x.2.2.2.2.1.length = cc → x.1 ≤ 2000 → wRep S0 pa cc x 0 S →
  wRes W S0 pa cc x b 0 (fun S' => aE aM152 d 0 [(0, .ref 45), (1, v)] [] (gH scr kd n S) (aIs none (gH scr kd n S')))
section WST
variable {scr : List Value} {kd : Nat → Nat} {n pa N d tc q cc : Nat} {S S0 : Nat → List Value} {W : Nat → Nat} {P : Nat → Nat → Bool → Prop} {T : Nat → Nat × Nat × Nat} {D : Nat → Nat → Prop} {st : Int32} {f : Bool} {kind num frm to : Nat} {body : Value} {he : Int32} {els nxt : Value} {nm : Int64} {nos : Value} {tp : Int32} {dfn : Value} {cp : Int32}
theorem wRep.at {x : aSx} {p : Nat} (h : wRep S0 pa cc x st S) (hp : 45 < p) : S p = S0 p := by
  obtain ⟨ht, pc, a36, a39, a40, a44, rc, rfl, -⟩ := h
  exact wS_ne hp
theorem wRep.hq {x : aSx} {o : aO} (h : wRep S0 pa cc x st S) (h87 : 87 ≤ q) (hq : (gH scr kd n S0)[q]? = some o) : (gH scr kd n S)[q]? = some o := (gH_same (by omega) (h.at (by omega))).trans hq
theorem w_workOut {a e k k' : Nat} {x : aSx} (hn : 67 ≤ n) (hC : cOk W N P) (hpp : pa = 46 ∨ pa = 51) (hT : trmS S0 pa tc T) (h87 : 87 ≤ q) (hq : (gH scr kd n S0)[q]? = some (30, stV kind num frm to body he els nxt nm nos tp dfn cp)) (hft : frm ≤ to) (hto : to ≤ tc) (ht : tTm W T f (to - frm) frm a e k k') (hok : okX P x) (h0 : x.2.1 = 0) (hpc : x.2.2.1 = a) (hR : wRep S0 pa cc x st S) :
    ∃ (m : Nat) (x' : aSx) (S' : Nat → List Value), itN W m x = x' ∧ a + m ≤ e ∧ x'.1 = x.1 ∧ x'.2.2.2.2.1 = x.2.2.2.2.1 ∧ (x'.2.1 = 0 → x'.2.2.1 = e) ∧ wRep S0 pa cc x' st S' ∧ okX P x' ∧ aE aM157 (d + 3) 0 [(0, .ref 45), (1, .ref q)] [] (gH scr kd n S) (aIs (some (.int (if x'.2.1 = 0 then 1 else 0))) (gH scr kd n S')) := by
  obtain ⟨m, x', S', g1, g2, g3, g4, g5, g6, g7⟩ := w_out (d := d) (scr := scr) (kd := kd) hn hC hpp hT h87 hq hto (to - frm) frm a k k' x S ht (by omega) hok h0 hpc hR
  refine ⟨m, x', S', g1, g2, g3, g4, g5, g6, by rw [← g1]; exact itN_ok hC hok, ?_⟩
  have hq' := hR.hq h87 hq
  refine eS rfl rfl ?_
  refine eGet rfl hq' rfl rfl ?_
  refine eS rfl rfl ?_
  exact g7
/-- a word that moves, at its place -/
theorem w_move {x : aSx} {a w : Nat} (hn : 67 ≤ n) (hC : cOk W N P) (hok : okX P x) (h0 : x.2.1 = 0) (hpc : x.2.2.1 = a) (hw : W a = w) (hr : 18 ≤ w ∧ w ≤ 26) (hR : wRep S0 pa cc x st S) :
    itA W x = (x.1, oneA W x.2) ∧ (itA W x).2.2.2.2.1 = x.2.2.2.2.1 ∧ ((itA W x).2.1 = 0 → (itA W x).2.2.1 = a + 1) ∧ ∃ S', wRep S0 pa cc (itA W x) st S' ∧ aE aM129 (d + 5) 0 [(0, .ref 35), (1, .int (Int32.ofNat w))] [] (gH scr kd n S) (aIs none (gH scr kd n S')) := by
  obtain ⟨l, an, pc, stk, fr, par, vrs, tx, ty, hd, co, dn, px⟩ := x
  obtain ⟨l1, l2, l3, l4⟩ := hok.2 h0
  obtain ⟨s1, s2, s3, s4, s5⟩ := hok.1
  dsimp only at h0 hpc s1 s2 s3 s4 s5 l1 l2 l3 l4
  subst h0 hpc
  obtain ⟨k1, f1, hP, hk, hf, hF⟩ := tyF_top l4
  obtain ⟨hpc, hT, hJ⟩ := hC.2 _ _ _ hP
  have ho : movOk w stk.length := by
    rcases tyW_op hT hk hf l3 with ⟨o, -⟩ | ⟨o, -⟩ | o | o | ⟨o, -⟩ | ⟨o, -⟩ | ⟨o, -⟩ | ⟨oo, -⟩ | ⟨-, o, -⟩
    all_goals try omega
    rw [hw] at oo
    exact oo
  have e1 : oneA W (0, pc, stk, fr, par, vrs, tx, ty, hd, co, dn, px) = ((movA w stk (tx, ty, hd, co, dn, px)).1, pc + 1, (movA w stk (tx, ty, hd, co, dn, px)).2.1, fr, par, vrs, (movA w stk (tx, ty, hd, co, dn, px)).2.2) := by
    rw [oneA_mov (by omega), hw]
  have e2 : itA W (l, 0, pc, stk, fr, par, vrs, tx, ty, hd, co, dn, px) = (l, oneA W (0, pc, stk, fr, par, vrs, tx, ty, hd, co, dn, px)) := by
    unfold itA
    rw [if_neg]
    unfold tkA
    simp only [Bool.or_eq_true, Bool.and_eq_true, beq_iff_eq]
    omega
  obtain ⟨ht, pcv, a36, a39, a40, a44, rc, e0, q36, q39, q40, q44, qi, q0⟩ := hR
  dsimp only at e0 q0
  obtain ⟨rfl, rfl, ⟨g, rfl⟩, ⟨gh, rfl⟩⟩ := q0 rfl
  have hg : stk.length + g.length = 24 := by rw [← fA_len]; exact q36
  obtain ⟨g', rc', a44', b1, b2, e⟩ := c_move (d := d) (scr := scr) (kd := kd) (S0 := aUp S0 45 (kW pa l st)) (a37 := vrs.map Value.float) (a38 := par.map Value.float) (a39 := a39) (a40 := iA (fr.map (·.2)) gh) (a44 := a44) (rc := rc) (g := g) (cl := Int32.ofNat fr.length) (pc := pcv) hn hg l2 s5 q44 ho
  rw [e2, e1]
  refine ⟨rfl, rfl, fun _ => rfl, _, ⟨Int32.ofNat (movA w stk (tx, ty, hd, co, dn, px)).2.1.length, pcv, fA _ g', a39, iA (fr.map (·.2)) gh, a44', rc', rfl, fA_len.trans b1, q39, q40, b2, qi, fun _ => ⟨rfl, rfl, ⟨_, rfl⟩, ⟨_, rfl⟩⟩⟩, ?_⟩
  rw [e0]
  exact e
/-- a word that sets, at its place -/
theorem w_let {x : aSx} {a w : Nat} (hn : 67 ≤ n) (hC : cOk W N P) (hok : okX P x) (h0 : x.2.1 = 0) (hpc : x.2.2.1 = a) (hw : W a = w) (hr : w = 4 ∨ w = 5) (hR : wRep S0 pa cc x st S) :
    itA W x = (x.1, oneA W x.2) ∧ (itA W x).2.2.2.2.1 = x.2.2.2.2.1 ∧ ((itA W x).2.1 = 0 → (itA W x).2.2.1 = a + 2) ∧ ∃ S', wRep S0 pa cc (itA W x) st S' ∧ aE aM144 (d + 2) 0 [(0, .ref 35), (1, .int (Int32.ofNat w)), (2, .int (Int32.ofNat (W (a + 1)))), (3, .int (Int32.ofNat 0))] [] (gH scr kd n S) (aIs none (gH scr kd n S')) := by
  obtain ⟨l, an, pc, stk, fr, par, vrs, tx, ty, hd, co, dn, px⟩ := x
  obtain ⟨l1, l2, l3, l4⟩ := hok.2 h0
  obtain ⟨s1, s2, s3, s4, s5⟩ := hok.1
  dsimp only at h0 hpc s1 s2 s3 s4 s5 l1 l2 l3 l4
  subst h0 hpc
  obtain ⟨k1, f1, hP, hk, hf, hF⟩ := tyF_top l4
  obtain ⟨hpc, hT, hJ⟩ := hC.2 _ _ _ hP
  have ho : opOk w (W (pc + 1)) 0 fr.length stk.length := by
    rcases tyW_op hT hk hf l3 with ⟨o, -⟩ | ⟨o, -⟩ | o | o | ⟨o, -⟩ | ⟨o, -⟩ | ⟨o, -⟩ | ⟨-, o, -⟩ | ⟨oo, -⟩
    all_goals try omega
    rw [hw] at oo
    rcases oo with ⟨e, h1, h2⟩ | ⟨e, h1⟩ | ⟨e, h1⟩ | h1 | h1 | ⟨e, h1⟩ | ⟨e, h1⟩ | ⟨e, h1⟩
    · omega
    · omega
    · omega
    · exact Or.inr (Or.inr (Or.inr (Or.inl h1)))
    · exact Or.inr (Or.inr (Or.inr (Or.inr (Or.inl h1))))
    all_goals omega
  have es : opA (W pc) (W (pc + 1)) (W (pc + 2)) fr.length stk par vrs = opA w (W (pc + 1)) 0 fr.length stk par vrs := by
    rw [hw]
    rcases hr with rfl | rfl <;> rfl
  have e1 : oneA W (0, pc, stk, fr, par, vrs, tx, ty, hd, co, dn, px) = ((opA w (W (pc + 1)) 0 fr.length stk par vrs).1, pc + 2, (opA w (W (pc + 1)) 0 fr.length stk par vrs).2.1, fr, (opA w (W (pc + 1)) 0 fr.length stk par vrs).2.2.1, (opA w (W (pc + 1)) 0 fr.length stk par vrs).2.2.2, tx, ty, hd, co, dn, px) := by
    rw [oneA_op (by omega), es, hw, show lenA w = 2 by rcases hr with rfl | rfl <;> rfl]
  have e2 : itA W (l, 0, pc, stk, fr, par, vrs, tx, ty, hd, co, dn, px) = (l, oneA W (0, pc, stk, fr, par, vrs, tx, ty, hd, co, dn, px)) := by
    unfold itA
    rw [if_neg]
    unfold tkA
    simp only [Bool.or_eq_true, Bool.and_eq_true, beq_iff_eq]
    omega
  obtain ⟨ht, pcv, a36, a39, a40, a44, rc, e0, q36, q39, q40, q44, qi, q0⟩ := hR
  dsimp only at e0 q0
  obtain ⟨rfl, rfl, ⟨g, rfl⟩, ⟨gh, rfl⟩⟩ := q0 rfl
  have hg : stk.length + g.length = 24 := by rw [← fA_len]; exact q36
  obtain ⟨g', b1, e⟩ := c_operate (d := d) (scr := scr) (kd := kd) (S0 := aUp S0 45 (kW pa l st)) (a39 := a39) (a40 := iA (fr.map (·.2)) gh) (a41 := kT tx ty (Int32.ofNat hd) co dn) (a42 := kPi rc) (a43 := px.map Value.int) (a44 := a44) (g := g) (cl := fr.length) (pc := pcv) (par := par) (vrs := vrs) hn hg s1 s3 l2 ho
  rw [e2, e1]
  refine ⟨rfl, rfl, fun _ => rfl, _, ⟨Int32.ofNat (opA w (W (pc + 1)) 0 fr.length stk par vrs).2.1.length, pcv, fA _ g', a39, iA (fr.map (·.2)) gh, a44, rc, rfl, fA_len.trans b1, q39, q40, q44, qi, fun _ => ⟨rfl, rfl, ⟨_, rfl⟩, ⟨_, rfl⟩⟩⟩, ?_⟩
  rw [e0]
  exact e
end WST
