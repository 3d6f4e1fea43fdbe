/-! the walker over what was read: its own fields, and its terms -/
def kW (pa left : Nat) (stop : Int32) : List Value := [.ref pa, .ref 35, .int (Int32.ofNat left), .int stop]
def trmS (S : Nat → List Value) (pa tc : Nat) (T : Nat → Nat × Nat × Nat) : Prop := tc ≤ 160 ∧ (S pa)[2]? = some (.ref (pa + 1)) ∧ (S pa)[3]? = some (.ref (pa + 2)) ∧ (S pa)[4]? = some (.ref (pa + 3)) ∧ (S pa)[5]? = some (.int (Int32.ofNat tc)) ∧
  ∀ j, j < tc → (S (pa + 1))[j]? = some (.int (Int32.ofNat (T j).1)) ∧ (S (pa + 2))[j]? = some (.int (Int32.ofNat (T j).2.1)) ∧ (S (pa + 3))[j]? = some (.int (Int32.ofNat (T j).2.2))
/-- the class's machine and walker stand for the abstract machine; of places nothing is said -/
def wRep (S0 : Nat → List Value) (pa cc : Nat) (x : aSx) (st : Int32) (S : Nat → List Value) : Prop := ∃ (ht pc : Int32) (a36 a39 a40 a44 : List Value) (rc : Int32),
  S = cS (aUp S0 45 (kW pa x.1 st)) (kM ht (Int32.ofNat cc) pc x.2.1) a36 (x.2.2.2.2.2.2.1.map Value.float) (x.2.2.2.2.2.1.map Value.float) a39 a40 (kT x.2.2.2.2.2.2.2.1 x.2.2.2.2.2.2.2.2.1 (Int32.ofNat x.2.2.2.2.2.2.2.2.2.1) x.2.2.2.2.2.2.2.2.2.2.1 x.2.2.2.2.2.2.2.2.2.2.2.1) (kPi rc) (x.2.2.2.2.2.2.2.2.2.2.2.2.map Value.int) a44 ∧
  a36.length = 24 ∧ a39.length = 3 ∧ a40.length = 3 ∧ a44.length = 768 ∧ (∀ j, j < cc → ∃ y z : Int32, a39[j]? = some (.int y) ∧ a40[j]? = some (.int z)) ∧ (x.2.1 = 0 → ht = Int32.ofNat x.2.2.2.1.length ∧ cc = x.2.2.2.2.1.length ∧ (∃ g, a36 = fA x.2.2.2.1 g) ∧ ∃ g, a40 = iA (x.2.2.2.2.1.map (·.2)) g)
theorem gH_same {scr : List Value} {kd : Nat → Nat} {n q : Nat} {S S' : Nat → List Value} (h : 20 ≤ q) (e : S' q = S q) : (gH scr kd n S')[q]? = (gH scr kd n S)[q]? := by
  by_cases hq : q < n + 20
  · rw [gH_at h hq, gH_at h hq, e]
  · rw [List.getElem?_eq_none (by rw [gH_len]; omega), List.getElem?_eq_none (by rw [gH_len]; omega)]
section WLK
variable {scr : List Value} {kd : Nat → Nat} {n pa N d tc q : Nat} {S S0 : Nat → List Value} {W : Nat → Nat} {P : Nat → Nat → Bool → Prop} {T : Nat → Nat × Nat × Nat} {a35 a36 a37 a38 a39 a40 a41 a42 a43 a44 v45 b : List Value} {ht pc an : Int32} {cc : Nat} {st : Int32} {x : aSx} {f : Bool}
theorem cS_45 : aUp (cS (aUp S0 45 v45) a35 a36 a37 a38 a39 a40 a41 a42 a43 a44) 45 b = cS (aUp S0 45 b) a35 a36 a37 a38 a39 a40 a41 a42 a43 a44 := by
  funext q
  unfold aUp cS
  by_cases e : q = 45
  · subst e
    rfl
  · simp only [e, if_false]
theorem wS_ne (h : 45 < q) : cS (aUp S0 45 v45) a35 a36 a37 a38 a39 a40 a41 a42 a43 a44 q = S0 q := by
  rw [cS_ne (by omega), aUp_ne (by omega)]
theorem wH (h : 45 < q) : (gH scr kd n (cS (aUp S0 45 v45) a35 a36 a37 a38 a39 a40 a41 a42 a43 a44))[q]? = (gH scr kd n S0)[q]? := gH_same (by omega) (wS_ne h)
theorem w_goesOn (hn : 67 ≤ n) (hR : wRep S0 pa cc x st S) (hst : st = 0 ∨ st = 1) : aE aM153 (d + 1) 0 [(0, .ref 45)] [] (gH scr kd n S) (aIs (some (.int (if x.2.1 = 0 ∧ st = 0 then 1 else 0))) (gH scr kd n S)) := by
  obtain ⟨ht, pc, a36, a39, a40, a44, rc, rfl, -⟩ := hR
  by_cases h : x.2.1 = 0
  · rcases hst with rfl | rfl
    · rw [if_pos ⟨h, rfl⟩]
      refine eS rfl rfl ?_
      refine gGet hn rfl rfl rfl rfl ?_
      refine gV1 hn rfl rfl rfl rfl rfl ⟨catOk rfl, catOk rfl⟩ (c_isGoing hn) ?_
      rw [if_pos h]
      refine eEq rfl rfl (fun z => absurd z (by decide)) (fun _ => ?_)
      refine eS rfl rfl ?_
      refine gGet hn rfl rfl rfl rfl ?_
      refine eNe rfl rfl (fun z => absurd rfl z) (fun _ => ?_)
      refine eS rfl rfl ?_
      refine eS rfl rfl ?_
      exact eR rfl rfl ⟨rfl, rfl⟩
    · rw [if_neg (fun z => absurd z.2 (by decide))]
      refine eS rfl rfl ?_
      refine gGet hn rfl rfl rfl rfl ?_
      refine gV1 hn rfl rfl rfl rfl rfl ⟨catOk rfl, catOk rfl⟩ (c_isGoing hn) ?_
      rw [if_pos h]
      refine eEq rfl rfl (fun z => absurd z (by decide)) (fun _ => ?_)
      refine eS rfl rfl ?_
      refine gGet hn rfl rfl rfl rfl ?_
      refine eNe rfl rfl (fun _ => ?_) (fun z => absurd z (by decide))
      refine eS rfl rfl ?_
      exact eR rfl rfl ⟨rfl, rfl⟩
  · rw [if_neg (fun z => h z.1)]
    refine eS rfl rfl ?_
    refine gGet hn rfl rfl rfl rfl ?_
    refine gV1 hn rfl rfl rfl rfl rfl ⟨catOk rfl, catOk rfl⟩ (c_isGoing hn) ?_
    rw [if_neg h]
    refine eEq rfl rfl (fun _ => ?_) (fun z => absurd rfl z)
    refine eS rfl rfl ?_
    exact eR rfl rfl ⟨rfl, rfl⟩
theorem w_takesFuel_0 (hn : 67 ≤ n) {s : aSt} (hR : wRep S0 pa cc (0, s) st S) : ∃ S', wRep S0 pa cc (0, 2, s.2) st S' ∧ aE aM154 d 0 [(0, .ref 45)] [] (gH scr kd n S) (aIs (some (.int 0)) (gH scr kd n S')) := by
  obtain ⟨ht, pc, a36, a39, a40, a44, rc, rfl, l1, l2, l3, l4, l6, -⟩ := hR
  refine ⟨_, ⟨ht, pc, a36, a39, a40, a44, rc, rfl, l1, l2, l3, l4, l6, fun z => absurd (show (2 : Int32) = 0 from z) (by decide)⟩, ?_⟩
  refine eS rfl rfl ?_
  refine gGet hn rfl rfl rfl rfl ?_
  refine eNe rfl rfl (fun z => absurd rfl z) (fun _ => ?_)
  refine eS rfl rfl ?_
  refine gGet hn rfl rfl rfl rfl ?_
  refine eS rfl rfl ?_
  refine gPut hn rfl rfl rfl rfl rfl rfl rfl cS_35 ?_
  refine eS rfl rfl ?_
  exact eR rfl rfl ⟨rfl, rfl⟩
theorem w_takesFuel (hn : 67 ≤ n) {l : Nat} {s : aSt} (hl : l < 2000) (hR : wRep S0 pa cc (l + 1, s) st S) : ∃ S', wRep S0 pa cc (l, s) st S' ∧ aE aM154 d 0 [(0, .ref 45)] [] (gH scr kd n S) (aIs (some (.int 1)) (gH scr kd n S')) := by
  obtain ⟨ht, pc, a36, a39, a40, a44, rc, rfl, l1, l2, l3, l4, l5⟩ := hR
  refine ⟨_, ⟨ht, pc, a36, a39, a40, a44, rc, rfl, l1, l2, l3, l4, l5⟩, ?_⟩
  refine eS rfl rfl ?_
  refine gGet hn rfl rfl rfl rfl ?_
  refine eNe rfl rfl (fun _ => ?_) (fun z => absurd z (i32_ne0 (by omega) (by omega)))
  refine eS rfl rfl ?_
  refine eS rfl rfl ?_
  refine gGet hn rfl rfl rfl rfl ?_
  refine eS rfl rfl ?_
  refine eS rfl rfl ?_
  rw [show Int32.ofNat (l + 1) - Int32.ofInt 1 = Int32.ofNat l from i32_pre]
  refine gPut hn rfl rfl rfl rfl rfl rfl rfl cS_45 ?_
  refine eS rfl rfl ?_
  exact eR rfl rfl ⟨rfl, rfl⟩
theorem opA_same {w k b k' b' cl : Nat} {stk par vrs : List UInt32} (h : (w = 1 ∧ k = k' ∧ b = b') ∨ ((w = 2 ∨ w = 3) ∧ k = k') ∨ 6 ≤ w) : opA w k b cl stk par vrs = opA w k' b' cl stk par vrs := by
  rcases h with ⟨-, rfl, rfl⟩ | ⟨hw, rfl⟩ | hw
  · rfl
  · rcases hw with rfl | rfl <;> rfl
  · have n1 : ¬ w = 1 := by omega
    have n2 : ¬ w = 2 := by omega
    have n3 : ¬ w = 3 := by omega
    have n4 : ¬ w = 4 := by omega
    have n5 : ¬ w = 5 := by omega
    unfold opA
    simp only [n1, n2, n3, n4, n5, if_false]
theorem opOk_same {w k b k' b' cl ht : Nat} (h : (w = 1 ∧ k = k' ∧ b = b') ∨ ((w = 2 ∨ w = 3) ∧ k = k') ∨ 6 ≤ w) (ho : opOk w k b cl ht) : opOk w k' b' cl ht := by
  rcases h with ⟨-, rfl, rfl⟩ | ⟨hw, rfl⟩ | hw
  · exact ho
  · rcases ho with ⟨e, h1, h2⟩ | h1 | h1 | ⟨e, h1⟩ | ⟨e, h1⟩ | ⟨e, h1⟩ | ⟨e, h1⟩ | ⟨e, h1⟩
    · omega
    · exact Or.inr (Or.inl h1)
    · exact Or.inr (Or.inr (Or.inl h1))
    all_goals omega
  · rcases ho with ⟨e, h1⟩ | ⟨e, h1⟩ | ⟨e, h1⟩ | ⟨e, h1⟩ | ⟨e, h1⟩ | h1 | h1 | h1
    · omega
    · omega
    · omega
    · omega
    · omega
    · exact Or.inr (Or.inr (Or.inr (Or.inr (Or.inr (Or.inl h1)))))
    · exact Or.inr (Or.inr (Or.inr (Or.inr (Or.inr (Or.inr (Or.inl h1))))))
    · exact Or.inr (Or.inr (Or.inr (Or.inr (Or.inr (Or.inr (Or.inr h1))))))
/-- a term's word, at its place -/
theorem tm_opOk {s : aSt} {t : Nat × Nat × Nat} {k : Nat} (hC : cOk W N P) (hL : okL P s) (hw : W s.2.1 = t.1) (ht : tmOk W f t s.2.1 k) : opOk t.1 t.2.1 t.2.2 s.2.2.2.1.length s.2.2.1.length ∧ opA (W s.2.1) (W (s.2.1 + 1)) (W (s.2.1 + 2)) s.2.2.2.1.length s.2.2.1 s.2.2.2.2.1 s.2.2.2.2.2.1 = opA t.1 t.2.1 t.2.2 s.2.2.2.1.length s.2.2.1 s.2.2.2.2.1 s.2.2.2.2.2.1 ∧ (1 ≤ W s.2.1 ∧ W s.2.1 ≤ 13) := by
  obtain ⟨l1, l2, l3, l4⟩ := hL
  obtain ⟨k1, f1, hP, hk, hf, hF⟩ := tyF_top l4
  obtain ⟨hpc, hT, hJ⟩ := hC.2 _ _ _ hP
  have hs : (t.1 = 1 ∧ W (s.2.1 + 1) = t.2.1 ∧ W (s.2.1 + 2) = t.2.2) ∨ ((t.1 = 2 ∨ t.1 = 3) ∧ W (s.2.1 + 1) = t.2.1) ∨ (6 ≤ t.1 ∧ t.1 ≤ 13) := by
    rcases ht with ⟨e, e1, e2, e3, e4⟩ | ⟨e, e1, e2⟩ | ⟨e, e0, e1, e2⟩ | ⟨e, e1⟩ | ⟨e, e1⟩ | ⟨e, e1⟩ <;> omega
  have hs2 : (t.1 = 1 ∧ W (s.2.1 + 1) = t.2.1 ∧ W (s.2.1 + 2) = t.2.2) ∨ ((t.1 = 2 ∨ t.1 = 3) ∧ W (s.2.1 + 1) = t.2.1) ∨ 6 ≤ t.1 := by omega
  rcases tyW_op hT hk hf l3 with ⟨o, -⟩ | ⟨o, -⟩ | o | o | ⟨o, -⟩ | ⟨o, -⟩ | ⟨o, -⟩ | ⟨-, o, -⟩ | ⟨oo, o, -⟩
  all_goals try omega
  rw [hw] at oo
  refine ⟨opOk_same hs2 oo, ?_, o⟩
  rw [hw]
  exact opA_same hs2
theorem w_term {i a k : Nat} (hn : 67 ≤ n) (hC : cOk W N P) (hok : okX P x) (h0 : x.2.1 = 0) (hpc : x.2.2.1 = a) (hw : W a = (T i).1) (ht : tmOk W f (T i) a k) (hR : wRep S0 pa cc x st S) :
    itA W x = (x.1, oneA W x.2) ∧ (itA W x).2.2.2.2.1 = x.2.2.2.2.1 ∧ ((itA W x).2.1 = 0 → (itA W x).2.2.1 = a + lenA (T i).1) ∧ ∃ S', wRep S0 pa cc (itA W x) st S' ∧ aE aM144 (d + 2) 0 [(0, .ref 35), (1, .int (Int32.ofNat (T i).1)), (2, .int (Int32.ofNat (T i).2.1)), (3, .int (Int32.ofNat (T i).2.2))] [] (gH scr kd n S) (aIs none (gH scr kd n S')) := by
  obtain ⟨l, an, pc, stk, fr, par, vrs, tx, ty, hd, co, dn, px⟩ := x
  have hok2 := hok.2 h0
  obtain ⟨s1, s2, s3, s4, s5⟩ := hok.1
  dsimp only at h0 hpc s1 s2 s3 s4 s5
  subst h0 hpc
  obtain ⟨ho, he, hr⟩ := tm_opOk (s := (0, pc, stk, fr, par, vrs, tx, ty, hd, co, dn, px)) hC hok2 hw ht
  dsimp only at ho he hr
  have e1 : oneA W (0, pc, stk, fr, par, vrs, tx, ty, hd, co, dn, px) = ((opA (T i).1 (T i).2.1 (T i).2.2 fr.length stk par vrs).1, pc + lenA (T i).1, (opA (T i).1 (T i).2.1 (T i).2.2 fr.length stk par vrs).2.1, fr, (opA (T i).1 (T i).2.1 (T i).2.2 fr.length stk par vrs).2.2.1, (opA (T i).1 (T i).2.1 (T i).2.2 fr.length stk par vrs).2.2.2, tx, ty, hd, co, dn, px) := by
    rw [oneA_op hr, he, hw]
  have e2 : itA W (l, 0, pc, stk, fr, par, vrs, tx, ty, hd, co, dn, px) = (l, oneA W (0, pc, stk, fr, par, vrs, tx, ty, hd, co, dn, px)) := by
    unfold itA
    rw [if_neg]
    unfold tkA
    simp only [Bool.or_eq_true, Bool.and_eq_true, beq_iff_eq]
    omega
  obtain ⟨ht, pcv, a36, a39, a40, a44, rc, e0, q36, q39, q40, q44, qi, q0⟩ := hR
  dsimp only at e0 q0
  obtain ⟨rfl, rfl, ⟨g, rfl⟩, ⟨gh, rfl⟩⟩ := q0 rfl
  have hg : stk.length + g.length = 24 := by rw [← fA_len]; exact q36
  obtain ⟨g', b1, e⟩ := c_operate (d := d) (scr := scr) (kd := kd) (S0 := aUp S0 45 (kW pa l st)) (a39 := a39) (a40 := iA (fr.map (·.2)) gh) (a41 := kT tx ty (Int32.ofNat hd) co dn) (a42 := kPi rc) (a43 := px.map Value.int) (a44 := a44) (g := g) (cl := fr.length) (pc := pcv) (par := par) (vrs := vrs) hn hg s1 s3 hok2.2.1 ho
  rw [e2, e1]
  refine ⟨rfl, rfl, fun _ => rfl, _, ⟨Int32.ofNat (opA (T i).1 (T i).2.1 (T i).2.2 fr.length stk par vrs).2.1.length, pcv, fA _ g', a39, iA (fr.map (·.2)) gh, a44, rc, rfl, fA_len.trans b1, q39, q40, q44, qi, fun _ => ⟨rfl, rfl, ⟨_, rfl⟩, ⟨_, rfl⟩⟩⟩, ?_⟩
  rw [e0]
  exact e
end WLK
