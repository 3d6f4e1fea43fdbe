/-! a region is filled, on the model's side -/
section MFILL
variable {scr : List Value} {kd : Nat → Nat} {n : Nat} {S0 : Nat → List Value} {a77 a78 a79 a80 a81 a82 a83 g : List Value} {w : Nat → Value} {nn pc en hi un hd co dn : Int32} {x y : UInt32} {dd : Nat} {px : List Int32} {q : List Nat} {was a b : Int32}
theorem m_spread (hn : 67 ≤ n) (hI : filI was (px, q)) (hg : q.length + g.length = 768) : ∃ g', (rchA was co (px, q) a b).2.length + g'.length = 768 ∧ aE aM226 (dd + 2) 0 [(0, .ref 56), (1, .int (Int32.ofNat q.length)), (2, .int a), (3, .int b), (4, .int was)] [] (gH scr kd n (mS S0 (mM w nn pc en hi un x y hd co dn) a77 a78 a79 a80 a81 (px.map Value.int) (qA q g))) (aIs (some (.int (Int32.ofNat (rchA was co (px, q) a b).2.length))) (gH scr kd n (mS S0 (mM w nn pc en hi un x y hd co dn) a77 a78 a79 a80 a81 ((rchA was co (px, q) a b).1.map Value.int) (qA (rchA was co (px, q) a b).2 g')))) := by
  have hl : px.length = 768 := hI.1
  cases hb : inB a b with
  | true =>
    obtain ⟨i1, -, i2⟩ := inB_ix hb
    by_cases hw : px.getD (ixB a b) 0 = was
    · have hc : (inB a b && px.getD (ixB a b) 0 == was) = true := by rw [hb, hw]; simp
      have hq : q.length < 768 := rch_hit (co := co) hI hc
      have e : (rchA was co (px, q) a b) = (px.set (ixB a b) co, q ++ [ixB a b]) := if_pos hc
      obtain ⟨v, g', rfl⟩ : ∃ v g', g = v :: g' := by
        cases g with
        | nil => simp at hg; omega
        | cons v g' => exact ⟨v, g', rfl⟩
      refine ⟨g', by rw [e]; simp at hg ⊢; omega, ?_⟩
      rw [e]
      refine eS rfl rfl ?_
      refine eS rfl rfl ?_
      refine eC1 rfl rfl rfl ⟨catOk rfl, catOk rfl⟩ (s_inside) ?_
      rw [hb]
      refine eEq rfl rfl (fun z => absurd z (by decide)) (fun _ => ?_)
      refine eS rfl rfl ?_
      refine gGet hn rfl rfl rfl rfl ?_
      refine eS rfl rfl ?_
      refine eS rfl rfl ?_
      refine eS rfl rfl ?_
      refine eS rfl rfl ?_
      refine eS rfl rfl ?_
      rw [i2]
      refine gRd0 hn rfl rfl rfl (ixB a b) (by omega) (il_get (by omega)) ?_
      refine eS rfl rfl ?_
      refine eIEq rfl rfl (fun _ => ?_) (fun z => absurd hw z)
      refine eS rfl rfl ?_
      refine gGet hn rfl rfl rfl rfl ?_
      refine eS rfl rfl ?_
      refine eS rfl rfl ?_
      refine eS rfl rfl ?_
      refine eS rfl rfl ?_
      refine eS rfl rfl ?_
      rw [i2]
      refine eS rfl rfl ?_
      refine gGet hn rfl rfl rfl rfl ?_
      refine gWr0 hn rfl rfl rfl (ixB a b) (by omega) (by show ixB a b < (px.map Value.int).length; rw [List.length_map]; omega) (mS_82.trans (congrArg (fun z => mS S0 _ a77 a78 a79 a80 a81 z _) il_set)) ?_
      refine eS rfl rfl ?_
      refine gGet hn rfl rfl rfl rfl ?_
      refine eS rfl rfl ?_
      refine eS rfl rfl ?_
      refine eS rfl rfl ?_
      refine eS rfl rfl ?_
      refine eS rfl rfl ?_
      refine eS rfl rfl ?_
      rw [i2]
      refine gWr0 hn rfl rfl rfl q.length (by omega) (by show q.length < (qA q (v :: g')).length; rw [qA_len]; simp only [List.length_cons]; omega) (mS_83.trans (congrArg (fun z => mS S0 _ a77 a78 a79 a80 a81 _ z) qA_push)) ?_
      refine eS rfl rfl ?_
      refine eS rfl rfl ?_
      refine eS rfl rfl ?_
      exact eR rfl rfl ⟨by rw [List.length_append, List.length_singleton, ← i32_succ], rfl⟩
    · have e : (rchA was co (px, q) a b) = (px, q) := if_neg (by rw [hb]; simp only [Bool.true_and, beq_iff_eq]; exact hw)
      refine ⟨g, by rw [e]; exact hg, ?_⟩
      rw [e]
      refine eS rfl rfl ?_
      refine eS rfl rfl ?_
      refine eC1 rfl rfl rfl ⟨catOk rfl, catOk rfl⟩ (s_inside) ?_
      rw [hb]
      refine eEq rfl rfl (fun z => absurd z (by decide)) (fun _ => ?_)
      refine eS rfl rfl ?_
      refine gGet hn rfl rfl rfl rfl ?_
      refine eS rfl rfl ?_
      refine eS rfl rfl ?_
      refine eS rfl rfl ?_
      refine eS rfl rfl ?_
      refine eS rfl rfl ?_
      rw [i2]
      refine gRd0 hn rfl rfl rfl (ixB a b) (by omega) (il_get (by omega)) ?_
      refine eS rfl rfl ?_
      refine eIEq rfl rfl (fun z => absurd z hw) (fun _ => ?_)
      refine eS rfl rfl ?_
      exact eR rfl rfl ⟨rfl, rfl⟩
  | false =>
    have e : (rchA was co (px, q) a b) = (px, q) := if_neg (by rw [hb]; simp)
    refine ⟨g, by rw [e]; exact hg, ?_⟩
    rw [e]
    refine eS rfl rfl ?_
    refine eS rfl rfl ?_
    refine eC1 rfl rfl rfl ⟨catOk rfl, catOk rfl⟩ (s_inside) ?_
    rw [hb]
    refine eEq rfl rfl (fun _ => ?_) (fun z => absurd rfl z)
    refine eS rfl rfl ?_
    exact eR rfl rfl ⟨rfl, rfl⟩
theorem m_fill_loop (hn : 67 ≤ n) (hne : was ≠ co) : ∀ (f k : Nat) (st : aPq) (g : List Value), filI was st → st.2.length + g.length = 768 → k ≤ st.2.length → 769 ≤ f + k → ∃ g', (bfsA nbrM was co f k st).2.length + g'.length = 768 ∧
    aE aM225 (dd + 3) 68 [(0, .ref 56), (3, .int was), (4, .int (Int32.ofNat st.2.length)), (5, .int (Int32.ofNat k))] [] (gH scr kd n (mS S0 (mM w nn pc en hi un x y hd co dn) a77 a78 a79 a80 a81 (st.1.map Value.int) (qA st.2 g))) (aIs none (gH scr kd n (mS S0 (mM w nn pc en hi un x y hd co dn) a77 a78 a79 a80 a81 ((bfsA nbrM was co f k st).1.map Value.int) (qA (bfsA nbrM was co f k st).2 g'))))
  | 0, k, st, g, _, hg, hk, hf => by omega
  | f + 1, k, st, g, hI, hg, hk, hf => by
    by_cases hq : k < st.2.length
    · have e : bfsA nbrM was co (f + 1) k st = bfsA nbrM was co f (k + 1) (allA was co st (nbrM (st.2.getD k 0))) := if_pos hq
      rw [e]
      have hx : st.2.getD k 0 < 768 := by
        rw [List.getD_eq_getElem?_getD, List.getElem?_eq_getElem hq]
        exact hI.2.2 _ (List.getElem_mem _)
      have I1 := rchA_I (a := (Int32.ofNat (st.2.getD k 0 % 32) - 1)) (b := (Int32.ofNat (st.2.getD k 0 / 32))) (st := st) hne hI
      obtain ⟨g1, l1, e1⟩ := m_spread (dd := dd) (scr := scr) (kd := kd) (S0 := S0) (a77 := a77) (a78 := a78) (a79 := a79) (a80 := a80) (a81 := a81) (w := w) (nn := nn) (pc := pc) (en := en) (hi := hi) (un := un) (x := x) (y := y) (hd := hd) (dn := dn) (a := (Int32.ofNat (st.2.getD k 0 % 32) - 1)) (b := (Int32.ofNat (st.2.getD k 0 / 32))) (co := co) (px := st.1) (q := st.2) hn hI hg
      have I2 := rchA_I (a := (Int32.ofNat (st.2.getD k 0 % 32) + 1)) (b := (Int32.ofNat (st.2.getD k 0 / 32))) (st := (rchA was co st (Int32.ofNat (st.2.getD k 0 % 32) - 1) (Int32.ofNat (st.2.getD k 0 / 32)))) hne I1
      obtain ⟨g2, l2, e2⟩ := m_spread (dd := dd) (scr := scr) (kd := kd) (S0 := S0) (a77 := a77) (a78 := a78) (a79 := a79) (a80 := a80) (a81 := a81) (w := w) (nn := nn) (pc := pc) (en := en) (hi := hi) (un := un) (x := x) (y := y) (hd := hd) (dn := dn) (a := (Int32.ofNat (st.2.getD k 0 % 32) + 1)) (b := (Int32.ofNat (st.2.getD k 0 / 32))) (co := co) (px := (rchA was co st (Int32.ofNat (st.2.getD k 0 % 32) - 1) (Int32.ofNat (st.2.getD k 0 / 32))).1) (q := (rchA was co st (Int32.ofNat (st.2.getD k 0 % 32) - 1) (Int32.ofNat (st.2.getD k 0 / 32))).2) hn I1 l1
      have I3 := rchA_I (a := (Int32.ofNat (st.2.getD k 0 % 32))) (b := (Int32.ofNat (st.2.getD k 0 / 32) - 1)) (st := (rchA was co (rchA was co st (Int32.ofNat (st.2.getD k 0 % 32) - 1) (Int32.ofNat (st.2.getD k 0 / 32))) (Int32.ofNat (st.2.getD k 0 % 32) + 1) (Int32.ofNat (st.2.getD k 0 / 32)))) hne I2
      obtain ⟨g3, l3, e3⟩ := m_spread (dd := dd) (scr := scr) (kd := kd) (S0 := S0) (a77 := a77) (a78 := a78) (a79 := a79) (a80 := a80) (a81 := a81) (w := w) (nn := nn) (pc := pc) (en := en) (hi := hi) (un := un) (x := x) (y := y) (hd := hd) (dn := dn) (a := (Int32.ofNat (st.2.getD k 0 % 32))) (b := (Int32.ofNat (st.2.getD k 0 / 32) - 1)) (co := co) (px := (rchA was co (rchA was co st (Int32.ofNat (st.2.getD k 0 % 32) - 1) (Int32.ofNat (st.2.getD k 0 / 32))) (Int32.ofNat (st.2.getD k 0 % 32) + 1) (Int32.ofNat (st.2.getD k 0 / 32))).1) (q := (rchA was co (rchA was co st (Int32.ofNat (st.2.getD k 0 % 32) - 1) (Int32.ofNat (st.2.getD k 0 / 32))) (Int32.ofNat (st.2.getD k 0 % 32) + 1) (Int32.ofNat (st.2.getD k 0 / 32))).2) hn I2 l2
      have I4 := rchA_I (a := (Int32.ofNat (st.2.getD k 0 % 32))) (b := (Int32.ofNat (st.2.getD k 0 / 32) + 1)) (st := (rchA was co (rchA was co (rchA was co st (Int32.ofNat (st.2.getD k 0 % 32) - 1) (Int32.ofNat (st.2.getD k 0 / 32))) (Int32.ofNat (st.2.getD k 0 % 32) + 1) (Int32.ofNat (st.2.getD k 0 / 32))) (Int32.ofNat (st.2.getD k 0 % 32)) (Int32.ofNat (st.2.getD k 0 / 32) - 1))) hne I3
      obtain ⟨g4, l4, e4⟩ := m_spread (dd := dd) (scr := scr) (kd := kd) (S0 := S0) (a77 := a77) (a78 := a78) (a79 := a79) (a80 := a80) (a81 := a81) (w := w) (nn := nn) (pc := pc) (en := en) (hi := hi) (un := un) (x := x) (y := y) (hd := hd) (dn := dn) (a := (Int32.ofNat (st.2.getD k 0 % 32))) (b := (Int32.ofNat (st.2.getD k 0 / 32) + 1)) (co := co) (px := (rchA was co (rchA was co (rchA was co st (Int32.ofNat (st.2.getD k 0 % 32) - 1) (Int32.ofNat (st.2.getD k 0 / 32))) (Int32.ofNat (st.2.getD k 0 % 32) + 1) (Int32.ofNat (st.2.getD k 0 / 32))) (Int32.ofNat (st.2.getD k 0 % 32)) (Int32.ofNat (st.2.getD k 0 / 32) - 1)).1) (q := (rchA was co (rchA was co (rchA was co st (Int32.ofNat (st.2.getD k 0 % 32) - 1) (Int32.ofNat (st.2.getD k 0 / 32))) (Int32.ofNat (st.2.getD k 0 % 32) + 1) (Int32.ofNat (st.2.getD k 0 / 32))) (Int32.ofNat (st.2.getD k 0 % 32)) (Int32.ofNat (st.2.getD k 0 / 32) - 1)).2) hn I3 l3
      obtain ⟨g', l5, e5⟩ := m_fill_loop hn hne f (k + 1) (allA was co st (nbrM (st.2.getD k 0))) g4 I4 l4 (Nat.le_trans hq (allA_len (l := nbrM (st.2.getD k 0)))) (by omega)
      refine ⟨g', l5, ?_⟩
      refine eS rfl rfl ?_
      refine eS rfl rfl ?_
      refine eIGe rfl rfl (fun z => absurd ((i32_le (a := st.2.length) (b := k) (by omega) (by omega)).mp z) (by omega)) (fun _ => ?_)
      refine eS rfl rfl ?_
      refine gGet hn rfl rfl rfl rfl ?_
      refine eS rfl rfl ?_
      refine gRd0 hn rfl rfl rfl k (by omega) (qA_get hq) ?_
      refine eS rfl rfl ?_
      refine eP rfl (irem_ok (by rw [show (Int8.ofInt 32).toInt32 = Int32.ofNat 32 from rfl]; exact i32_ne0 (by decide) (by decide))) ?_
      rw [show Int32.ofNat (st.2.getD k 0) % (Int8.ofInt 32).toInt32 = Int32.ofNat (st.2.getD k 0 % 32) from i32_rem (m := 32) (by omega) (by decide) (by decide)]
      refine eS rfl rfl ?_
      refine eS rfl rfl ?_
      refine gGet hn rfl rfl rfl rfl ?_
      refine eS rfl rfl ?_
      refine gRd0 hn rfl rfl rfl k (by omega) (qA_get hq) ?_
      refine eS rfl rfl ?_
      refine eP rfl (idiv_ok (by rw [show (Int8.ofInt 32).toInt32 = Int32.ofNat 32 from rfl]; exact i32_ne0 (by decide) (by decide))) ?_
      rw [show Int32.ofNat (st.2.getD k 0) / (Int8.ofInt 32).toInt32 = Int32.ofNat (st.2.getD k 0 / 32) from i32_quo (m := 32) (by omega) (by decide) (by decide)]
      refine eS rfl rfl ?_
      refine eS rfl rfl ?_
      refine eS rfl rfl ?_
      refine eS rfl rfl ?_
      refine eS rfl rfl ?_
      refine eS rfl rfl ?_
      refine eS rfl rfl ?_
      refine eS rfl rfl ?_
      refine gV1 hn rfl rfl rfl rfl rfl ⟨catOk rfl, catOk rfl⟩ (e1) ?_
      refine eS rfl rfl ?_
      refine eS rfl rfl ?_
      refine eS rfl rfl ?_
      refine eS rfl rfl ?_
      refine eS rfl rfl ?_
      refine eS rfl rfl ?_
      refine eS rfl rfl ?_
      refine eS rfl rfl ?_
      refine gV1 hn rfl rfl rfl rfl rfl ⟨catOk rfl, catOk rfl⟩ (e2) ?_
      refine eS rfl rfl ?_
      refine eS rfl rfl ?_
      refine eS rfl rfl ?_
      refine eS rfl rfl ?_
      refine eS rfl rfl ?_
      refine eS rfl rfl ?_
      refine eS rfl rfl ?_
      refine eS rfl rfl ?_
      refine gV1 hn rfl rfl rfl rfl rfl ⟨catOk rfl, catOk rfl⟩ (e3) ?_
      refine eS rfl rfl ?_
      refine eS rfl rfl ?_
      refine eS rfl rfl ?_
      refine eS rfl rfl ?_
      refine eS rfl rfl ?_
      refine eS rfl rfl ?_
      refine eS rfl rfl ?_
      refine eS rfl rfl ?_
      refine gV1 hn rfl rfl rfl rfl rfl ⟨catOk rfl, catOk rfl⟩ (e4) ?_
      refine eS rfl rfl ?_
      refine eS rfl rfl ?_
      refine eS rfl rfl ?_
      refine eLoc (l' := [(0, .ref 56), (3, .int was), (4, .int (Int32.ofNat (allA was co st (nbrM (st.2.getD k 0))).2.length)), (5, .int (Int32.ofNat (k + 1)))]) rfl ⟨rfl, rfl, rfl, congrArg (fun z => some (Value.int z)) i32_succ, trivial⟩ ?_
      exact e5
    · have e : bfsA nbrM was co (f + 1) k st = st := if_neg hq
      rw [e]
      refine ⟨g, hg, ?_⟩
      refine eS rfl rfl ?_
      refine eS rfl rfl ?_
      refine eIGe rfl rfl (fun _ => ?_) (fun z => absurd ((i32_le (a := st.2.length) (b := k) (by omega) (by omega)).mpr (by omega)) z)
      exact eR rfl rfl ⟨rfl, rfl⟩
theorem m_fill (hn : 67 ≤ n) (hl : px.length = 768) (ha : a83.length = 768) (hx : gX x) (hy : gX y) : ∃ a83', a83'.length = 768 ∧ aE aM225 (dd + 3) 0 [(0, .ref 56)] [] (gH scr kd n (mS S0 (mM w nn pc en hi un x y hd co dn) a77 a78 a79 a80 a81 (px.map Value.int) a83)) (aIs none (gH scr kd n (mS S0 (mM w nn pc en hi un x y hd co dn) a77 a78 a79 a80 a81 ((filA nbrM px (Int32.ofInt (pixA x)) (Int32.ofInt (pixA y)) co).1.map Value.int) a83'))) := by
  cases hb : inB (Int32.ofInt (pixA x)) (Int32.ofInt (pixA y)) with
  | false =>
    have e : filA nbrM px (Int32.ofInt (pixA x)) (Int32.ofInt (pixA y)) co = (px, []) := if_neg (by rw [hb]; simp)
    rw [e]
    refine ⟨a83, ha, ?_⟩
    refine eS rfl rfl ?_
    refine gGet hn rfl rfl rfl rfl ?_
    refine eC1 rfl rfl rfl ⟨catOk rfl, catOk rfl⟩ (m_round hx) ?_
    refine eS rfl rfl ?_
    refine eS rfl rfl ?_
    refine gGet hn rfl rfl rfl rfl ?_
    refine eC1 rfl rfl rfl ⟨catOk rfl, catOk rfl⟩ (m_round hy) ?_
    refine eS rfl rfl ?_
    refine eS rfl rfl ?_
    refine eS rfl rfl ?_
    refine eC1 rfl rfl rfl ⟨catOk rfl, catOk rfl⟩ (s_inside) ?_
    rw [hb]
    refine eEq rfl rfl (fun _ => ?_) (fun z => absurd rfl z)
    exact eR rfl rfl ⟨rfl, rfl⟩
  | true =>
    obtain ⟨hi', -, i2⟩ := inB_ix hb
    by_cases hc : px.getD (ixB (Int32.ofInt (pixA x)) (Int32.ofInt (pixA y))) 0 = co
    · have e : filA nbrM px (Int32.ofInt (pixA x)) (Int32.ofInt (pixA y)) co = (px, []) := if_neg (by rw [hb, hc]; simp)
      rw [e]
      refine ⟨a83, ha, ?_⟩
      refine eS rfl rfl ?_
      refine gGet hn rfl rfl rfl rfl ?_
      refine eC1 rfl rfl rfl ⟨catOk rfl, catOk rfl⟩ (m_round hx) ?_
      refine eS rfl rfl ?_
      refine eS rfl rfl ?_
      refine gGet hn rfl rfl rfl rfl ?_
      refine eC1 rfl rfl rfl ⟨catOk rfl, catOk rfl⟩ (m_round hy) ?_
      refine eS rfl rfl ?_
      refine eS rfl rfl ?_
      refine eS rfl rfl ?_
      refine eC1 rfl rfl rfl ⟨catOk rfl, catOk rfl⟩ (s_inside) ?_
      rw [hb]
      refine eEq rfl rfl (fun z => absurd z (by decide)) (fun _ => ?_)
      refine eS rfl rfl ?_
      refine gGet hn rfl rfl rfl rfl ?_
      refine eS rfl rfl ?_
      refine eS rfl rfl ?_
      refine eS rfl rfl ?_
      refine eS rfl rfl ?_
      refine eS rfl rfl ?_
      rw [i2]
      refine gRd0 hn rfl rfl rfl (ixB (Int32.ofInt (pixA x)) (Int32.ofInt (pixA y))) (by omega) (il_get (by omega)) ?_
      refine eS rfl rfl ?_
      refine gGet hn rfl rfl rfl rfl ?_
      refine eINe rfl rfl (fun z => absurd hc z) (fun _ => ?_)
      exact eR rfl rfl ⟨rfl, rfl⟩
    · have e : filA nbrM px (Int32.ofInt (pixA x)) (Int32.ofInt (pixA y)) co = bfsA nbrM (px.getD (ixB (Int32.ofInt (pixA x)) (Int32.ofInt (pixA y))) 0) co 769 0 (rchA (px.getD (ixB (Int32.ofInt (pixA x)) (Int32.ofInt (pixA y))) 0) co (px, []) (Int32.ofInt (pixA x)) (Int32.ofInt (pixA y))) := if_pos (by rw [hb]; simp only [Bool.true_and, bne_iff_ne]; exact hc)
      rw [e]
      have I0 : filI (px.getD (ixB (Int32.ofInt (pixA x)) (Int32.ofInt (pixA y))) 0) (px, []) := ⟨hl, by have := List.count_le_length (a := px.getD (ixB (Int32.ofInt (pixA x)) (Int32.ofInt (pixA y))) 0) (l := px); simp only [List.length_nil]; omega, fun q hq => by cases hq⟩
      obtain ⟨g1, l1, e1⟩ := m_spread (dd := dd) (scr := scr) (kd := kd) (S0 := S0) (a77 := a77) (a78 := a78) (a79 := a79) (a80 := a80) (a81 := a81) (w := w) (nn := nn) (pc := pc) (en := en) (hi := hi) (un := un) (x := x) (y := y) (hd := hd) (dn := dn) (a := Int32.ofInt (pixA x)) (b := Int32.ofInt (pixA y)) (co := co) (px := px) (q := []) (g := a83) hn I0 (by rw [ha]; rfl)
      obtain ⟨g2, l2, e2⟩ := m_fill_loop (dd := dd) (scr := scr) (kd := kd) (S0 := S0) (a77 := a77) (a78 := a78) (a79 := a79) (a80 := a80) (a81 := a81) (w := w) (nn := nn) (pc := pc) (en := en) (hi := hi) (un := un) (x := x) (y := y) (hd := hd) (dn := dn) hn hc 769 0 _ g1 (rchA_I hc I0) l1 (Nat.zero_le _) (by omega)
      refine ⟨qA _ g2, qA_len.trans l2, ?_⟩
      refine eS rfl rfl ?_
      refine gGet hn rfl rfl rfl rfl ?_
      refine eC1 rfl rfl rfl ⟨catOk rfl, catOk rfl⟩ (m_round hx) ?_
      refine eS rfl rfl ?_
      refine eS rfl rfl ?_
      refine gGet hn rfl rfl rfl rfl ?_
      refine eC1 rfl rfl rfl ⟨catOk rfl, catOk rfl⟩ (m_round hy) ?_
      refine eS rfl rfl ?_
      refine eS rfl rfl ?_
      refine eS rfl rfl ?_
      refine eC1 rfl rfl rfl ⟨catOk rfl, catOk rfl⟩ (s_inside) ?_
      rw [hb]
      refine eEq rfl rfl (fun z => absurd z (by decide)) (fun _ => ?_)
      refine eS rfl rfl ?_
      refine gGet hn rfl rfl rfl rfl ?_
      refine eS rfl rfl ?_
      refine eS rfl rfl ?_
      refine eS rfl rfl ?_
      refine eS rfl rfl ?_
      refine eS rfl rfl ?_
      rw [i2]
      refine gRd0 hn rfl rfl rfl (ixB (Int32.ofInt (pixA x)) (Int32.ofInt (pixA y))) (by omega) (il_get (by omega)) ?_
      refine eS rfl rfl ?_
      refine gGet hn rfl rfl rfl rfl ?_
      refine eINe rfl rfl (fun _ => ?_) (fun z => absurd z hc)
      refine eS rfl rfl ?_
      refine gGet hn rfl rfl rfl rfl ?_
      refine eS rfl rfl ?_
      refine eS rfl rfl ?_
      refine eS rfl rfl ?_
      refine eS rfl rfl ?_
      refine eS rfl rfl ?_
      rw [i2]
      refine gRd0 hn rfl rfl rfl (ixB (Int32.ofInt (pixA x)) (Int32.ofInt (pixA y))) (by omega) (il_get (by omega)) ?_
      refine eS rfl rfl ?_
      refine eS rfl rfl ?_
      refine eS rfl rfl ?_
      refine eS rfl rfl ?_
      refine eS rfl rfl ?_
      refine eS rfl rfl ?_
      refine gV1 hn rfl rfl rfl rfl rfl ⟨catOk rfl, catOk rfl⟩ (e1) ?_
      refine eS rfl rfl ?_
      refine eS rfl rfl ?_
      refine eS rfl rfl ?_
      refine eLoc (l' := [(0, .ref 56), (3, .int (px.getD (ixB (Int32.ofInt (pixA x)) (Int32.ofInt (pixA y))) 0)), (4, .int (Int32.ofNat (rchA (px.getD (ixB (Int32.ofInt (pixA x)) (Int32.ofInt (pixA y))) 0) co (px, []) (Int32.ofInt (pixA x)) (Int32.ofInt (pixA y))).2.length)), (5, .int (Int32.ofNat 0))]) rfl ⟨rfl, rfl, rfl, rfl, trivial⟩ ?_
      exact e2
end MFILL
