section CFILL2
variable {scr : List Value} {kd : Nat → Nat} {n : Nat} {S0 : Nat → List Value} {a35 a36 a37 a38 a39 a40 a41 a42 a43 a44 : List Value} {dd : Nat} {co was a b : Int32} {h : aH}
theorem rchA_le {s : aPq} : s.2.length ≤ (rchA was co s a b).2.length := by
  unfold rchA
  split
  · simp
  · exact Nat.le_refl _
theorem allA_len : ∀ {l : List (Int32 × Int32)} {s : aPq}, s.2.length ≤ (allA was co s l).2.length
  | [], s => Nat.le_refl _
  | p :: l, s => Nat.le_trans (rchA_le (a := p.1) (b := p.2)) (allA_len (l := l) (s := rchA was co s p.1 p.2))
theorem c_fill_loop (hn : 67 ≤ n) (hne : was ≠ co) : ∀ (f k : Nat) (st : aPq) (g : List Value), filI was st → st.2.length + g.length = 768 → k ≤ st.2.length → 769 ≤ f + k → ∃ g', (bfsA nbrC was co f k st).2.length + g'.length = 768 ∧
    aE aM142 (dd + 2) 38 [(0, .ref 42), (3, .int co), (4, .int was), (5, .int (Int32.ofNat k))] [] (gH scr kd n (cS S0 a35 a36 a37 a38 a39 a40 a41 (kPi (Int32.ofNat st.2.length)) (st.1.map Value.int) (qA st.2 g))) (aIs none (gH scr kd n (cS S0 a35 a36 a37 a38 a39 a40 a41 (kPi (Int32.ofNat (bfsA nbrC was co f k st).2.length)) ((bfsA nbrC was co f k st).1.map Value.int) (qA (bfsA nbrC was co f k st).2 g'))))
  | 0, k, st, g, _, hg, hk, hf => by omega
  | f + 1, k, st, g, hI, hg, hk, hf => by
    by_cases hq : k < st.2.length
    · have e : bfsA nbrC was co (f + 1) k st = bfsA nbrC was co f (k + 1) (allA was co st (nbrC (st.2.getD k 0))) := if_pos hq
      rw [e]
      have hx : st.2.getD k 0 < 768 := by
        rw [List.getD_eq_getElem?_getD, List.getElem?_eq_getElem hq]
        exact hI.2.2 _ (List.getElem_mem _)
      have I1 := rchA_I (a := (Int32.ofNat (st.2.getD k 0 % 32) + 1)) (b := (Int32.ofNat (st.2.getD k 0 / 32))) (st := st) hne hI
      obtain ⟨g1, l1, e1⟩ := c_reach (dd := dd) (scr := scr) (kd := kd) (S0 := S0) (a35 := a35) (a36 := a36) (a37 := a37) (a38 := a38) (a39 := a39) (a40 := a40) (a41 := a41) (a := (Int32.ofNat (st.2.getD k 0 % 32) + 1)) (b := (Int32.ofNat (st.2.getD k 0 / 32))) (co := co) (px := st.1) (q := st.2) hn hI hg
      have I2 := rchA_I (a := (Int32.ofNat (st.2.getD k 0 % 32) - 1)) (b := (Int32.ofNat (st.2.getD k 0 / 32))) (st := (rchA was co st (Int32.ofNat (st.2.getD k 0 % 32) + 1) (Int32.ofNat (st.2.getD k 0 / 32)))) hne I1
      obtain ⟨g2, l2, e2⟩ := c_reach (dd := dd) (scr := scr) (kd := kd) (S0 := S0) (a35 := a35) (a36 := a36) (a37 := a37) (a38 := a38) (a39 := a39) (a40 := a40) (a41 := a41) (a := (Int32.ofNat (st.2.getD k 0 % 32) - 1)) (b := (Int32.ofNat (st.2.getD k 0 / 32))) (co := co) (px := (rchA was co st (Int32.ofNat (st.2.getD k 0 % 32) + 1) (Int32.ofNat (st.2.getD k 0 / 32))).1) (q := (rchA was co st (Int32.ofNat (st.2.getD k 0 % 32) + 1) (Int32.ofNat (st.2.getD k 0 / 32))).2) hn I1 l1
      have I3 := rchA_I (a := (Int32.ofNat (st.2.getD k 0 % 32))) (b := (Int32.ofNat (st.2.getD k 0 / 32) + 1)) (st := (rchA was co (rchA was co st (Int32.ofNat (st.2.getD k 0 % 32) + 1) (Int32.ofNat (st.2.getD k 0 / 32))) (Int32.ofNat (st.2.getD k 0 % 32) - 1) (Int32.ofNat (st.2.getD k 0 / 32)))) hne I2
      obtain ⟨g3, l3, e3⟩ := c_reach (dd := dd) (scr := scr) (kd := kd) (S0 := S0) (a35 := a35) (a36 := a36) (a37 := a37) (a38 := a38) (a39 := a39) (a40 := a40) (a41 := a41) (a := (Int32.ofNat (st.2.getD k 0 % 32))) (b := (Int32.ofNat (st.2.getD k 0 / 32) + 1)) (co := co) (px := (rchA was co (rchA was co st (Int32.ofNat (st.2.getD k 0 % 32) + 1) (Int32.ofNat (st.2.getD k 0 / 32))) (Int32.ofNat (st.2.getD k 0 % 32) - 1) (Int32.ofNat (st.2.getD k 0 / 32))).1) (q := (rchA was co (rchA was co st (Int32.ofNat (st.2.getD k 0 % 32) + 1) (Int32.ofNat (st.2.getD k 0 / 32))) (Int32.ofNat (st.2.getD k 0 % 32) - 1) (Int32.ofNat (st.2.getD k 0 / 32))).2) hn I2 l2
      have I4 := rchA_I (a := (Int32.ofNat (st.2.getD k 0 % 32))) (b := (Int32.ofNat (st.2.getD k 0 / 32) - 1)) (st := (rchA was co (rchA was co (rchA was co st (Int32.ofNat (st.2.getD k 0 % 32) + 1) (Int32.ofNat (st.2.getD k 0 / 32))) (Int32.ofNat (st.2.getD k 0 % 32) - 1) (Int32.ofNat (st.2.getD k 0 / 32))) (Int32.ofNat (st.2.getD k 0 % 32)) (Int32.ofNat (st.2.getD k 0 / 32) + 1))) hne I3
      obtain ⟨g4, l4, e4⟩ := c_reach (dd := dd) (scr := scr) (kd := kd) (S0 := S0) (a35 := a35) (a36 := a36) (a37 := a37) (a38 := a38) (a39 := a39) (a40 := a40) (a41 := a41) (a := (Int32.ofNat (st.2.getD k 0 % 32))) (b := (Int32.ofNat (st.2.getD k 0 / 32) - 1)) (co := co) (px := (rchA was co (rchA was co (rchA was co st (Int32.ofNat (st.2.getD k 0 % 32) + 1) (Int32.ofNat (st.2.getD k 0 / 32))) (Int32.ofNat (st.2.getD k 0 % 32) - 1) (Int32.ofNat (st.2.getD k 0 / 32))) (Int32.ofNat (st.2.getD k 0 % 32)) (Int32.ofNat (st.2.getD k 0 / 32) + 1)).1) (q := (rchA was co (rchA was co (rchA was co st (Int32.ofNat (st.2.getD k 0 % 32) + 1) (Int32.ofNat (st.2.getD k 0 / 32))) (Int32.ofNat (st.2.getD k 0 % 32) - 1) (Int32.ofNat (st.2.getD k 0 / 32))) (Int32.ofNat (st.2.getD k 0 % 32)) (Int32.ofNat (st.2.getD k 0 / 32) + 1)).2) hn I3 l3
      obtain ⟨g', l5, e5⟩ := c_fill_loop hn hne f (k + 1) (allA was co st (nbrC (st.2.getD k 0))) g4 I4 l4 (Nat.le_trans hq (allA_len (l := nbrC (st.2.getD k 0)))) (by omega)
      refine ⟨g', l5, ?_⟩

      refine eS rfl rfl ?_
      refine eS rfl rfl ?_
      refine gGet hn rfl rfl rfl rfl ?_
      refine eIGe rfl rfl (fun z => absurd ((i32_le (a := st.2.length) (b := k) (by omega) (by omega)).mp z) (by omega)) (fun _ => ?_)
      refine eS rfl rfl ?_
      refine eS rfl rfl ?_
      refine gGet hn rfl rfl rfl rfl ?_
      refine gLen hn rfl rfl rfl ?_
      rw [show ((cS S0 a35 a36 a37 a38 a39 a40 a41 (kPi (Int32.ofNat st.2.length)) (st.1.map Value.int) (qA st.2 g)) 44).length = 768 from qA_len.trans hg]
      refine eIGe rfl rfl (fun z => absurd ((i32_le (a := 768) (b := k) (by decide) (by omega)).mp z) (by omega)) (fun _ => ?_)
      refine eS rfl rfl ?_
      refine gGet hn rfl rfl rfl rfl ?_
      refine eS rfl rfl ?_
      refine gRd0 hn rfl rfl rfl k (by omega) (qA_get hq) ?_
      refine eS rfl rfl ?_
      refine eP rfl (irem_ok (by rw [show (Int8.ofInt 32).toInt32 = Int32.ofNat 32 from rfl]; exact i32_ne0 (by decide) (by decide))) ?_
      rw [show Int32.ofNat (st.2.getD k 0) % (Int8.ofInt 32).toInt32 = Int32.ofNat (st.2.getD k 0 % 32) from i32_rem (m := 32) (by omega) (by decide) (by decide)]
      refine eS rfl rfl ?_
      refine eS rfl rfl ?_
      refine gGet hn rfl rfl rfl rfl ?_
      refine eS rfl rfl ?_
      refine gRd0 hn rfl rfl rfl k (by omega) (qA_get hq) ?_
      refine eS rfl rfl ?_
      refine eP rfl (idiv_ok (by rw [show (Int8.ofInt 32).toInt32 = Int32.ofNat 32 from rfl]; exact i32_ne0 (by decide) (by decide))) ?_
      rw [show Int32.ofNat (st.2.getD k 0) / (Int8.ofInt 32).toInt32 = Int32.ofNat (st.2.getD k 0 / 32) from i32_quo (m := 32) (by omega) (by decide) (by decide)]
      refine eS rfl rfl ?_
      refine eS rfl rfl ?_
      refine eS rfl rfl ?_
      refine eS rfl rfl ?_
      refine eS rfl rfl ?_
      refine eS rfl rfl ?_
      refine eS rfl rfl ?_
      refine eS rfl rfl ?_
      refine gV1 hn rfl rfl rfl rfl rfl ⟨catOk rfl, catOk rfl⟩ (e1) ?_
      refine eS rfl rfl ?_
      refine eS rfl rfl ?_
      refine eS rfl rfl ?_
      refine eS rfl rfl ?_
      refine eS rfl rfl ?_
      refine eS rfl rfl ?_
      refine eS rfl rfl ?_
      refine gV1 hn rfl rfl rfl rfl rfl ⟨catOk rfl, catOk rfl⟩ (e2) ?_
      refine eS rfl rfl ?_
      refine eS rfl rfl ?_
      refine eS rfl rfl ?_
      refine eS rfl rfl ?_
      refine eS rfl rfl ?_
      refine eS rfl rfl ?_
      refine eS rfl rfl ?_
      refine gV1 hn rfl rfl rfl rfl rfl ⟨catOk rfl, catOk rfl⟩ (e3) ?_
      refine eS rfl rfl ?_
      refine eS rfl rfl ?_
      refine eS rfl rfl ?_
      refine eS rfl rfl ?_
      refine eS rfl rfl ?_
      refine eS rfl rfl ?_
      refine eS rfl rfl ?_
      refine gV1 hn rfl rfl rfl rfl rfl ⟨catOk rfl, catOk rfl⟩ (e4) ?_
      refine eS rfl rfl ?_
      refine eS rfl rfl ?_
      refine eLoc (l' := [(0, .ref 42), (3, .int co), (4, .int was), (5, .int (Int32.ofNat (k + 1)))]) rfl ⟨rfl, rfl, rfl, congrArg (fun z => some (Value.int z)) i32_succ, trivial⟩ ?_
      exact e5
    · have e : bfsA nbrC was co (f + 1) k st = st := if_neg hq
      rw [e]
      refine ⟨g, hg, ?_⟩
      refine eS rfl rfl ?_
      refine eS rfl rfl ?_
      refine gGet hn rfl rfl rfl rfl ?_
      refine eIGe rfl rfl (fun _ => ?_) (fun z => absurd ((i32_le (a := st.2.length) (b := k) (by omega) (by omega)).mpr (by omega)) z)
      exact eR rfl rfl ⟨rfl, rfl⟩
theorem pixOf_il {px : List Int32} (hl : px.length = 768) : pixOf (px.map Value.int) a b = if inB a b then px.getD (ixB a b) 0 else -1 := by
  unfold pixOf
  cases hb : inB a b with
  | true =>
    have := (inB_ix hb).1
    have e : (px.map Value.int)[32 * b.toNatClampNeg + a.toNatClampNeg]? = some (.int (px.getD (ixB a b) 0)) := il_get (k := ixB a b) (by omega)
    simp only [if_true, e]
  | false => rfl
theorem il_ints {px : List Int32} : aInts (px.map Value.int) := fun j v h => by
  rw [List.getElem?_map] at h
  obtain ⟨x, -, rfl⟩ := Option.map_eq_some_iff.mp h
  exact ⟨x, rfl⟩
theorem c_colourAt {rc : Int32} {px : List Int32} (hn : 67 ≤ n) (hl : px.length = 768) : aE aM29 (dd + 1) 0 [(0, .ref 42), (1, .int a), (2, .int b)] [] (gH scr kd n (cS S0 a35 a36 a37 a38 a39 a40 a41 (kPi rc) (px.map Value.int) a44)) (aIs (some (.int (if inB a b then px.getD (ixB a b) 0 else -1))) (gH scr kd n (cS S0 a35 a36 a37 a38 a39 a40 a41 (kPi rc) (px.map Value.int) a44))) := by
  have := s_colourAt (d := dd) (a := a) (b := b) (gH_at (scr := scr) (kd := kd) (n := n) (S := cS S0 a35 a36 a37 a38 a39 a40 a41 (kPi rc) (px.map Value.int) a44) (p := 42) (by decide) (by omega)) (pl := px.map Value.int) rfl (gH_at (p := 43) (by decide) (by omega)) (by rw [List.length_map]; exact hl) il_ints
  rw [pixOf_il hl] at this
  exact this
theorem c_fillFrom {rc : Int32} {px : List Int32} (hn : 67 ≤ n) (hl : px.length = 768) (ha : a44.length = 768) (hp : ∀ c ∈ px, c ≠ -1) : ∃ rc' a44', a44'.length = 768 ∧ aE aM142 (dd + 2) 0 [(0, .ref 42), (1, .int a), (2, .int b), (3, .int co)] [] (gH scr kd n (cS S0 a35 a36 a37 a38 a39 a40 a41 (kPi rc) (px.map Value.int) a44)) (aIs none (gH scr kd n (cS S0 a35 a36 a37 a38 a39 a40 a41 (kPi rc') ((filA nbrC px a b co).1.map Value.int) a44'))) := by
  cases hb : inB a b with
  | false =>
    have e : filA nbrC px a b co = (px, []) := if_neg (by rw [hb]; simp)
    rw [e]
    refine ⟨rc, a44, ha, ?_⟩
    refine eS rfl rfl ?_
    refine eS rfl rfl ?_
    refine eS rfl rfl ?_
    refine gV1 hn rfl rfl rfl rfl rfl ⟨catOk rfl, catOk rfl⟩ (c_colourAt hn hl) ?_
    rw [hb]
    refine eS rfl rfl ?_
    refine eS rfl rfl ?_
    refine eS rfl rfl ?_
    refine eIEq rfl rfl (fun _ => ?_) (fun z => absurd rfl z)
    exact eR rfl rfl ⟨rfl, rfl⟩
  | true =>
    have hi := (inB_ix hb).1
    have hm : px.getD (ixB a b) 0 ≠ -1 := by
      rw [List.getD_eq_getElem?_getD, List.getElem?_eq_getElem (by omega)]
      exact hp _ (List.getElem_mem _)
    by_cases hc : px.getD (ixB a b) 0 = co
    · have e : filA nbrC px a b co = (px, []) := if_neg (by rw [hb, hc]; simp)
      rw [e]
      refine ⟨rc, a44, ha, ?_⟩
      refine eS rfl rfl ?_
      refine eS rfl rfl ?_
      refine eS rfl rfl ?_
      refine gV1 hn rfl rfl rfl rfl rfl ⟨catOk rfl, catOk rfl⟩ (c_colourAt hn hl) ?_
      rw [hb]
      refine eS rfl rfl ?_
      refine eS rfl rfl ?_
      refine eS rfl rfl ?_
      refine eIEq rfl rfl (fun z => absurd z hm) (fun _ => ?_)
      refine eS rfl rfl ?_
      refine eS rfl rfl ?_
      refine eINe rfl rfl (fun z => absurd hc z) (fun _ => ?_)
      exact eR rfl rfl ⟨rfl, rfl⟩
    · have e : filA nbrC px a b co = bfsA nbrC (px.getD (ixB a b) 0) co 769 0 (rchA (px.getD (ixB a b) 0) co (px, []) a b) := if_pos (by rw [hb]; simp only [Bool.true_and, bne_iff_ne]; exact hc)
      rw [e]
      have I0 : filI (px.getD (ixB a b) 0) (px, []) := ⟨hl, by have := List.count_le_length (a := px.getD (ixB a b) 0) (l := px); simp only [List.length_nil]; omega, fun q hq => by cases hq⟩
      obtain ⟨g1, l1, e1⟩ := c_reach (dd := dd) (scr := scr) (kd := kd) (S0 := S0) (a35 := a35) (a36 := a36) (a37 := a37) (a38 := a38) (a39 := a39) (a40 := a40) (a41 := a41) (a := a) (b := b) (co := co) (px := px) (q := []) (g := a44) hn I0 (by rw [ha]; rfl)
      obtain ⟨g2, l2, e2⟩ := c_fill_loop (dd := dd) (scr := scr) (kd := kd) (S0 := S0) (a35 := a35) (a36 := a36) (a37 := a37) (a38 := a38) (a39 := a39) (a40 := a40) (a41 := a41) hn hc 769 0 _ g1 (rchA_I hc I0) l1 (Nat.zero_le _) (by omega)
      refine ⟨Int32.ofNat (bfsA nbrC (px.getD (ixB a b) 0) co 769 0 (rchA (px.getD (ixB a b) 0) co (px, []) a b)).2.length, qA _ g2, qA_len.trans l2, ?_⟩
      refine eS rfl rfl ?_
      refine eS rfl rfl ?_
      refine eS rfl rfl ?_
      refine gV1 hn rfl rfl rfl rfl rfl ⟨catOk rfl, catOk rfl⟩ (c_colourAt hn hl) ?_
      rw [hb]
      refine eS rfl rfl ?_
      refine eS rfl rfl ?_
      refine eS rfl rfl ?_
      refine eIEq rfl rfl (fun z => absurd z hm) (fun _ => ?_)
      refine eS rfl rfl ?_
      refine eS rfl rfl ?_
      refine eINe rfl rfl (fun _ => ?_) (fun z => absurd z hc)
      refine eS rfl rfl ?_
      refine eS rfl rfl ?_
      refine gPut hn rfl rfl rfl rfl rfl rfl rfl cS_42 ?_
      refine eS rfl rfl ?_
      refine eS rfl rfl ?_
      refine eS rfl rfl ?_
      refine eS rfl rfl ?_
      refine eS rfl rfl ?_
      refine gV1 hn rfl rfl rfl rfl rfl ⟨catOk rfl, catOk rfl⟩ (e1) ?_
      refine eS rfl rfl ?_
      refine eS rfl rfl ?_
      refine eLoc (l' := [(0, .ref 42), (3, .int co), (4, .int (px.getD (ixB a b) 0)), (5, .int (Int32.ofNat 0))]) rfl ⟨rfl, rfl, rfl, rfl, trivial⟩ ?_
      exact e2
end CFILL2
