/-! locals in another order -/
def lkA (l : aLc) : aLc → Prop
  | [] => True
  | q :: t => aGet l q.1 = some q.2 ∧ lkA l t
def ndB : List Nat → Bool
  | [] => true
  | a :: l => !(l.contains a) && ndB l
theorem ndB_ok : ∀ {l : List Nat}, ndB l = true → l.Nodup
  | [], _ => List.nodup_nil
  | a :: l, h => by
    unfold ndB at h
    rw [Bool.and_eq_true, Bool.not_eq_true', List.contains_eq_mem, decide_eq_false_iff_not] at h
    exact List.nodup_cons.mpr ⟨h.1, ndB_ok h.2⟩
theorem lkA_mem {l : aLc} : ∀ {l' : aLc}, lkA l l' → ∀ q ∈ l', q ∈ l
  | [], _, q, hq => by cases hq
  | p :: t, h, q, hq => by
    rcases List.mem_cons.mp hq with rfl | hq
    · exact aGet_at h.1
    · exact lkA_mem h.2 q hq
theorem eLoc {M : aMt} {d pc : Nat} {st : List Value} {h : aH} {Q : aOut → aH → Prop} {l' l : aLc} (hn : ndB (l.map (·.1)) = true) (hl : lkA l l') (k : aE M d pc l' st h Q) : aE M d pc l st h Q := aE.less ⟨lkA_mem hl, ndB_ok hn⟩ k
/-! whole numbers with a sign -/
theorem zi_add {a b : Int} : Int32.ofInt a + Int32.ofInt b = Int32.ofInt (a + b) := (Int32.ofInt_add ..).symm
theorem zi_sub {a b : Int} : Int32.ofInt a - Int32.ofInt b = Int32.ofInt (a - b) := (Int32.ofInt_sub ..).symm
theorem zi_mul {a b : Int} : Int32.ofInt a * Int32.ofInt b = Int32.ofInt (a * b) := (Int32.ofInt_mul ..).symm
theorem zi_neg {a : Int} : - Int32.ofInt a = Int32.ofInt (-a) := (Int32.ofInt_neg ..).symm
theorem zi_toInt {a : Int} (h : a.natAbs < 2 ^ 31) : (Int32.ofInt a).toInt = a := Int32.toInt_ofInt_of_le (by omega) (by omega)
theorem zi_lt {a b : Int} (ha : a.natAbs < 2 ^ 31) (hb : b.natAbs < 2 ^ 31) : Int32.ofInt a < Int32.ofInt b ↔ a < b := by rw [Int32.lt_iff_toInt_lt, zi_toInt ha, zi_toInt hb]
theorem zi_le {a b : Int} (ha : a.natAbs < 2 ^ 31) (hb : b.natAbs < 2 ^ 31) : Int32.ofInt a ≤ Int32.ofInt b ↔ a ≤ b := by rw [Int32.le_iff_toInt_le, zi_toInt ha, zi_toInt hb]
theorem zi_eq {a b : Int} (ha : a.natAbs < 2 ^ 31) (hb : b.natAbs < 2 ^ 31) : Int32.ofInt a = Int32.ofInt b ↔ a = b := by rw [← Int32.toInt_inj, zi_toInt ha, zi_toInt hb]
/-! pictures -/
theorem il_get {l : List Int32} {k : Nat} (h : k < l.length) : (l.map Value.int)[k]? = some (.int (l.getD k 0)) := by
  rw [List.getElem?_map, List.getD_eq_getElem?_getD, List.getElem?_eq_getElem h]
  rfl
theorem il_set {l : List Int32} {k : Nat} {f : Int32} : (l.map Value.int).set k (.int f) = (l.set k f).map Value.int := List.map_set.symm
def ixB (a b : Int32) : Nat := 32 * b.toNatClampNeg + a.toNatClampNeg
def dotA (px : List Int32) (a b co : Int32) : List Int32 := if inB a b then px.set (ixB a b) co else px
theorem dotA_len {px : List Int32} {a b co : Int32} : (dotA px a b co).length = px.length := by
  unfold dotA
  split
  · rw [List.length_set]
  · rfl
theorem inB_ix {a b : Int32} (h : inB a b = true) : ixB a b < 768 ∧ b * (Int8.ofInt 32).toInt32 + a = Int32.ofNat (ixB a b) ∧ (Int8.ofInt 32).toInt32 * b + a = Int32.ofNat (ixB a b) := by
  obtain ⟨p, q, hp, hq, rfl, rfl⟩ := inB_at h
  unfold ixB
  rw [i32_clamp (by omega), i32_clamp (by omega)]
  exact ⟨by omega, pix_a, pix_b⟩
def towA (a c : Int) : Int := if a < c then a + 1 else if c < a then a - 1 else a
def lineA (c d u v : Int) (co : Int32) : Nat → Int → Int → Int → List Int32 → List Int32
  | 0, _, _, _, px => px
  | m + 1, a, b, e, px => if a = c ∧ b = d then px else
    lineA c d u v co m (if -v < 2 * e then towA a c else a) (if 2 * e < u then towA b d else b) ((if -v < 2 * e then e - v else e) + (if 2 * e < u then u else 0))
      (dotA px (Int32.ofInt (if -v < 2 * e then towA a c else a)) (Int32.ofInt (if 2 * e < u then towA b d else b)) co)
theorem lineA_len {c d u v : Int} {co : Int32} : ∀ {m : Nat} {a b e : Int} {px : List Int32}, (lineA c d u v co m a b e px).length = px.length
  | 0, _, _, _, _ => rfl
  | m + 1, a, b, e, px => by
    unfold lineA
    split
    · rfl
    · rw [lineA_len, dotA_len]
/-- what stays as a line goes on: U and V steps are left -/
def lnI (c d u v a b e U V : Int) : Prop := (c - a = U ∨ a - c = U) ∧ (d - b = V ∨ b - d = V) ∧ 0 ≤ U ∧ U ≤ u ∧ 0 ≤ V ∧ V ≤ v ∧ e = u - v + (v - V) * u - (u - U) * v
theorem lnI_num {c d u v a b e U V : Int} (h : lnI c d u v a b e U V) (hu : u ≤ 10000) (hv : v ≤ 10000) : (U = 0 → 0 < V → ¬ -v < 2 * e) ∧ (V = 0 → 0 < U → ¬ 2 * e < u) ∧ (0 < U + V → -v < 2 * e ∨ 2 * e < u) ∧ e.natAbs ≤ 300000000 := by
  obtain ⟨-, -, h1, h2, h3, h4, rfl⟩ := h
  have p1 : 0 ≤ (v - V) * u := Int.mul_nonneg (by omega) (by omega)
  have p2 : 0 ≤ (u - U) * v := Int.mul_nonneg (by omega) (by omega)
  have p3 : (v - V) * u ≤ 10000 * 10000 := Int.mul_le_mul (by omega) (by omega) (by omega) (by omega)
  have p4 : (u - U) * v ≤ 10000 * 10000 := Int.mul_le_mul (by omega) (by omega) (by omega) (by omega)
  refine ⟨fun e0 e1 => ?_, fun e0 e1 => ?_, fun e0 => ?_, by omega⟩
  · subst e0
    have p5 : 0 ≤ (V - 1) * u := Int.mul_nonneg (by omega) (by omega)
    have e3 : (v - V) * u = v * u - u - (V - 1) * u := by rw [Int.sub_mul, Int.sub_mul]; omega
    rw [Int.sub_zero, Int.mul_comm u v]
    omega
  · subst e0
    have p5 : 0 ≤ (U - 1) * v := Int.mul_nonneg (by omega) (by omega)
    have e3 : (u - U) * v = u * v - v - (U - 1) * v := by rw [Int.sub_mul, Int.sub_mul]; omega
    rw [Int.sub_zero, Int.mul_comm v u]
    omega
  · omega
/-- a step of a line -/
theorem lnI_step {c d u v a b e U V : Int} (h : lnI c d u v a b e U V) (hu : u ≤ 10000) (hv : v ≤ 10000) (hn : ¬ (a = c ∧ b = d)) : ∃ U' V', U' + V' < U + V ∧ lnI c d u v (if -v < 2 * e then towA a c else a) (if 2 * e < u then towA b d else b) ((if -v < 2 * e then e - v else e) + (if 2 * e < u then u else 0)) U' V' := by
  obtain ⟨n1, n2, n3, -⟩ := lnI_num h hu hv
  obtain ⟨g1, g2, g3, g4, g5, g6, g7⟩ := h
  have s1 : (v - (V - 1)) * u = (v - V) * u + u := by rw [show v - (V - 1) = (v - V) + 1 by omega, Int.add_mul, Int.one_mul]
  have s2 : (u - (U - 1)) * v = (u - U) * v + v := by rw [show u - (U - 1) = (u - U) + 1 by omega, Int.add_mul, Int.one_mul]
  have hp : 0 < U + V := by omega
  have n4 := n3 hp
  have t1 : -v < 2 * e → 0 < U := fun y => by
    refine Decidable.by_contra (fun z => ?_)
    exact n1 (by omega) (by omega) y
  have t2 : 2 * e < u → 0 < V := fun y => by
    refine Decidable.by_contra (fun z => ?_)
    exact n2 (by omega) (by omega) y
  by_cases c1 : -v < 2 * e
  · have q1 := t1 c1
    by_cases c2 : 2 * e < u
    · have q2 := t2 c2
      rw [if_pos c1, if_pos c2, if_pos c1, if_pos c2]
      refine ⟨U - 1, V - 1, by omega, ?_, ?_, by omega, by omega, by omega, by omega, by rw [s1, s2]; omega⟩
      · unfold towA; split <;> (try split) <;> omega
      · unfold towA; split <;> (try split) <;> omega
    · rw [if_pos c1, if_neg c2, if_pos c1, if_neg c2]
      refine ⟨U - 1, V, by omega, ?_, g2, by omega, by omega, g5, g6, by rw [s2]; omega⟩
      unfold towA; split <;> (try split) <;> omega
  · have c2 : 2 * e < u := n4.resolve_left c1
    have q2 := t2 c2
    rw [if_neg c1, if_pos c2, if_neg c1, if_pos c2]
    refine ⟨U, V - 1, by omega, g1, ?_, g3, g4, by omega, by omega, by rw [s1]; omega⟩
    unfold towA; split <;> (try split) <;> omega
section CLINE
variable {scr : List Value} {kd : Nat → Nat} {n : Nat} {S0 : Nat → List Value} {a35 a36 a37 a38 a39 a40 a41 a42 a43 a44 g : List Value} {dd : Nat} {co rc : Int32} {h : aH} {px : List Int32}
theorem s_abs {a : Int} (ha : a.natAbs < 2 ^ 31) : aE aM136 dd 0 [(0, .int (Int32.ofInt a))] [] h (aIs (some (.int (Int32.ofInt a.natAbs))) h) := by
  refine eS rfl rfl ?_
  refine eGe rfl rfl (fun z1 => ?_) (fun z1 => ?_)
  · refine eS rfl rfl ?_
    exact eR rfl rfl ⟨by rw [show ((a.natAbs : Nat) : Int) = a by have := (zi_le (a := 0) (by decide) ha).mp z1; omega], rfl⟩
  · refine eS rfl rfl ?_
    refine eS rfl rfl ?_
    refine eS rfl rfl ?_
    exact eR rfl rfl ⟨by rw [show ((a.natAbs : Nat) : Int) = -a by have := mt (zi_le (a := 0) (by decide) ha).mpr z1; omega, zi_neg], rfl⟩
theorem c_dot {a b : Int32} (hn : 67 ≤ n) (hl : px.length = 768) : aE aM137 (dd + 1) 0 [(0, .ref 42), (1, .int a), (2, .int b), (3, .int co)] [] (gH scr kd n (cS S0 a35 a36 a37 a38 a39 a40 a41 (kPi rc) (px.map Value.int) a44)) (aIs none (gH scr kd n (cS S0 a35 a36 a37 a38 a39 a40 a41 (kPi rc) ((dotA px a b co).map Value.int) a44))) := by
  cases hb : inB a b with
  | true =>
    obtain ⟨i1, i2, -⟩ := inB_ix hb
    refine eS rfl rfl ?_
    refine eS rfl rfl ?_
    refine eC1 rfl rfl rfl ⟨catOk rfl, catOk rfl⟩ (s_holds) ?_
    rw [hb]
    refine eEq rfl rfl (fun z => absurd z (by decide)) (fun _ => ?_)
    refine eS rfl rfl ?_
    refine gGet hn rfl rfl rfl rfl ?_
    refine eS rfl rfl ?_
    refine eS rfl rfl ?_
    refine eS rfl rfl ?_
    refine eS rfl rfl ?_
    refine eS rfl rfl ?_
    refine eS rfl rfl ?_
    rw [i2]
    refine gWr0 hn rfl rfl rfl (ixB a b) (by omega) (by show ixB a b < (px.map Value.int).length; rw [List.length_map]; omega) (cS_43.trans (congrArg (fun z => cS S0 a35 a36 a37 a38 a39 a40 a41 _ z a44) il_set)) ?_
    exact eR rfl rfl ⟨rfl, by unfold dotA; rw [hb]; rfl⟩
  | false =>
    refine eS rfl rfl ?_
    refine eS rfl rfl ?_
    refine eC1 rfl rfl rfl ⟨catOk rfl, catOk rfl⟩ (s_holds) ?_
    rw [hb]
    refine eEq rfl rfl (fun _ => ?_) (fun z => absurd rfl z)
    exact eR rfl rfl ⟨rfl, by unfold dotA; rw [hb]; rfl⟩
def lnL (u v c d : Int) (co : Int32) (k a b e : Int) : aLc := [(0, .ref 42), (3, .int (Int32.ofInt c)), (4, .int (Int32.ofInt d)), (5, .int co), (6, .int (Int32.ofInt u)), (7, .int (Int32.ofInt v)), (8, .int (Int32.ofInt e)), (9, .int (Int32.ofInt a)), (10, .int (Int32.ofInt b)), (11, .int (Int32.ofInt k))]
theorem c_line_loop {u v c d : Int} (hn : 67 ≤ n) (hu : u ≤ 10000) (hv : v ≤ 10000) (hc : c.natAbs ≤ 10000) (hd : d.natAbs ≤ 10000) : ∀ (m : Nat) (k a b e U V : Int) (px : List Int32), px.length = 768 → lnI c d u v a b e U V → 0 ≤ k → k + (U + V) ≤ u + v → U + V ≤ m →
    aE aM135 (dd + 2) 43 (lnL u v c d co k a b e) [] (gH scr kd n (cS S0 a35 a36 a37 a38 a39 a40 a41 (kPi rc) (px.map Value.int) a44)) (aIs none (gH scr kd n (cS S0 a35 a36 a37 a38 a39 a40 a41 (kPi rc) ((lineA c d u v co m a b e px).map Value.int) a44))) := by
  intro m
  induction m with
  | zero =>
    intro k a b e U V px hl hI hk h1 h2
    obtain ⟨g1, g2, g3, g4, g5, g6, g7⟩ := hI
    obtain rfl : a = c := by omega
    obtain rfl : b = d := by omega
    refine eS rfl rfl ?_
    refine eS rfl rfl ?_
    refine eS rfl rfl ?_
    refine eS rfl rfl ?_
    rw [zi_add]
    refine eIGe rfl rfl (fun z50 => ?_) (fun z50 => ?_)
    · exact eR rfl rfl ⟨rfl, rfl⟩
    · refine eS rfl rfl ?_
      refine eS rfl rfl ?_
      refine eINe rfl rfl (fun z => absurd rfl z) (fun _ => ?_)
      refine eS rfl rfl ?_
      refine eS rfl rfl ?_
      refine eIEq rfl rfl (fun _ => ?_) (fun z => absurd rfl z)
      exact eR rfl rfl ⟨rfl, rfl⟩
  | succ m IH =>
    intro k a b e U V px hl hI hk h1 h2
    obtain ⟨n1, n2, n3, n4⟩ := lnI_num hI hu hv
    by_cases hs : a = c ∧ b = d
    · obtain ⟨rfl, rfl⟩ := hs
      unfold lineA
      rw [if_pos ⟨rfl, rfl⟩]
      refine eS rfl rfl ?_
      refine eS rfl rfl ?_
      refine eS rfl rfl ?_
      refine eS rfl rfl ?_
      rw [zi_add]
      refine eIGe rfl rfl (fun z50 => ?_) (fun z50 => ?_)
      · exact eR rfl rfl ⟨rfl, rfl⟩
      · refine eS rfl rfl ?_
        refine eS rfl rfl ?_
        refine eINe rfl rfl (fun z => absurd rfl z) (fun _ => ?_)
        refine eS rfl rfl ?_
        refine eS rfl rfl ?_
        refine eIEq rfl rfl (fun _ => ?_) (fun z => absurd rfl z)
        exact eR rfl rfl ⟨rfl, rfl⟩
    · obtain ⟨U', V', hlt, hI'⟩ := lnI_step hI hu hv hs
      unfold lineA
      rw [if_neg hs]
      obtain ⟨g1, g2, g3, g4, g5, g6, g7⟩ := hI
      have bA : a.natAbs ≤ 30000 := by omega
      have bB : b.natAbs ≤ 30000 := by omega
      have hk1 : k < u + v := by omega
      have I1 := hI'.1
      have I2 := hI'.2.1
      generalize hA : (if -v < 2 * e then towA a c else a) = A at *
      generalize hB : (if 2 * e < u then towA b d else b) = B at *
      generalize hE : (if -v < 2 * e then e - v else e) = E1 at *
      have fin : aE aM135 (dd + 2) 134 [(0, .ref 42), (3, .int (Int32.ofInt c)), (4, .int (Int32.ofInt d)), (5, .int co), (6, .int (Int32.ofInt u)), (7, .int (Int32.ofInt v)), (8, .int (Int32.ofInt (E1 + (if 2 * e < u then u else 0)))), (9, .int (Int32.ofInt A)), (10, .int (Int32.ofInt B)), (11, .int (Int32.ofInt k))] [] (gH scr kd n (cS S0 a35 a36 a37 a38 a39 a40 a41 (kPi rc) (px.map Value.int) a44)) (aIs none (gH scr kd n (cS S0 a35 a36 a37 a38 a39 a40 a41 (kPi rc) ((lineA c d u v co m A B (E1 + (if 2 * e < u then u else 0)) (dotA px (Int32.ofInt A) (Int32.ofInt B) co)).map Value.int) a44))) := by
        refine eS rfl rfl ?_
        refine eS rfl rfl ?_
        refine eS rfl rfl ?_
        refine eS rfl rfl ?_
        refine gV1 hn rfl rfl rfl rfl rfl ⟨catOk rfl, catOk rfl⟩ (c_dot hn hl) ?_
        refine eS rfl rfl ?_
        refine eS rfl rfl ?_
        refine eLoc (l' := lnL u v c d co (k + 1) A B (E1 + (if 2 * e < u then u else 0))) rfl ⟨rfl, rfl, rfl, rfl, rfl, rfl, rfl, rfl, rfl, congrArg (fun z => some (Value.int z)) zi_add, trivial⟩ ?_
        exact IH (k + 1) A B _ U' V' _ (dotA_len.trans hl) hI' (by omega) (by omega) (by omega)
      have mid : aE aM135 (dd + 2) 103 [(0, .ref 42), (3, .int (Int32.ofInt c)), (4, .int (Int32.ofInt d)), (5, .int co), (6, .int (Int32.ofInt u)), (7, .int (Int32.ofInt v)), (8, .int (Int32.ofInt E1)), (9, .int (Int32.ofInt A)), (10, .int (Int32.ofInt b)), (11, .int (Int32.ofInt k)), (12, .int (Int32.ofInt (2 * e)))] [] (gH scr kd n (cS S0 a35 a36 a37 a38 a39 a40 a41 (kPi rc) (px.map Value.int) a44)) (aIs none (gH scr kd n (cS S0 a35 a36 a37 a38 a39 a40 a41 (kPi rc) ((lineA c d u v co m A B (E1 + (if 2 * e < u then u else 0)) (dotA px (Int32.ofInt A) (Int32.ofInt B) co)).map Value.int) a44))) := by
        refine eS rfl rfl ?_
        refine eS rfl rfl ?_
        refine eIGe rfl rfl (fun z107 => ?_) (fun z107 => ?_)
        · have c2 : ¬ 2 * e < u := fun y => Int32.not_le.mpr ((zi_lt (by omega) (by omega)).mpr y) z107
          rw [if_neg c2] at fin hB ⊢
          subst hB
          rw [Int.add_zero] at fin ⊢
          refine eLoc (l' := [(0, .ref 42), (3, .int (Int32.ofInt c)), (4, .int (Int32.ofInt d)), (5, .int co), (6, .int (Int32.ofInt u)), (7, .int (Int32.ofInt v)), (8, .int (Int32.ofInt E1)), (9, .int (Int32.ofInt A)), (10, .int (Int32.ofInt b)), (11, .int (Int32.ofInt k))]) rfl ⟨rfl, rfl, rfl, rfl, rfl, rfl, rfl, rfl, rfl, rfl, trivial⟩ fin
        · have c2 : 2 * e < u := Decidable.of_not_not (fun y => z107 (Int32.not_lt.mp (fun q => y ((zi_lt (by omega) (by omega)).mp q))))
          rw [if_pos c2] at fin hB ⊢
          subst hB
          refine eS rfl rfl ?_
          refine eS rfl rfl ?_
          refine eS rfl rfl ?_
          refine eS rfl rfl ?_
          refine eS rfl rfl ?_
          refine eS rfl rfl ?_
          refine eS rfl rfl ?_
          refine eIGe rfl rfl (fun z123 => ?_) (fun z123 => ?_)
          · refine eS rfl rfl ?_
            refine eS rfl rfl ?_
            refine eS rfl rfl ?_
            refine eLoc (l' := [(0, .ref 42), (3, .int (Int32.ofInt c)), (4, .int (Int32.ofInt d)), (5, .int co), (6, .int (Int32.ofInt u)), (7, .int (Int32.ofInt v)), (8, .int (Int32.ofInt (E1 + u))), (9, .int (Int32.ofInt A)), (10, .int (Int32.ofInt (towA b d))), (11, .int (Int32.ofInt k))]) rfl ⟨rfl, rfl, rfl, rfl, rfl, rfl, congrArg (fun z => some (Value.int z)) zi_add, rfl, congrArg (fun z => some (Value.int z)) (zi_add.trans (congrArg Int32.ofInt ?_)), rfl, trivial⟩ fin
            have q := mt (zi_lt (a := b) (b := d) (by omega) (by omega)).mpr (Int32.not_lt.mpr z123)
            have q2 : 0 < V := Decidable.by_contra (fun y => n2 (by omega) (by omega) c2)
            unfold towA
            rw [if_neg q, if_pos (by omega)]
            rfl
          · refine eS rfl rfl ?_
            refine eS rfl rfl ?_
            refine eS rfl rfl ?_
            refine eS rfl rfl ?_
            refine eLoc (l' := [(0, .ref 42), (3, .int (Int32.ofInt c)), (4, .int (Int32.ofInt d)), (5, .int co), (6, .int (Int32.ofInt u)), (7, .int (Int32.ofInt v)), (8, .int (Int32.ofInt (E1 + u))), (9, .int (Int32.ofInt A)), (10, .int (Int32.ofInt (towA b d))), (11, .int (Int32.ofInt k))]) rfl ⟨rfl, rfl, rfl, rfl, rfl, rfl, congrArg (fun z => some (Value.int z)) zi_add, rfl, congrArg (fun z => some (Value.int z)) (zi_add.trans (congrArg Int32.ofInt ?_)), rfl, trivial⟩ fin
            unfold towA
            rw [if_pos ((zi_lt (a := b) (b := d) (by omega) (by omega)).mp (Int32.not_le.mp z123))]
      have top : aE aM135 (dd + 2) 66 (lnL u v c d co k a b e) [] (gH scr kd n (cS S0 a35 a36 a37 a38 a39 a40 a41 (kPi rc) (px.map Value.int) a44)) (aIs none (gH scr kd n (cS S0 a35 a36 a37 a38 a39 a40 a41 (kPi rc) ((lineA c d u v co m A B (E1 + (if 2 * e < u then u else 0)) (dotA px (Int32.ofInt A) (Int32.ofInt B) co)).map Value.int) a44))) := by
        refine eS rfl rfl ?_
        refine eS rfl rfl ?_
        refine eS rfl rfl ?_
        rw [show (Int32.ofInt 2) * Int32.ofInt e = Int32.ofInt (2 * e) from zi_mul]
        refine eS rfl rfl ?_
        refine eS rfl rfl ?_
        refine eS rfl rfl ?_
        refine eS rfl rfl ?_
        rw [zi_neg]
        refine eILe rfl rfl (fun z77 => ?_) (fun z77 => ?_)
        · have c1 : ¬ -v < 2 * e := fun y => Int32.not_le.mpr ((zi_lt (by omega) (by omega)).mpr y) z77
          rw [if_neg c1] at hA hE
          subst hA hE
          refine eLoc (l' := [(0, .ref 42), (3, .int (Int32.ofInt c)), (4, .int (Int32.ofInt d)), (5, .int co), (6, .int (Int32.ofInt u)), (7, .int (Int32.ofInt v)), (8, .int (Int32.ofInt e)), (9, .int (Int32.ofInt a)), (10, .int (Int32.ofInt b)), (11, .int (Int32.ofInt k)), (12, .int (Int32.ofInt (2 * e)))]) rfl ⟨rfl, rfl, rfl, rfl, rfl, rfl, rfl, rfl, rfl, rfl, rfl, trivial⟩ mid
        · have c1 : -v < 2 * e := Decidable.of_not_not (fun y => z77 (Int32.not_lt.mp (fun q => y ((zi_lt (by omega) (by omega)).mp q))))
          rw [if_pos c1] at hA hE
          subst hA hE
          refine eS rfl rfl ?_
          refine eS rfl rfl ?_
          refine eS rfl rfl ?_
          refine eS rfl rfl ?_
          refine eS rfl rfl ?_
          refine eS rfl rfl ?_
          refine eS rfl rfl ?_
          refine eIGe rfl rfl (fun z92 => ?_) (fun z92 => ?_)
          · refine eS rfl rfl ?_
            refine eS rfl rfl ?_
            refine eS rfl rfl ?_
            refine eLoc (l' := [(0, .ref 42), (3, .int (Int32.ofInt c)), (4, .int (Int32.ofInt d)), (5, .int co), (6, .int (Int32.ofInt u)), (7, .int (Int32.ofInt v)), (8, .int (Int32.ofInt (e - v))), (9, .int (Int32.ofInt (towA a c))), (10, .int (Int32.ofInt b)), (11, .int (Int32.ofInt k)), (12, .int (Int32.ofInt (2 * e)))]) rfl ⟨rfl, rfl, rfl, rfl, rfl, rfl, congrArg (fun z => some (Value.int z)) zi_sub, congrArg (fun z => some (Value.int z)) (zi_add.trans (congrArg Int32.ofInt ?_)), rfl, rfl, rfl, trivial⟩ mid
            have q := mt (zi_lt (a := a) (b := c) (by omega) (by omega)).mpr (Int32.not_lt.mpr z92)
            have q2 : 0 < U := Decidable.by_contra (fun y => n1 (by omega) (by omega) c1)
            unfold towA
            rw [if_neg q, if_pos (by omega)]
            rfl
          · refine eS rfl rfl ?_
            refine eS rfl rfl ?_
            refine eS rfl rfl ?_
            refine eS rfl rfl ?_
            refine eLoc (l' := [(0, .ref 42), (3, .int (Int32.ofInt c)), (4, .int (Int32.ofInt d)), (5, .int co), (6, .int (Int32.ofInt u)), (7, .int (Int32.ofInt v)), (8, .int (Int32.ofInt (e - v))), (9, .int (Int32.ofInt (towA a c))), (10, .int (Int32.ofInt b)), (11, .int (Int32.ofInt k)), (12, .int (Int32.ofInt (2 * e)))]) rfl ⟨rfl, rfl, rfl, rfl, rfl, rfl, congrArg (fun z => some (Value.int z)) zi_sub, congrArg (fun z => some (Value.int z)) (zi_add.trans (congrArg Int32.ofInt ?_)), rfl, rfl, rfl, trivial⟩ mid
            unfold towA
            rw [if_pos ((zi_lt (a := a) (b := c) (by omega) (by omega)).mp (Int32.not_le.mp z92))]
      refine eS rfl rfl ?_
      refine eS rfl rfl ?_
      refine eS rfl rfl ?_
      refine eS rfl rfl ?_
      rw [zi_add]
      refine eIGe rfl rfl (fun z => absurd ((zi_le (a := u + v) (b := k) (by omega) (by omega)).mp z) (by omega)) (fun _ => ?_)
      refine eS rfl rfl ?_
      refine eS rfl rfl ?_
      refine eINe rfl rfl (fun z56 => ?_) (fun z56 => ?_)
      · exact top
      · refine eS rfl rfl ?_
        refine eS rfl rfl ?_
        refine eIEq rfl rfl (fun z => absurd ⟨(zi_eq (a := a) (b := c) (by omega) (by omega)).mp z56, (zi_eq (a := b) (b := d) (by omega) (by omega)).mp z⟩ hs) (fun _ => ?_)
        exact top
end CLINE
