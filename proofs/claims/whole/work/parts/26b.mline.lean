/-! a line, on the model's side -/
section MLINE
variable {scr : List Value} {kd : Nat → Nat} {n : Nat} {S0 : Nat → List Value} {a77 a78 a79 a80 a81 a82 a83 : List Value} {w : Nat → Value} {nn pc en hi un hd co dn : Int32} {x y : UInt32} {dd : Nat}
def mlL (u v c d : Int) (a b e : Int) : aLc := [(0, .ref 56), (3, .int (Int32.ofInt c)), (4, .int (Int32.ofInt d)), (5, .int (Int32.ofInt a)), (6, .int (Int32.ofInt b)), (7, .int (Int32.ofInt u)), (8, .int (Int32.ofInt v)), (9, .int (Int32.ofInt e))]
theorem m_line_loop {u v c d : Int} (hn : 67 ≤ n) (hu : u ≤ 10000) (hv : v ≤ 10000) (hc : c.natAbs ≤ 10000) (hdd : d.natAbs ≤ 10000) : ∀ (m : Nat) (a b e U V : Int) (px : List Int32), px.length = 768 → lnI c d u v a b e U V → U + V ≤ m →
    aE aM220 (dd + 3) 62 (mlL u v c d a b e) [] (gH scr kd n (mS S0 (mM w nn pc en hi un x y hd co dn) a77 a78 a79 a80 a81 (px.map Value.int) a83)) (aIs none (gH scr kd n (mS S0 (mM w nn pc en hi un x y hd co dn) a77 a78 a79 a80 a81 ((lineA c d u v co m a b e px).map Value.int) a83))) := by
  intro m
  induction m with
  | zero =>
    intro a b e U V px hl hI h2
    obtain ⟨g1, g2, g3, g4, g5, g6, g7⟩ := hI
    obtain rfl : a = c := by omega
    obtain rfl : b = d := by omega
    refine eS rfl rfl ?_
    refine eS rfl rfl ?_
    refine eINe rfl rfl (fun z => absurd rfl z) (fun _ => ?_)
    refine eS rfl rfl ?_
    refine eS rfl rfl ?_
    refine eIEq rfl rfl (fun _ => ?_) (fun z => absurd rfl z)
    exact eR rfl rfl ⟨rfl, rfl⟩
  | succ m IH =>
    intro a b e U V px hl hI h2
    obtain ⟨n1, n2, n3, n4⟩ := lnI_num hI hu hv
    by_cases hs : a = c ∧ b = d
    · obtain ⟨rfl, rfl⟩ := hs
      unfold lineA
      rw [if_pos ⟨rfl, rfl⟩]
      refine eS rfl rfl ?_
      refine eS rfl rfl ?_
      refine eINe rfl rfl (fun z => absurd rfl z) (fun _ => ?_)
      refine eS rfl rfl ?_
      refine eS rfl rfl ?_
      refine eIEq rfl rfl (fun _ => ?_) (fun z => absurd rfl z)
      exact eR rfl rfl ⟨rfl, rfl⟩
    · obtain ⟨U', V', hlt, hI'⟩ := lnI_step hI hu hv hs
      unfold lineA
      rw [if_neg hs]
      obtain ⟨g1, g2, g3, g4, g5, g6, g7⟩ := hI
      have bA : a.natAbs ≤ 30000 := by omega
      have bB : b.natAbs ≤ 30000 := by omega
      have I1 := hI'.1
      have I2 := hI'.2.1
      generalize hA : (if -v < 2 * e then towA a c else a) = A at *
      generalize hB : (if 2 * e < u then towA b d else b) = B at *
      generalize hE : (if -v < 2 * e then e - v else e) = E1 at *
      generalize hF : E1 + (if 2 * e < u then u else 0) = E2 at *
      have fin : aE aM220 (dd + 3) 127 (mlL u v c d A B E2) [] (gH scr kd n (mS S0 (mM w nn pc en hi un x y hd co dn) a77 a78 a79 a80 a81 (px.map Value.int) a83)) (aIs none (gH scr kd n (mS S0 (mM w nn pc en hi un x y hd co dn) a77 a78 a79 a80 a81 ((lineA c d u v co m A B E2 (dotA px (Int32.ofInt A) (Int32.ofInt B) co)).map Value.int) a83))) := by
        refine eS rfl rfl ?_
        refine eS rfl rfl ?_
        refine eS rfl rfl ?_
        refine gV1 hn rfl rfl rfl rfl rfl ⟨catOk rfl, catOk rfl⟩ (m_dot hn hl) ?_
        refine eS rfl rfl ?_
        exact IH A B _ U' V' _ (dotA_len.trans hl) hI' (by omega)
      have mid : aE aM220 (dd + 3) 104 [(0, .ref 56), (3, .int (Int32.ofInt c)), (4, .int (Int32.ofInt d)), (5, .int (Int32.ofInt A)), (6, .int (Int32.ofInt b)), (7, .int (Int32.ofInt u)), (8, .int (Int32.ofInt v)), (9, .int (Int32.ofInt E1)), (10, .int (Int32.ofInt (2 * e)))] [] (gH scr kd n (mS S0 (mM w nn pc en hi un x y hd co dn) a77 a78 a79 a80 a81 (px.map Value.int) a83)) (aIs none (gH scr kd n (mS S0 (mM w nn pc en hi un x y hd co dn) a77 a78 a79 a80 a81 ((lineA c d u v co m A B E2 (dotA px (Int32.ofInt A) (Int32.ofInt B) co)).map Value.int) a83))) := by
        refine eS rfl rfl ?_
        refine eS rfl rfl ?_
        refine eIGe rfl rfl (fun z108 => ?_) (fun z108 => ?_)
        · have c2 : ¬ 2 * e < u := fun y => Int32.not_le.mpr ((zi_lt (by omega) (by omega)).mpr y) z108
          rw [if_neg c2] at hB hF
          rw [Int.add_zero] at hF
          subst hB hF
          exact eLoc (l' := mlL u v c d A b E1) rfl ⟨rfl, rfl, rfl, rfl, rfl, rfl, rfl, rfl, trivial⟩ fin
        · have c2 : 2 * e < u := Decidable.of_not_not (fun y => z108 (Int32.not_lt.mp (fun q => y ((zi_lt (by omega) (by omega)).mp q))))
          rw [if_pos c2] at hB hF
          subst hB hF
          refine eS rfl rfl ?_
          refine eS rfl rfl ?_
          refine eS rfl rfl ?_
          refine eS rfl rfl ?_
          refine eS rfl rfl ?_
          refine eS rfl rfl ?_
          refine eC1 rfl rfl rfl ⟨catOk rfl, catOk rfl⟩ (m_toward (by omega) (by omega)) ?_
          refine eS rfl rfl ?_
          exact eLoc (l' := mlL u v c d A (towA b d) (E1 + u)) rfl ⟨rfl, rfl, rfl, rfl, rfl, rfl, rfl, congrArg (fun z => some (Value.int z)) zi_add, trivial⟩ fin
      have top : aE aM220 (dd + 3) 75 (mlL u v c d a b e) [] (gH scr kd n (mS S0 (mM w nn pc en hi un x y hd co dn) a77 a78 a79 a80 a81 (px.map Value.int) a83)) (aIs none (gH scr kd n (mS S0 (mM w nn pc en hi un x y hd co dn) a77 a78 a79 a80 a81 ((lineA c d u v co m A B E2 (dotA px (Int32.ofInt A) (Int32.ofInt B) co)).map Value.int) a83))) := by
        refine eS rfl rfl ?_
        refine eS rfl rfl ?_
        refine eS rfl rfl ?_
        rw [show (Int32.ofInt 2) * Int32.ofInt e = Int32.ofInt (2 * e) from zi_mul]
        refine eS rfl rfl ?_
        refine eS rfl rfl ?_
        refine eS rfl rfl ?_
        refine eS rfl rfl ?_
        rw [zi_neg]
        refine eILe rfl rfl (fun z86 => ?_) (fun z86 => ?_)
        · have c1 : ¬ -v < 2 * e := fun y => Int32.not_le.mpr ((zi_lt (by omega) (by omega)).mpr y) z86
          rw [if_neg c1] at hA hE
          subst hA hE
          exact eLoc (l' := [(0, .ref 56), (3, .int (Int32.ofInt c)), (4, .int (Int32.ofInt d)), (5, .int (Int32.ofInt a)), (6, .int (Int32.ofInt b)), (7, .int (Int32.ofInt u)), (8, .int (Int32.ofInt v)), (9, .int (Int32.ofInt e)), (10, .int (Int32.ofInt (2 * e)))]) rfl ⟨rfl, rfl, rfl, rfl, rfl, rfl, rfl, rfl, rfl, trivial⟩ mid
        · have c1 : -v < 2 * e := Decidable.of_not_not (fun y => z86 (Int32.not_lt.mp (fun q => y ((zi_lt (by omega) (by omega)).mp q))))
          rw [if_pos c1] at hA hE
          subst hA hE
          refine eS rfl rfl ?_
          refine eS rfl rfl ?_
          refine eS rfl rfl ?_
          refine eS rfl rfl ?_
          refine eS rfl rfl ?_
          refine eS rfl rfl ?_
          refine eC1 rfl rfl rfl ⟨catOk rfl, catOk rfl⟩ (m_toward (by omega) (by omega)) ?_
          refine eS rfl rfl ?_
          exact eLoc (l' := [(0, .ref 56), (3, .int (Int32.ofInt c)), (4, .int (Int32.ofInt d)), (5, .int (Int32.ofInt (towA a c))), (6, .int (Int32.ofInt b)), (7, .int (Int32.ofInt u)), (8, .int (Int32.ofInt v)), (9, .int (Int32.ofInt (e - v))), (10, .int (Int32.ofInt (2 * e)))]) rfl ⟨rfl, rfl, rfl, rfl, rfl, rfl, rfl, congrArg (fun z => some (Value.int z)) zi_sub, rfl, trivial⟩ mid
      refine eS rfl rfl ?_
      refine eS rfl rfl ?_
      refine eINe rfl rfl (fun z65 => ?_) (fun z65 => ?_)
      · exact top
      · refine eS rfl rfl ?_
        refine eS rfl rfl ?_
        refine eIEq rfl rfl (fun z => absurd ⟨(zi_eq (a := a) (b := c) (by omega) (by omega)).mp z65, (zi_eq (a := b) (b := d) (by omega) (by omega)).mp z⟩ hs) (fun _ => ?_)
        exact top
theorem m_line {a b c d : Int} {px : List Int32} (hn : 67 ≤ n) (hl : px.length = 768) (ha : a.natAbs ≤ 5000) (hb : b.natAbs ≤ 5000) (hc : c.natAbs ≤ 5000) (hdd : d.natAbs ≤ 5000) : aE aM220 (dd + 3) 0 [(0, .ref 56), (1, .int (Int32.ofInt a)), (2, .int (Int32.ofInt b)), (3, .int (Int32.ofInt c)), (4, .int (Int32.ofInt d))] [] (gH scr kd n (mS S0 (mM w nn pc en hi un x y hd co dn) a77 a78 a79 a80 a81 (px.map Value.int) a83)) (aIs none (gH scr kd n (mS S0 (mM w nn pc en hi un x y hd co dn) a77 a78 a79 a80 a81 ((linA px a b c d co).map Value.int) a83))) := by
  have hI := lnI_0 (a := a) (b := b) (c := c) (d := d)
  have fin : aE aM220 (dd + 3) 47 [(0, .ref 56), (3, .int (Int32.ofInt c)), (4, .int (Int32.ofInt d)), (5, .int (Int32.ofInt a)), (6, .int (Int32.ofInt b)), (7, .int (Int32.ofInt (c - a).natAbs)), (8, .int (Int32.ofInt (d - b).natAbs))] [] (gH scr kd n (mS S0 (mM w nn pc en hi un x y hd co dn) a77 a78 a79 a80 a81 (px.map Value.int) a83)) (aIs none (gH scr kd n (mS S0 (mM w nn pc en hi un x y hd co dn) a77 a78 a79 a80 a81 ((linA px a b c d co).map Value.int) a83))) := by
    refine eS rfl rfl ?_
    refine eS rfl rfl ?_
    refine eS rfl rfl ?_
    rw [zi_sub]
    refine eS rfl rfl ?_
    refine eS rfl rfl ?_
    refine eS rfl rfl ?_
    refine eS rfl rfl ?_
    refine gV1 hn rfl rfl rfl rfl rfl ⟨catOk rfl, catOk rfl⟩ (m_dot hn hl) ?_
    refine eLoc (l' := mlL (c - a).natAbs (d - b).natAbs c d a b (((c - a).natAbs : Int) - ((d - b).natAbs : Int))) rfl ⟨rfl, rfl, rfl, rfl, rfl, rfl, rfl, rfl, trivial⟩ ?_
    exact m_line_loop hn (by omega) (by omega) (by omega) (by omega) _ a b _ _ _ _ (dotA_len.trans hl) hI (by omega)
  have mid : aE aM220 (dd + 3) 25 [(0, .ref 56), (3, .int (Int32.ofInt c)), (4, .int (Int32.ofInt d)), (5, .int (Int32.ofInt a)), (6, .int (Int32.ofInt b)), (7, .int (Int32.ofInt (c - a).natAbs))] [] (gH scr kd n (mS S0 (mM w nn pc en hi un x y hd co dn) a77 a78 a79 a80 a81 (px.map Value.int) a83)) (aIs none (gH scr kd n (mS S0 (mM w nn pc en hi un x y hd co dn) a77 a78 a79 a80 a81 ((linA px a b c d co).map Value.int) a83))) := by
    refine eS rfl rfl ?_
    refine eS rfl rfl ?_
    refine eIGe rfl rfl (fun z29 => ?_) (fun z29 => ?_)
    · refine eS rfl rfl ?_
      refine eS rfl rfl ?_
      refine eS rfl rfl ?_
      refine eS rfl rfl ?_
      exact eLoc (l' := [(0, .ref 56), (3, .int (Int32.ofInt c)), (4, .int (Int32.ofInt d)), (5, .int (Int32.ofInt a)), (6, .int (Int32.ofInt b)), (7, .int (Int32.ofInt (c - a).natAbs)), (8, .int (Int32.ofInt (d - b).natAbs))]) rfl ⟨rfl, rfl, rfl, rfl, rfl, rfl, congrArg (fun z => some (Value.int z)) (zi_sub.trans (congrArg Int32.ofInt (by have := mt (zi_lt (a := b) (b := d) (by omega) (by omega)).mpr (Int32.not_lt.mpr z29); omega))), trivial⟩ fin
    · refine eS rfl rfl ?_
      refine eS rfl rfl ?_
      refine eS rfl rfl ?_
      refine eS rfl rfl ?_
      refine eS rfl rfl ?_
      exact eLoc (l' := [(0, .ref 56), (3, .int (Int32.ofInt c)), (4, .int (Int32.ofInt d)), (5, .int (Int32.ofInt a)), (6, .int (Int32.ofInt b)), (7, .int (Int32.ofInt (c - a).natAbs)), (8, .int (Int32.ofInt (d - b).natAbs))]) rfl ⟨rfl, rfl, rfl, rfl, rfl, rfl, congrArg (fun z => some (Value.int z)) (zi_sub.trans (congrArg Int32.ofInt (by have := (zi_lt (a := b) (b := d) (by omega) (by omega)).mp (Int32.not_le.mp z29); omega))), trivial⟩ fin
  refine eS rfl rfl ?_
  refine eS rfl rfl ?_
  refine eS rfl rfl ?_
  refine eS rfl rfl ?_
  refine eS rfl rfl ?_
  refine eS rfl rfl ?_
  refine eIGe rfl rfl (fun z9 => ?_) (fun z9 => ?_)
  · refine eS rfl rfl ?_
    refine eS rfl rfl ?_
    refine eS rfl rfl ?_
    refine eS rfl rfl ?_
    exact eLoc (l' := [(0, .ref 56), (3, .int (Int32.ofInt c)), (4, .int (Int32.ofInt d)), (5, .int (Int32.ofInt a)), (6, .int (Int32.ofInt b)), (7, .int (Int32.ofInt (c - a).natAbs))]) rfl ⟨rfl, rfl, rfl, rfl, rfl, congrArg (fun z => some (Value.int z)) (zi_sub.trans (congrArg Int32.ofInt (by have := mt (zi_lt (a := a) (b := c) (by omega) (by omega)).mpr (Int32.not_lt.mpr z9); omega))), trivial⟩ mid
  · refine eS rfl rfl ?_
    refine eS rfl rfl ?_
    refine eS rfl rfl ?_
    refine eS rfl rfl ?_
    refine eS rfl rfl ?_
    exact eLoc (l' := [(0, .ref 56), (3, .int (Int32.ofInt c)), (4, .int (Int32.ofInt d)), (5, .int (Int32.ofInt a)), (6, .int (Int32.ofInt b)), (7, .int (Int32.ofInt (c - a).natAbs))]) rfl ⟨rfl, rfl, rfl, rfl, rfl, congrArg (fun z => some (Value.int z)) (zi_sub.trans (congrArg Int32.ofInt (by have := (zi_lt (a := a) (b := c) (by omega) (by omega)).mp (Int32.not_le.mp z9); omega))), trivial⟩ mid
end MLINE
