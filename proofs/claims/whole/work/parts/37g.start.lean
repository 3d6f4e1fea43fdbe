/-! where compile begins -/
section STC
variable {scr : List Value} {kd : Nat → Nat} {n c d L : Nat} {S : Nat → List Value} {s : aSt} {w0 : Nat → Value} {nn wr0 : Int32} {pa pb N : Nat} {h : aH}
theorem len_8 {l : List Value} (h : l.length = 8) : ∃ a0 a1 a2 a3 a4 a5 a6 a7, l = [a0, a1, a2, a3, a4, a5, a6, a7] := by
  match l, h with
  | [a0, a1, a2, a3, a4, a5, a6, a7], _ => exact ⟨_, _, _, _, _, _, _, _, rfl⟩
theorem len_9 {l : List Value} (h : l.length = 9) : ∃ a0 a1 a2 a3 a4 a5 a6 a7 a8, l = [a0, a1, a2, a3, a4, a5, a6, a7, a8] := by
  match l, h with
  | [a0, a1, a2, a3, a4, a5, a6, a7, a8], _ => exact ⟨_, _, _, _, _, _, _, _, _, rfl⟩
theorem len_2 {l : List Value} (h : l.length = 2) : ∃ a0 a1, l = [a0, a1] := by
  match l, h with
  | [a0, a1], _ => exact ⟨_, _, rfl⟩
theorem st20 (hL : aLks S) (h1 : (S 20)[1]? = some (.int (Int32.ofNat L))) (h6 : (S 20)[6]? = some (.ref pa)) (h7 : (S 20)[7]? = some (.ref pb)) (hl : (S 20).length = 8) : S 20 = [.ref 21, .int (Int32.ofNat L), .ref 22, .ref 34, .ref 35, .ref 45, .ref pa, .ref pb] := by
  obtain ⟨a0, a1, a2, a3, a4, a5, a6, a7, e⟩ := len_8 hl
  have q0 : (S 20)[0]? = some (.ref 21) := hL (20, 0, .ref 21) (by decide)
  have q2 : (S 20)[2]? = some (.ref 22) := hL (20, 2, .ref 22) (by decide)
  have q3 : (S 20)[3]? = some (.ref 34) := hL (20, 3, .ref 34) (by decide)
  have q4 : (S 20)[4]? = some (.ref 35) := hL (20, 4, .ref 35) (by decide)
  have q5 : (S 20)[5]? = some (.ref 45) := hL (20, 5, .ref 45) (by decide)
  rw [e] at q0 q2 q3 q4 q5 h1 h6 h7 ⊢
  cases q0; cases q2; cases q3; cases q4; cases q5; cases h1; cases h6; cases h7
  rfl
theorem st22 (hL : aLks S) (hl : (S 22).length = 9) : ∃ a3 a4 a5 a6 a7 a8, S 22 = [.ref 23, .ref 30, .ref 32, a3, a4, a5, a6, a7, a8] := by
  obtain ⟨a0, a1, a2, a3, a4, a5, a6, a7, a8, e⟩ := len_9 hl
  have q0 : (S 22)[0]? = some (.ref 23) := hL (22, 0, .ref 23) (by decide)
  have q1 : (S 22)[1]? = some (.ref 30) := hL (22, 1, .ref 30) (by decide)
  have q2 : (S 22)[2]? = some (.ref 32) := hL (22, 2, .ref 32) (by decide)
  rw [e] at q0 q1 q2 ⊢
  cases q0; cases q1; cases q2
  exact ⟨_, _, _, _, _, _, rfl⟩
theorem st23 (hL : aLks S) (hl : (S 23).length = 8) : ∃ v6 v7, S 23 = [.ref 24, .ref 25, .ref 26, .ref 27, .ref 28, .ref 29, v6, v7] := by
  obtain ⟨a0, a1, a2, a3, a4, a5, a6, a7, e⟩ := len_8 hl
  have q0 : (S 23)[0]? = some (.ref 24) := hL (23, 0, .ref 24) (by decide)
  have q1 : (S 23)[1]? = some (.ref 25) := hL (23, 1, .ref 25) (by decide)
  have q2 : (S 23)[2]? = some (.ref 26) := hL (23, 2, .ref 26) (by decide)
  have q3 : (S 23)[3]? = some (.ref 27) := hL (23, 3, .ref 27) (by decide)
  have q4 : (S 23)[4]? = some (.ref 28) := hL (23, 4, .ref 28) (by decide)
  have q5 : (S 23)[5]? = some (.ref 29) := hL (23, 5, .ref 29) (by decide)
  rw [e] at q0 q1 q2 q3 q4 q5 ⊢
  cases q0; cases q1; cases q2; cases q3; cases q4; cases q5
  exact ⟨_, _, rfl⟩
theorem stpb (hL : aLks S) (hpb : pb = 46 ∨ pb = 51) (hl : (S pb).length = 8) : ∃ c0 c1 c5 c7, S pb = [c0, c1, .ref (pb + 1), .ref (pb + 2), .ref (pb + 3), c5, .ref (pb + 4), c7] := by
  obtain ⟨a0, a1, a2, a3, a4, a5, a6, a7, e⟩ := len_8 hl
  rcases hpb with rfl | rfl
  · have q2 : (S 46)[2]? = some (.ref 47) := hL (46, 2, .ref 47) (by decide)
    have q3 : (S 46)[3]? = some (.ref 48) := hL (46, 3, .ref 48) (by decide)
    have q4 : (S 46)[4]? = some (.ref 49) := hL (46, 4, .ref 49) (by decide)
    have q6 : (S 46)[6]? = some (.ref 50) := hL (46, 6, .ref 50) (by decide)
    rw [e] at q2 q3 q4 q6 ⊢
    cases q2; cases q3; cases q4; cases q6
    exact ⟨_, _, _, _, rfl⟩
  · have q2 : (S 51)[2]? = some (.ref 52) := hL (51, 2, .ref 52) (by decide)
    have q3 : (S 51)[3]? = some (.ref 53) := hL (51, 3, .ref 53) (by decide)
    have q4 : (S 51)[4]? = some (.ref 54) := hL (51, 4, .ref 54) (by decide)
    have q6 : (S 51)[6]? = some (.ref 55) := hL (51, 6, .ref 55) (by decide)
    rw [e] at q2 q3 q4 q6 ⊢
    cases q2; cases q3; cases q4; cases q6
    exact ⟨_, _, _, _, rfl⟩
/-- the model's object -/
theorem st56 (hL : aLks S) {pc en hi un : Int32} {x y : UInt32} {hd co dn : Int32} (e : S 56 = mM w0 nn pc en hi un x y hd co dn) (h2 : (S 56)[2]? = some (.int (Int32.ofNat L))) (h3 : (S 56)[3]? = some (.int wr0)) : S 56 = (mK w0 L wr0 0 [.int nn, .ref 76, .int pc, .int en, .int hi, .ref 77, .int un, .ref 78, .ref 79, .ref 80, .ref 81, .float x, .float y, .int hd, .int co, .int dn, .ref 82, .ref 83, .ref 84]).set 4 (w0 4) := by
  have q : ∀ (j : Nat) (v : Value), j < 30 → (S 56)[j]? = some v → w0 j = v := fun j v hj hv => by
    rw [e, mM_lo hj] at hv
    exact Option.some.inj hv
  have k : ∀ (j p : Nat), (56, j, Value.ref p) ∈ aCon → j < 30 → w0 j = .ref p := fun j p hm hj => q j _ hj (hL (56, j, .ref p) hm)
  rw [e]
  unfold mM
  rw [k 1 57 (by decide) (by decide), q 2 _ (by decide) h2, q 3 _ (by decide) h3, k 5 58 (by decide) (by decide), k 6 59 (by decide) (by decide), k 7 60 (by decide) (by decide), k 8 61 (by decide) (by decide), k 10 62 (by decide) (by decide), k 13 63 (by decide) (by decide), k 15 64 (by decide) (by decide), k 16 65 (by decide) (by decide), k 18 66 (by decide) (by decide), k 19 67 (by decide) (by decide), k 20 68 (by decide) (by decide), k 22 69 (by decide) (by decide), k 23 70 (by decide) (by decide), k 24 71 (by decide) (by decide), k 26 72 (by decide) (by decide), k 27 73 (by decide) (by decide), k 28 74 (by decide) (by decide), k 29 75 (by decide) (by decide)]
  rfl
theorem mtS_id {l : List Value} (h : S 56 = l) : mtS S l S = S := by
  funext q
  unfold mtS
  split
  · next e => rw [e, h]
  · split <;> rfl
/-- the text as a function -/
theorem stTx {tl : Nat} (h0 : tl ≤ 160) (hT : ∀ j, j < tl → ∃ c, c < 256 ∧ (S 21)[j]? = some (.int (Int32.ofNat c))) : ∃ c, txOk (S 21) tl c := by
  have hx : ∀ j, ∃ c, c < 256 ∧ (j < tl → (S 21)[j]? = some (.int (Int32.ofNat c))) ∧ (tl ≤ j → c = 0) := fun j => by
    by_cases hj : j < tl
    · obtain ⟨c, c1, c2⟩ := hT j hj
      exact ⟨c, c1, fun _ => c2, fun z => absurd z (by omega)⟩
    · exact ⟨0, by decide, fun z => absurd z hj, fun _ => rfl⟩
  obtain ⟨c, hc⟩ := Classical.axiomOfChoice hx
  exact ⟨c, h0, fun j hj => (hc j).2.1 hj, fun j => (hc j).1, fun j hj => (hc j).2.2 hj⟩
/-- a lexical error's place is small -/
theorem stEr (hn : 67 ≤ n) {c : Nat → Nat} (hT : txOk (S 57) L c) (hL : mkL S) : ∀ e, tokA c L L 0 [] = .error e → e < 2 ^ 20 := fun e he => by
  obtain ⟨x, ⟨-, -, -, q4, -⟩, -⟩ := m_cut (scr := []) (kd := fun _ => 0) (n := n) (d := 0) (S0 := S) (A := S) (w := fun _ => .null) (tk0 := 0) (rest := []) hn hT hL
  exact (q4 e he).2
/-- the class's machine, raw -/
theorem stRaw (m1 : cRep S s S) (m3 : okS s) : mRaw S s.2.2.2.2.1 := by
  obtain ⟨ht, cl, pc, a36, a39, a40, a44, rc, e, l36, l39, l40, l44, -⟩ := m1
  have q := fun p => congrFun e p
  obtain ⟨s1, s2, s3, s4, s5, s6, s7, s8, s9, s10, s11⟩ := m3
  exact ⟨⟨ht, cl, pc, s.1, q 35⟩, by rw [q 36]; exact l36, by rw [q 37]; exact (List.length_map ..).trans s3, q 38, by rw [q 39]; exact l39, by rw [q 40]; exact l40, ⟨_, _, _, _, _, q 41⟩, ⟨rc, q 42⟩, by rw [q 43]; exact (List.length_map ..).trans s10, by rw [q 44]; exact l44⟩
end STC
