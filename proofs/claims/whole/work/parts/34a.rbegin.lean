/-! the reader begins: what was there is forgotten, the text is split -/
section RBG
variable {scr : List Value} {kd : Nat → Nat} {n d L pa : Nat} {S S0 : Nat → List Value} {c : Nat → Nat} {ts : List aTk}
/-- the reader, its names and the program, as lists -/
def bS (S : Nat → List Value) (pa : Nat) (a22 a30 a32 ap : List Value) : Nat → List Value := fun q => if q = 22 then a22 else if q = 30 then a30 else if q = 32 then a32 else if q = pa then ap else S q
theorem bS_id {a22 a30 a32 ap : List Value} (h1 : S 22 = a22) (h2 : S 30 = a30) (h3 : S 32 = a32) (h4 : S pa = ap) : S = bS S pa a22 a30 a32 ap := by
  funext q
  unfold bS
  split
  · next e => rw [e]; exact h1
  · split
    · next e => rw [e]; exact h2
    · split
      · next e => rw [e]; exact h3
      · split
        · next e => rw [e]; exact h4
        · rfl
theorem bS_22 {a22 a30 a32 ap b : List Value} : aUp (bS S pa a22 a30 a32 ap) 22 b = bS S pa b a30 a32 ap := by
  funext q
  unfold aUp bS
  by_cases e : q = 22 <;> simp [e]
theorem bS_30 {a22 a30 a32 ap b : List Value} : aUp (bS S pa a22 a30 a32 ap) 30 b = bS S pa a22 b a32 ap := by
  funext q
  unfold aUp bS
  by_cases e : q = 30 <;> simp [e]
theorem bS_32 {a22 a30 a32 ap b : List Value} : aUp (bS S pa a22 a30 a32 ap) 32 b = bS S pa a22 a30 b ap := by
  funext q
  unfold aUp bS
  by_cases e : q = 32 <;> simp [e]
theorem bS_p (hpa : pa = 46 ∨ pa = 51) {a22 a30 a32 ap b : List Value} : aUp (bS S pa a22 a30 a32 ap) pa b = bS S pa a22 a30 a32 b := by
  rcases hpa with rfl | rfl
  · funext q
    unfold aUp bS
    by_cases e : q = 46 <;> simp [e]
  · funext q
    unfold aUp bS
    by_cases e : q = 51 <;> simp [e]
theorem bS_pa (hpa : pa = 46 ∨ pa = 51) {a22 a30 a32 ap : List Value} : bS S pa a22 a30 a32 ap pa = ap := by rcases hpa with rfl | rfl <;> rfl
theorem bS_rS (hpa : pa = 46 ∨ pa = 51) : bS S pa [.ref 23, .ref 30, .ref 32, .ref pa, .null, .null, .null, .int (Int32.ofNat 0), .int (-1)] [.ref 31, .int (Int32.ofNat 0)] [.ref 33, .int (Int32.ofNat 0)] [.null, .null, .ref (pa + 1), .ref (pa + 2), .ref (pa + 3), .int (Int32.ofNat 0), .ref (pa + 4), .int 0] = rS S S pa .null .null .null 0 (-1) 0 (S 31) 0 (S 33) .null .null 0 0 (S (pa + 1)) (S (pa + 2)) (S (pa + 3)) := by
  funext q
  unfold bS rS
  by_cases h87 : Nat.ble 87 q = true
  · have := Nat.ble_eq.mp h87
    rw [if_pos h87, if_neg (by omega), if_neg (by omega), if_neg (by omega), if_neg (by omega)]
  rw [if_neg h87]
  by_cases e1 : q = 22
  · rw [if_pos e1, if_pos e1]
  rw [if_neg e1, if_neg e1]
  by_cases e2 : q = 30
  · rw [if_pos e2, if_pos e2]
  rw [if_neg e2, if_neg e2]
  by_cases e3 : q = 31
  · rw [if_pos e3, if_neg (by omega), if_neg (by omega), e3]
  rw [if_neg e3]
  by_cases e4 : q = 32
  · rw [if_pos e4, if_pos e4]
  rw [if_neg e4, if_neg e4]
  by_cases e5 : q = 33
  · rw [if_pos e5, if_neg (by omega), e5]
  rw [if_neg e5]
  by_cases e6 : q = pa
  · rw [if_pos e6, if_pos (by rw [Bool.and_eq_true, Nat.ble_eq, Nat.ble_eq]; omega), if_pos e6]
  rw [if_neg e6]
  by_cases e7 : (Nat.ble 46 q && Nat.ble q 55) = true
  · rw [if_pos e7, if_neg e6]
    by_cases e8 : q = pa + 1
    · rw [if_pos e8, e8]
    rw [if_neg e8]
    by_cases e9 : q = pa + 2
    · rw [if_pos e9, e9]
    rw [if_neg e9]
    by_cases e10 : q = pa + 3
    · rw [if_pos e10, e10]
    rw [if_neg e10]
  · rw [if_neg e7]
theorem c_rbegin (hn : 67 ≤ n) (hpa : pa = 46 ∨ pa = 51) {a3 a4 a5 a6 a7 a8 b1 b2 c0 c1 c5 c7 : Value} (h22 : S 22 = [.ref 23, .ref 30, .ref 32, a3, a4, a5, a6, a7, a8]) (h30 : S 30 = [.ref 31, b1]) (h32 : S 32 = [.ref 33, b2]) (hp : S pa = [c0, c1, .ref (pa + 1), .ref (pa + 2), .ref (pa + 3), c5, .ref (pa + 4), c7]) : aE aM37 (d + 1) 0 [(0, .ref 22), (1, .ref pa)] [] (gH scr kd n S) (aIs none (gH scr kd n (rS S S pa .null .null .null 0 (-1) 0 (S 31) 0 (S 33) .null .null 0 0 (S (pa + 1)) (S (pa + 2)) (S (pa + 3))))) := by
  have e0 := bS_id h22 h30 h32 hp
  rw [← bS_rS hpa, show gH scr kd n S = gH scr kd n (bS S pa [.ref 23, .ref 30, .ref 32, a3, a4, a5, a6, a7, a8] [.ref 31, b1] [.ref 33, b2] [c0, c1, .ref (pa + 1), .ref (pa + 2), .ref (pa + 3), c5, .ref (pa + 4), c7]) from congrArg _ e0]
  clear e0 h22 h30 h32 hp
  have f30 : ∀ a22 a32 ap b, aE aM38 d 0 [(0, .ref 30)] [] (gH scr kd n (bS S pa a22 [.ref 31, b] a32 ap)) (aIs none (gH scr kd n (bS S pa a22 [.ref 31, .int (Int32.ofNat 0)] a32 ap))) := fun a22 a32 ap b => by
    refine eS rfl rfl ?_
    refine eS rfl rfl ?_
    refine gPut hn rfl rfl rfl rfl rfl rfl rfl bS_30 ?_
    exact eR rfl rfl ⟨rfl, rfl⟩
  have f32 : ∀ a22 a30 ap b, aE aM38 d 0 [(0, .ref 32)] [] (gH scr kd n (bS S pa a22 a30 [.ref 33, b] ap)) (aIs none (gH scr kd n (bS S pa a22 a30 [.ref 33, .int (Int32.ofNat 0)] ap))) := fun a22 a30 ap b => by
    refine eS rfl rfl ?_
    refine eS rfl rfl ?_
    refine gPut hn rfl rfl rfl rfl rfl rfl rfl bS_32 ?_
    exact eR rfl rfl ⟨rfl, rfl⟩
  have fp : ∀ a22 a30 a32, aE aM39 d 0 [(0, .ref pa)] [] (gH scr kd n (bS S pa a22 a30 a32 [c0, c1, .ref (pa + 1), .ref (pa + 2), .ref (pa + 3), c5, .ref (pa + 4), c7])) (aIs none (gH scr kd n (bS S pa a22 a30 a32 [.null, .null, .ref (pa + 1), .ref (pa + 2), .ref (pa + 3), .int (Int32.ofNat 0), .ref (pa + 4), .int 0]))) := fun a22 a30 a32 => by
    refine eS rfl rfl ?_
    refine eS rfl rfl ?_
    refine gPut (S' := bS S pa a22 a30 a32 _) hn rfl (pa_h0 hpa) rfl (pa_k0 hpa) (by rw [bS_pa hpa]; rfl) rfl rfl ((congrArg (fun z : List Value => aUp _ pa (z.set 0 .null)) (bS_pa hpa)).trans (bS_p hpa)) ?_
    refine eS rfl rfl ?_
    refine eS rfl rfl ?_
    refine gPut (S' := bS S pa a22 a30 a32 _) hn rfl (pa_h0 hpa) rfl (pa_k0 hpa) (by rw [bS_pa hpa]; rfl) rfl rfl ((congrArg (fun z : List Value => aUp _ pa (z.set 1 .null)) (bS_pa hpa)).trans (bS_p hpa)) ?_
    refine eS rfl rfl ?_
    refine eS rfl rfl ?_
    refine gPut (S' := bS S pa a22 a30 a32 _) hn rfl (pa_h0 hpa) rfl (pa_k0 hpa) (by rw [bS_pa hpa]; rfl) rfl rfl ((congrArg (fun z : List Value => aUp _ pa (z.set 5 (.int 0))) (bS_pa hpa)).trans (bS_p hpa)) ?_
    refine eS rfl rfl ?_
    refine eS rfl rfl ?_
    refine gPut (S' := bS S pa a22 a30 a32 _) hn rfl (pa_h0 hpa) rfl (pa_k0 hpa) (by rw [bS_pa hpa]; rfl) rfl rfl ((congrArg (fun z : List Value => aUp _ pa (z.set 7 (.int 0))) (bS_pa hpa)).trans (bS_p hpa)) ?_
    exact eR rfl rfl ⟨rfl, rfl⟩
  refine eS rfl rfl ?_
  refine eS rfl rfl ?_
  refine gPut hn rfl rfl rfl rfl rfl rfl rfl bS_22 ?_
  refine eS rfl rfl ?_
  refine eS rfl rfl ?_
  refine gPut hn rfl rfl rfl rfl rfl rfl rfl bS_22 ?_
  refine eS rfl rfl ?_
  refine gGet hn rfl rfl rfl rfl ?_
  refine gV1 hn rfl rfl rfl rfl rfl ⟨catOk rfl, catOk rfl⟩ (f30 _ _ _ _) ?_
  refine eS rfl rfl ?_
  refine gGet hn rfl rfl rfl rfl ?_
  refine gV1 hn rfl rfl rfl rfl rfl ⟨catOk rfl, catOk rfl⟩ (f32 _ _ _ _) ?_
  refine eS rfl rfl ?_
  refine eS rfl rfl ?_
  refine gPut hn rfl rfl rfl rfl rfl rfl rfl bS_22 ?_
  refine eS rfl rfl ?_
  refine eS rfl rfl ?_
  refine gPut hn rfl rfl rfl rfl rfl rfl rfl bS_22 ?_
  refine eS rfl rfl ?_
  refine eS rfl rfl ?_
  refine gPut hn rfl rfl rfl rfl rfl rfl rfl bS_22 ?_
  refine eS rfl rfl ?_
  refine gV1 hn rfl rfl (pa_h0 hpa) (pa_k0 hpa) rfl ⟨catOk rfl, catOk rfl⟩ (fp _ _ _) ?_
  refine eS rfl rfl ?_
  refine eS rfl rfl ?_
  refine gPut hn rfl rfl rfl rfl rfl rfl rfl bS_22 ?_
  exact eR rfl rfl ⟨rfl, rfl⟩
/-- the split, whatever was there -/
theorem c_split2 (hn : 67 ≤ n) (hT : txOk (S 21) L c) (h29 : S 29 = aS0 29) {v6 v7 : Value} (h23 : S 23 = [.ref 24, .ref 25, .ref 26, .ref 27, .ref 28, .ref 29, v6, v7]) (hl : tkL (S 24) (S 25) (S 26) (S 27) (S 28)) : ∃ S' ts', cTk S (Int32.ofNat L) ts' S' ∧ aE aM40 (d + 5) 0 [(0, .ref 23), (1, .ref 21), (2, .int (Int32.ofNat L))] [] (gH scr kd n S) (aIs (some (.int (tokV (tokA c L L 0 [])))) (gH scr kd n S')) ∧ ∀ t2, tokA c L L 0 [] = .ok t2 → ts' = t2 := by
  obtain ⟨S', ts', h1, h2, h3⟩ := c_split_loop (scr := scr) (kd := kd) (d := d) (en := Int32.ofNat L) hn hT h29 L 0 0 [] (tkS S (S 24) (S 25) (S 26) (S 27) (S 28) (Int32.ofNat 0) (Int32.ofNat L)) (by omega) (Nat.zero_le _) (Nat.le_refl _) (Nat.le_refl _) ⟨_, _, _, _, _, rfl, hl, fun i tk e => by cases e⟩
  refine ⟨S', ts', h1, ?_, h3⟩
  have e2 : aUp (aUp S 23 [.ref 24, .ref 25, .ref 26, .ref 27, .ref 28, .ref 29, .int (Int32.ofNat 0), v7]) 23 [.ref 24, .ref 25, .ref 26, .ref 27, .ref 28, .ref 29, .int (Int32.ofNat 0), .int (Int32.ofNat L)] = tkS S (S 24) (S 25) (S 26) (S 27) (S 28) (Int32.ofNat 0) (Int32.ofNat L) := by
    funext q
    unfold aUp tkS
    split
    · rfl
    · split
      · next e => rw [e]
      · split
        · next e => rw [e]
        · split
          · next e => rw [e]
          · split
            · next e => rw [e]
            · split
              · next e => rw [e]
              · rfl
  refine eS rfl rfl ?_
  refine eS rfl rfl ?_
  refine gPut hn rfl rfl rfl rfl (by rw [h23]; rfl) rfl rfl (congrArg (fun z : List Value => aUp S 23 (z.set 6 (.int (Int32.ofNat 0)))) h23) ?_
  refine eS rfl rfl ?_
  refine eS rfl rfl ?_
  refine gPut hn rfl rfl rfl rfl rfl rfl rfl e2 ?_
  refine eS rfl rfl ?_
  refine eS rfl rfl ?_
  refine eS rfl rfl ?_
  refine eS rfl rfl ?_
  refine eLoc (l' := spLs L 0 0) rfl ⟨rfl, rfl, rfl, rfl, rfl, trivial⟩ ?_
  exact h2
end RBG
