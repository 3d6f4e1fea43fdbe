/-! a program's words, on the class's side -/
def prgS (S : Nat → List Value) (pa N : Nat) (W : Nat → Nat) : Prop := (pa = 46 ∨ pa = 51) ∧ N ≤ 240 ∧ (S pa)[7]? = some (.int (Int32.ofNat N)) ∧ (S pa)[6]? = some (.ref (pa + 4)) ∧ (∀ j, j < N → (S (pa + 4))[j]? = some (.int (Int32.ofNat (W j)))) ∧ ∀ j, N ≤ j → W j = 27
def lenA (w : Nat) : Nat := if w = 1 ∨ w = 16 then 3 else if (2 ≤ w ∧ w ≤ 5) ∨ w = 14 ∨ w = 15 ∨ w = 28 ∨ w = 29 then 2 else 1
section CWORD
variable {scr : List Value} {kd : Nat → Nat} {n pa N d j pc : Nat} {S S0 : Nat → List Value} {a35 a36 a37 a38 a39 a40 a41 a42 a43 a44 : List Value} {ht cl an : Int32} {W : Nat → Nat} {Q : aOut → aH → Prop}
theorem prgS_cS (h : prgS S0 pa N W) : prgS (cS S0 a35 a36 a37 a38 a39 a40 a41 a42 a43 a44) pa N W := by
  obtain ⟨h1, h2, h3, h4, h5, h6⟩ := h
  have e1 : cS S0 a35 a36 a37 a38 a39 a40 a41 a42 a43 a44 pa = S0 pa := cS_ne (by omega)
  have e2 : cS S0 a35 a36 a37 a38 a39 a40 a41 a42 a43 a44 (pa + 4) = S0 (pa + 4) := cS_ne (by omega)
  exact ⟨h1, h2, by rw [e1]; exact h3, by rw [e1]; exact h4, by rw [e2]; exact h5, h6⟩
theorem c_wordAt (hn : 67 ≤ n) (hP : prgS S pa N W) (hj : j < 2 ^ 31) : aE aM112 d 0 [(0, .ref pa), (1, .int (Int32.ofNat j))] [] (gH scr kd n S) (aIs (some (.int (Int32.ofNat (W j)))) (gH scr kd n S)) := by
  obtain ⟨h1, h2, h3, h4, h5, h6⟩ := hP
  have hp : (Nat.ble 20 pa && Nat.blt pa 87) = true := by rcases h1 with rfl | rfl <;> rfl
  have hk : gK kd pa = 26 := by rcases h1 with rfl | rfl <;> rfl
  have hp4 : (Nat.ble 20 (pa + 4) && Nat.blt (pa + 4) 87) = true := by rcases h1 with rfl | rfl <;> rfl
  have hk4 : gK kd (pa + 4) = 0 := by rcases h1 with rfl | rfl <;> rfl
  by_cases hlt : j < N
  · refine eS rfl rfl ?_
    refine eLt rfl rfl (fun z => absurd ((i32_lt (a := j) (b := 0) (by omega) (by decide)).mp z) (by omega)) (fun _ => ?_)
    refine eS rfl rfl ?_
    refine eS rfl rfl ?_
    refine gGet hn rfl hp hk h3 ?_
    refine eIGe rfl rfl (fun z => absurd ((i32_le (by omega) (by omega)).mp z) (by omega)) (fun _ => ?_)
    refine eS rfl rfl ?_
    refine eS rfl rfl ?_
    refine eIGe rfl rfl (fun z => absurd ((i32_le (a := 240) (by decide) (by omega)).mp z) (by omega)) (fun _ => ?_)
    refine eS rfl rfl ?_
    refine gGet hn rfl hp hk h4 ?_
    refine eS rfl rfl ?_
    refine gRd0 hn rfl hp4 hk4 j (by omega) (h5 j hlt) ?_
    refine eS rfl rfl ?_
    exact eR rfl rfl ⟨rfl, rfl⟩
  · refine eS rfl rfl ?_
    refine eLt rfl rfl (fun z => absurd ((i32_lt (a := j) (b := 0) (by omega) (by decide)).mp z) (by omega)) (fun _ => ?_)
    refine eS rfl rfl ?_
    refine eS rfl rfl ?_
    refine gGet hn rfl hp hk h3 ?_
    refine eIGe rfl rfl (fun _ => ?_) (fun z => absurd ((i32_le (by omega) (by omega)).mpr (by omega)) z)
    refine eS rfl rfl ?_
    exact eR rfl rfl ⟨by rw [h6 j (by omega)]; rfl, rfl⟩
theorem c_wordsOf {h : aH} : ∀ {w : Nat}, w ≤ 29 → aE aM122 d 0 [(0, .int (Int32.ofNat w))] [] h (aIs (some (.int (Int32.ofNat (lenA w)))) h)
  | 0, _ => by
    refine eS rfl rfl ?_
    refine eS rfl rfl ?_
    refine eS rfl rfl ?_
    exact eR rfl rfl ⟨rfl, rfl⟩
  | 1, _ => by
    refine eS rfl rfl ?_
    refine eS rfl rfl ?_
    refine eS rfl rfl ?_
    exact eR rfl rfl ⟨rfl, rfl⟩
  | 2, _ => by
    refine eS rfl rfl ?_
    refine eS rfl rfl ?_
    refine eS rfl rfl ?_
    exact eR rfl rfl ⟨rfl, rfl⟩
  | 3, _ => by
    refine eS rfl rfl ?_
    refine eS rfl rfl ?_
    refine eS rfl rfl ?_
    exact eR rfl rfl ⟨rfl, rfl⟩
  | 4, _ => by
    refine eS rfl rfl ?_
    refine eS rfl rfl ?_
    refine eS rfl rfl ?_
    exact eR rfl rfl ⟨rfl, rfl⟩
  | 5, _ => by
    refine eS rfl rfl ?_
    refine eS rfl rfl ?_
    refine eS rfl rfl ?_
    exact eR rfl rfl ⟨rfl, rfl⟩
  | 6, _ => by
    refine eS rfl rfl ?_
    refine eS rfl rfl ?_
    refine eS rfl rfl ?_
    exact eR rfl rfl ⟨rfl, rfl⟩
  | 7, _ => by
    refine eS rfl rfl ?_
    refine eS rfl rfl ?_
    refine eS rfl rfl ?_
    exact eR rfl rfl ⟨rfl, rfl⟩
  | 8, _ => by
    refine eS rfl rfl ?_
    refine eS rfl rfl ?_
    refine eS rfl rfl ?_
    exact eR rfl rfl ⟨rfl, rfl⟩
  | 9, _ => by
    refine eS rfl rfl ?_
    refine eS rfl rfl ?_
    refine eS rfl rfl ?_
    exact eR rfl rfl ⟨rfl, rfl⟩
  | 10, _ => by
    refine eS rfl rfl ?_
    refine eS rfl rfl ?_
    refine eS rfl rfl ?_
    exact eR rfl rfl ⟨rfl, rfl⟩
  | 11, _ => by
    refine eS rfl rfl ?_
    refine eS rfl rfl ?_
    refine eS rfl rfl ?_
    exact eR rfl rfl ⟨rfl, rfl⟩
  | 12, _ => by
    refine eS rfl rfl ?_
    refine eS rfl rfl ?_
    refine eS rfl rfl ?_
    exact eR rfl rfl ⟨rfl, rfl⟩
  | 13, _ => by
    refine eS rfl rfl ?_
    refine eS rfl rfl ?_
    refine eS rfl rfl ?_
    exact eR rfl rfl ⟨rfl, rfl⟩
  | 14, _ => by
    refine eS rfl rfl ?_
    refine eS rfl rfl ?_
    refine eS rfl rfl ?_
    exact eR rfl rfl ⟨rfl, rfl⟩
  | 15, _ => by
    refine eS rfl rfl ?_
    refine eS rfl rfl ?_
    refine eS rfl rfl ?_
    exact eR rfl rfl ⟨rfl, rfl⟩
  | 16, _ => by
    refine eS rfl rfl ?_
    refine eS rfl rfl ?_
    refine eS rfl rfl ?_
    exact eR rfl rfl ⟨rfl, rfl⟩
  | 17, _ => by
    refine eS rfl rfl ?_
    refine eS rfl rfl ?_
    refine eS rfl rfl ?_
    exact eR rfl rfl ⟨rfl, rfl⟩
  | 18, _ => by
    refine eS rfl rfl ?_
    refine eS rfl rfl ?_
    refine eS rfl rfl ?_
    exact eR rfl rfl ⟨rfl, rfl⟩
  | 19, _ => by
    refine eS rfl rfl ?_
    refine eS rfl rfl ?_
    refine eS rfl rfl ?_
    exact eR rfl rfl ⟨rfl, rfl⟩
  | 20, _ => by
    refine eS rfl rfl ?_
    refine eS rfl rfl ?_
    refine eS rfl rfl ?_
    exact eR rfl rfl ⟨rfl, rfl⟩
  | 21, _ => by
    refine eS rfl rfl ?_
    refine eS rfl rfl ?_
    refine eS rfl rfl ?_
    exact eR rfl rfl ⟨rfl, rfl⟩
  | 22, _ => by
    refine eS rfl rfl ?_
    refine eS rfl rfl ?_
    refine eS rfl rfl ?_
    exact eR rfl rfl ⟨rfl, rfl⟩
  | 23, _ => by
    refine eS rfl rfl ?_
    refine eS rfl rfl ?_
    refine eS rfl rfl ?_
    exact eR rfl rfl ⟨rfl, rfl⟩
  | 24, _ => by
    refine eS rfl rfl ?_
    refine eS rfl rfl ?_
    refine eS rfl rfl ?_
    exact eR rfl rfl ⟨rfl, rfl⟩
  | 25, _ => by
    refine eS rfl rfl ?_
    refine eS rfl rfl ?_
    refine eS rfl rfl ?_
    exact eR rfl rfl ⟨rfl, rfl⟩
  | 26, _ => by
    refine eS rfl rfl ?_
    refine eS rfl rfl ?_
    refine eS rfl rfl ?_
    exact eR rfl rfl ⟨rfl, rfl⟩
  | 27, _ => by
    refine eS rfl rfl ?_
    refine eS rfl rfl ?_
    refine eS rfl rfl ?_
    exact eR rfl rfl ⟨rfl, rfl⟩
  | 28, _ => by
    refine eS rfl rfl ?_
    refine eS rfl rfl ?_
    refine eS rfl rfl ?_
    exact eR rfl rfl ⟨rfl, rfl⟩
  | 29, _ => by
    refine eS rfl rfl ?_
    refine eS rfl rfl ?_
    refine eS rfl rfl ?_
    exact eR rfl rfl ⟨rfl, rfl⟩
  | w + 30, h => by omega
theorem c_step_pre (hn : 67 ≤ n) (hP : prgS S0 pa N W) (hpc : pc < 240) (hw : W pc ≤ 29)
    (K : aE aM121 (d + 1) 44 [(5, .int (Int32.ofNat (pc + lenA (W pc)))), (4, .int (Int32.ofNat (W (pc + 2)))), (3, .int (Int32.ofNat (W (pc + 1)))), (2, .int (Int32.ofNat (W pc))), (0, .ref 35), (1, .ref pa)] [.int (Int32.ofNat (W pc))] (gH scr kd n (cS S0 (kM ht cl (Int32.ofNat pc) an) a36 a37 a38 a39 a40 a41 a42 a43 a44)) Q) :
    aE aM121 (d + 1) 0 [(0, .ref 35), (1, .ref pa)] [] (gH scr kd n (cS S0 (kM ht cl (Int32.ofNat pc) an) a36 a37 a38 a39 a40 a41 a42 a43 a44)) Q := by
  have hp : (Nat.ble 20 pa && Nat.blt pa 87) = true := by rcases hP.1 with rfl | rfl <;> rfl
  have hk : gK kd pa = 26 := by rcases hP.1 with rfl | rfl <;> rfl
  have hq := prgS_cS (a35 := kM ht cl (Int32.ofNat pc) an) (a36 := a36) (a37 := a37) (a38 := a38) (a39 := a39) (a40 := a40) (a41 := a41) (a42 := a42) (a43 := a43) (a44 := a44) hP
  refine eS rfl rfl ?_
  refine eS rfl rfl ?_
  refine gGet hn rfl rfl rfl rfl ?_
  refine gV1 hn rfl rfl hp hk rfl ⟨catOk rfl, catOk rfl⟩ (c_wordAt hn hq (by omega)) ?_
  refine eS rfl rfl ?_
  refine eS rfl rfl ?_
  refine eS rfl rfl ?_
  refine gGet hn rfl rfl rfl rfl ?_
  refine eS rfl rfl ?_
  refine eS rfl rfl ?_
  rw [show Int32.ofNat pc + Int32.ofInt 1 = Int32.ofNat (pc + 1) from i32_succ]
  refine gV1 hn rfl rfl hp hk rfl ⟨catOk rfl, catOk rfl⟩ (c_wordAt hn hq (by omega)) ?_
  refine eS rfl rfl ?_
  refine eS rfl rfl ?_
  refine eS rfl rfl ?_
  refine gGet hn rfl rfl rfl rfl ?_
  refine eS rfl rfl ?_
  refine eS rfl rfl ?_
  rw [show Int32.ofNat pc + Int32.ofInt 2 = Int32.ofNat (pc + 2) from (Int32.ofNat_add ..).symm]
  refine gV1 hn rfl rfl hp hk rfl ⟨catOk rfl, catOk rfl⟩ (c_wordAt hn hq (by omega)) ?_
  refine eS rfl rfl ?_
  refine eS rfl rfl ?_
  refine gGet hn rfl rfl rfl rfl ?_
  refine eS rfl rfl ?_
  refine eC1 rfl rfl rfl ⟨catOk rfl, catOk rfl⟩ (c_wordsOf hw) ?_
  refine eS rfl rfl ?_
  rw [← Int32.ofNat_add]
  refine eS rfl rfl ?_
  refine eS rfl rfl ?_
  exact K
end CWORD
