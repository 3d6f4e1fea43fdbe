/-! the class splits a text -/
def tk1 (tk : aTk) (i : Nat) (a24 a25 a26 a27 a28 : List Value) : Prop := a24[i]? = some (.int (Int32.ofNat tk.1)) ∧ a25[i]? = some (.int (Int32.ofNat tk.2.1)) ∧ (tk.1 ≠ 1 → tk.1 < 40 → a26[i]? = some (.long (Int64.ofNat (pk 32 tk.2.2.1)))) ∧ (tk.1 = 1 → a27[i]? = some (.int (Int32.ofNat tk.2.2.2.1)) ∧ a28[i]? = some (.int (Int32.ofNat tk.2.2.2.2)))
def tkF (ts : List aTk) (a24 a25 a26 a27 a28 : List Value) : Prop := ∀ i tk, ts[i]? = some tk → tk1 tk i a24 a25 a26 a27 a28
def tkL (a24 a25 a26 a27 a28 : List Value) : Prop := a24.length = 160 ∧ a25.length = 160 ∧ a26.length = 160 ∧ a27.length = 160 ∧ a28.length = 160 ∧ ∀ j, j < 160 → ∃ x : Int64, a26[j]? = some (.long x)
def cTk (S0 : Nat → List Value) (en : Int32) (ts : List aTk) (S : Nat → List Value) : Prop := ∃ a24 a25 a26 a27 a28 : List Value, S = tkS S0 a24 a25 a26 a27 a28 (Int32.ofNat ts.length) en ∧ tkL a24 a25 a26 a27 a28 ∧ tkF ts a24 a25 a26 a27 a28
def tokV : Except Nat (List aTk) → Int32
  | .ok _ => -1
  | .error e => Int32.ofNat e
section TKP
variable {scr : List Value} {kd : Nat → Nat} {n d L p : Nat} {S S0 : Nat → List Value} {a24 a25 a26 a27 a28 b24 b25 b26 b27 b28 : List Value} {cn en : Int32} {c : Nat → Nat} {Q : aOut → aH → Prop} {ts : List aTk} {tk : aTk}
theorem tkF_snoc (h : tkF ts a24 a25 a26 a27 a28) (e24 : ∀ i, i ≠ ts.length → b24[i]? = a24[i]?) (e25 : ∀ i, i ≠ ts.length → b25[i]? = a25[i]?) (e26 : ∀ i, i ≠ ts.length → b26[i]? = a26[i]?) (e27 : ∀ i, i ≠ ts.length → b27[i]? = a27[i]?) (e28 : ∀ i, i ≠ ts.length → b28[i]? = a28[i]?) (h1 : tk1 tk ts.length b24 b25 b26 b27 b28) : tkF (ts ++ [tk]) b24 b25 b26 b27 b28 := by
  intro i t ht
  by_cases e : i = ts.length
  · subst e
    rw [List.getElem?_append_right (Nat.le_refl _), Nat.sub_self] at ht
    cases ht
    exact h1
  · have hi : i < ts.length := by
      have := (List.getElem?_eq_some_iff.mp ht).1
      rw [List.length_append, List.length_singleton] at this
      omega
    rw [List.getElem?_append_left hi] at ht
    unfold tk1
    rw [e24 i e, e25 i e, e26 i e, e27 i e, e28 i e]
    exact h i t ht
theorem st_ne {a : List Value} {v : Value} {m : Nat} : ∀ i, i ≠ m → (a.set m v)[i]? = a[i]? := fun i hi => List.getElem?_set_ne (fun z => hi z.symm)
theorem st_at {a : List Value} {v : Value} {m : Nat} (h : m < a.length) : (a.set m v)[m]? = some v := List.getElem?_set_self h
theorem c_far {z q : Nat} (hn : 67 ≤ n) (hT : txOk (S 21) L c) (hz : z < 256) (hq : q < 2 ^ 20) : aE aM66 (d + 1) 0 [(0, .int (Int32.ofNat z)), (1, .ref 21), (2, .int (Int32.ofNat q)), (3, .int (Int32.ofNat L))] [] (gH scr kd n S) (aIs (some (.int (if (isL z = true ∧ isL (c q) = true) ∨ (isD z = true ∧ isD (c q) = true) then 1 else 0))) (gH scr kd n S)) := by
  obtain ⟨t1, t2, t3, t4⟩ := hT
  have xz : z < 2 ^ 31 := by omega
  have xq : c q < 2 ^ 31 := Nat.lt_trans (t3 _) (by decide)
  by_cases hlt : q < L
  · have rd := t2 q hlt
    by_cases l1 : isL z = true
    · have nd : ¬ isD z = true := by
        intro y
        unfold isL at l1
        unfold isD at y
        simp only [Bool.and_eq_true, decide_eq_true_eq] at l1 y
        omega
      by_cases l2 : isL (c q) = true
      · rw [if_pos (Or.inl ⟨l1, l2⟩)]
        refine eS rfl rfl ?_
        refine eS rfl rfl ?_
        refine eILt rfl rfl (fun _ => ?_) (fun z => absurd ((i32_lt (a := q) (b := L) (by omega) (by omega)).mpr hlt) z)
        refine eS rfl rfl ?_
        refine eC1 rfl rfl rfl ⟨catOk rfl, catOk rfl⟩ (c_isL xz) ?_
        rw [if_pos l1]
        refine eEq rfl rfl (fun z => absurd z (by decide)) (fun _ => ?_)
        refine eS rfl rfl ?_
        refine eS rfl rfl ?_
        refine gRd1 hn rfl rfl rfl q (by omega) rd ?_
        refine eC1 rfl rfl rfl ⟨catOk rfl, catOk rfl⟩ (c_isL xq) ?_
        rw [if_pos l2]
        refine eNe rfl rfl (fun _ => ?_) (fun z => absurd z (by decide))
        refine eS rfl rfl ?_
        refine eS rfl rfl ?_
        exact eR rfl rfl ⟨rfl, rfl⟩
      · rw [if_neg (fun y => y.elim (fun w => l2 w.2) (fun w => nd w.1))]
        refine eS rfl rfl ?_
        refine eS rfl rfl ?_
        refine eILt rfl rfl (fun _ => ?_) (fun z => absurd ((i32_lt (a := q) (b := L) (by omega) (by omega)).mpr hlt) z)
        refine eS rfl rfl ?_
        refine eC1 rfl rfl rfl ⟨catOk rfl, catOk rfl⟩ (c_isL xz) ?_
        rw [if_pos l1]
        refine eEq rfl rfl (fun z => absurd z (by decide)) (fun _ => ?_)
        refine eS rfl rfl ?_
        refine eS rfl rfl ?_
        refine gRd1 hn rfl rfl rfl q (by omega) rd ?_
        refine eC1 rfl rfl rfl ⟨catOk rfl, catOk rfl⟩ (c_isL xq) ?_
        rw [if_neg l2]
        refine eNe rfl rfl (fun z => absurd rfl z) (fun _ => ?_)
        refine eS rfl rfl ?_
        refine eC1 rfl rfl rfl ⟨catOk rfl, catOk rfl⟩ (c_isD xz) ?_
        rw [if_neg nd]
        refine eEq rfl rfl (fun _ => ?_) (fun z => (z rfl).elim)
        refine eS rfl rfl ?_
        exact eR rfl rfl ⟨rfl, rfl⟩
    · by_cases d1 : isD z = true
      · by_cases d2 : isD (c q) = true
        · rw [if_pos (Or.inr ⟨d1, d2⟩)]
          refine eS rfl rfl ?_
          refine eS rfl rfl ?_
          refine eILt rfl rfl (fun _ => ?_) (fun z => absurd ((i32_lt (a := q) (b := L) (by omega) (by omega)).mpr hlt) z)
          refine eS rfl rfl ?_
          refine eC1 rfl rfl rfl ⟨catOk rfl, catOk rfl⟩ (c_isL xz) ?_
          rw [if_neg l1]
          refine eEq rfl rfl (fun _ => ?_) (fun z => (z rfl).elim)
          refine eS rfl rfl ?_
          refine eC1 rfl rfl rfl ⟨catOk rfl, catOk rfl⟩ (c_isD xz) ?_
          rw [if_pos d1]
          refine eEq rfl rfl (fun z => absurd z (by decide)) (fun _ => ?_)
          refine eS rfl rfl ?_
          refine eS rfl rfl ?_
          refine gRd1 hn rfl rfl rfl q (by omega) rd ?_
          refine eC1 rfl rfl rfl ⟨catOk rfl, catOk rfl⟩ (c_isD xq) ?_
          rw [if_pos d2]
          refine eEq rfl rfl (fun z => absurd z (by decide)) (fun _ => ?_)
          refine eS rfl rfl ?_
          refine eS rfl rfl ?_
          exact eR rfl rfl ⟨rfl, rfl⟩
        · rw [if_neg (fun y => y.elim (fun w => l1 w.1) (fun w => d2 w.2))]
          refine eS rfl rfl ?_
          refine eS rfl rfl ?_
          refine eILt rfl rfl (fun _ => ?_) (fun z => absurd ((i32_lt (a := q) (b := L) (by omega) (by omega)).mpr hlt) z)
          refine eS rfl rfl ?_
          refine eC1 rfl rfl rfl ⟨catOk rfl, catOk rfl⟩ (c_isL xz) ?_
          rw [if_neg l1]
          refine eEq rfl rfl (fun _ => ?_) (fun z => (z rfl).elim)
          refine eS rfl rfl ?_
          refine eC1 rfl rfl rfl ⟨catOk rfl, catOk rfl⟩ (c_isD xz) ?_
          rw [if_pos d1]
          refine eEq rfl rfl (fun z => absurd z (by decide)) (fun _ => ?_)
          refine eS rfl rfl ?_
          refine eS rfl rfl ?_
          refine gRd1 hn rfl rfl rfl q (by omega) rd ?_
          refine eC1 rfl rfl rfl ⟨catOk rfl, catOk rfl⟩ (c_isD xq) ?_
          rw [if_neg d2]
          refine eEq rfl rfl (fun _ => ?_) (fun z => (z rfl).elim)
          refine eS rfl rfl ?_
          exact eR rfl rfl ⟨rfl, rfl⟩
      · rw [if_neg (fun y => y.elim (fun w => l1 w.1) (fun w => d1 w.1))]
        refine eS rfl rfl ?_
        refine eS rfl rfl ?_
        refine eILt rfl rfl (fun _ => ?_) (fun z => absurd ((i32_lt (a := q) (b := L) (by omega) (by omega)).mpr hlt) z)
        refine eS rfl rfl ?_
        refine eC1 rfl rfl rfl ⟨catOk rfl, catOk rfl⟩ (c_isL xz) ?_
        rw [if_neg l1]
        refine eEq rfl rfl (fun _ => ?_) (fun z => (z rfl).elim)
        refine eS rfl rfl ?_
        refine eC1 rfl rfl rfl ⟨catOk rfl, catOk rfl⟩ (c_isD xz) ?_
        rw [if_neg d1]
        refine eEq rfl rfl (fun _ => ?_) (fun z => (z rfl).elim)
        refine eS rfl rfl ?_
        exact eR rfl rfl ⟨rfl, rfl⟩
  · rw [if_neg (fun y => by
      have e0 := t4 q (by omega)
      rw [e0] at y
      exact y.elim (fun w => by cases w.2) (fun w => by cases w.2))]
    refine eS rfl rfl ?_
    refine eS rfl rfl ?_
    refine eILt rfl rfl (fun z => absurd ((i32_lt (a := q) (b := L) (by omega) (by omega)).mp z) hlt) (fun _ => ?_)
    refine eS rfl rfl ?_
    exact eR rfl rfl ⟨rfl, rfl⟩
end TKP
