/-! the model's number -/
section MNB
variable {scr : List Value} {kd : Nat → Nat} {n d L p : Nat} {S0 A : Nat → List Value} {w : Nat → Value} {wr tk v : Int32} {rest l x y : List Value} {c : Nat → Nat} {Q : aOut → aH → Prop}
def mNb (c : Nat → Nat) (p cn : Nat) (A A2 : Nat → List Value) (q' : Nat) (wr' : Int32) : Prop := (∀ r, (A2 r).length = (A r).length) ∧ (∀ r, r ≠ 60 → r ≠ 61 → A2 r = A r) ∧
  (∀ e, nbrA c p = .error e → wr' = Int32.ofNat e) ∧ (∀ x, nbrA c p = .ok x → wr' = -1 ∧ q' = x.1 ∧ A2 60 = (A 60).set cn (.long (Int64.ofNat x.2.1)) ∧ A2 61 = (A 61).set cn (.int (Int32.ofNat x.2.2))) ∧ q' ≤ p + 7
theorem mNb_len {p cn : Nat} {v : Value} (r : Nat) : (aUp A p ((A p).set cn v) r).length = (A r).length := by
  unfold aUp
  by_cases e : r = p
  · rw [if_pos e, List.length_set, e]
  · rw [if_neg e]
theorem m_number {cn : Nat} (hn : 67 ≤ n) (hT : txOk (S0 57) L c) (hcn : cn < 162) (h60 : (A 60).length = 162) (h61 : (A 61).length = 162) (hz : (A 60)[cn]? = some (.long 0)) (hz1 : (A 61)[cn]? = some (.int 0)) (hp : p < 2 ^ 10 - 10) : ∃ A2 q' wr', mNb c p cn A A2 q' wr' ∧ aE aM175 (d + 2) 0 [(0, .ref 56), (1, .int (Int32.ofNat p))] [] (gH scr kd n (mtS S0 (mK w L (-1) (Int32.ofNat cn) rest) A)) (aIs (some (.int (Int32.ofNat q'))) (gH scr kd n (mtS S0 (mK w L wr' (Int32.ofNat cn) rest) A2))) := by
  have hs := spn_le (c := c) (f := isD) 4 p
  have hs2 := spn_le (c := c) (f := isD) 2 (spn c isD 4 p + 1)
  have cz : ∀ q, c q < 2 ^ 31 := fun q => Nat.lt_trans (hT.2.2.1 q) (by decide)
  have d0 := m_digits (d := d) (w := w) (wr := -1) (rest := rest) (scr := scr) (kd := kd) (f := p) (K := 4) (v0 := 0) hn hT hcn h60 (by omega) (by decide) hz
  have n60 : ((aUp A 60 ((A 60).set cn (.long (Int64.ofNat (dgt c 0 p (spn c isD 4 p - p)))))) 60).length = 162 := (mNb_len 60).trans h60
  by_cases c1 : isD (c (spn c isD 4 p)) = true
  · have e : nbrA c p = .error (spn c isD 4 p) := by unfold nbrA; rw [if_pos c1]
    refine ⟨(aUp A 60 ((A 60).set cn (.long (Int64.ofNat (dgt c 0 p (spn c isD 4 p - p)))))), spn c isD 4 p, Int32.ofNat (spn c isD 4 p), ⟨fun r => mNb_len r, fun r r1 r2 => aUp_ne r1, fun y hy => ?_, fun y hy => ?_, by omega⟩, ?_⟩
    · rw [e] at hy; cases hy; rfl
    · rw [e] at hy; cases hy
    · skip
      refine eS rfl rfl ?_
      refine eS rfl rfl ?_
      refine eS rfl rfl ?_
      refine gV1 hn rfl rfl rfl rfl rfl ⟨catOk rfl, catOk rfl⟩ (d0) ?_
      refine eS rfl rfl ?_
      refine eS rfl rfl ?_
      refine eS rfl rfl ?_
      refine gV1 hn rfl rfl rfl rfl rfl ⟨catOk rfl, catOk rfl⟩ (m_look hn hT (by omega)) ?_
      refine eC1 rfl rfl rfl ⟨catOk rfl, catOk rfl⟩ (m_isD (cz _)) ?_
      rw [if_pos c1]
      refine eEq rfl rfl (fun z => absurd z (by decide)) (fun _ => ?_)
      refine eS rfl rfl ?_
      refine eS rfl rfl ?_
      refine gPut hn rfl rfl rfl rfl rfl rfl rfl mt_wr ?_
      refine eS rfl rfl ?_
      refine eS rfl rfl ?_
      refine gV1 hn rfl rfl rfl rfl rfl ⟨catOk rfl, catOk rfl⟩ (m_look hn hT (by omega)) ?_
      refine eS rfl rfl ?_
      refine eINe rfl rfl (fun _ => ?_) (fun z => absurd ((i32_eq (a := c (spn c isD 4 p)) (b := 46) (cz _) (by decide)).mp z) (fun y => by rw [y] at c1; cases c1))
      refine eS rfl rfl ?_
      exact eR rfl rfl ⟨rfl, rfl⟩
  · by_cases c2 : c (spn c isD 4 p) = 46
    · have e46 : Int32.ofNat (c (spn c isD 4 p)) = (Int8.ofInt 46).toInt32 := by rw [c2]; rfl
      have d1 := m_digits (d := d) (w := w) (wr := -1) (rest := rest) (scr := scr) (kd := kd) (f := spn c isD 4 p + 1) (K := 2) (v0 := dgt c 0 p (spn c isD 4 p - p)) (A := aUp A 60 ((A 60).set cn (.long (Int64.ofNat (dgt c 0 p (spn c isD 4 p - p)))))) hn hT hcn n60 (by omega) (by decide) (st_at (by omega))
      have eA : aUp (aUp A 60 ((A 60).set cn (.long (Int64.ofNat (dgt c 0 p (spn c isD 4 p - p)))))) 60 (((aUp A 60 ((A 60).set cn (.long (Int64.ofNat (dgt c 0 p (spn c isD 4 p - p)))))) 60).set cn (.long (Int64.ofNat (dgt c (dgt c 0 p (spn c isD 4 p - p)) (spn c isD 4 p + 1) (spn c isD 2 (spn c isD 4 p + 1) - (spn c isD 4 p + 1)))))) = aUp A 60 ((A 60).set cn (.long (Int64.ofNat (dgt c (dgt c 0 p (spn c isD 4 p - p)) (spn c isD 4 p + 1) (spn c isD 2 (spn c isD 4 p + 1) - (spn c isD 4 p + 1)))))) := aUp_aUp.trans (congrArg (aUp A 60) (List.set_set ..))
      rw [eA] at d1
      by_cases c3 : isD (c (spn c isD 4 p + 1)) = true
      · have s1 : spn c isD 4 p + 1 + 1 ≤ spn c isD 2 (spn c isD 4 p + 1) := spn_pos (k := 1) c3
        by_cases c4 : isD (c (spn c isD 2 (spn c isD 4 p + 1))) = true
        · have e : nbrA c p = .error (spn c isD 2 (spn c isD 4 p + 1)) := by unfold nbrA; rw [if_neg c1, if_pos c2, if_pos c3, if_pos c4]
          refine ⟨(aUp (aUp A 60 ((A 60).set cn (.long (Int64.ofNat (dgt c (dgt c 0 p (spn c isD 4 p - p)) (spn c isD 4 p + 1) (spn c isD 2 (spn c isD 4 p + 1) - (spn c isD 4 p + 1))))))) 61 ((A 61).set cn (.int (Int32.ofNat (spn c isD 2 (spn c isD 4 p + 1) - (spn c isD 4 p + 1)))))), spn c isD 2 (spn c isD 4 p + 1), Int32.ofNat (spn c isD 2 (spn c isD 4 p + 1)), ⟨fun r => (mNb_len (A := aUp A 60 _) (p := 61) r).trans (mNb_len r), fun r r1 r2 => (aUp_ne r2).trans (aUp_ne r1), fun y hy => ?_, fun y hy => ?_, by omega⟩, ?_⟩
          · rw [e] at hy; cases hy; rfl
          · rw [e] at hy; cases hy
          · skip
            refine eS rfl rfl ?_
            refine eS rfl rfl ?_
            refine eS rfl rfl ?_
            refine gV1 hn rfl rfl rfl rfl rfl ⟨catOk rfl, catOk rfl⟩ (d0) ?_
            refine eS rfl rfl ?_
            refine eS rfl rfl ?_
            refine eS rfl rfl ?_
            refine gV1 hn rfl rfl rfl rfl rfl ⟨catOk rfl, catOk rfl⟩ (m_look hn hT (by omega)) ?_
            refine eC1 rfl rfl rfl ⟨catOk rfl, catOk rfl⟩ (m_isD (cz _)) ?_
            rw [if_neg c1]
            refine eEq rfl rfl (fun _ => ?_) (fun z => (z rfl).elim)
            refine eS rfl rfl ?_
            refine eS rfl rfl ?_
            refine gV1 hn rfl rfl rfl rfl rfl ⟨catOk rfl, catOk rfl⟩ (m_look hn hT (by omega)) ?_
            refine eS rfl rfl ?_
            refine eINe rfl rfl (fun z => absurd e46 z) (fun _ => ?_)
            refine eS rfl rfl ?_
            refine gGet hn rfl rfl rfl rfl ?_
            refine eS rfl rfl ?_
            refine eIEq rfl rfl (fun _ => ?_) (fun z => (z rfl).elim)
            refine eS rfl rfl ?_
            refine eS rfl rfl ?_
            refine eS rfl rfl ?_
            refine eS rfl rfl ?_
            rw [i32_succ]
            refine eS rfl rfl ?_
            refine gV1 hn rfl rfl rfl rfl rfl ⟨catOk rfl, catOk rfl⟩ (d1) ?_
            refine eS rfl rfl ?_
            refine eS rfl rfl ?_
            refine gGet hn rfl rfl rfl rfl ?_
            refine eS rfl rfl ?_
            refine gGet hn rfl rfl rfl rfl ?_
            refine eS rfl rfl ?_
            refine eS rfl rfl ?_
            refine eS rfl rfl ?_
            refine eS rfl rfl ?_
            refine eS rfl rfl ?_
            rw [show Int32.ofNat (spn c isD 2 (spn c isD 4 p + 1)) - Int32.ofNat (spn c isD 4 p) - Int32.ofInt 1 = Int32.ofNat (spn c isD 2 (spn c isD 4 p + 1) - (spn c isD 4 p + 1)) from by
              show _ - Int32.ofNat 1 = _
              rw [i32_sub (by omega), i32_sub (by omega), Nat.sub_sub]]
            refine gWr0 hn rfl rfl rfl cn (by omega) (by show cn < (A 61).length; omega) (mt_up rfl) ?_
            refine eS rfl rfl ?_
            refine eS rfl rfl ?_
            refine eS rfl rfl ?_
            refine eS rfl rfl ?_
            rw [i32_succ]
            refine eINe rfl rfl (fun _ => ?_) (fun z => absurd ((i32_eq (a := spn c isD 2 (spn c isD 4 p + 1)) (b := spn c isD 4 p + 1) (by omega) (by omega)).mp z) (by omega))
            refine eS rfl rfl ?_
            refine eS rfl rfl ?_
            refine gV1 hn rfl rfl rfl rfl rfl ⟨catOk rfl, catOk rfl⟩ (m_look hn hT (by omega)) ?_
            refine eC1 rfl rfl rfl ⟨catOk rfl, catOk rfl⟩ (m_isD (cz _)) ?_
            rw [if_pos c4]
            refine eEq rfl rfl (fun z => absurd z (by decide)) (fun _ => ?_)
            refine eS rfl rfl ?_
            refine eS rfl rfl ?_
            refine gPut hn rfl rfl rfl rfl rfl rfl rfl mt_wr ?_
            refine eS rfl rfl ?_
            exact eR rfl rfl ⟨rfl, rfl⟩
        · have e : nbrA c p = .ok (spn c isD 2 (spn c isD 4 p + 1), dgt c (dgt c 0 p (spn c isD 4 p - p)) (spn c isD 4 p + 1) (spn c isD 2 (spn c isD 4 p + 1) - (spn c isD 4 p + 1)), spn c isD 2 (spn c isD 4 p + 1) - (spn c isD 4 p + 1)) := by unfold nbrA; rw [if_neg c1, if_pos c2, if_pos c3, if_neg c4]
          refine ⟨(aUp (aUp A 60 ((A 60).set cn (.long (Int64.ofNat (dgt c (dgt c 0 p (spn c isD 4 p - p)) (spn c isD 4 p + 1) (spn c isD 2 (spn c isD 4 p + 1) - (spn c isD 4 p + 1))))))) 61 ((A 61).set cn (.int (Int32.ofNat (spn c isD 2 (spn c isD 4 p + 1) - (spn c isD 4 p + 1)))))), spn c isD 2 (spn c isD 4 p + 1), -1, ⟨fun r => (mNb_len (A := aUp A 60 _) (p := 61) r).trans (mNb_len r), fun r r1 r2 => (aUp_ne r2).trans (aUp_ne r1), fun y hy => ?_, fun y hy => ?_, by omega⟩, ?_⟩
          · rw [e] at hy; cases hy
          · rw [e] at hy; cases hy; exact ⟨rfl, rfl, rfl, rfl⟩
          · skip
            refine eS rfl rfl ?_
            refine eS rfl rfl ?_
            refine eS rfl rfl ?_
            refine gV1 hn rfl rfl rfl rfl rfl ⟨catOk rfl, catOk rfl⟩ (d0) ?_
            refine eS rfl rfl ?_
            refine eS rfl rfl ?_
            refine eS rfl rfl ?_
            refine gV1 hn rfl rfl rfl rfl rfl ⟨catOk rfl, catOk rfl⟩ (m_look hn hT (by omega)) ?_
            refine eC1 rfl rfl rfl ⟨catOk rfl, catOk rfl⟩ (m_isD (cz _)) ?_
            rw [if_neg c1]
            refine eEq rfl rfl (fun _ => ?_) (fun z => (z rfl).elim)
            refine eS rfl rfl ?_
            refine eS rfl rfl ?_
            refine gV1 hn rfl rfl rfl rfl rfl ⟨catOk rfl, catOk rfl⟩ (m_look hn hT (by omega)) ?_
            refine eS rfl rfl ?_
            refine eINe rfl rfl (fun z => absurd e46 z) (fun _ => ?_)
            refine eS rfl rfl ?_
            refine gGet hn rfl rfl rfl rfl ?_
            refine eS rfl rfl ?_
            refine eIEq rfl rfl (fun _ => ?_) (fun z => (z rfl).elim)
            refine eS rfl rfl ?_
            refine eS rfl rfl ?_
            refine eS rfl rfl ?_
            refine eS rfl rfl ?_
            rw [i32_succ]
            refine eS rfl rfl ?_
            refine gV1 hn rfl rfl rfl rfl rfl ⟨catOk rfl, catOk rfl⟩ (d1) ?_
            refine eS rfl rfl ?_
            refine eS rfl rfl ?_
            refine gGet hn rfl rfl rfl rfl ?_
            refine eS rfl rfl ?_
            refine gGet hn rfl rfl rfl rfl ?_
            refine eS rfl rfl ?_
            refine eS rfl rfl ?_
            refine eS rfl rfl ?_
            refine eS rfl rfl ?_
            refine eS rfl rfl ?_
            rw [show Int32.ofNat (spn c isD 2 (spn c isD 4 p + 1)) - Int32.ofNat (spn c isD 4 p) - Int32.ofInt 1 = Int32.ofNat (spn c isD 2 (spn c isD 4 p + 1) - (spn c isD 4 p + 1)) from by
              show _ - Int32.ofNat 1 = _
              rw [i32_sub (by omega), i32_sub (by omega), Nat.sub_sub]]
            refine gWr0 hn rfl rfl rfl cn (by omega) (by show cn < (A 61).length; omega) (mt_up rfl) ?_
            refine eS rfl rfl ?_
            refine eS rfl rfl ?_
            refine eS rfl rfl ?_
            refine eS rfl rfl ?_
            rw [i32_succ]
            refine eINe rfl rfl (fun _ => ?_) (fun z => absurd ((i32_eq (a := spn c isD 2 (spn c isD 4 p + 1)) (b := spn c isD 4 p + 1) (by omega) (by omega)).mp z) (by omega))
            refine eS rfl rfl ?_
            refine eS rfl rfl ?_
            refine gV1 hn rfl rfl rfl rfl rfl ⟨catOk rfl, catOk rfl⟩ (m_look hn hT (by omega)) ?_
            refine eC1 rfl rfl rfl ⟨catOk rfl, catOk rfl⟩ (m_isD (cz _)) ?_
            rw [if_neg c4]
            refine eEq rfl rfl (fun _ => ?_) (fun z => (z rfl).elim)
            refine eS rfl rfl ?_
            exact eR rfl rfl ⟨rfl, rfl⟩
      · have s0 : spn c isD 2 (spn c isD 4 p + 1) = spn c isD 4 p + 1 := spn_0 (by rw [Bool.not_eq_true] at c3; exact c3)
        have e : nbrA c p = .error (spn c isD 4 p) := by unfold nbrA; rw [if_neg c1, if_pos c2, if_neg c3]
        refine ⟨(aUp (aUp A 60 ((A 60).set cn (.long (Int64.ofNat (dgt c (dgt c 0 p (spn c isD 4 p - p)) (spn c isD 4 p + 1) (spn c isD 2 (spn c isD 4 p + 1) - (spn c isD 4 p + 1))))))) 61 ((A 61).set cn (.int (Int32.ofNat (spn c isD 2 (spn c isD 4 p + 1) - (spn c isD 4 p + 1)))))), spn c isD 2 (spn c isD 4 p + 1), Int32.ofNat (spn c isD 4 p), ⟨fun r => (mNb_len (A := aUp A 60 _) (p := 61) r).trans (mNb_len r), fun r r1 r2 => (aUp_ne r2).trans (aUp_ne r1), fun y hy => ?_, fun y hy => ?_, by omega⟩, ?_⟩
        · rw [e] at hy; cases hy; rfl
        · rw [e] at hy; cases hy
        · skip
          refine eS rfl rfl ?_
          refine eS rfl rfl ?_
          refine eS rfl rfl ?_
          refine gV1 hn rfl rfl rfl rfl rfl ⟨catOk rfl, catOk rfl⟩ (d0) ?_
          refine eS rfl rfl ?_
          refine eS rfl rfl ?_
          refine eS rfl rfl ?_
          refine gV1 hn rfl rfl rfl rfl rfl ⟨catOk rfl, catOk rfl⟩ (m_look hn hT (by omega)) ?_
          refine eC1 rfl rfl rfl ⟨catOk rfl, catOk rfl⟩ (m_isD (cz _)) ?_
          rw [if_neg c1]
          refine eEq rfl rfl (fun _ => ?_) (fun z => (z rfl).elim)
          refine eS rfl rfl ?_
          refine eS rfl rfl ?_
          refine gV1 hn rfl rfl rfl rfl rfl ⟨catOk rfl, catOk rfl⟩ (m_look hn hT (by omega)) ?_
          refine eS rfl rfl ?_
          refine eINe rfl rfl (fun z => absurd e46 z) (fun _ => ?_)
          refine eS rfl rfl ?_
          refine gGet hn rfl rfl rfl rfl ?_
          refine eS rfl rfl ?_
          refine eIEq rfl rfl (fun _ => ?_) (fun z => (z rfl).elim)
          refine eS rfl rfl ?_
          refine eS rfl rfl ?_
          refine eS rfl rfl ?_
          refine eS rfl rfl ?_
          rw [i32_succ]
          refine eS rfl rfl ?_
          refine gV1 hn rfl rfl rfl rfl rfl ⟨catOk rfl, catOk rfl⟩ (d1) ?_
          refine eS rfl rfl ?_
          refine eS rfl rfl ?_
          refine gGet hn rfl rfl rfl rfl ?_
          refine eS rfl rfl ?_
          refine gGet hn rfl rfl rfl rfl ?_
          refine eS rfl rfl ?_
          refine eS rfl rfl ?_
          refine eS rfl rfl ?_
          refine eS rfl rfl ?_
          refine eS rfl rfl ?_
          rw [show Int32.ofNat (spn c isD 2 (spn c isD 4 p + 1)) - Int32.ofNat (spn c isD 4 p) - Int32.ofInt 1 = Int32.ofNat (spn c isD 2 (spn c isD 4 p + 1) - (spn c isD 4 p + 1)) from by
            show _ - Int32.ofNat 1 = _
            rw [i32_sub (by omega), i32_sub (by omega), Nat.sub_sub]]
          refine gWr0 hn rfl rfl rfl cn (by omega) (by show cn < (A 61).length; omega) (mt_up rfl) ?_
          refine eS rfl rfl ?_
          refine eS rfl rfl ?_
          refine eS rfl rfl ?_
          refine eS rfl rfl ?_
          rw [i32_succ]
          refine eINe rfl rfl (fun z => absurd (by rw [s0]) z) (fun _ => ?_)
          refine eS rfl rfl ?_
          refine eS rfl rfl ?_
          refine gPut hn rfl rfl rfl rfl rfl rfl rfl mt_wr ?_
          refine eS rfl rfl ?_
          refine eS rfl rfl ?_
          exact eR rfl rfl ⟨rfl, rfl⟩
    · have e : nbrA c p = .ok (spn c isD 4 p, dgt c 0 p (spn c isD 4 p - p), 0) := by unfold nbrA; rw [if_neg c1, if_neg c2]
      refine ⟨(aUp A 60 ((A 60).set cn (.long (Int64.ofNat (dgt c 0 p (spn c isD 4 p - p)))))), spn c isD 4 p, -1, ⟨fun r => mNb_len r, fun r r1 r2 => aUp_ne r1, fun y hy => ?_, fun y hy => ?_, by omega⟩, ?_⟩
      · rw [e] at hy; cases hy
      · rw [e] at hy; cases hy
        exact ⟨rfl, rfl, rfl, (set_same hz1).symm⟩
      · skip
        refine eS rfl rfl ?_
        refine eS rfl rfl ?_
        refine eS rfl rfl ?_
        refine gV1 hn rfl rfl rfl rfl rfl ⟨catOk rfl, catOk rfl⟩ (d0) ?_
        refine eS rfl rfl ?_
        refine eS rfl rfl ?_
        refine eS rfl rfl ?_
        refine gV1 hn rfl rfl rfl rfl rfl ⟨catOk rfl, catOk rfl⟩ (m_look hn hT (by omega)) ?_
        refine eC1 rfl rfl rfl ⟨catOk rfl, catOk rfl⟩ (m_isD (cz _)) ?_
        rw [if_neg c1]
        refine eEq rfl rfl (fun _ => ?_) (fun z => (z rfl).elim)
        refine eS rfl rfl ?_
        refine eS rfl rfl ?_
        refine gV1 hn rfl rfl rfl rfl rfl ⟨catOk rfl, catOk rfl⟩ (m_look hn hT (by omega)) ?_
        refine eS rfl rfl ?_
        refine eINe rfl rfl (fun _ => ?_) (fun z => absurd ((i32_eq (a := c (spn c isD 4 p)) (b := 46) (cz _) (by decide)).mp z) c2)
        refine eS rfl rfl ?_
        exact eR rfl rfl ⟨rfl, rfl⟩
end MNB
