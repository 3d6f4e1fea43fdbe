/-! put and clear under the invariant -/
theorem iAll.text {e e' : aEnt} (h : iAll e) (ht : iTxt e') (ag : ∀ q j, q ≠ 21 → q ≠ 57 → ¬ (q = 20 ∧ j = 1) → ¬ (q = 56 ∧ (j = 2 ∨ j = 0)) → e' q j = e q j) : iAll e' := by
  have r : ∀ q j, (q == 21 || q == 57 || (q == 20 && j == 1) || (q == 56 && (j == 2 || j == 0))) = false → e' q j = e q j := by
    intro q j hq
    simp only [Bool.or_eq_false_iff, Bool.and_eq_false_iff, beq_eq_false_iff_ne] at hq
    obtain ⟨⟨⟨q1, q2⟩, q3⟩, q4⟩ := hq
    refine ag q j q1 q2 (fun z => ?_) (fun z => ?_)
    · exact q3.elim (fun y => y z.1) (fun y => y z.2)
    · exact q4.elim (fun y => y z.1) (fun y => z.2.elim y.1 y.2)
  have r' : ∀ q, (q == 21 || q == 57 || q == 20 || q == 56) = false → ∀ j, e' q j = e q j := by
    intro q hq j
    simp only [Bool.or_eq_false_iff, beq_eq_false_iff_ne] at hq
    obtain ⟨⟨⟨q1, q2⟩, q3⟩, q4⟩ := hq
    exact ag q j q1 q2 (fun z => q3 z.1) (fun z => q4 z.1)
  obtain ⟨-, ⟨x, x1, x2⟩, ⟨pa, pb, n, p0, p1, p2, p3, p4, p5, p6⟩, hp, ⟨tx, ty, td, u0, u00, u1, u2, u3, u4, u5, u6⟩, hv, ⟨a, a1, a2, a3⟩⟩ := h
  refine ⟨ht, ⟨x, (r _ _ rfl).trans x1, (r _ _ rfl).trans x2⟩, ⟨pa, pb, n, p0, (r _ _ rfl).trans p1, (r _ _ rfl).trans p2, p3, ?_, (r _ _ rfl).trans p5, fun j hj => ?_⟩, fun j hj => ?_,
    ⟨tx, ty, td, u0, u00, (r _ _ rfl).trans u1, (r _ _ rfl).trans u2, (r _ _ rfl).trans u3, (r _ _ rfl).trans u4, (r _ _ rfl).trans u5, (r _ _ rfl).trans u6⟩, fun j hj => ?_, ⟨a, (r _ _ rfl).trans a1, (r _ _ rfl).trans a2, fun h0 => ?_⟩⟩
  · rw [r' pa (by rcases p0 with ⟨rfl, -⟩ | ⟨rfl, -⟩ <;> rfl)]; exact p4
  · rw [r' (pa + 4) (by rcases p0 with ⟨rfl, -⟩ | ⟨rfl, -⟩ <;> rfl), r' 76 rfl]; exact p6 j hj
  · rw [r' 43 rfl, r' 82 rfl]; exact hp j hj
  · rw [r' 37 rfl, r' 81 rfl]; exact hv j hj
  · obtain ⟨pc, ht, cl, co, dn, m1, m2, m3, m4, m5, m6, m7, m8, m9, m10, m11, m12, m13, m14, m15⟩ := a3 h0
    refine ⟨pc, ht, cl, co, dn, (r _ _ rfl).trans m1, (r _ _ rfl).trans m2, (r _ _ rfl).trans m3, (r _ _ rfl).trans m4, m5, (r _ _ rfl).trans m6, (r _ _ rfl).trans m7, m8, (r _ _ rfl).trans m9, (r _ _ rfl).trans m10, (r _ _ rfl).trans m11, (r _ _ rfl).trans m12, fun j hj => ?_, fun j hj => ?_, fun j hj => ?_⟩
    · rw [r' 36 rfl, r' 77 rfl]; exact m13 j hj
    · rw [r' 38 rfl, r' 78 rfl]; exact m14 j hj
    · rw [r' 39 rfl, r' 79 rfl, r' 40 rfl, r' 80 rfl]; exact m15 j hj
section TEXT
variable {scr : List Value} {S : Nat → List Value} {h : aH} {Q : aOut → aH → Prop} {i c : Nat} {w a b : Int32}
theorem ln20 (hM : aMem scr S h) : (S 20).length = 8 := (hM.ln 20 (by decide) (by decide)).trans rfl
/-- the contents after a change of the text: its length, both rows -/
def sTx (S : Nat → List Value) (n : Nat) (tx : List Value) : Nat → List Value := fun q => if q = 20 then (S 20).set 1 (.int (Int32.ofNat n)) else if q = 21 then tx else if q = 56 then ((S 56).set 0 (.int 0)).set 2 (.int (Int32.ofNat n)) else if q = 57 then tx else S q
theorem cV_ok (w : Int32) (k : Nat) : ∃ c, c < 256 ∧ cV w k = .int (Int32.ofNat c) := by
  obtain ⟨n, h1, h2⟩ : ∃ n, n < 256 ∧ cB w k = Int32.ofNat n := by
    unfold cB
    generalize w >>> (((Int8.ofInt 8).toInt32 * Int32.ofNat k) &&& 31) = v
    refine ⟨(v &&& 255).toBitVec.toNat, ?_, ?_⟩
    · have : (v &&& 255).toBitVec.toNat ≤ 255 := by
        show (v.toBitVec &&& (255 : Int32).toBitVec).toNat ≤ 255
        rw [BitVec.toNat_and]
        exact Nat.and_le_right
      omega
    · show v &&& 255 = Int32.ofNat (v &&& 255).toBitVec.toNat
      apply Int32.toBitVec_inj.mp
      show (v &&& 255).toBitVec = BitVec.ofNat 32 (v &&& 255).toBitVec.toNat
      simp
  refine ⟨n, h1, ?_⟩
  unfold cV
  rw [h2]
  exact (by decide +kernel : ∀ n, n < 256 → narrow FieldType.char (Value.int ((Int32.ofNat n).toUInt32 % 65536).toInt32) = Value.int (Int32.ofNat n)) n h1
theorem putTx_ok {w : Int32} : ∀ (k : Nat) (tx : List Value) (tl : Nat), tl + k ≤ tx.length → (∀ j, j < tl → ∃ c, c < 256 ∧ tx[j]? = some (.int (Int32.ofNat c))) → ∀ j, j < tl + k → ∃ c, c < 256 ∧ (putTx w k tx tl)[j]? = some (.int (Int32.ofNat c))
  | 0, tx, tl, _, h, j, hj => h j hj
  | k + 1, tx, tl, hl, h, j, hj => by
    rw [putTx]
    refine putTx_ok k _ _ (by rw [List.length_set]; omega) (fun i hi => ?_) j (by omega)
    by_cases e : i = tl
    · subst e
      obtain ⟨c, h1, h2⟩ := cV_ok w k
      exact ⟨c, h1, by rw [List.getElem?_set_self (by omega), h2]⟩
    · obtain ⟨c, h1, h2⟩ := h i (by omega)
      exact ⟨c, h1, by rw [List.getElem?_set_ne (by omega), h2]⟩
theorem sTx_all {n : Nat} {tx : List Value} (hn : n ≤ 160) (hx : ∀ j, j < n → ∃ c, c < 256 ∧ tx[j]? = some (.int (Int32.ofNat c))) (h8 : (S 20).length = 8) (h49 : (S 56).length = 49) (hA : iAll (aEn S)) : iAll (aEn (sTx S n tx)) := by
  refine hA.text ⟨n, hn, ?_, ?_, fun j => ⟨rfl, hx j⟩⟩ (fun q j q1 q2 q3 q4 => ?_)
  · show ((S 20).set 1 _)[1]? = _
    exact List.getElem?_set_self (by omega)
  · show (((S 56).set 0 _).set 2 _)[2]? = _
    exact List.getElem?_set_self (by rw [List.length_set]; omega)
  · unfold aEn sTx
    by_cases e1 : q = 20
    · subst e1
      rw [if_pos rfl, List.getElem?_set_ne (fun z => q3 ⟨rfl, z.symm⟩)]
    · rw [if_neg e1, if_neg q1]
      by_cases e2 : q = 56
      · subst e2
        rw [if_pos rfl, List.getElem?_set_ne (fun z => q4 ⟨rfl, Or.inl z.symm⟩), List.getElem?_set_ne (fun z => q4 ⟨rfl, Or.inr z.symm⟩)]
      · rw [if_neg e2, if_neg q2]
theorem sTx_lks {n : Nat} {tx : List Value} (hL : aLks S) : aLks (sTx S n tx) := by
  have h1 := hL.up (p := 20) (k := 1) (v := .int (Int32.ofNat n)) (by decide +kernel)
  intro q hq
  have hc := List.all_eq_true.mp (show aCon.all (fun q => !(q.1 == 21) && !(q.1 == 57) && !(q.1 == 20 && q.2.1 == 1) && !(q.1 == 56 && (q.2.1 == 0 || q.2.1 == 2))) = true by decide +kernel) q hq
  simp only [Bool.and_eq_true, Bool.not_eq_true', Bool.and_eq_false_iff, Bool.or_eq_false_iff, beq_eq_false_iff_ne] at hc
  obtain ⟨⟨⟨c1, c2⟩, c3⟩, c4⟩ := hc
  unfold sTx
  by_cases e1 : q.1 = 20
  · rw [if_pos e1, List.getElem?_set_ne (fun z => c3.elim (fun y => y e1) (fun y => y z.symm)), ← e1]
    exact hL q hq
  · rw [if_neg e1, if_neg c1]
    by_cases e2 : q.1 = 56
    · have c5 := c4.elim (fun y => absurd e2 y) id
      rw [if_pos e2, List.getElem?_set_ne (fun z => c5.2 z.symm), List.getElem?_set_ne (fun z => c5.1 z.symm), ← e2]
      exact hL q hq
    · rw [if_neg e2, if_neg c2]
      exact hL q hq
theorem sTx_mem {n : Nat} {tx : List Value} (hM : aMem scr S h) (hx : tx.length = 160) : aMem scr (sTx S n tx) ((((h.set 20 (8, (S 20).set 1 (.int (Int32.ofNat n)))).set 21 (1, tx)).set 56 (36, ((S 56).set 0 (.int 0)).set 2 (.int (Int32.ofNat n)))).set 57 (1, tx)) := by
  have m1 := hM.set (p := 20) (b := (S 20).set 1 (.int (Int32.ofNat n))) (by decide) (by decide) (by rw [List.length_set]; exact hM.ln 20 (by decide) (by decide))
  have m2 := m1.set (p := 21) (b := tx) (by decide) (by decide) (by rw [hx]; decide +kernel)
  have m3 := m2.set (p := 56) (b := ((S 56).set 0 (.int 0)).set 2 (.int (Int32.ofNat n))) (by decide) (by decide) (by simp only [List.length_set]; exact hM.ln 56 (by decide) (by decide))
  have m4 := m3.set (p := 57) (b := tx) (by decide) (by decide) (by rw [hx]; decide +kernel)
  have e : aUp (aUp (aUp (aUp S 20 ((S 20).set 1 (.int (Int32.ofNat n)))) 21 tx) 56 (((S 56).set 0 (.int 0)).set 2 (.int (Int32.ofNat n)))) 57 tx = sTx S n tx := by
    funext q
    unfold aUp sTx
    by_cases e1 : q = 20
    · subst e1; rfl
    by_cases e2 : q = 21
    · subst e2; rfl
    by_cases e3 : q = 56
    · subst e3; rfl
    by_cases e4 : q = 57
    · subst e4; rfl
    simp [e1, e2, e3, e4]
  rw [e] at m4
  exact m4
end TEXT
