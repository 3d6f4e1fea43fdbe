/-! both tokenizers, whole -/
theorem aE_ex {α : Type} {M : aMt} {d pc : Nat} {ls : aLc} {st : List Value} {h : aH} {P : α → Prop} {R : α → aOut → aH → Prop} (H : aE M d pc ls st h (fun o h' => ∃ x, P x ∧ R x o h')) : ∃ x, P x ∧ aE M d pc ls st h (R x) := by
  obtain ⟨f, o, h', e, x, px, r⟩ := H
  exact ⟨x, px, f, o, h', e, r⟩
section TOW
variable {scr : List Value} {kd : Nat → Nat} {n d L : Nat} {S S0 A : Nat → List Value} {w : Nat → Value} {tk0 c0 e0 : Int32} {rest : List Value} {c : Nat → Nat}
theorem tkS_id (h : S 23 = [.ref 24, .ref 25, .ref 26, .ref 27, .ref 28, .ref 29, .int c0, .int e0]) : tkS S (S 24) (S 25) (S 26) (S 27) (S 28) c0 e0 = S := by
  funext q
  unfold tkS
  split
  · next e => rw [e]; exact h.symm
  · split
    · next e => rw [e]
    · split
      · next e => rw [e]
      · split
        · next e => rw [e]
        · split
          · next e => rw [e]
          · split
            · next e => rw [e]
            · rfl
theorem nxA2 {m : Nat} {v u : Value} : cxA m A (aUp (aUp A 58 ((A 58).set m v)) 59 ((A 59).set m u)) := cxA.trans (nx_up (by decide)) (nx_up (A := aUp A 58 _) (r0 := 59) (by decide))
theorem tsW_0 : tsW c L 0 [] := ⟨fun i tk e => (by cases e), fun i a b e => (by cases e), fun i a hi => (by cases hi)⟩
/-- the class's split -/
theorem c_split (hn : 67 ≤ n) (hT : txOk (S 21) L c) (h29 : S 29 = aS0 29) (h23 : S 23 = [.ref 24, .ref 25, .ref 26, .ref 27, .ref 28, .ref 29, .int c0, .int e0]) (hl : tkL (S 24) (S 25) (S 26) (S 27) (S 28)) : ∃ S' ts', cTk S (Int32.ofNat L) ts' S' ∧ aE aM40 (d + 5) 0 [(0, .ref 23), (1, .ref 21), (2, .int (Int32.ofNat L))] [] (gH scr kd n S) (aIs (some (.int (tokV (tokA c L L 0 [])))) (gH scr kd n S')) ∧ ∀ t2, tokA c L L 0 [] = .ok t2 → ts' = t2 := by
  obtain ⟨S', ts', h1, h2, h3⟩ := c_split_loop (scr := scr) (kd := kd) (d := d) (en := Int32.ofNat L) hn hT h29 L 0 0 [] (tkS S (S 24) (S 25) (S 26) (S 27) (S 28) (Int32.ofNat 0) (Int32.ofNat L)) (by omega) (Nat.zero_le _) (Nat.le_refl _) (Nat.le_refl _) ⟨_, _, _, _, _, rfl, hl, fun i tk e => by cases e⟩
  refine ⟨S', ts', h1, ?_, h3⟩
  rw [← tkS_id h23]
  refine eS rfl rfl ?_
  refine eS rfl rfl ?_
  refine gPut hn rfl rfl rfl rfl rfl rfl rfl tk_c ?_
  refine eS rfl rfl ?_
  refine eS rfl rfl ?_
  refine gPut hn rfl rfl rfl rfl rfl rfl rfl tk_e ?_
  refine eS rfl rfl ?_
  refine eS rfl rfl ?_
  refine eS rfl rfl ?_
  refine eS rfl rfl ?_
  refine eLoc (l' := spLs L 0 0) rfl ⟨rfl, rfl, rfl, rfl, rfl, trivial⟩ ?_
  exact h2
def cutF (A A' : Nat → List Value) (n' : Nat) (wr' : Int32) (L : Nat) (r : Except Nat (List aTk)) : Prop := mkL A' ∧ n' ≤ 160 ∧ (∀ q, q < 58 ∨ 61 < q → A' q = A q) ∧ (∀ e, r = .error e → wr' = Int32.ofNat e ∧ e < 2 ^ 20) ∧ ∀ t2, r = .ok t2 → wr' = -1 ∧ n' = t2.length ∧ mkF t2 A' ∧ (A' 58)[n']? = some (.int 0) ∧ (A' 59)[n']? = some (.int (Int32.ofNat L))
/-- the model's cut -/
theorem m_cut (hn : 67 ≤ n) (hT : txOk (S0 57) L c) (hL : mkL A) : ∃ x : (Nat → List Value) × Nat × Int32, cutF A x.1 x.2.1 x.2.2 L (tokA c L L 0 []) ∧ aE aM169 (d + 3) 0 [(0, .ref 56)] [] (gH scr kd n (mtS S0 (mK w L (-1) tk0 rest) A)) (aIs none (gH scr kd n (mtS S0 (mK w L x.2.2 (Int32.ofNat x.2.1) rest) x.1))) := by
  refine aE_ex (P := fun x : (Nat → List Value) × Nat × Int32 => cutF A x.1 x.2.1 x.2.2 L (tokA c L L 0 [])) (R := fun x => aIs none (gH scr kd n (mtS S0 (mK w L x.2.2 (Int32.ofNat x.2.1) rest) x.1))) ?_
  refine eS rfl rfl ?_
  refine eS rfl rfl ?_
  refine gPut hn rfl rfl rfl rfl rfl rfl rfl mt_tk ?_
  refine eS rfl rfl ?_
  refine eS rfl rfl ?_
  refine eLoc (l' := [(1, .int (Int32.ofNat 0)), (0, .ref 56)]) rfl ⟨rfl, rfl, trivial⟩ ?_
  refine m_cut_loop hn hT L 0 [] A (by omega) (Nat.zero_le _) (Nat.le_refl _) hL (fun i tk e => by cases e) (fun A' n' wr' v hR => ?_)
  obtain ⟨⟨l1, l2, l3, l4, l5⟩, r2, r3, r4, r5⟩ := hR
  have bx := nxA2 (m := n') (A := A') (v := .int 0) (u := .int (Int32.ofNat L))
  refine eS rfl rfl ?_
  refine gGet hn rfl rfl rfl rfl ?_
  refine eS rfl rfl ?_
  refine gGet hn rfl rfl rfl rfl ?_
  refine eS rfl rfl ?_
  refine gWr0 hn rfl rfl rfl n' (by omega) (by show n' < (A' 58).length; omega) (mt_up rfl) ?_
  refine eS rfl rfl ?_
  refine gGet hn rfl rfl rfl rfl ?_
  refine eS rfl rfl ?_
  refine gGet hn rfl rfl rfl rfl ?_
  refine eS rfl rfl ?_
  refine gGet hn rfl rfl rfl rfl ?_
  refine gWr0 hn rfl rfl rfl n' (by omega) (by show n' < (A' 59).length; omega) (mt_up rfl) ?_
  refine eR rfl rfl ⟨⟨(aUp (aUp A' 58 ((A' 58).set n' (.int 0))) 59 ((A' 59).set n' (.int (Int32.ofNat L)))), n', wr'⟩, ⟨nx_L bx ⟨l1, l2, l3, l4, l5⟩ (v := 0) (st_at (a := A' 58) (by omega)), r2, fun q hq => (bx.2.2 q hq).trans (r3 q hq), r4, fun t2 e => ?_⟩, rfl, rfl⟩
  obtain ⟨g1, g2, g3⟩ := r5 t2 e
  refine ⟨g1, g3, fun i tk hi => ?_, st_at (a := A' 58) (by omega), st_at (a := A' 59) (by omega)⟩
  have hne : i ≠ n' := by
    have := (List.getElem?_eq_some_iff.mp hi).1
    omega
  have := g2 i tk hi
  show mk1 tk i (aUp (aUp A' 58 ((A' 58).set n' (.int 0))) 59 ((A' 59).set n' (.int (Int32.ofNat L))))
  unfold mk1
  rw [bx.2.1 _ _ hne, bx.2.1 _ _ hne, bx.2.1 _ _ hne, bx.2.1 _ _ hne]
  exact this
end TOW
