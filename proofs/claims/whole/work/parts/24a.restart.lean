/-! restart with a program -/
section RST
variable {d pa : Nat} {h h' : aH} {vs pr mc tu pi pl vl : List Value} {n : Int32}
theorem s_lrestart_ok (h20 : h[20]? = some (8, vs)) (h4 : vs[4]? = some (.ref 35)) (h35 : h[35]? = some (18, mc)) (s : aE aM115 (d + 3) 0 [(0, .ref 20)] [] h (aIs none h)) (sb : aE aM104 (d + 3) 0 [(0, .ref 35)] [] h (aIs none h')) : aE aM113 (d + 5) 0 [(0, .ref 20)] [] h (aIs (some (.int 0)) h') := by
  have s2 : aE aM114 (d + 4) 0 [(0, .ref 20)] [] h (aIs none h') := by
    refine eS rfl rfl ?_
    refine eV1 rfl rfl h20 rfl rfl ⟨catOk rfl, catOk rfl⟩ s ?_
    refine eS rfl rfl ?_
    refine eGet rfl h20 rfl h4 ?_
    refine eV1 rfl rfl h35 rfl rfl ⟨catOk rfl, catOk rfl⟩ sb ?_
    exact eR rfl rfl ⟨rfl, rfl⟩
  refine eS rfl rfl ?_
  refine eV1 rfl rfl h20 rfl rfl ⟨catOk rfl, catOk rfl⟩ s2 ?_
  refine eS rfl rfl ?_
  refine eS rfl rfl ?_
  exact eR rfl rfl ⟨rfl, rfl⟩
theorem s_mrestart_ok (hl : 57 ≤ h.length) (h56 : h[56]? = some (36, vs)) (hv : vs.length = 49) (h30 : vs[30]? = some (.int n)) (hn : ¬ n ≤ 0) (sb : aE aM163 d 0 [(0, .ref 56)] [] (mT h vs 0) (aIs none h')) : aE aM204 (d + 1) 0 [(0, .ref 56)] [] h (aIs none h') := by
  refine eS rfl rfl ?_
  refine eS rfl rfl ?_
  refine eGet rfl h56 rfl h30 ?_
  refine eNe rfl rfl (fun _ => ?_) (fun z => absurd (by rw [z]; exact Int32.le_refl _) hn)
  refine eS rfl rfl ?_
  refine ePut rfl h56 rfl rfl (by decide) (by show 0 < vs.length; omega) rfl rfl ?_
  refine eS rfl rfl ?_
  refine eGet rfl (gS (by omega)) rfl (sT (by decide) h30) ?_
  refine eLe rfl rfl (fun z => absurd z hn) (fun _ => ?_)
  refine eS rfl rfl ?_
  refine eV1 rfl rfl (gS (by omega)) rfl rfl ⟨catOk rfl, catOk rfl⟩ sb ?_
  exact eR rfl rfl ⟨rfl, rfl⟩
end RST
/-- what is still open for the whole: the four calls that compile and run -/
def aOpen (E : aExt) : Prop := ∀ (scr : List Value) (Q : aOut → aH → Prop) (i c : Nat) (h : aH) (w a : Int32), scr.length ≤ 1536 → i + 3 ≤ scr.length → scr[i + 1]? = some (.int a) → aInv E scr c h → aNext E scr Q i c →
  (w &&& 15 = Int32.ofNat 2 ∨ w &&& 15 = Int32.ofNat 6 ∨ w &&& 15 = Int32.ofNat 7 ∨ w &&& 15 = Int32.ofNat 8) → aE aMlaw 800 44 (aL0 (Int32.ofNat i)) [.int (w &&& 15)] h Q
theorem aGoal_of {E : aExt} (H : aOpen E) (hSt : eSt E) (hE0 : ∀ scr, E aS0 (hA scr)) : aGoal := by
  intro L xs hL
  have hl : ((List.range L).map (fun j => Value.int (xs j))).length = L := by rw [List.length_map, List.length_range]
  have hS : ∀ (j : Nat) (v : Value), ((List.range L).map (fun j => Value.int (xs j)))[j]? = some v → ∃ x, v = .int x := by
    intro j v hv
    rw [List.getElem?_map] at hv
    obtain ⟨q, -, rfl⟩ := Option.map_eq_some_iff.mp hv
    exact ⟨_, rfl⟩
  have hsz : aSzs aCls (hA ((List.range L).map (fun j => Value.int (xs j)))) ≤ aSzs aCls (aH0 ((List.range L).map (fun j => Value.int (xs j)))) + 9000 := by
    have h1 : aSzs aCls (aH0 ((List.range L).map (fun j => Value.int (xs j)))) = aSz aCls (0, (List.range L).map (fun j => Value.int (xs j))) + aSzs aCls aH0t := rfl
    have h2 : aSzs aCls (hA ((List.range L).map (fun j => Value.int (xs j)))) = aSz aCls (0, (List.range L).map (fun j => Value.int (xs j))) + aSzs aCls hX := rfl
    have := hX_sz.1
    omega
  have key : aE aMlaw 800 0 [(0, .ref 0)] [] (aH0 ((List.range L).map (fun j => .int (xs j)))) (fun r h' => r = .inl (some (.int 1)) ∧ h'.length ≤ 20 + 601024 ∧ aSzs aCls h' ≤ aSzs aCls (aH0 ((List.range L).map (fun j => .int (xs j)))) + 7293034) := by
    refine aLaw_head ?_
    refine law_loop (Inv := aInv E ((List.range L).map (fun j => Value.int (xs j)))) (by rw [hl]; exact hL) hS (fun c h hI => by obtain ⟨S, hM, -⟩ := hI; exact hM.2.1) (fun c h i w a b hI hi ha hb kk => ?_) (fun c h hc hI => ?_) (L / 3) 0 0 (hA _) (by rw [hl]; omega) rfl (by omega) (aInv_0 (hE0 _))
    · obtain ⟨k, hk, e⟩ := and15 w
      have hL0 : ((List.range L).map (fun j => Value.int (xs j))).length ≤ 1536 := by rw [hl]; exact hL
      match k, hk, e with
      | 0, _, e => exact step_put hL0 hi e ha hb hSt hI kk
      | 1, _, e => exact step_clear e hSt hI kk
      | 2, _, e => exact H _ _ i c h w a hL0 hi ha hI kk (Or.inl e)
      | 3, _, e => exact step_error e hSt hI kk
      | 4, _, e => exact step_size e hSt hI kk
      | 5, _, e => exact step_word hL0 hi e ha hSt hI kk
      | 6, _, e => exact H _ _ i c h w a hL0 hi ha hI kk (Or.inr (Or.inl e))
      | 7, _, e => exact H _ _ i c h w a hL0 hi ha hI kk (Or.inr (Or.inr (Or.inl e)))
      | 8, _, e => exact H _ _ i c h w a hL0 hi ha hI kk (Or.inr (Or.inr (Or.inr e)))
      | 9, _, e => exact step_pixel hL0 hi e ha hb hSt hI kk
      | 10, _, e => exact step_x e hSt hI kk
      | 11, _, e => exact step_y e hSt hI kk
      | 12, _, e => exact step_heading e hSt hI kk
      | 13, _, e => exact step_value hL0 hi e ha hSt hI kk
      | 14, _, e => exact step_skip (by rw [e]; decide) hSt hI kk
      | 15, _, e => exact step_skip (by rw [e]; decide) hSt hI kk
      | k + 16, hk, _ => omega
    · obtain ⟨S, hM, -, -, hlen, -⟩ := hI
      have := aMem_sz hM
      refine ⟨rfl, by omega, by omega⟩
  obtain ⟨n, r, h', e, rfl, q1, q2⟩ := key
  exact ⟨n, h', e, q1, q2⟩
