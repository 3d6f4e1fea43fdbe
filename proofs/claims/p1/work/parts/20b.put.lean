section PUT
variable {d : Nat} {h : aH} {vs tx : List Value} {w n : Int32} {Q : aOut → aH → Prop}
theorem set_same {l : List Value} {k : Nat} {v : Value} (h : l[k]? = some v) : l.set k v = l := by
  apply List.ext_getElem?
  intro q
  by_cases hq : k = q
  · subst hq
    rw [List.getElem?_set_self (List.getElem?_eq_some_iff.mp h).1, h]
  · rw [List.getElem?_set_ne hq]
theorem s_put {tl : Nat} (hl : 57 ≤ h.length) (h20 : h[20]? = some (8, vs)) (hv : vs.length = 8) (h0 : vs[0]? = some (.ref 21)) (h1 : vs[1]? = some (.int (Int32.ofNat tl))) (h21 : h[21]? = some (1, tx)) (hx : tx.length = 160) (htl : tl ≤ 160) :
    aE aM22 (d + 1) 0 [(0, .ref 20), (1, .int w), (2, .int n)] [] h (aIs (some (.int (if putOk w n tl then 1 else 0))) (if putOk w n tl then (h.set 20 (8, vs.set 1 (.int (Int32.ofNat (tl + n.toNatClampNeg))))).set 21 (1, putTx w n.toNatClampNeg tx tl) else h)) := by
  have no : putOk w n tl = false → aIs (some (.int (if putOk w n tl then 1 else 0))) (if putOk w n tl then (h.set 20 (8, vs.set 1 (.int (Int32.ofNat (tl + n.toNatClampNeg))))).set 21 (1, putTx w n.toNatClampNeg tx tl) else h) (.inl (some (.int 0))) h := by
    intro z
    rw [z]
    exact ⟨rfl, rfl⟩
  have no22 : putOk w n tl = false → aE aM22 (d + 1) 22 [(0, .ref 20), (1, .int w), (2, .int n)] [] h (aIs (some (.int (if putOk w n tl then 1 else 0))) (if putOk w n tl then (h.set 20 (8, vs.set 1 (.int (Int32.ofNat (tl + n.toNatClampNeg))))).set 21 (1, putTx w n.toNatClampNeg tx tl) else h)) := by
    intro z
    refine eS rfl rfl ?_
    exact eR rfl rfl (no z)
  refine eS rfl rfl ?_
  refine eS rfl rfl ?_
  refine eILt rfl rfl (fun z => no22 ?_) (fun g1 => ?_)
  · have z : n < 1 := z
    simp [putOk, z]
  have g1 : ¬ n < 1 := g1
  refine eS rfl rfl ?_
  refine eS rfl rfl ?_
  refine eIGt rfl rfl (fun z => no22 ?_) (fun g2 => ?_)
  · have z : 4 < n := z
    simp [putOk, z]
  have g2 : ¬ 4 < n := g2
  obtain ⟨m, hm, rfl⟩ := i32_bnd (n := 4) (a := n) (fun z => g1 (by
    rw [Int32.lt_iff_toInt_lt] at z ⊢
    have z : n.toInt < 0 := z
    show n.toInt < 1
    omega)) g2 (by decide)
  have em : (Int32.ofNat m).toNatClampNeg = m := i32_clamp (by omega)
  rw [em] at no no22 ⊢
  refine eS rfl rfl ?_
  refine eGet rfl h20 rfl h1 ?_
  refine eS rfl rfl ?_
  refine eS rfl rfl ?_
  refine eS rfl rfl ?_
  rw [i32_add]
  refine eILe rfl rfl (fun g3 => ?_) (fun z => no22 ?_)
  · have g3 : tl + m ≤ 160 := (i32_le (a := tl + m) (b := 160) (by omega) (by decide)).mp g3
    refine eS rfl rfl ?_
    refine eS rfl rfl ?_
    refine s_put_l1 hm m 0 (by omega) (fun hok => ?_) (fun hno => no (by simp [putOk, em, hno]))
    have hok : putOk w (Int32.ofNat m) tl = true := by
      simp only [putOk, em, hok, Bool.and_true, Bool.and_eq_true, decide_eq_true_eq]
      exact ⟨⟨g1, g2⟩, g3⟩
    rw [hok]
    refine eS rfl rfl ?_
    refine eS rfl rfl ?_
    refine eS rfl rfl ?_
    refine eS rfl rfl ?_
    have e0 : h = (h.set 20 (8, vs.set 1 (.int (Int32.ofNat tl)))).set 21 (1, tx) := by
      rw [set_same h1, set_id h20, set_id h21]
    have := s_put_l2 (d := d) (w := w) (n0 := Int32.ofNat m) (Q := aIs (some (.int 1)) ((h.set 20 (8, vs.set 1 (.int (Int32.ofNat (tl + m))))).set 21 (1, putTx w m tx tl))) h0 hv hl m tx tl hm g3 hx ⟨rfl, rfl⟩
    rw [← e0] at this
    exact this
  · have z : ¬ tl + m ≤ 160 := fun y => z ((i32_le (a := tl + m) (b := 160) (by omega) (by decide)).mpr y)
    simp [putOk, em, z]
/-- the model's put -/
theorem s_mput_l1 {n : Nat} {ls : aLc} (hn : n ≤ 4) : ∀ (m k : Nat), k + m = n → (okFrom w k m = true → aE aM165 (d + 1) 74 [(3, .int (Int32.ofNat n)), (0, .ref 56), (1, .int w), (2, .int (Int32.ofNat n))] [] h Q) → (okFrom w k m = false → Q (.inl (some (.int 0))) h) →
    aE aM165 (d + 1) 30 [(3, .int (Int32.ofNat k)), (0, .ref 56), (1, .int w), (2, .int (Int32.ofNat n))] [] h Q
  | 0, k, hk, k1, k2 => by
    obtain rfl : k = n := by omega
    refine eS rfl rfl ?_
    refine eS rfl rfl ?_
    refine eIGe rfl rfl (fun _ => k1 rfl) (fun z => absurd (Int32.le_refl _) z)
  | m + 1, k, hk, k1, k2 => by
    have next : okC (cB w k) = true → aE aM165 (d + 1) 68 [(4, .int (cB w k)), (3, .int (Int32.ofNat k)), (0, .ref 56), (1, .int w), (2, .int (Int32.ofNat n))] [] h Q := by
      intro hc
      refine aE.less (l' := [(3, .int (Int32.ofNat k)), (0, .ref 56), (1, .int w), (2, .int (Int32.ofNat n))]) ⟨fun q hq => List.mem_cons_of_mem _ hq, by show List.Nodup [4, 3, 0, 1, 2]; decide⟩ ?_
      refine eS rfl rfl ?_
      refine eS rfl rfl ?_
      rw [i32_succ]
      exact s_mput_l1 (ls := ls) hn m (k + 1) (by omega) (fun z => k1 (by rw [okFrom, hc, z]; rfl)) (fun z => k2 (by rw [okFrom, z, Bool.and_false]))
    refine eS rfl rfl ?_
    refine eS rfl rfl ?_
    refine eIGe rfl rfl (fun z => absurd ((i32_le (by omega) (by omega)).mp z) (by omega)) (fun _ => ?_)
    refine eS rfl rfl ?_
    refine eS rfl rfl ?_
    refine eS rfl rfl ?_
    refine eS rfl rfl ?_
    refine eS rfl rfl ?_
    refine eS rfl rfl ?_
    refine eS rfl rfl ?_
    refine eS rfl rfl ?_
    refine eS rfl rfl ?_
    refine eS rfl rfl ?_
    refine eIEq rfl rfl (fun h1 => next ?_) (fun h1 => ?_)
    · have h1 : cB w k = 10 := h1
      rw [h1]; rfl
    have h1 : ¬ cB w k = 10 := h1
    refine eS rfl rfl ?_
    refine eS rfl rfl ?_
    refine eS rfl rfl ?_
    refine eC1 rfl rfl rfl ⟨catOk rfl, catOk rfl⟩ (s_outside d (cB w k) 32 126 h) ?_
    by_cases hb : cB w k < 32 ∨ 126 < cB w k
    · rw [outB_1 hb]
      refine eEq rfl rfl (fun z => absurd z (by decide)) (fun _ => ?_)
      refine eS rfl rfl ?_
      refine eR rfl rfl (k2 ?_)
      rw [okFrom, Bool.and_eq_false_iff]
      left
      rw [← Bool.not_eq_true]
      simp only [okC, Bool.or_eq_true, Bool.and_eq_true, decide_eq_true_eq]
      rintro (z | ⟨z1, z2⟩)
      · exact h1 z
      · exact hb.elim z1 z2
    · rw [outB_0 (fun z => hb (Or.inl z)) (fun z => hb (Or.inr z))]
      refine eEq rfl rfl (fun _ => next ?_) (fun z => absurd rfl z)
      simp only [okC, Bool.or_eq_true, Bool.and_eq_true, decide_eq_true_eq]
      exact Or.inr ⟨fun z => hb (Or.inl z), fun z => hb (Or.inr z)⟩
theorem s_mput_l2 {n0 : Int32} (h0 : vs[1]? = some (.ref 57)) (hv : vs.length = 49) (hl : 58 ≤ h.length) : ∀ (k : Nat) (tx : List Value) (tl : Nat), k ≤ 4 → tl + k ≤ 160 → tx.length = 160 →
    Q (.inl (some (.int 1))) ((h.set 56 (36, vs.set 2 (.int (Int32.ofNat (tl + k))))).set 57 (1, putTx w k tx tl)) →
    aE aM165 (d + 1) 78 [(3, .int (Int32.ofNat k - 1)), (0, .ref 56), (1, .int w), (2, .int n0)] [] ((h.set 56 (36, vs.set 2 (.int (Int32.ofNat tl)))).set 57 (1, tx)) Q
  | 0, tx, tl, hk, ht, hx, kk => by
    refine eS rfl rfl ?_
    refine eLt rfl rfl (fun _ => ?_) (fun z => absurd (by decide) z)
    refine eS rfl rfl ?_
    exact eR rfl rfl kk
  | k + 1, tx, tl, hk, ht, hx, kk => by
    rw [i32_pred]
    refine eS rfl rfl ?_
    refine eLt rfl rfl (fun z => absurd z (nneg (by omega))) (fun _ => ?_)
    refine eS rfl rfl ?_
    refine eGet rfl ((gN (by decide)).trans (gS (by omega))) rfl ((List.getElem?_set_ne (by decide)).trans h0) ?_
    refine eS rfl rfl ?_
    refine eGet rfl ((gN (by decide)).trans (gS (by omega))) rfl (List.getElem?_set_self (by show 2 < vs.length; omega)) ?_
    refine eS rfl rfl ?_
    refine eS rfl rfl ?_
    refine eS rfl rfl ?_
    refine eS rfl rfl ?_
    refine eS rfl rfl ?_
    refine eS rfl rfl ?_
    refine eS rfl rfl ?_
    refine eS rfl rfl ?_
    refine eH (I := .castore) rfl rfl rfl rfl (aWr_at (gS (by rw [List.length_set]; omega)) (by decide) rfl (by omega) (by omega)) ?_
    refine eS rfl rfl ?_
    refine eS rfl rfl ?_
    refine eGet rfl ((gN (by decide)).trans ((gN (by decide)).trans (gS (by omega)))) rfl (List.getElem?_set_self (by show 2 < vs.length; omega)) ?_
    refine eS rfl rfl ?_
    refine eS rfl rfl ?_
    refine ePut rfl ((gN (by decide)).trans ((gN (by decide)).trans (gS (by omega)))) rfl rfl (by decide) (by rw [List.length_set]; show 2 < vs.length; omega) rfl rfl ?_
    refine eS rfl rfl ?_
    refine eS rfl rfl ?_
    rw [uS, uC (by decide), uS, show (vs.set 2 (Value.int (Int32.ofNat tl))).set _ _ = vs.set 2 (.int (Int32.ofNat tl + Int32.ofInt 1)) from List.set_set .., i32_succ]
    have e3 : Int32.ofNat k + Int32.ofInt (-1) = Int32.ofNat k - 1 := by rw [Int32.sub_eq_add_neg]; rfl
    rw [e3]
    refine s_mput_l2 h0 hv hl k (tx.set tl (cV w k)) (tl + 1) (by omega) (by omega) (by rw [List.length_set]; exact hx) ?_
    rw [show tl + 1 + k = tl + (k + 1) by omega]
    exact kk
end PUT
