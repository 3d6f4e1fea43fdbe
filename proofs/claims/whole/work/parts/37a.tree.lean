/-! the class's tree is the tree that the walker wants -/
def gW (K : List (Nat × cAl)) (W : Nat → Nat) (a : Nat) (ws : List Nat) : Prop := ∀ (i : Nat) (x : Nat), ws[i]? = some x → (∀ p ∈ K, p.2.2.2.1 ≠ a + i) → W (a + i) = x
def gC (K : List (Nat × cAl)) (a b : Nat) (M : List (Nat × Nat)) : Prop := ∀ p ∈ K, a ≤ p.2.2.2.1 → p.2.2.2.1 < b → (p.1, p.2.2.2.1) ∈ M
section TRE
variable {K : List (Nat × cAl)} {D : List (Nat × dEf)} {W : Nat → Nat} {T : Nat → Nat × Nat × Nat} {M Mg : List (Nat × Nat)} {a b j k : Nat} {ws w1 w2 : List Nat} {f : Bool} {V : Nat → List Value} {tm : List (Nat × Nat × Nat)} {L : Nat → Option aO} {Dr : Nat → Nat → Prop} {n0 n tc : Nat}
theorem gW_app (h : gW K W a (w1 ++ w2)) : gW K W a w1 ∧ gW K W (a + w1.length) w2 := by
  refine ⟨fun i x hi hk => h i x (by rw [List.getElem?_append_left (List.getElem?_eq_some_iff.mp hi).1]; exact hi) hk, fun i x hi hk => ?_⟩
  rw [Nat.add_assoc] at hk ⊢
  exact h _ x (by rw [List.getElem?_append_right (by omega), Nat.add_sub_cancel_left]; exact hi) hk
theorem gW_cons {x : Nat} (h : gW K W a (x :: ws)) : ((∀ p ∈ K, p.2.2.2.1 ≠ a) → W a = x) ∧ gW K W (a + 1) ws := ⟨fun hk => h 0 x rfl hk, fun i y hi hk => by
  rw [Nat.add_assoc, Nat.add_comm 1 i] at hk ⊢
  exact h (i + 1) y hi hk⟩
theorem nCA (hC : gC K a b M) (h : ∀ e ∈ M, e.2 ≠ j) (h1 : a ≤ j) (h2 : j < b) : ∀ p ∈ K, p.2.2.2.1 ≠ j := fun p hp e => h _ (hC p hp (by omega) (by omega)) e
theorem gPre {wl rest : List Nat} (hW : gW K W a (0 :: (wl ++ rest))) (hC : gC K a (a + (0 :: (wl ++ rest)).length) M) (hlow : ∀ e ∈ M, a + 1 + wl.length < e.2) : W a = 0 ∧ (∀ (j : Nat) (x : Nat), wl[j]? = some x → W (a + 1 + j) = x) ∧ gW K W (a + 1 + wl.length) rest ∧ (rest ≠ [] → ∀ p ∈ K, p.2.2.2.1 ≠ a + 1 + wl.length) := by
  obtain ⟨h1, h2⟩ := gW_cons hW
  obtain ⟨h3, h4⟩ := gW_app h2
  simp only [List.length_cons, List.length_append] at hC
  refine ⟨h1 (nCA hC (fun e he => by have := hlow e he; omega) (Nat.le_refl _) (by omega)), fun j x hj => h3 j x hj (nCA hC (fun e he => ?_) (by omega) ?_), h4, fun hr => nCA hC (fun e he => by have := hlow e he; omega) (by omega) ?_⟩
  · have := hlow e he
    have := (List.getElem?_eq_some_iff.mp hj).1
    omega
  · have := (List.getElem?_eq_some_iff.mp hj).1
    omega
  · have := List.length_pos_iff.mpr hr
    omega
theorem tTm_of : ∀ (l : List (Nat × Nat × Nat)) (i a k k' : Nat), (∀ (j : Nat) (x : Nat × Nat × Nat), l[j]? = some x → T (i + j) = x) → (∀ (j : Nat) (x : Nat), (wdL l)[j]? = some x → W (a + j) = x) → hgt f l k k' → tTm W T f l.length i a (a + (wdL l).length) k k'
  | [], i, a, k, k', hT, hW, h => ⟨rfl, h⟩
  | t :: l, i, a, k, k', hT, hW, ⟨h1, h2⟩ => by
    have t0 : T i = t := hT 0 t rfl
    have ew : wdL (t :: l) = wdT t ++ wdL l := List.flatMap_cons
    rw [ew] at hW
    have w1 : ∀ (j : Nat) (x : Nat), (wdT t)[j]? = some x → W (a + j) = x := fun j x hj => hW j x (by rw [List.getElem?_append_left (List.getElem?_eq_some_iff.mp hj).1]; exact hj)
    have key : (wdT t).length = lenA t.1 ∧ W a = t.1 ∧ tmOk W f t a k := by
      rcases h1 with ⟨e, b1, b2⟩ | ⟨e, b1⟩ | ⟨e, b0, b1⟩ | ⟨e, b1⟩ | ⟨e, b1⟩ | ⟨e, b1⟩
      · have ed : wdT t = [1, t.2.1, t.2.2] := by unfold wdT; rw [if_pos e]
        rw [ed] at w1
        exact ⟨by rw [ed, e]; rfl, by rw [e]; exact w1 0 _ rfl, Or.inl ⟨e, w1 1 _ rfl, b1, w1 2 _ rfl, b2⟩⟩
      · have ed : wdT t = [t.1, t.2.1] := by unfold wdT; rw [if_neg (by omega), if_pos (by omega)]
        rw [ed] at w1
        exact ⟨by rw [ed, e]; rfl, w1 0 _ rfl, Or.inr (Or.inl ⟨e, w1 1 _ rfl, b1⟩)⟩
      · have ed : wdT t = [t.1, t.2.1] := by unfold wdT; rw [if_neg (by omega), if_pos (by omega)]
        rw [ed] at w1
        exact ⟨by rw [ed, e]; rfl, w1 0 _ rfl, Or.inr (Or.inr (Or.inl ⟨e, b0, w1 1 _ rfl, b1⟩))⟩
      · have ed : wdT t = [t.1] := by unfold wdT; rw [if_neg (by omega), if_neg (by omega)]
        rw [ed] at w1
        exact ⟨by rw [ed]; rcases e with e | e | e | e <;> rw [e] <;> rfl, w1 0 _ rfl, Or.inr (Or.inr (Or.inr (Or.inl ⟨e, b1⟩)))⟩
      · have ed : wdT t = [t.1] := by unfold wdT; rw [if_neg (by omega), if_neg (by omega)]
        rw [ed] at w1
        exact ⟨by rw [ed, e]; rfl, w1 0 _ rfl, Or.inr (Or.inr (Or.inr (Or.inr (Or.inl ⟨e, b1⟩))))⟩
      · have ed : wdT t = [t.1] := by unfold wdT; rw [if_neg (by omega), if_neg (by omega)]
        rw [ed] at w1
        exact ⟨by rw [ed]; rcases e with e | e | e <;> rw [e] <;> rfl, w1 0 _ rfl, Or.inr (Or.inr (Or.inr (Or.inr (Or.inr ⟨e, b1⟩))))⟩
    obtain ⟨k1, k2, k3⟩ := key
    have IH := tTm_of l (i + 1) (a + lenA t.1) (tmH t.1 k) k' (fun j x hj => by rw [Nat.add_assoc, Nat.add_comm 1 j]; exact hT (j + 1) x hj) (fun j x hj => by
      rw [Nat.add_assoc, ← k1]
      exact hW _ x (by rw [List.getElem?_append_right (by omega), Nat.add_sub_cancel_left]; exact hj)) h2
    show W a = (T i).1 ∧ tmOk W f (T i) a k ∧ tTm W T f l.length (i + 1) (a + lenA (T i).1) (a + (wdL (t :: l)).length) (tmH (T i).1 k) k'
    rw [t0]
    refine ⟨k2, k3, ?_⟩
    rw [ew, List.length_append, k1, ← Nat.add_assoc]
    exact IH
/-- what is to hold of a call's object -/
def gD (Dr : Nat → Nat → Prop) (W : Nat → Nat) (V : Nat → List Value) (Mg : List (Nat × Nat)) : Prop := ∀ e ∈ Mg, (V e.1)[0]? = some (.int (Int32.ofNat 16)) → ∃ qd, (V e.1)[11]? = some (.ref qd) ∧ Dr qd (W e.2)
theorem tSt_of {R : cBk} {R' : Value → Nat → Nat → Nat → Prop} (hR : ∀ a v ws M lo hi, R a v ws M lo hi → (∀ e ∈ M, e ∈ Mg) → gW K W a ws → gC K a (a + ws.length) M → ∀ k, R' v k a (a + ws.length)) (hRM : ∀ a v ws M lo hi, R a v ws M lo hi → mPw (a + 1) (a + ws.length) lo hi M) {kind num frm q lo hi : Nat} {l : List (Nat × Nat × Nat)} {body els dfn : Value} {he : Int32} (hs : uSt f R kind num l body he els q a ws M lo hi) (hMg : ∀ e ∈ M, e ∈ Mg) (hW : gW K W a ws) (hC : gC K a (a + ws.length) M) (hT : ∀ (j : Nat) (x : Nat × Nat × Nat), l[j]? = some x → T (frm + j) = x) (hcall : kind = 16 → ∀ ad, M = [(q, ad)] → ∃ qd, dfn = .ref qd ∧ Dr qd (W ad)) (k : Nat) : ∃ k' e, W a = 0 ∧ tTm W T f l.length frm (a + 1) e k k' ∧ tSt W Dr f R' kind num body els dfn k k' a e (a + ws.length) := by
  rcases hs with ⟨h1, h2, wb, h3, rfl⟩ | ⟨rfl, h2, wb, ⟨h3, h4, h5, rfl⟩ | ⟨h3, wc, M1, M2, m, m1, m2, h4, h5, rfl, rfl⟩⟩ | ⟨rfl, h2, h3, rfl, rfl⟩ | ⟨h1, rfl, rfl, rfl⟩ | ⟨h1, h2, rfl, rfl⟩ | ⟨h1, h2, rfl, rfl⟩
  · have pw := hRM _ _ _ _ _ _ h3
    obtain ⟨p1, p2, p3, p4⟩ := gPre hW hC (fun e he => by have := pw.1 e he; omega)
    replace p4 := p4 (by simp)
    generalize hE : a + 1 + (wdL l).length = E at p3 p4 h3 pw hW hC
    have ln : a + (0 :: (wdL l ++ kind :: (E + 2 + wb.length + 2) :: (wb ++ [14, if kind = 28 then E else a + 1]))).length = E + 2 + wb.length + 2 := by simp only [List.length_cons, List.length_append, List.length_nil]; omega
    rw [ln] at hC ⊢
    obtain ⟨g1, g2⟩ := gW_cons p3
    obtain ⟨g3, g4⟩ := gW_cons g2
    obtain ⟨g5, g6⟩ := gW_app g4
    obtain ⟨g7, g8⟩ := gW_cons g6
    obtain ⟨g9, -⟩ := gW_cons g8
    have n1 := nCA (j := E + 1) hC (fun e he => by have := pw.1 e he; omega) (by omega) (by omega)
    have n2 := nCA (j := E + 1 + 1 + wb.length) hC (fun e he => by have := pw.1 e he; omega) (by omega) (by omega)
    have n3 := nCA (j := E + 1 + 1 + wb.length + 1) hC (fun e he => by have := pw.1 e he; omega) (by omega) (by omega)
    have bk := hR _ _ _ _ _ _ h3 hMg g5 (fun p hp q1 q2 => hC p hp (by omega) (by omega))
    refine ⟨k + 1, E, p1, by rw [← hE]; exact tTm_of l frm (a + 1) k (k + 1) hT p2 (h2 k), ?_⟩
    rcases h1 with rfl | rfl
    · exact Or.inl ⟨rfl, rfl, g1 p4, g3 n1, E + 2 + wb.length, bk _, g7 n2, g9 n3, rfl⟩
    · exact Or.inr (Or.inl ⟨rfl, rfl, g1 p4, g3 n1, E + 2 + wb.length, bk _, g7 n2, g9 n3, rfl⟩)
  · have pw := hRM _ _ _ _ _ _ h5
    obtain ⟨p1, p2, p3, p4⟩ := gPre hW hC (fun e he => by have := pw.1 e he; omega)
    replace p4 := p4 (by simp)
    generalize hE : a + 1 + (wdL l).length = E at p3 p4 h5 pw hW hC
    have ln : a + (0 :: (wdL l ++ 15 :: (E + 2 + wb.length) :: wb)).length = E + 2 + wb.length := by simp only [List.length_cons, List.length_append]; omega
    rw [ln] at hC ⊢
    obtain ⟨g1, g2⟩ := gW_cons p3
    obtain ⟨g3, g4⟩ := gW_cons g2
    have n1 := nCA (j := E + 1) hC (fun e he => by have := pw.1 e he; omega) (by omega) (by have := pw.1; by_cases z : 0 < wb.length; omega; omega)
    have bk := hR _ _ _ _ _ _ h5 hMg g4 (fun p hp q1 q2 => hC p hp (by omega) (by omega))
    exact ⟨k + 1, E, p1, by rw [← hE]; exact tTm_of l frm (a + 1) k (k + 1) hT p2 (h2 k), Or.inr (Or.inr (Or.inl ⟨rfl, rfl, g1 p4, Or.inl ⟨h4, g3 n1, bk _⟩⟩))⟩
  · have pw1 := hRM _ _ _ _ _ _ h4
    have pw2 := hRM _ _ _ _ _ _ h5
    have low : ∀ e ∈ M1 ++ M2, a + 1 + (wdL l).length < e.2 := fun e he => by
      rcases List.mem_append.mp he with he | he
      · have := pw1.1 e he; omega
      · have := pw2.1 e he; omega
    obtain ⟨p1, p2, p3, p4⟩ := gPre hW hC low
    replace p4 := p4 (by simp)
    generalize hE : a + 1 + (wdL l).length = E at p3 p4 h4 h5 pw1 pw2 hW hC low
    have ln : a + (0 :: (wdL l ++ 15 :: (E + 2 + wb.length + 2) :: (wb ++ 14 :: (E + 2 + wb.length + 2 + wc.length) :: wc))).length = E + 2 + wb.length + 2 + wc.length := by simp only [List.length_cons, List.length_append]; omega
    rw [ln] at hC ⊢
    obtain ⟨g1, g2⟩ := gW_cons p3
    obtain ⟨g3, g4⟩ := gW_cons g2
    obtain ⟨g5, g6⟩ := gW_app g4
    obtain ⟨g7, g8⟩ := gW_cons g6
    obtain ⟨g9, g10⟩ := gW_cons g8
    have out : ∀ j, (j < E + 3 ∨ (E + 2 + wb.length ≤ j ∧ j ≤ E + 2 + wb.length + 2)) → ∀ e ∈ M1 ++ M2, e.2 ≠ j := fun j hj e he => by
      rcases List.mem_append.mp he with he | he
      · have := pw1.1 e he; omega
      · have := pw2.1 e he; omega
    have n1 := nCA (j := E + 1) hC (out _ (by omega)) (by omega) (by omega)
    have n2 := nCA (j := E + 1 + 1 + wb.length) hC (out _ (by omega)) (by omega) (by omega)
    have n3 := nCA (j := E + 1 + 1 + wb.length + 1) hC (out _ (by omega)) (by omega) (by omega)
    have bk1 := hR _ _ _ _ _ _ h4 (fun e he => hMg e (List.mem_append_left _ he)) g5 (fun p hp q1 q2 => by
      rcases List.mem_append.mp (hC p hp (by omega) (by omega)) with z | z
      · exact z
      · have : _ ≤ p.2.2.2.1 := (pw2.1 _ z).2.2.1
        omega)
    have bk2 := hR _ _ _ _ _ _ h5 (fun e he => hMg e (List.mem_append_right _ he)) g10 (fun p hp q1 q2 => by
      rcases List.mem_append.mp (hC p hp (by omega) (by omega)) with z | z
      · have : p.2.2.2.1 < _ := (pw1.1 _ z).2.2.2
        omega
      · exact z)
    exact ⟨k + 1, E, p1, by rw [← hE]; exact tTm_of l frm (a + 1) k (k + 1) hT p2 (h2 k), Or.inr (Or.inr (Or.inl ⟨rfl, rfl, g1 p4, Or.inr ⟨E + 2 + wb.length, bk1 _, g7 n2, g9 n3, g3 n1, bk2 _⟩⟩))⟩
  · obtain ⟨p1, p2, p3, p4⟩ := gPre hW hC (fun e he => by rw [List.mem_singleton.mp he]; show _ < a + 1 + (wdL l).length + 1; omega)
    replace p4 := p4 (by simp)
    obtain ⟨qd, d1, d2⟩ := hcall rfl _ rfl
    generalize hE : a + 1 + (wdL l).length = E at p3 p4 d2 hW hC
    have ln : a + (0 :: (wdL l ++ [16, 0, num])).length = E + 3 := by simp only [List.length_cons, List.length_append, List.length_nil]; omega
    rw [ln] at hC ⊢
    obtain ⟨g1, g2⟩ := gW_cons p3
    obtain ⟨-, g4⟩ := gW_cons g2
    obtain ⟨g5, -⟩ := gW_cons g4
    have n1 := nCA (j := E + 1 + 1) hC (fun e he => by rw [List.mem_singleton.mp he]; show E + 1 ≠ _; omega) (by omega) (by omega)
    exact ⟨k + num, E, p1, by rw [← hE]; exact tTm_of l frm (a + 1) k (k + num) hT p2 (h3 k), Or.inr (Or.inr (Or.inr (Or.inl ⟨rfl, h2, rfl, g1 p4, g5 n1, rfl, qd, d1, d2⟩)))⟩
  · obtain ⟨p1, p2⟩ := gW_cons hW
    obtain ⟨p3, -⟩ := gW_cons p2
    have no : ∀ j, a ≤ j → j < a + 2 → ∀ p ∈ K, p.2.2.2.1 ≠ j := fun j j1 j2 => nCA hC (fun e he => by cases he) j1 j2
    refine ⟨k, a + 1, p1 (no _ (by omega) (by omega)), ⟨rfl, rfl⟩, ?_⟩
    rcases h1 with rfl | h1
    · exact Or.inr (Or.inr (Or.inr (Or.inr (Or.inl ⟨rfl, rfl, rfl, p3 (no _ (by omega) (by omega)), rfl⟩))))
    · exact Or.inr (Or.inr (Or.inr (Or.inr (Or.inr (Or.inr (Or.inr ⟨by omega, rfl, p3 (no _ (by omega) (by omega)), rfl⟩))))))
  · obtain ⟨p1, p2, p3, p4⟩ := gPre hW hC (fun e he => by cases he)
    replace p4 := p4 (by simp)
    generalize hE : a + 1 + (wdL l).length = E at p3 p4 hW hC
    have ln : a + (0 :: (wdL l ++ [kind, num])).length = E + 2 := by simp only [List.length_cons, List.length_append, List.length_nil]; omega
    rw [ln] at hC ⊢
    obtain ⟨g1, g2⟩ := gW_cons p3
    obtain ⟨g3, -⟩ := gW_cons g2
    have n1 := nCA (j := E + 1) hC (fun e he => by cases he) (by omega) (by omega)
    exact ⟨k + 1, E, p1, by rw [← hE]; exact tTm_of l frm (a + 1) k (k + 1) hT p2 (h2 k), Or.inr (Or.inr (Or.inr (Or.inr (Or.inr (Or.inl ⟨h1, rfl, g1 p4, g3 n1, rfl⟩)))))⟩
  · obtain ⟨p1, p2, p3, p4⟩ := gPre hW hC (fun e he => by cases he)
    replace p4 := p4 (by simp)
    generalize hE : a + 1 + (wdL l).length = E at p3 p4 hW hC
    have ln : a + (0 :: (wdL l ++ [kind])).length = E + 1 := by simp only [List.length_cons, List.length_append, List.length_nil]; omega
    rw [ln] at hC ⊢
    obtain ⟨g1, -⟩ := gW_cons p3
    exact ⟨k + 1, E, p1, by rw [← hE]; exact tTm_of l frm (a + 1) k (k + 1) hT p2 (h2 k), Or.inr (Or.inr (Or.inr (Or.inr (Or.inr (Or.inr (Or.inl ⟨by omega, rfl, g1 p4, rfl⟩))))))⟩
end TRE
