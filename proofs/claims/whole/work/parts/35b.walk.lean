/-! the coder walks over statements -/
/-- changed at most in one entry that is no part of the tree -/
def frA (x y : List Value) : Prop := y = x ∨ (∃ v, y = x.set 9 v) ∨ (∃ v, y = x.set 11 v) ∨ ∃ i : Int32, y = x.set 12 (.int i)
theorem frA_id {x : List Value} : frA x x := Or.inl rfl
theorem frA_at {x y : List Value} (h : frA x y) {j : Nat} (hj : j < 9) : y[j]? = x[j]? := by
  rcases h with rfl | ⟨v, rfl⟩ | ⟨v, rfl⟩ | ⟨v, rfl⟩
  · rfl
  all_goals exact List.getElem?_set_ne (by omega)
theorem frA_len {x y : List Value} (h : frA x y) : y.length = x.length := by
  rcases h with rfl | ⟨v, rfl⟩ | ⟨v, rfl⟩ | ⟨v, rfl⟩
  · rfl
  all_goals exact List.length_set
theorem oS_frA {U U' : Nat → List Value} {q kind num frm to : Nat} {body els : Value} {he : Int32} {nm : Int64} {tp : Int32} (h : oS U q kind num frm to body he els nm tp) (hf : frA (U q) (U' q)) : oS U' q kind num frm to body he els nm tp := by
  obtain ⟨nxt, nos, dfn, cp, e⟩ := h
  rw [e] at hf
  rcases hf with e2 | ⟨w, e2⟩ | ⟨w, e2⟩ | ⟨w, e2⟩
  · exact ⟨nxt, nos, dfn, cp, e2⟩
  · exact ⟨nxt, w, dfn, cp, e2⟩
  · exact ⟨nxt, nos, w, cp, e2⟩
  · exact ⟨nxt, nos, dfn, w, e2⟩
theorem pSt_frA {f : Bool} {U U' : Nat → List Value} {tm : List (Nat × Nat × Nat)} {R R' : cBk} {q a : Nat} {ws : List Nat} {M : List (Nat × Nat)} {lo hi : Nat} (h : ∀ a v ws M lo' hi', lo ≤ lo' → hi' ≤ hi → R a v ws M lo' hi' → R' a v ws M lo' hi') (hq : frA (U q) (U' q)) (hs : pSt f R U tm q a ws M lo hi) : pSt f R' U' tm q a ws M lo hi := by
  obtain ⟨kind, num, frm, to, body, he, els, nm, tp, z1, z2, z3, z4⟩ := hs
  exact ⟨kind, num, frm, to, body, he, els, nm, tp, oS_frA z1 hq, z2, z3, uSt_mono h z4⟩
theorem uBk_frA {f : Bool} {U U' : Nat → List Value} {tm : List (Nat × Nat × Nat)} : ∀ (dp : Nat) {a : Nat} {v : Value} {ws : List Nat} {M : List (Nat × Nat)} {lo hi : Nat}, (∀ p, lo ≤ p → p < hi → frA (U p) (U' p)) → uBk f dp U tm a v ws M lo hi → uBk f dp U' tm a v ws M lo hi
  | 0, _, _, _, _, _, _, _, h => h
  | dp + 1, a, v, ws, M, lo, hi, hU, ⟨k, h⟩ => ⟨k, hLs_mono lo hi (fun q a ws M lo' hi' q1 q2 q3 q4 z => pSt_frA (fun a v ws M l1 h1 b1 b2 r => uBk_frA dp (fun p p1 p2 => hU p (by omega) (by omega)) r) (hU q q1 (by omega)) z) (fun q q1 q2 => frA_at (hU q q1 q2) (by decide)) (Nat.le_refl _) (Nat.le_refl _) h⟩
def pOkA (P : cPst) : Prop := ∀ U U' tm q a ws M lo hi, q < lo → lo ≤ hi → P U tm q a ws M lo hi → (∀ p, q ≤ p → p < hi → frA (U p) (U' p)) → P U' tm q a ws M lo hi
theorem stP_okA {f : Bool} (dp : Nat) : pOkA (stP f dp) := fun U U' tm q a ws M lo hi h1 h2 h hf => pSt_frA (fun a v ws M l1 h1' b1 b2 r => uBk_frA dp (fun p p1 p2 => hf p (by omega) (by omega)) r) (hf q (Nat.le_refl _) (by omega)) h
theorem tpP_okA : pOkA tpP := fun U U' tm q a ws M lo hi h1 h2 h hf => by
  rcases h with h | ⟨num, frm, to, body, he, els, nm, tp, wb, Mb, z1, z2, z3, z4⟩
  · exact Or.inl (stP_okA 3 U U' tm q a ws M lo hi h1 h2 h hf)
  · exact Or.inr ⟨num, frm, to, body, he, els, nm, tp, wb, Mb, oS_frA z1 (hf q (Nat.le_refl _) (by omega)), uBk_frA 3 (fun p p1 p2 => hf p (by omega) p2) z2, z3, z4⟩
/-- the places of calls and definitions are noted in their objects -/
def cpU : List (Nat × Nat) → (Nat → List Value) → (Nat → List Value)
  | [], U => U
  | p :: r, U => cpU r (aUp U p.1 ((U p.1).set 12 (.int (Int32.ofNat p.2))))
theorem cpU_app : ∀ (M M' : List (Nat × Nat)) (U : Nat → List Value), cpU (M ++ M') U = cpU M' (cpU M U)
  | [], M', U => rfl
  | p :: r, M', U => cpU_app r M' _
theorem cpU_fr : ∀ (M : List (Nat × Nat)) (U : Nat → List Value) (q : Nat), cpU M U q = U q ∨ ∃ i : Int32, cpU M U q = (U q).set 12 (.int i)
  | [], U, q => Or.inl rfl
  | p :: r, U, q => by
    show cpU r _ q = U q ∨ ∃ i : Int32, cpU r _ q = _
    rcases cpU_fr r (aUp U p.1 ((U p.1).set 12 (.int (Int32.ofNat p.2)))) q with e | ⟨i, e⟩
    · by_cases eq : q = p.1
      · rw [e, eq, aUp_same]; exact Or.inr ⟨_, rfl⟩
      · rw [e, aUp_ne eq]; exact Or.inl rfl
    · by_cases eq : q = p.1
      · rw [e, eq, aUp_same, List.set_set]; exact Or.inr ⟨_, rfl⟩
      · rw [e, aUp_ne eq]; exact Or.inr ⟨_, rfl⟩
theorem cpU_frA (M : List (Nat × Nat)) (U : Nat → List Value) (q : Nat) : frA (U q) (cpU M U q) := by
  rcases cpU_fr M U q with e | ⟨i, e⟩
  · exact Or.inl e
  · exact Or.inr (Or.inr (Or.inr ⟨i, e⟩))
/-- objects are statements -/
def oOk (n0 n : Nat) (kd : Nat → Nat) (U : Nat → List Value) : Prop := ∀ p, n0 + 20 ≤ p → p < n + 20 → kd p = 30 ∧ (U p).length = 13
theorem oOk_cp {n0 n : Nat} {kd : Nat → Nat} {U : Nat → List Value} {M : List (Nat × Nat)} (h : oOk n0 n kd U) : oOk n0 n kd (cpU M U) := fun p p1 p2 => ⟨(h p p1 p2).1, (frA_len (cpU_frA M U p)).trans (h p p1 p2).2⟩
theorem set_mid {p r : List Nat} {x y z : Nat} : (p ++ [x, y] ++ r).set (p.length + 1) z = p ++ (x :: z :: r) := by
  rw [List.append_assoc, List.set_append_right (s := p) _ _ (by omega), Nat.add_sub_cancel_left]
  rfl
theorem hgt_in {f : Bool} : ∀ {l : List (Nat × Nat × Nat)} {k k' : Nat}, hgt f l k k' → ∀ q ∈ l, 1 ≤ q.1 ∧ q.1 < 2 ^ 20
  | [], _, _, _, q, hq => by cases hq
  | t :: l, k, k', h, q, hq => by
    rcases List.mem_cons.mp hq with e | hq
    · rw [e]
      have := h.1
      unfold hOk at this
      omega
    · exact hgt_in h.2 q hq
section CDB
variable {scr : List Value} {kd : Nat → Nat} {n n0 d pa tc : Nat} {S1 U U' S : Nat → List Value} {fs fc : Value} {ws : List Nat} {w k : Nat} {tm : List (Nat × Nat × Nat)} {f : Bool} {P : cPst}
theorem c_wrLoop (hn0 : 67 ≤ n0) (hP : pOkA P) (hone : ∀ U S pre q a ws M hi, P U tm q a ws M (q + 1) hi → a = pre.length → pre.length + ws.length < 2 ^ 19 → n0 + 20 ≤ q → q < hi → hi ≤ n + 20 → oOk n0 n kd U → dX S1 pa fs fc tc U pre S → ∃ S', dX S1 pa fs fc tc (cpU M U) (pre ++ ws) S' ∧ ∀ Q, aE aM95 (d + 1) 28 [(2, .ref q), (0, .ref 34)] [] (gH scr kd n S') Q → aE aM95 (d + 1) 6 [(2, .ref q), (0, .ref 34)] [] (gH scr kd n S) Q) : ∀ (k : Nat) (v : Value) (a : Nat) (ws : List Nat) (M : List (Nat × Nat)) (lo hi : Nat) (U S : Nat → List Value) (pre : List Nat), hLs U (P U tm) k v a ws M lo hi → a = pre.length → pre.length + ws.length < 2 ^ 19 → n0 + 20 ≤ lo → hi ≤ n + 20 → oOk n0 n kd U → dX S1 pa fs fc tc U pre S → ∃ S', dX S1 pa fs fc tc (cpU M U) (pre ++ ws) S' ∧ aE aM95 (d + 1) 2 [(2, v), (0, .ref 34)] [] (gH scr kd n S) (aIs none (gH scr kd n S'))
  | 0, _, _, _, _, _, _, _, _, _, h, _, _, _, _, _, _ => h.elim
  | k + 1, v, a, ws, M, lo, hi, U, S, pre, h, ha, hb, h1, h2, ho, hS => by
    rcases h with ⟨rfl, rfl, rfl, -⟩ | ⟨q, nxt, m, ws1, ws2, M1, M2, rfl, e2, e3, e4, e5, e6, rfl, rfl, e9⟩
    · refine ⟨S, by rw [List.append_nil]; exact hS, ?_⟩
      refine eS rfl rfl ?_
      refine eS rfl rfl ?_
      exact eR rfl rfl ⟨rfl, rfl⟩
    · rw [List.length_append] at hb
      obtain ⟨S2, h3, h4⟩ := hone U S pre q a ws1 M1 m e6 ha (by omega) (by omega) e3 (by omega) ho hS
      have fr := fun p => cpU_frA M1 U p
      have e9' : hLs (cpU M1 U) (P (cpU M1 U) tm) k nxt (a + ws1.length) ws2 M2 m hi := hLs_mono m hi (fun q a ws M lo hi q1 q2 q3 q4 z => hP U _ tm q a ws M lo hi q3 q4 z (fun p _ _ => fr p)) (fun q _ _ => frA_at (fr q) (by decide)) (Nat.le_refl _) (Nat.le_refl _) e9
      have hv := hLs_v e9
      obtain ⟨S', h5, h6⟩ := c_wrLoop hn0 hP hone k nxt (a + ws1.length) ws2 M2 m hi (cpU M1 U) S2 (pre ++ ws1) e9' (by rw [List.length_append]; omega) (by rw [List.length_append]; omega) (by omega) h2 (oOk_cp ho) h3
      refine ⟨S', by rw [cpU_app, ← List.append_assoc]; exact h5, ?_⟩
      have o2 := (oOk_cp (M := M1) ho) q (by omega) (by omega)
      refine eS rfl rfl ?_
      refine eS rfl rfl ?_
      refine h4 _ ?_
      refine eS rfl rfl ?_
      refine gGetO (p := q) (c := cpU M1 U q) rfl (by omega) (by omega) o2.1 (d_87 h3 (by omega)) ((frA_at (fr q) (by decide)).trans e5) ?_
      rcases hv with rfl | ⟨q', rfl⟩
      · refine eS rfl rfl ?_
        refine eS rfl rfl ?_
        exact eLoc (l' := [(2, .null), (0, .ref 34)]) rfl ⟨rfl, rfl, trivial⟩ h6
      · refine eS rfl rfl ?_
        refine eS rfl rfl ?_
        exact eLoc (l' := [(2, .ref q'), (0, .ref 34)]) rfl ⟨rfl, rfl, trivial⟩ h6
theorem c_wrAll (hn0 : 67 ≤ n0) (hP : pOkA P) (hone : ∀ U S pre q a ws M hi, P U tm q a ws M (q + 1) hi → a = pre.length → pre.length + ws.length < 2 ^ 19 → n0 + 20 ≤ q → q < hi → hi ≤ n + 20 → oOk n0 n kd U → dX S1 pa fs fc tc U pre S → ∃ S', dX S1 pa fs fc tc (cpU M U) (pre ++ ws) S' ∧ ∀ Q, aE aM95 (d + 1) 28 [(2, .ref q), (0, .ref 34)] [] (gH scr kd n S') Q → aE aM95 (d + 1) 6 [(2, .ref q), (0, .ref 34)] [] (gH scr kd n S) Q) {k : Nat} {v : Value} {a : Nat} {ws : List Nat} {M : List (Nat × Nat)} {lo hi : Nat} {pre : List Nat} (h : hLs U (P U tm) k v a ws M lo hi) (ha : a = pre.length) (hb : pre.length + ws.length < 2 ^ 19) (h1 : n0 + 20 ≤ lo) (h2 : hi ≤ n + 20) (ho : oOk n0 n kd U) (hS : dX S1 pa fs fc tc U pre S) : ∃ S', dX S1 pa fs fc tc (cpU M U) (pre ++ ws) S' ∧ aE aM95 (d + 1) 0 [(0, .ref 34), (1, v)] [] (gH scr kd n S) (aIs none (gH scr kd n S')) := by
  obtain ⟨S', h5, h6⟩ := c_wrLoop hn0 hP hone k v a ws M lo hi U S pre h ha hb h1 h2 ho hS
  refine ⟨S', h5, ?_⟩
  rcases hLs_v h with rfl | ⟨q, rfl⟩
  · refine eS rfl rfl ?_
    refine eS rfl rfl ?_
    exact eLoc (l' := [(2, .null), (0, .ref 34)]) rfl ⟨rfl, rfl, trivial⟩ h6
  · refine eS rfl rfl ?_
    refine eS rfl rfl ?_
    exact eLoc (l' := [(2, .ref q), (0, .ref 34)]) rfl ⟨rfl, rfl, trivial⟩ h6
end CDB
