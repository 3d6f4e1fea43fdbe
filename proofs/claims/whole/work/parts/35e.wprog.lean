/-! the coder writes a program -/
section CDE
variable {scr : List Value} {kd : Nat → Nat} {n n0 d pa tc : Nat} {S1 U U' S : Nat → List Value} {fs fc : Value} {ws pre : List Nat} {g a q hi : Nat} {M : List (Nat × Nat)} {w k : Nat} {tm : List (Nat × Nat × Nat)} {f : Bool} {P : cPst}
theorem uSt_31 {R : cBk} {kind num : Nat} {l : List (Nat × Nat × Nat)} {body els : Value} {he : Int32} {ws : List Nat} {M : List (Nat × Nat)} {lo : Nat} (hs : uSt f R kind num l body he els q a ws M lo hi) : kind ≠ 31 ∧ kind < 2 ^ 20 := by
  rcases hs with ⟨z, -⟩ | ⟨z, -⟩ | ⟨z, -⟩ | ⟨z, -⟩ | ⟨z, -⟩ | ⟨z, -⟩ <;> omega
theorem c_oneSt (hn0 : 67 ≤ n0) (hnn : n0 ≤ n) (hpa : pa = 46 ∨ pa = 51) (hF : tmF tm (S1 (pa + 1)) (S1 (pa + 2)) (S1 (pa + 3))) (htc : tc = tm.length) (h160 : tm.length ≤ 160) (hbk : wBkC scr kd n n0 (d + 10) pa tc S1 fs fc tm f g) (U S : Nat → List Value) (pre : List Nat) (q a : Nat) (ws : List Nat) (M : List (Nat × Nat)) (hi : Nat) : stP f g U tm q a ws M (q + 1) hi → a = pre.length → pre.length + ws.length < 2 ^ 19 → n0 + 20 ≤ q → q < hi → hi ≤ n + 20 → oOk n0 n kd U → dX S1 pa fs fc tc U pre S → ∃ S', dX S1 pa fs fc tc (cpU M U) (pre ++ ws) S' ∧ ∀ Q, aE aM95 (d + 13) 28 [(2, .ref q), (0, .ref 34)] [] (gH scr kd n S') Q → aE aM95 (d + 13) 6 [(2, .ref q), (0, .ref 34)] [] (gH scr kd n S) Q := by
  intro hs ha hb hq hqh hhi ho h
  obtain ⟨S', h1, h2⟩ := c_wrSt (d := d) (scr := scr) (kd := kd) hn0 hnn hpa hF htc h160 hbk hs ha hb hq hqh hhi ho h
  refine ⟨S', h1, fun Q kk => ?_⟩
  have hn : 67 ≤ n := by omega
  have hq2 : q < n + 20 := by omega
  obtain ⟨kind, num, frm, to, body, he, els, nm, tp, ⟨nxt, nos, dfn, cp, eU⟩, hft, hto, hs⟩ := hs
  obtain ⟨k1, k2⟩ := uSt_31 hs
  refine eS rfl rfl ?_
  refine cw_obj hn0 rfl hq hq2 ho h eU rfl ?_
  refine eS rfl rfl ?_
  refine eINe rfl rfl (fun _ => ?_) (fun z => absurd ((i32_eq (b := 31) (by omega) (by omega)).mp z) k1)
  refine eS rfl rfl ?_
  refine eS rfl rfl ?_
  refine gV1 hn rfl rfl rfl rfl rfl ⟨catOk rfl, catOk rfl⟩ (h2) ?_
  exact kk
theorem c_wrBk (hn0 : 67 ≤ n0) (hnn : n0 ≤ n) (hpa : pa = 46 ∨ pa = 51) (hF : tmF tm (S1 (pa + 1)) (S1 (pa + 2)) (S1 (pa + 3))) (htc : tc = tm.length) (h160 : tm.length ≤ 160) : ∀ (g : Nat), wBkC scr kd n n0 (d + 3 * g + 10) pa tc S1 fs fc tm f g
  | 0 => fun U S pre a v ws M lo hi h => h.elim
  | g + 1 => fun U S pre a v ws M lo hi h ha hb h1 h2 ho hS => by
    obtain ⟨k, h⟩ := h
    exact c_wrAll (d := d + 3 * g + 12) (P := stP f g) hn0 (stP_okA g) (c_oneSt (d := d + 3 * g) hn0 hnn hpa hF htc h160 (c_wrBk hn0 hnn hpa hF htc h160 g)) h ha hb h1 h2 ho hS
theorem c_wrDf (hn0 : 67 ≤ n0) (hnn : n0 ≤ n) (hpa : pa = 46 ∨ pa = 51) (hbk : wBkC scr kd n n0 (d + 10) pa tc S1 fs fc tm true 3) (hs : dfP U tm q a ws M (q + 1) hi) (ha : a = pre.length) (hb : pre.length + ws.length < 2 ^ 19) (hq : n0 + 20 ≤ q) (hqh : q < hi) (hhi : hi ≤ n + 20) (ho : oOk n0 n kd U) (h : dX S1 pa fs fc tc U pre S) : ∃ S', dX S1 pa fs fc tc (cpU M U) (pre ++ ws) S' ∧ aE aM96 (d + 11) 0 [(0, .ref 34), (1, .ref q)] [] (gH scr kd n S) (aIs none (gH scr kd n S')) := by
  have hn : 67 ≤ n := by omega
  obtain ⟨num, frm, to, body, he, els, nm, tp, wb, Mb, ⟨nxt, nos, dfn, cp, eU⟩, hB, rfl, rfl⟩ := hs
  have hq2 : q < n + 20 := by omega
  subst ha
  simp only [List.length_cons, List.length_append, List.length_nil] at hb
  obtain ⟨Sa, ha, aa⟩ := d_open (w := 14) (d := d + 8) (scr := scr) (kd := kd) hn hpa (by omega) h
  have la : (pre ++ [14, 0]).length = pre.length + 2 := by rw [List.length_append]; rfl
  have hU2 := d_U (b := (U q).set 12 (.int (Int32.ofNat (pre.length + 2)))) ha (show 87 ≤ q by omega)
  have sq : Sa q = U q := d_87 ha (by omega)
  have u2 : aUp U q ((U q).set 12 (.int (Int32.ofNat (pre.length + 2)))) q = stV 31 num frm to body he els nxt nm nos tp dfn (Int32.ofNat (pre.length + 2)) := by rw [aUp_same, eU]; rfl
  have s2 : aUp Sa q ((U q).set 12 (.int (Int32.ofNat (pre.length + 2)))) q = stV 31 num frm to body he els nxt nm nos tp dfn (Int32.ofNat (pre.length + 2)) := by rw [aUp_same, eU]; rfl
  have hB2 : uBk true 3 (aUp U q ((U q).set 12 (.int (Int32.ofNat (pre.length + 2))))) tm (pre.length + 2) body wb Mb (q + 1) hi := uBk_frA 3 (fun p p1 p2 => by rw [aUp_ne (by omega)]; exact frA_id) hB
  have ho2 : oOk n0 n kd (aUp U q ((U q).set 12 (.int (Int32.ofNat (pre.length + 2))))) := fun p p1 p2 => ⟨(ho p p1 p2).1, by
    by_cases e : p = q
    · subst e; rw [aUp_same, List.length_set]; exact (ho p p1 p2).2
    · rw [aUp_ne e]; exact (ho p p1 p2).2⟩
  obtain ⟨Sb, hb', ab⟩ := hbk _ _ (pre ++ [14, 0]) (pre.length + 2) body wb Mb (q + 1) hi hB2 la.symm (by rw [la]; omega) (by omega) hhi ho2 hU2
  have lb : (pre ++ [14, 0] ++ wb).length = pre.length + 2 + wb.length := by rw [List.length_append, la]
  obtain ⟨Sc, hc, ac⟩ := d_add (w := 17) (d := d + 9) (scr := scr) (kd := kd) hn hpa (by omega) hb'
  have lc : (pre ++ [14, 0] ++ wb ++ [17]).length = pre.length + 2 + wb.length + 1 := by rw [List.length_append, lb]; rfl
  obtain ⟨Sd, hd, ad⟩ := d_set (k := pre.length + 1) (w := pre.length + 2 + wb.length + 1) (d := d + 10) (scr := scr) (kd := kd) hn hpa (by omega) hc
  rw [List.append_assoc (pre ++ _), set_mid] at hd
  refine ⟨Sd, hd, ?_⟩
  refine eS rfl rfl ?_
  refine eS rfl rfl ?_
  refine gV1 hn rfl rfl rfl rfl rfl ⟨catOk rfl, catOk rfl⟩ (aa) ?_
  refine eS rfl rfl ?_
  refine eS rfl rfl ?_
  refine eS rfl rfl ?_
  refine gGet hn rfl rfl rfl (d_34 ha) ?_
  refine gGet hn rfl (pa_h0 hpa) (pa_k0 hpa) (by rw [(d_pa hpa ha).1]; rfl) ?_
  rw [la]
  refine gPutO rfl (by omega) hq2 rfl (ho q hq hq2).1 (by rw [sq]; exact (ho q hq hq2).2) rfl rfl rfl ?_
  show aE aM96 (d + 11) 18 _ _ (gH scr kd n (aUp Sa q ((Sa q).set 12 (.int (Int32.ofNat (pre.length + 2)))))) _
  rw [sq]
  refine eS rfl rfl ?_
  refine eS rfl rfl ?_
  refine gGetO rfl (by omega) hq2 (ho q hq hq2).1 s2 rfl ?_
  refine gV1 hn rfl rfl rfl rfl rfl ⟨catOk rfl, cat2 (uBk_v hB)⟩ ab ?_
  refine eS rfl rfl ?_
  refine gGet hn rfl rfl rfl (d_34 hb') ?_
  refine eS rfl rfl ?_
  refine gV1 hn rfl rfl (pa_h0 hpa) (pa_k0 hpa) rfl ⟨catOk rfl, catOk rfl⟩ ac ?_
  refine eS rfl rfl ?_
  refine gGet hn rfl rfl rfl (d_34 hc) ?_
  refine eS rfl rfl ?_
  refine eS rfl rfl ?_
  refine gGet hn rfl rfl rfl (d_34 hc) ?_
  refine gGet hn rfl (pa_h0 hpa) (pa_k0 hpa) (by rw [(d_pa hpa hc).1]; rfl) ?_
  rw [lc]
  refine gV1 hn rfl rfl (pa_h0 hpa) (pa_k0 hpa) rfl ⟨catOk rfl, catOk rfl⟩ ad ?_
  exact eR rfl rfl ⟨rfl, rfl⟩
theorem c_oneTp (hn0 : 67 ≤ n0) (hnn : n0 ≤ n) (hpa : pa = 46 ∨ pa = 51) (hF : tmF tm (S1 (pa + 1)) (S1 (pa + 2)) (S1 (pa + 3))) (htc : tc = tm.length) (h160 : tm.length ≤ 160) (U S : Nat → List Value) (pre : List Nat) (q a : Nat) (ws : List Nat) (M : List (Nat × Nat)) (hi : Nat) : tpP U tm q a ws M (q + 1) hi → a = pre.length → pre.length + ws.length < 2 ^ 19 → n0 + 20 ≤ q → q < hi → hi ≤ n + 20 → oOk n0 n kd U → dX S1 pa fs fc tc U pre S → ∃ S', dX S1 pa fs fc tc (cpU M U) (pre ++ ws) S' ∧ ∀ Q, aE aM95 (d + 22) 28 [(2, .ref q), (0, .ref 34)] [] (gH scr kd n S') Q → aE aM95 (d + 22) 6 [(2, .ref q), (0, .ref 34)] [] (gH scr kd n S) Q := by
  intro hs ha hb hq hqh hhi ho h
  rcases hs with hs | hs
  · exact c_oneSt (d := d + 9) (scr := scr) (kd := kd) hn0 hnn hpa hF htc h160 (c_wrBk (d := d) hn0 hnn hpa hF htc h160 3) U S pre q a ws M hi hs ha hb hq hqh hhi ho h
  · obtain ⟨S', h1, h2⟩ := c_wrDf (d := d + 9 + 1) (scr := scr) (kd := kd) hn0 hnn hpa (c_wrBk (d := d + 1) hn0 hnn hpa hF htc h160 3) hs ha hb hq hqh hhi ho h
    refine ⟨S', h1, fun Q kk => ?_⟩
    have hn : 67 ≤ n := by omega
    have hq2 : q < n + 20 := by omega
    obtain ⟨num, frm, to, body, he, els, nm, tp, wb, Mb, ⟨nxt, nos, dfn, cp, eU⟩, -⟩ := hs
    refine eS rfl rfl ?_
    refine cw_obj hn0 rfl hq hq2 ho h eU rfl ?_
    refine eS rfl rfl ?_
    refine eINe rfl rfl (fun z => absurd rfl z) (fun _ => ?_)
    refine eS rfl rfl ?_
    refine eS rfl rfl ?_
    refine gV1 hn rfl rfl rfl rfl rfl ⟨catOk rfl, catOk rfl⟩ (h2) ?_
    refine eS rfl rfl ?_
    exact kk
end CDE
