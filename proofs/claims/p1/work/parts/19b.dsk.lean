/-! the class's short methods -/
def aTh (c : Nat) (h0 : aH) : aOut → aH → Prop := fun r h' => r = .inr h0.length ∧ h' = h0 ++ [(2 * c + 8, [])]
theorem eThrow {M : aMt} {d pc : Nat} {ls : aLc} {h : aH} {c i j k p : Nat} {r : vw_C × List FieldType} (hd : M.hd = []) (hc : aCls[c]? = some r) (hh : 20 ≤ h.length)
    (h1 : aFind M.cd pc = some (.new i, (c, 1, 0, .null))) (h2 : aFind M.cd (pc + 3) = some (.dup, (0, 0, 0, .null))) (h3 : aFind M.cd (pc + 3 + 1) = some (.ldc j, (0, 0, 0, .ref p)))
    (h4 : aFind M.cd (pc + 3 + 1 + 2) = some (.invokespecial k, (0, 0, c + 1, .null))) (h5 : aFind M.cd (pc + 3 + 1 + 2 + 3) = some (.athrow, (0, 0, 0, .null))) : aE M d pc ls [] h (aTh c h) := by
  refine eS (ls' := ls) (st' := [.ref h.length]) (h' := h ++ [(2 * c + 9, [])]) (pc' := pc + 3) h1 ?_ ?_
  · show (match aHp aCls aKn M.nm (.new i) (c, 1, 0, .null) [] h with
        | some (st', h') => some (Sum.inl (pc + 3, ls, st', h'))
        | none => _) = _
    show (match (match aCls[c]? with
      | some c' => if (1 : Nat) = 0 then _ else some (Value.ref h.length :: [], h ++ [(2 * c + 9, [])])
      | none => none) with
        | some (st', h') => some (Sum.inl (pc + 3, ls, st', h'))
        | none => _) = _
    rw [hc]
    rfl
  refine eS h2 rfl ?_
  refine eS h3 rfl ?_
  refine eS (ls' := ls) (pc' := pc + 3 + 1 + 2 + 3) (st' := [.ref h.length]) (h' := h ++ [(2 * c + 8, [])]) h4 ?_ ?_
  · show (match (h ++ [(2 * c + 9, [])])[h.length]? with
                    | some (kd, _) => if kd = 2 * c + 9 ∧ aKn ≤ h.length ∧ aCat [Value.ref h.length] ≤ 10 then some (Sum.inl (_, ls, [Value.ref h.length], (h ++ [(2 * c + 9, [])]).set h.length (2 * c + 8, []))) else none
                    | none => none) = _
    rw [List.getElem?_concat_length]
    dsimp only
    rw [if_pos ⟨rfl, hh, catOk rfl⟩, List.set_append_right _ _ (Nat.le_refl _), Nat.sub_self]
    rfl
  refine eR (o := .inr h.length) (h' := h ++ [(2 * c + 8, [])]) h5 ?_ ⟨rfl, rfl⟩
  show (match M.hd with
                | [] => some (Sum.inr (Sum.inl (Sum.inr h.length, h ++ [(2 * c + 8, [])])))
                | _ => none) = _
  rw [hd]
section DSK
variable {d pa : Nat} {h : aH} {vs rd pr mc tu pi pl vl : List Value} {a b n : Int32}
theorem s_clear (hl : 57 ≤ h.length) (h20 : h[20]? = some (8, vs)) (hn : vs.length = 8) : aE aM25 d 0 [(0, .ref 20)] [] h (aIs none (h.set 20 (8, vs.set 1 (.int 0)))) := by
  refine eS rfl rfl ?_
  refine eS rfl rfl ?_
  refine ePut rfl h20 rfl rfl (by decide) (by show 1 < vs.length; omega) rfl rfl ?_
  exact eR rfl rfl ⟨rfl, rfl⟩
theorem s_error (h20 : h[20]? = some (8, vs)) (h2 : vs[2]? = some (.ref 22)) (h22 : h[22]? = some (10, rd)) (h8 : rd[8]? = some (.int a)) : aE aM26 d 0 [(0, .ref 20)] [] h (aIs (some (.int a)) h) := by
  refine eS rfl rfl ?_
  refine eGet rfl h20 rfl h2 ?_
  refine eGet rfl h22 rfl h8 ?_
  exact eR rfl rfl ⟨rfl, rfl⟩
theorem s_size (h20 : h[20]? = some (8, vs)) (h6 : vs[6]? = some (.ref pa)) (hpa : h[pa]? = some (26, pr)) (h7 : pr[7]? = some (.int n)) : aE aM27 d 0 [(0, .ref 20)] [] h (aIs (some (.int n)) h) := by
  refine eS rfl rfl ?_
  refine eGet rfl h20 rfl h6 ?_
  refine eGet rfl hpa rfl h7 ?_
  exact eR rfl rfl ⟨rfl, rfl⟩
theorem s_x {f : UInt32} (h20 : h[20]? = some (8, vs)) (h4 : vs[4]? = some (.ref 35)) (h35 : h[35]? = some (18, mc)) (h7 : mc[7]? = some (.ref 41)) (h41 : h[41]? = some (20, tu)) (hf : tu[1]? = some (.float f)) : aE aM31 d 0 [(0, .ref 20)] [] h (aIs (some (.float f)) h) := by
  refine eS rfl rfl ?_
  refine eGet rfl h20 rfl h4 ?_
  refine eGet rfl h35 rfl h7 ?_
  refine eGet rfl h41 rfl hf ?_
  exact eR rfl rfl ⟨rfl, rfl⟩
theorem s_y {f : UInt32} (h20 : h[20]? = some (8, vs)) (h4 : vs[4]? = some (.ref 35)) (h35 : h[35]? = some (18, mc)) (h7 : mc[7]? = some (.ref 41)) (h41 : h[41]? = some (20, tu)) (hf : tu[2]? = some (.float f)) : aE aM32 d 0 [(0, .ref 20)] [] h (aIs (some (.float f)) h) := by
  refine eS rfl rfl ?_
  refine eGet rfl h20 rfl h4 ?_
  refine eGet rfl h35 rfl h7 ?_
  refine eGet rfl h41 rfl hf ?_
  exact eR rfl rfl ⟨rfl, rfl⟩
theorem s_heading (h20 : h[20]? = some (8, vs)) (h4 : vs[4]? = some (.ref 35)) (h35 : h[35]? = some (18, mc)) (h7 : mc[7]? = some (.ref 41)) (h41 : h[41]? = some (20, tu)) (hf : tu[3]? = some (.int a)) : aE aM33 d 0 [(0, .ref 20)] [] h (aIs (some (.int a)) h) := by
  refine eS rfl rfl ?_
  refine eGet rfl h20 rfl h4 ?_
  refine eGet rfl h35 rfl h7 ?_
  refine eGet rfl h41 rfl hf ?_
  exact eR rfl rfl ⟨rfl, rfl⟩
theorem le31 {a : Int32} : 32 ≤ a ↔ 31 < a := by
  rw [Int32.le_iff_toInt_le, Int32.lt_iff_toInt_lt]
  show (32 : Int) ≤ a.toInt ↔ (31 : Int) < a.toInt
  omega
theorem le23 {a : Int32} : 24 ≤ a ↔ 23 < a := by
  rw [Int32.le_iff_toInt_le, Int32.lt_iff_toInt_lt]
  show (24 : Int) ≤ a.toInt ↔ (23 : Int) < a.toInt
  omega
theorem s_holds : aE aM30 d 0 [(0, .int a), (1, .int b)] [] h (aIs (some (.int (if inB a b then 1 else 0))) h) := by
  have out : inB a b = false → aE aM30 d 24 [(0, .int a), (1, .int b)] [] h (aIs (some (.int (if inB a b then 1 else 0))) h) := by
    intro hb
    refine eS rfl rfl ?_
    refine eR rfl rfl ⟨?_, rfl⟩
    rw [hb]
    rfl
  refine eS rfl rfl ?_
  refine eLt rfl rfl (fun h1 => out (by simp [inB, h1])) (fun h1 => ?_)
  refine eS rfl rfl ?_
  refine eS rfl rfl ?_
  refine eIGe rfl rfl (fun h2 => out (by simp [inB, le31.mp h2])) (fun h2 => ?_)
  refine eS rfl rfl ?_
  refine eLt rfl rfl (fun h3 => out (by simp [inB, h3])) (fun h3 => ?_)
  refine eS rfl rfl ?_
  refine eS rfl rfl ?_
  refine eIGe rfl rfl (fun h4 => out (by simp [inB, le23.mp h4])) (fun h4 => ?_)
  refine eS rfl rfl ?_
  refine eS rfl rfl ?_
  refine eR rfl rfl ⟨?_, rfl⟩
  have e : inB a b = true := by
    simp only [inB, Bool.and_eq_true, decide_eq_true_eq]
    exact ⟨⟨⟨h1, fun z => h2 (le31.mpr z)⟩, h3⟩, fun z => h4 (le23.mpr z)⟩
  rw [e]
  rfl
theorem s_needFuel_bad (hl : 20 ≤ h.length) (hb : a < 1 ∨ 2000 < a) : aE aM118 d 0 [(0, .int a)] [] h (aTh 10 h) := by
  have th : aE aM118 d 12 [(0, .int a)] [] h (aTh 10 h) := eThrow rfl rfl hl rfl rfl rfl rfl rfl
  refine eS rfl rfl ?_
  refine eS rfl rfl ?_
  refine eILt rfl rfl (fun _ => th) (fun h1 => ?_)
  refine eS rfl rfl ?_
  refine eS rfl rfl ?_
  refine eILe rfl rfl (fun h2 => ?_) (fun _ => th)
  exact (hb.elim h1 (fun z => Int32.not_lt.mpr h2 z)).elim
theorem s_needFuel_ok (h1 : ¬ a < 1) (h2 : ¬ 2000 < a) : aE aM118 d 0 [(0, .int a)] [] h (aIs none h) := by
  refine eS rfl rfl ?_
  refine eS rfl rfl ?_
  refine eILt rfl rfl (fun z => absurd z h1) (fun _ => ?_)
  refine eS rfl rfl ?_
  refine eS rfl rfl ?_
  refine eILe rfl rfl (fun _ => ?_) (fun z => absurd (Int32.not_le.mp z) h2)
  exact eR rfl rfl ⟨rfl, rfl⟩
theorem s_needProgram_no (hl : 20 ≤ h.length) (h20 : h[20]? = some (8, vs)) (h6 : vs[6]? = some (.ref pa)) (hpa : h[pa]? = some (26, pr)) (h7 : pr[7]? = some (.int 0)) : aE aM115 d 0 [(0, .ref 20)] [] h (aTh 12 h) := by
  refine eS rfl rfl ?_
  refine eGet rfl h20 rfl h6 ?_
  refine eGet rfl hpa rfl h7 ?_
  refine eNe rfl rfl (fun z => absurd rfl z) (fun _ => ?_)
  exact eThrow rfl rfl hl rfl rfl rfl rfl rfl
theorem s_needProgram_ok (h20 : h[20]? = some (8, vs)) (h6 : vs[6]? = some (.ref pa)) (hpa : h[pa]? = some (26, pr)) (h7 : pr[7]? = some (.int n)) (hn : n ≠ 0) : aE aM115 d 0 [(0, .ref 20)] [] h (aIs none h) := by
  refine eS rfl rfl ?_
  refine eGet rfl h20 rfl h6 ?_
  refine eGet rfl hpa rfl h7 ?_
  refine eNe rfl rfl (fun _ => ?_) (fun z => absurd z hn)
  exact eR rfl rfl ⟨rfl, rfl⟩
end DSK
