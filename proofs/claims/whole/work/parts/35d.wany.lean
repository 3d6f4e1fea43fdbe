/-! the coder writes any statement -/
section CDD
variable {scr : List Value} {kd : Nat → Nat} {n n0 d pa tc : Nat} {S1 U U' S : Nat → List Value} {fs fc : Value} {ws pre : List Nat} {g a q hi : Nat} {M : List (Nat × Nat)} {w k : Nat} {tm : List (Nat × Nat × Nat)} {f : Bool} {P : cPst}
theorem sw_173 {k : Nat} (h : 17 ≤ k ∧ k ≤ 26) : aBr (.lookupswitch 141 #[(4, 116), (5, 116), (15, 84), (16, 92), (28, 60), (29, 75)]) 32 [.int (Int32.ofNat k)] = some (173, []) := by
  have : k = 17 ∨ k = 18 ∨ k = 19 ∨ k = 20 ∨ k = 21 ∨ k = 22 ∨ k = 23 ∨ k = 24 ∨ k = 25 ∨ k = 26 := by omega
  rcases this with rfl | rfl | rfl | rfl | rfl | rfl | rfl | rfl | rfl | rfl <;> rfl
theorem uSt_pos {R : cBk} {kind num : Nat} {l : List (Nat × Nat × Nat)} {body els : Value} {he : Int32} {q a : Nat} {ws : List Nat} {M : List (Nat × Nat)} {lo hi : Nat} (hs : uSt f R kind num l body he els q a ws M lo hi) : 1 ≤ ws.length := by
  rcases hs with ⟨-, -, wb, -, rfl⟩ | ⟨-, -, wb, ⟨-, -, -, rfl⟩ | ⟨-, wc, M1, M2, m, -, -, -, -, -, rfl⟩⟩ | ⟨-, -, -, -, rfl⟩ | ⟨-, -, -, rfl⟩ | ⟨-, -, -, rfl⟩ | ⟨-, -, -, rfl⟩
  all_goals exact Nat.succ_le_succ (Nat.zero_le _)
theorem c_wrSt (hn0 : 67 ≤ n0) (hnn : n0 ≤ n) (hpa : pa = 46 ∨ pa = 51) (hF : tmF tm (S1 (pa + 1)) (S1 (pa + 2)) (S1 (pa + 3))) (htc : tc = tm.length) (h160 : tm.length ≤ 160) (hbk : wBkC scr kd n n0 (d + 10) pa tc S1 fs fc tm f g) (hs : pSt f (uBk f g U tm) U tm q a ws M (q + 1) hi) (ha : a = pre.length) (hb : pre.length + ws.length < 2 ^ 19) (hq : n0 + 20 ≤ q) (hqh : q < hi) (hhi : hi ≤ n + 20) (ho : oOk n0 n kd U) (h : dX S1 pa fs fc tc U pre S) : ∃ S', dX S1 pa fs fc tc (cpU M U) (pre ++ ws) S' ∧ aE aM100 (d + 12) 0 [(0, .ref 34), (1, .ref q)] [] (gH scr kd n S) (aIs none (gH scr kd n S')) := by
  have hn : 67 ≤ n := by omega
  obtain ⟨kind, num, frm, to, body, he, els, nm, tp, ⟨nxt, nos, dfn, cp, eU⟩, hft, hto, hs⟩ := hs
  have hq2 : q < n + 20 := by omega
  subst ha
  have pre0 := fun (hqs : ∀ q ∈ (tm.drop frm).take (to - frm), 1 ≤ q.1 ∧ q.1 < 2 ^ 20) => c_wrPre (d := d) (scr := scr) (kd := kd) (n0 := n0) hn0 hnn hpa hF htc h160 hft hto (pre := pre) (by have := uSt_pos hs; omega) hqs hq hq2 ho eU h
  generalize (tm.drop frm).take (to - frm) = l at hs pre0
  have l2 : (pre ++ 0 :: wdL l).length = pre.length + 1 + (wdL l).length := by rw [List.length_append, List.length_cons]; omega
  rcases hs with ⟨h1, h2, wb, h3, rfl⟩ | ⟨rfl, h2, wb, ⟨h3, h4, h5, rfl⟩ | ⟨h3, wc, M1, M2, m, m1, m2, h4, h5, rfl, rfl⟩⟩ | ⟨rfl, h2, h3, rfl, rfl⟩ | ⟨h1, rfl, rfl, rfl⟩ | ⟨h1, h2, rfl, rfl⟩ | ⟨h1, h2, rfl, rfl⟩
  · obtain ⟨S3, h6, h7⟩ := pre0 (hgt_in (h2 0))
    simp only [List.length_cons, List.length_append] at hb
    rcases h1 with rfl | rfl
    · obtain ⟨S4, h8, h9⟩ := c_wrLp (k := (pre ++ 0 :: wdL l).length) (d := d) hn0 hnn hpa hbk hq hq2 ho eU (by rw [l2]; exact h3) (by omega) hhi (by rw [l2]; omega) h6
      rw [l2] at h8 h9
      refine ⟨S4, ?_, h7 _ ?_⟩
      · rw [if_pos rfl]
        have e : pre ++ 0 :: wdL l ++ (28 :: (pre.length + 1 + (wdL l).length + 2 + wb.length + 2) :: (wb ++ [14, pre.length + 1 + (wdL l).length])) = pre ++ 0 :: (wdL l ++ (28 :: (pre.length + 1 + (wdL l).length + 2 + wb.length + 2) :: (wb ++ [14, pre.length + 1 + (wdL l).length]))) := by simp
        rw [← e]; exact h8
      · refine eB (pc' := 92) (st' := []) rfl rfl rfl rfl ?_
        refine eS rfl rfl ?_
        refine eS rfl rfl ?_
        refine eS rfl rfl ?_
        refine gGet hn rfl rfl rfl (d_34 h6) ?_
        refine gGet hn rfl (pa_h0 hpa) (pa_k0 hpa) (by rw [(d_pa hpa h6).1]; rfl) ?_
        rw [l2]
        refine gV1 hn rfl rfl rfl rfl rfl ⟨catOk rfl, catOk rfl⟩ (h9) ?_
        refine eS rfl rfl ?_
        exact eR rfl rfl ⟨rfl, rfl⟩
    · obtain ⟨S4, h8, h9⟩ := c_wrLp (k := pre.length + 1) (d := d) hn0 hnn hpa hbk hq hq2 ho eU (by rw [l2]; exact h3) (by omega) hhi (by rw [l2]; omega) h6
      rw [l2] at h8
      refine ⟨S4, ?_, h7 _ ?_⟩
      · rw [if_neg (by decide)]
        have e : pre ++ 0 :: wdL l ++ (29 :: (pre.length + 1 + (wdL l).length + 2 + wb.length + 2) :: (wb ++ [14, pre.length + 1])) = pre ++ 0 :: (wdL l ++ (29 :: (pre.length + 1 + (wdL l).length + 2 + wb.length + 2) :: (wb ++ [14, pre.length + 1]))) := by simp
        rw [← e]; exact h8
      · refine eB (pc' := 107) (st' := []) rfl rfl rfl rfl ?_
        refine eS rfl rfl ?_
        refine eS rfl rfl ?_
        refine eS rfl rfl ?_
        refine gV1 hn rfl rfl rfl rfl rfl ⟨catOk rfl, catOk rfl⟩ (h9) ?_
        refine eS rfl rfl ?_
        exact eR rfl rfl ⟨rfl, rfl⟩
  · obtain ⟨S3, h6, h7⟩ := pre0 (hgt_in (h2 0))
    simp only [List.length_cons, List.length_append] at hb
    obtain ⟨S4, h8, h9⟩ := c_wrIf0 (d := d) hn0 hnn hpa hbk hq hq2 ho eU h3 (by rw [l2]; exact h5) (by omega) hhi (by rw [l2]; omega) h6
    rw [l2] at h8
    refine ⟨S4, ?_, h7 _ ?_⟩
    · have e : pre ++ 0 :: wdL l ++ (15 :: (pre.length + 1 + (wdL l).length + 2 + wb.length) :: wb) = pre ++ 0 :: (wdL l ++ (15 :: (pre.length + 1 + (wdL l).length + 2 + wb.length) :: wb)) := by simp
      rw [← e]; exact h8
    · refine eB (pc' := 116) (st' := []) rfl rfl rfl rfl ?_
      refine eS rfl rfl ?_
      refine eS rfl rfl ?_
      refine gV1 hn rfl rfl rfl rfl rfl ⟨catOk rfl, catOk rfl⟩ (h9) ?_
      refine eS rfl rfl ?_
      exact eR rfl rfl ⟨rfl, rfl⟩
  · obtain ⟨S3, h6, h7⟩ := pre0 (hgt_in (h2 0))
    simp only [List.length_cons, List.length_append] at hb
    obtain ⟨S4, h8, h9⟩ := c_wrIf1 (d := d) hn0 hnn hpa hbk hq hq2 ho eU h3 (by rw [l2]; exact h4) (by rw [l2]; exact h5) (by omega) m1 m2 hhi (uBk_v h5) (by rw [l2]; omega) h6
    rw [l2] at h8
    refine ⟨S4, ?_, h7 _ ?_⟩
    · have e : pre ++ 0 :: wdL l ++ (15 :: (pre.length + 1 + (wdL l).length + 2 + wb.length + 2) :: (wb ++ (14 :: (pre.length + 1 + (wdL l).length + 2 + wb.length + 2 + wc.length) :: wc))) = pre ++ 0 :: (wdL l ++ (15 :: (pre.length + 1 + (wdL l).length + 2 + wb.length + 2) :: (wb ++ (14 :: (pre.length + 1 + (wdL l).length + 2 + wb.length + 2 + wc.length) :: wc)))) := by simp
      rw [← e]; exact h8
    · refine eB (pc' := 116) (st' := []) rfl rfl rfl rfl ?_
      refine eS rfl rfl ?_
      refine eS rfl rfl ?_
      refine gV1 hn rfl rfl rfl rfl rfl ⟨catOk rfl, catOk rfl⟩ (h9) ?_
      refine eS rfl rfl ?_
      exact eR rfl rfl ⟨rfl, rfl⟩
  · obtain ⟨S3, h6, h7⟩ := pre0 (hgt_in (h3 0))
    simp only [List.length_cons, List.length_append] at hb
    obtain ⟨S4, h8, h9⟩ := d_open (w := 16) (d := d + 9) (scr := scr) (kd := kd) hn hpa (by omega) h6
    have hU5 := d_U (b := (U q).set 12 (.int (Int32.ofNat (pre.length + 1 + (wdL l).length + 1)))) h8 (show 87 ≤ q by omega)
    have lw : (pre ++ 0 :: wdL l ++ [16, 0]).length = pre.length + 1 + (wdL l).length + 2 := by rw [List.length_append, l2]; rfl
    obtain ⟨S6, h10, h11⟩ := d_add (w := num) (d := d + 10) (scr := scr) (kd := kd) hn hpa (by omega) hU5
    rw [l2] at h9
    have sq : S4 q = U q := d_87 h8 (by omega)
    have u5 : aUp U q ((U q).set 12 (.int (Int32.ofNat (pre.length + 1 + (wdL l).length + 1)))) q = stV 16 num frm to body he els nxt nm nos tp dfn (Int32.ofNat (pre.length + 1 + (wdL l).length + 1)) := by rw [aUp_same, eU]; rfl
    have s5 : aUp S4 q ((U q).set 12 (.int (Int32.ofNat (pre.length + 1 + (wdL l).length + 1)))) q = stV 16 num frm to body he els nxt nm nos tp dfn (Int32.ofNat (pre.length + 1 + (wdL l).length + 1)) := by rw [aUp_same, eU]; rfl
    refine ⟨S6, ?_, h7 _ ?_⟩
    · have e : pre ++ 0 :: wdL l ++ [16, 0] ++ [num] = pre ++ 0 :: (wdL l ++ [16, 0, num]) := by simp
      rw [← e]; exact h10
    · refine eB (pc' := 124) (st' := []) rfl rfl rfl rfl ?_
      refine eS rfl rfl ?_
      refine eS rfl rfl ?_
      refine eS rfl rfl ?_
      refine gV1 hn rfl rfl rfl rfl rfl ⟨catOk rfl, catOk rfl⟩ (h9) ?_
      refine gPutO rfl (by omega) hq2 rfl (ho q hq hq2).1 (by rw [sq]; exact (ho q hq hq2).2) rfl rfl rfl ?_
      show aE aM100 (d + 12) 134 _ _ (gH scr kd n (aUp S4 q ((S4 q).set 12 (.int (Int32.ofNat (pre.length + 1 + (wdL l).length + 1)))))) _
      rw [sq]
      refine eS rfl rfl ?_
      refine gGet hn rfl rfl rfl (d_34 hU5) ?_
      refine eS rfl rfl ?_
      refine gGetO rfl (by omega) hq2 (ho q hq hq2).1 s5 rfl ?_
      refine gV1 hn rfl rfl (pa_h0 hpa) (pa_k0 hpa) rfl ⟨catOk rfl, catOk rfl⟩ h11 ?_
      refine eS rfl rfl ?_
      exact eR rfl rfl ⟨rfl, rfl⟩
  · obtain ⟨S3, h6, h7⟩ := pre0 (fun q hq => by cases hq)
    obtain ⟨S4, h8, h9⟩ := d_add (w := kind) (d := d + 10) (scr := scr) (kd := kd) hn hpa (by rw [l2]; show pre.length + 1 + 0 < 2 ^ 20; have : ([0, kind] : List Nat).length = 2 := rfl; omega) h6
    refine ⟨S4, ?_, h7 _ ?_⟩
    · have e : pre ++ 0 :: wdL [] ++ [kind] = pre ++ [0, kind] := by rw [List.append_assoc]; rfl
      rw [← e]; exact h8
    · refine eB rfl rfl rfl (sw_173 (by omega)) ?_
      refine eS rfl rfl ?_
      refine gGet hn rfl rfl rfl (d_34 h6) ?_
      refine eS rfl rfl ?_
      refine cw_obj hn0 rfl hq hq2 ho h6 eU rfl ?_
      refine gV1 hn rfl rfl (pa_h0 hpa) (pa_k0 hpa) rfl ⟨catOk rfl, catOk rfl⟩ h9 ?_
      exact eR rfl rfl ⟨rfl, rfl⟩
  · obtain ⟨S3, h6, h7⟩ := pre0 (hgt_in (h2 0))
    simp only [List.length_cons, List.length_append, List.length_nil] at hb
    obtain ⟨S4, h8, h9⟩ := d_add (w := kind) (d := d + 10) (scr := scr) (kd := kd) hn hpa (by omega) h6
    have lw : (pre ++ 0 :: wdL l ++ [kind]).length = pre.length + 1 + (wdL l).length + 1 := by rw [List.length_append, l2]; rfl
    obtain ⟨S5, h10, h11⟩ := d_add (w := num) (d := d + 10) (scr := scr) (kd := kd) hn hpa (by omega) h8
    have key : aE aM100 (d + 12) 148 [(2, .int (Int32.ofNat (pre.length + 1))), (0, .ref 34), (1, .ref q)] [] (gH scr kd n S3) (aIs none (gH scr kd n S5)) := by
      refine eS rfl rfl ?_
      refine gGet hn rfl rfl rfl (d_34 h6) ?_
      refine eS rfl rfl ?_
      refine cw_obj hn0 rfl hq hq2 ho h6 eU rfl ?_
      refine gV1 hn rfl rfl (pa_h0 hpa) (pa_k0 hpa) rfl ⟨catOk rfl, catOk rfl⟩ h9 ?_
      refine eS rfl rfl ?_
      refine gGet hn rfl rfl rfl (d_34 h8) ?_
      refine eS rfl rfl ?_
      refine cw_obj hn0 rfl hq hq2 ho h8 eU rfl ?_
      refine gV1 hn rfl rfl (pa_h0 hpa) (pa_k0 hpa) rfl ⟨catOk rfl, catOk rfl⟩ h11 ?_
      refine eS rfl rfl ?_
      exact eR rfl rfl ⟨rfl, rfl⟩
    refine ⟨S5, ?_, h7 _ ?_⟩
    · have e : pre ++ 0 :: wdL l ++ [kind] ++ [num] = pre ++ 0 :: (wdL l ++ [kind, num]) := by simp
      rw [← e]; exact h10
    · have hk : kind = 4 ∨ kind = 5 := by rcases h1 with z | z; exact Or.inl z.1; exact Or.inr z.1
      rcases hk with rfl | rfl
      · exact eB (pc' := 148) (st' := []) rfl rfl rfl rfl key
      · exact eB (pc' := 148) (st' := []) rfl rfl rfl rfl key
  · obtain ⟨S3, h6, h7⟩ := pre0 (hgt_in (h2 0))
    simp only [List.length_cons, List.length_append, List.length_nil] at hb
    obtain ⟨S4, h8, h9⟩ := d_add (w := kind) (d := d + 10) (scr := scr) (kd := kd) hn hpa (by omega) h6
    refine ⟨S4, ?_, h7 _ ?_⟩
    · have e : pre ++ 0 :: wdL l ++ [kind] = pre ++ 0 :: (wdL l ++ [kind]) := by simp
      rw [← e]; exact h8
    · refine eB rfl rfl rfl (sw_173 (by omega)) ?_
      refine eS rfl rfl ?_
      refine gGet hn rfl rfl rfl (d_34 h6) ?_
      refine eS rfl rfl ?_
      refine cw_obj hn0 rfl hq hq2 ho h6 eU rfl ?_
      refine gV1 hn rfl rfl (pa_h0 hpa) (pa_k0 hpa) rfl ⟨catOk rfl, catOk rfl⟩ h9 ?_
      exact eR rfl rfl ⟨rfl, rfl⟩
end CDD
