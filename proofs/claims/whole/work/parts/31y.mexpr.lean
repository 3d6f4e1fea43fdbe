section MSC
variable {scr : List Value} {kd : Nat → Nat} {n d L md t vr pr lv df cl : Nat} {S0 A : Nat → List Value} {w0 : Value} {wr tk : Int32} {rest : List Value} {ts : List aTk} {vs ps : List (List Nat)} {A0 S : Nat → List Value} {st dr r : List Nat} {s dp : Nat} {mi : Int32} {sm one : xSt → Except Nat xSt} {Q : aOut → aH → Prop}
/-- the model's expression, whole -/
theorem m_expr (hn : 67 ≤ n) (hl160 : ts.length ≤ 160) (hN : tsN ts) (h3 : ps.length ≤ 3) (hpo : ∀ y ∈ ps, nmOk y) (hP : nmF 27 ps (A0 64)) (x : xSt) (dr : List Nat) (S : Nat → List Value) (hx : xOk ts x) (hb : dr.length ≤ 3 * x.1 + 8) (hX : (mX S0 w0 L tk ps.length lv df cl rest A0 ts (-1) x.1 x.2.1 dr [] S))
    (k : ∀ y l S', sumA ts L ps 4 0 x = .ok y → y.2.2 = x.2.2 ++ l → (mX S0 w0 L tk ps.length lv df cl rest A0 ts (-1) y.1 y.2.1 (dr ++ wdL l) [] S') → (dr ++ wdL l).length ≤ 3 * y.1 + 8 → Q (.inl none) (gH scr kd n S')) (ke : ∀ e, sumA ts L ps 4 0 x = .error e → mErr scr kd n d L S0 w0 tk lv df cl rest A0 ts ps Q e) : aE aM190 (d + 4) 0 [(0, .ref 56)] [] (gH scr kd n S) Q := by
  have main : aE aM190 (d + 4) 12 (exL ([] : List Nat).length 0 1 0) [] (gH scr kd n S) Q := by
    refine e_sumA (d := d) (tk := tk) hn hl160 hN h3 hpo hP 3 0 rfl Q x dr [] S hx ⟨by show dr.length + 0 ≤ _; omega, Nat.zero_le _, fun w hw => (by cases hw)⟩ rfl hX (fun y l S' dr' st' e hy X' hb' hL hE => ?_) ke
    obtain ⟨b1, b2, b3⟩ := hb'
    have yo := (sumA_rd hN 4 0 x y hx e).1
    have yl := yo.1
    have len := porE_len (s := 1) st'
    rw [hL] at len
    have len : _ + 0 = st'.length := len
    refine ex_end hn yl (sumA_end hl160 hN 4 0 x y hx e) (by omega) (by omega) b3 X' (fun S2 X2 => ?_)
    rw [hL, hE] at X2
    refine k y l S2 e hy X2 ?_
    rw [← hE, List.length_append]
    omega
  refine eS rfl rfl ?_
  refine eS rfl rfl ?_
  refine eS rfl rfl ?_
  refine eS rfl rfl ?_
  refine eS rfl rfl ?_
  refine eS rfl rfl ?_
  refine eS rfl rfl ?_
  refine eS rfl rfl ?_
  refine eS rfl rfl ?_
  refine eS rfl rfl ?_
  exact eLoc (l' := exL ([] : List Nat).length 0 1 0) rfl ⟨rfl, rfl, rfl, rfl, rfl, rfl, trivial⟩ main
end MSC
