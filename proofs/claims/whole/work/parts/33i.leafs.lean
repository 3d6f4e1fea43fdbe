/-! statements without blocks, but let and calls -/
section SLE
variable {scr : List Value} {n0 d L pa n q pc i j : Nat} {kd0 kd : Nat → Nat} {U0 S0 U S : Nat → List Value} {ts : List aTk} {ps : List (List Nat)} {rp : List Value} {x y : xSt} {K : List (Nat × cAl)} {D : List (Nat × dEf)} {dp : Int32} {res : aOut → aH → Prop} {f : Bool}
theorem sw_112 {k : Nat} (h : (18 ≤ k ∧ k ≤ 22) ∨ k = 28) : aBr (.tableswitch 165 15 32 #[124, 165, 103, 85, 85, 85, 85, 85, 103, 103, 103, 103, 165, 85, 124, 141, 149, 116]) 27 [.int (Int32.ofNat k)] = some (112, []) := by
  have : k = 18 ∨ k = 19 ∨ k = 20 ∨ k = 21 ∨ k = 22 ∨ k = 28 := by omega
  rcases this with rfl | rfl | rfl | rfl | rfl | rfl <;> rfl
theorem sw_130 {k : Nat} (h : k = 17 ∨ (23 ≤ k ∧ k ≤ 26)) : aBr (.tableswitch 165 15 32 #[124, 165, 103, 85, 85, 85, 85, 85, 103, 103, 103, 103, 165, 85, 124, 141, 149, 116]) 27 [.int (Int32.ofNat k)] = some (130, []) := by
  have : k = 17 ∨ k = 23 ∨ k = 24 ∨ k = 25 ∨ k = 26 := by omega
  rcases this with rfl | rfl | rfl | rfl | rfl <;> rfl
theorem sw_192 {k : Nat} (hk : k < 2 ^ 20) (h1 : ¬ (18 ≤ k ∧ k ≤ 22)) (h2 : ¬ (k = 17 ∨ (23 ≤ k ∧ k ≤ 26))) (h3 : k ≠ 32) (h4 : k ≠ 28) (h5 : k ≠ 29) (h6 : k ≠ 15) (h7 : k ≠ 30) (h8 : k ≠ 31) : aBr (.tableswitch 165 15 32 #[124, 165, 103, 85, 85, 85, 85, 85, 103, 103, 103, 103, 165, 85, 124, 141, 149, 116]) 27 [.int (Int32.ofNat k)] = some (192, []) := by
  by_cases c : k < 15 ∨ 32 < k
  · show (if (Int32.ofNat k).toInt < 15 ∨ 32 < (Int32.ofNat k).toInt then _ else _) = _
    rw [if_pos (by rw [Int32.toInt_ofNat_small (by omega)]; omega)]
    rfl
  · have : k = 16 ∨ k = 27 := by omega
    rcases this with rfl | rfl <;> rfl
theorem tk_all {l : List (Nat × Nat × Nat)} {a : Nat} : (l.drop a).take (l.length - a) = l.drop a := List.take_of_length_le (by rw [List.length_drop]; exact Nat.le_refl _)
theorem hg_drop {g : xSt → Except Nat xSt} (hg : xHg ts f g) {x' : xSt} (hx : xOk ts x') (e : g x' = .ok y) (ex : x'.2.2 = x.2.2) : ∀ k, hgt f (y.2.2.drop x.2.2.length) k (k + 1) := by
  obtain ⟨l, e1, e2⟩ := hg x' y hx e
  rw [ex] at e1
  rw [e1, List.drop_left]
  exact e2
theorem app_of {g : xSt → Except Nat xSt} (hg : xRd ts g) {x' : xSt} (hx : xOk ts x') (e : g x' = .ok y) (ex : x'.2.2 = x.2.2) : ∃ l, y.2.2 = x.2.2 ++ l := by
  obtain ⟨-, -, -, ⟨l, e1⟩, -⟩ := hg x' y hx e
  exact ⟨l, by rw [e1, ex]⟩
theorem c_one {a g : Nat} (hF : cF ts L n0 S0 pa ps rp) (hf : ps ≠ [] → f = true) (h : cI0 ts L n0 kd0 U0 S0 pa ps rp x K D kd n U S) (hb : n ≤ n0 + x.1) (hk : 18 ≤ kA ts x.1 ∧ kA ts x.1 ≤ 22) : aE aM71 (d + 20) 0 [(0, .ref 22), (1, .int dp)] [] (gH scr kd n S) (stO scr (fun x => x) (cIb ts L n0 kd0 U0 S0 pa ps rp D) (cEr scr n0 kd0 U0 S0 pa) (stP f g) kd n U x K D a (sglA ts L ps x)) := by
  have hn := hF.1
  have hnn := h.2.1
  have hx := h.1
  have hlt : x.1 < ts.length := kA_lt rfl (by omega)
  refine c_stBegin hF h hb (fun kd1 U1 S1 h1 u1 v1 => ?_)
  refine eB rfl rfl rfl (sw_112 (Or.inl hk)) ?_
  refine I_tick (by omega) rfl rfl rfl rfl rfl rfl rfl h1 hlt (fun S2 h2 => ?_)
  refine eS rfl rfl ?_
  refine eS rfl rfl ?_
  refine I_sum hF h2 rfl rfl ⟨catOk rfl, catOk rfl⟩ rfl (fun y S3 e h3 => ?_) (fun e o h' he hc => ?_)
  · refine eS rfl rfl ?_
    have o1 := xTick hx (k := kA ts x.1) rfl (by omega)
    have e' : sglA ts L ps x = .ok (y, 0 :: (nwW x y ++ [kA ts x.1]), []) := by unfold sglA; rw [e]
    rw [e']
    obtain ⟨l, hl⟩ := app_of (x := x) (sumA_rd hF.2.2.2.1 4 0) o1 e rfl
    refine c_fin (R := uBk f g U y.2.2) (K' := []) (M := []) hF hnn (by rw [List.append_nil]; exact h3) u1 (by omega) (by omega) (by omega) (by omega) rfl ⟨fun p hp => (by cases hp), mCv_nil⟩ ?_ ⟨l, hl⟩ (fun p hp => ⟨(v1 p hp).1, by rw [(v1 p hp).2]; exact fr9_id⟩) (fun U' u' => ?_)
    · have := (sumA_rd hF.2.2.2.1 4 0 _ y o1 e).2.1
      have : x.1 + 1 < y.1 := this
      omega
    · exact ⟨kA ts x.1, 0, x.2.2.length, y.2.2.length, .null, 0, .null, 0, 0, ⟨_, _, _, _, u'⟩, by rw [hl, List.length_append]; omega, Nat.le_refl _, by rw [tk_all]; exact Or.inr (Or.inr (Or.inr (Or.inr (Or.inr ⟨hk, hg_drop (sumA_hg hF.2.2.2.1 hF.2.2.2.2.2.2.2.2.2 hF.2.2.2.2.2.2.1 hf 4 0) o1 e rfl, rfl, rfl⟩))))⟩
  · have e' : sglA ts L ps x = .error e := by unfold sglA; rw [he]
    rw [e']
    exact hc
theorem c_plain {a g : Nat} (hF : cF ts L n0 S0 pa ps rp) (hf : ps ≠ [] → f = true) (h : cI0 ts L n0 kd0 U0 S0 pa ps rp x K D kd n U S) (hb : n ≤ n0 + x.1) (hk : kA ts x.1 = 17 ∨ (23 ≤ kA ts x.1 ∧ kA ts x.1 ≤ 26)) : aE aM71 (d + 20) 0 [(0, .ref 22), (1, .int dp)] [] (gH scr kd n S) (stO scr (fun x => x) (cIb ts L n0 kd0 U0 S0 pa ps rp D) (cEr scr n0 kd0 U0 S0 pa) (stP f g) kd n U x K D a (.ok ((x.1 + 1, x.2), [0, kA ts x.1], []))) := by
  have hn := hF.1
  have hnn := h.2.1
  have hx := h.1
  have hlt : x.1 < ts.length := kA_lt rfl (by omega)
  refine c_stBegin hF h hb (fun kd1 U1 S1 h1 u1 v1 => ?_)
  refine eB rfl rfl rfl (sw_130 hk) ?_
  refine I_tick (by omega) rfl rfl rfl rfl rfl rfl rfl h1 hlt (fun S2 h2 => ?_)
  refine eS rfl rfl ?_
  refine c_fin (y := (x.1 + 1, x.2)) (R := uBk f g U x.2.2) (K' := []) (M := []) hF hnn (by rw [List.append_nil]; exact h2) u1 (by omega) (by omega) (by omega) (by omega) rfl ⟨fun p hp => (by cases hp), mCv_nil⟩ (Nat.lt_succ_self _) ⟨[], (List.append_nil _).symm⟩ (fun p hp => ⟨(v1 p hp).1, by rw [(v1 p hp).2]; exact fr9_id⟩) (fun U' u' => ?_)
  exact ⟨kA ts x.1, 0, x.2.2.length, x.2.2.length, .null, 0, .null, 0, 0, ⟨_, _, _, _, u'⟩, Nat.le_refl _, Nat.le_refl _, Or.inr (Or.inr (Or.inr (Or.inl ⟨hk, by rw [Nat.sub_self]; rfl, rfl, rfl⟩)))⟩
theorem c_else {a g : Nat} (hF : cF ts L n0 S0 pa ps rp) (hf : ps ≠ [] → f = true) (h : cI0 ts L n0 kd0 U0 S0 pa ps rp x K D kd n U S) (hb : n ≤ n0 + x.1) (h1 : ¬ (18 ≤ kA ts x.1 ∧ kA ts x.1 ≤ 22)) (h2 : ¬ (kA ts x.1 = 17 ∨ (23 ≤ kA ts x.1 ∧ kA ts x.1 ≤ 26))) (h3 : kA ts x.1 ≠ 32) (h4 : kA ts x.1 ≠ 28) (h5 : kA ts x.1 ≠ 29) (h6 : kA ts x.1 ≠ 15) (h7 : kA ts x.1 ≠ 30) (h8 : kA ts x.1 ≠ 31) : aE aM71 (d + 20) 0 [(0, .ref 22), (1, .int dp)] [] (gH scr kd n S) (stO scr (fun x => x) (cIb ts L n0 kd0 U0 S0 pa ps rp D) (cEr scr n0 kd0 U0 S0 pa) (stP f g) kd n U x K D a (.error (plA ts L x.1))) := by
  refine c_stBegin hF h hb (fun kd1 U1 S1 q1 u1 v1 => ?_)
  refine eB rfl rfl rfl (sw_192 (hF.2.2.2.2.1 _) h1 h2 h3 h4 h5 h6 h7 h8) ?_
  refine eS rfl rfl ?_
  exact I_ref hF q1 rfl rfl ⟨catOk rfl, catOk rfl⟩ rfl (fun o h' hc => hc)
theorem c_inTo {a g k : Nat} (hF : cF ts L n0 S0 pa ps rp) (hf : ps ≠ [] → f = true) (h : cI0 ts L n0 kd0 U0 S0 pa ps rp x K D kd n U S) (hb : n ≤ n0 + x.1) (hk : kA ts x.1 = 31) (hd : dp = Int32.ofNat k) (hk0 : 0 < k) (hk9 : k < 2 ^ 20) : aE aM71 (d + 20) 0 [(0, .ref 22), (1, .int dp)] [] (gH scr kd n S) (stO scr (fun x => x) (cIb ts L n0 kd0 U0 S0 pa ps rp D) (cEr scr n0 kd0 U0 S0 pa) (stP f g) kd n U x K D a (.error (plA ts L x.1))) := by
  refine c_stBegin hF h hb (fun kd1 U1 S1 q1 u1 v1 => ?_)
  rw [hk]
  refine eB (pc' := 176) (st' := []) rfl rfl rfl rfl ?_
  refine eS rfl rfl ?_
  refine eLe rfl rfl (fun z => ?_) (fun _ => ?_)
  · rw [hd] at z
    exact absurd ((i32_le (a := k) (b := 0) (by omega) (by omega)).mp z) (by omega)
  refine eS rfl rfl ?_
  exact I_ref hF q1 rfl rfl ⟨catOk rfl, catOk rfl⟩ rfl (fun o h' hc => hc)
end SLE
