/-! a line, and the turtle's way, on the class's side -/
def linA (px : List Int32) (a b c d : Int) (co : Int32) : List Int32 := lineA c d (c - a).natAbs (d - b).natAbs co ((c - a).natAbs + (d - b).natAbs) a b (((c - a).natAbs : Int) - ((d - b).natAbs : Int)) (dotA px (Int32.ofInt a) (Int32.ofInt b) co)
theorem linA_len {px : List Int32} {a b c d : Int} {co : Int32} : (linA px a b c d co).length = px.length := lineA_len.trans dotA_len
theorem lnI_0 {a b c d : Int} : lnI c d (c - a).natAbs (d - b).natAbs a b (((c - a).natAbs : Int) - ((d - b).natAbs : Int)) (c - a).natAbs (d - b).natAbs := by
  refine ⟨by omega, by omega, by omega, by omega, by omega, by omega, ?_⟩
  rw [Int.sub_self, Int.sub_self, Int.zero_mul, Int.zero_mul]
  omega
section CDRAW
variable {scr : List Value} {kd : Nat → Nat} {n : Nat} {S0 : Nat → List Value} {a35 a36 a37 a38 a39 a40 a41 a42 a43 a44 g : List Value} {dd : Nat} {co rc dn : Int32} {h : aH} {px : List Int32} {x y f : UInt32} {hd : Nat}
theorem c_drawLine {a b c d : Int} (hn : 67 ≤ n) (hl : px.length = 768) (ha : a.natAbs ≤ 5000) (hb : b.natAbs ≤ 5000) (hc : c.natAbs ≤ 5000) (hd : d.natAbs ≤ 5000) : aE aM135 (dd + 2) 0 [(0, .ref 42), (1, .int (Int32.ofInt a)), (2, .int (Int32.ofInt b)), (3, .int (Int32.ofInt c)), (4, .int (Int32.ofInt d)), (5, .int co)] [] (gH scr kd n (cS S0 a35 a36 a37 a38 a39 a40 a41 (kPi rc) (px.map Value.int) a44)) (aIs none (gH scr kd n (cS S0 a35 a36 a37 a38 a39 a40 a41 (kPi rc) ((linA px a b c d co).map Value.int) a44))) := by
  have hI := lnI_0 (a := a) (b := b) (c := c) (d := d)
  refine eS rfl rfl ?_
  refine eS rfl rfl ?_
  refine eS rfl rfl ?_
  rw [zi_sub]
  refine eC1 rfl rfl rfl ⟨catOk rfl, catOk rfl⟩ (s_abs (by omega)) ?_
  refine eS rfl rfl ?_
  refine eS rfl rfl ?_
  refine eS rfl rfl ?_
  refine eS rfl rfl ?_
  rw [zi_sub]
  refine eC1 rfl rfl rfl ⟨catOk rfl, catOk rfl⟩ (s_abs (by omega)) ?_
  refine eS rfl rfl ?_
  refine eS rfl rfl ?_
  refine eS rfl rfl ?_
  refine eS rfl rfl ?_
  rw [zi_sub]
  refine eS rfl rfl ?_
  refine eS rfl rfl ?_
  refine eS rfl rfl ?_
  refine eS rfl rfl ?_
  refine eS rfl rfl ?_
  refine eS rfl rfl ?_
  refine eS rfl rfl ?_
  refine eS rfl rfl ?_
  refine eS rfl rfl ?_
  refine gV1 hn rfl rfl rfl rfl rfl ⟨catOk rfl, catOk rfl⟩ (c_dot hn hl) ?_
  refine eS rfl rfl ?_
  refine eS rfl rfl ?_
  refine eLoc (l' := lnL (c - a).natAbs (d - b).natAbs c d co 0 a b (((c - a).natAbs : Int) - ((d - b).natAbs : Int))) rfl ⟨rfl, rfl, rfl, rfl, rfl, rfl, rfl, rfl, rfl, rfl, trivial⟩ ?_
  exact c_line_loop hn (by omega) (by omega) (by omega) (by omega) _ 0 a b _ _ _ _ (dotA_len.trans hl) hI (by omega) (by omega) (by omega)
def nxA (d x : UInt32) (hd : Nat) : UInt32 := FP.fadd x (FP.fmul d (sinA ((hd + 6) % 24)))
def nyA (d y : UInt32) (hd : Nat) : UInt32 := FP.fadd y (FP.fmul d (sinA hd))
/-- how far a step goes, and what it draws -/
def advA (f x y : UInt32) (hd : Nat) (co dn : Int32) (px : List Int32) : Bool × UInt32 × UInt32 × List Int32 :=
  if farB (nxA f x hd) || farB (nyA f y hd) then (false, x, y, px) else (true, nxA f x hd, nyA f y hd, if dn = 0 then px else linA px (pixA x) (pixA y) (pixA (nxA f x hd)) (pixA (nyA f y hd)) co)
theorem advA_len {co dn : Int32} : (advA f x y hd co dn px).2.2.2.length = px.length := by
  unfold advA
  split
  · rfl
  · dsimp only
    split
    · rfl
    · exact linA_len
theorem step_n32 {d x s : UInt32} (hd : gF d) (hs : gF s) (hx : gX x) : aN32 (FP.fadd x (FP.fmul d s)) = true := by
  rw [FP.fadd_core, FP.Core.fadd_comm]
  exact n32_add (n32_mul hd hs) hx.gF.fin
theorem far_gX {f : UInt32} (h : aN32 f = true) (hf : farB f = false) : gX f := by
  have := of_decide_eq_false hf
  exact gX_in h (fun z => this (Or.inl z)) (fun z => this (Or.inr z))
theorem advA_gX {co dn : Int32} (hf : gF f) (hx : gX x) (hy : gX y) (hh : hd < 24) : gX (advA f x y hd co dn px).2.1 ∧ gX (advA f x y hd co dn px).2.2.1 := by
  have n1 := step_n32 hf (gF_sin (h := (hd + 6) % 24) (by omega)) hx
  have n2 := step_n32 hf (gF_sin (h := hd) hh) hy
  cases hfar : (farB (nxA f x hd) || farB (nyA f y hd)) with
  | true =>
    unfold advA
    rw [if_pos hfar]
    exact ⟨hx, hy⟩
  | false =>
    unfold advA
    rw [if_neg (by rw [hfar]; decide)]
    rw [Bool.or_eq_false_iff] at hfar
    exact ⟨far_gX n1 hfar.1, far_gX n2 hfar.2⟩

theorem c_advance (hn : 67 ≤ n) (hl : px.length = 768) (hf : gF f) (hx : gX x) (hy : gX y) (hh : hd < 24) : aE aM130 (dd + 4) 0 [(0, .ref 41), (1, .float f)] [] (gH scr kd n (cS S0 a35 a36 a37 a38 a39 a40 (kT x y (Int32.ofNat hd) co dn) (kPi rc) (px.map Value.int) a44)) (aIs (some (.int (if (advA f x y hd co dn px).1 then 1 else 0))) (gH scr kd n (cS S0 a35 a36 a37 a38 a39 a40 (kT (advA f x y hd co dn px).2.1 (advA f x y hd co dn px).2.2.1 (Int32.ofNat hd) co dn) (kPi rc) ((advA f x y hd co dn px).2.2.2.map Value.int) a44))) := by
  have n1 : aN32 (nxA f x hd) = true := step_n32 hf (gF_sin (h := (hd + 6) % 24) (by omega)) hx
  have n2 : aN32 (nyA f y hd) = true := step_n32 hf (gF_sin (h := hd) hh) hy
  have e6 : (Int32.ofNat hd + (Int8.ofInt 6).toInt32) % (Int8.ofInt 24).toInt32 = Int32.ofNat ((hd + 6) % 24) := by
    rw [show (Int8.ofInt 6).toInt32 = Int32.ofNat 6 from rfl, show (Int8.ofInt 24).toInt32 = Int32.ofNat 24 from rfl, ← Int32.ofNat_add, i32_rem (by omega) (by decide) (by decide)]
  have key : aE aM130 (dd + 4) 36 [(3, .float (nyA f y hd)), (2, .float (nxA f x hd)), (0, .ref 41), (1, .float f)] [] (gH scr kd n (cS S0 a35 a36 a37 a38 a39 a40 (kT x y (Int32.ofNat hd) co dn) (kPi rc) (px.map Value.int) a44)) (aIs (some (.int (if (advA f x y hd co dn px).1 then 1 else 0))) (gH scr kd n (cS S0 a35 a36 a37 a38 a39 a40 (kT (advA f x y hd co dn px).2.1 (advA f x y hd co dn px).2.2.1 (Int32.ofNat hd) co dn) (kPi rc) ((advA f x y hd co dn px).2.2.2.map Value.int) a44))) := by
    cases h1 : farB (nxA f x hd) with
    | true =>
      have e : (advA f x y hd co dn px) = (false, x, y, px) := by
        unfold advA
        rw [h1]
        rfl
      rw [e]
      refine eS rfl rfl ?_
      refine eC1 rfl rfl rfl ⟨catOk rfl, catOk rfl⟩ (c_isFar n1) ?_
      rw [h1]
      refine eNe rfl rfl (fun _ => ?_) (fun z => absurd z (by decide))
      refine eS rfl rfl ?_
      exact eR rfl rfl ⟨rfl, rfl⟩
    | false =>
      cases h2 : farB (nyA f y hd) with
      | true =>
        have e : (advA f x y hd co dn px) = (false, x, y, px) := by
          unfold advA
          rw [h1, h2]
          rfl
        rw [e]
        refine eS rfl rfl ?_
        refine eC1 rfl rfl rfl ⟨catOk rfl, catOk rfl⟩ (c_isFar n1) ?_
        rw [h1]
        refine eNe rfl rfl (fun z => absurd rfl z) (fun _ => ?_)
        refine eS rfl rfl ?_
        refine eC1 rfl rfl rfl ⟨catOk rfl, catOk rfl⟩ (c_isFar n2) ?_
        rw [h2]
        refine eEq rfl rfl (fun z => absurd z (by decide)) (fun _ => ?_)
        refine eS rfl rfl ?_
        exact eR rfl rfl ⟨rfl, rfl⟩
      | false =>
        have e : (advA f x y hd co dn px) = (true, nxA f x hd, nyA f y hd, if dn = 0 then px else linA px (pixA x) (pixA y) (pixA (nxA f x hd)) (pixA (nyA f y hd)) co) := by
          unfold advA
          rw [h1, h2]
          rfl
        rw [e]
        have x1 := far_gX n1 h1
        have y1 := far_gX n2 h2
        have b1 := pixA_bnd hx
        have b2 := pixA_bnd hy
        have b3 := pixA_bnd x1
        have b4 := pixA_bnd y1
        refine eS rfl rfl ?_
        refine eC1 rfl rfl rfl ⟨catOk rfl, catOk rfl⟩ (c_isFar n1) ?_
        rw [h1]
        refine eNe rfl rfl (fun z => absurd rfl z) (fun _ => ?_)
        refine eS rfl rfl ?_
        refine eC1 rfl rfl rfl ⟨catOk rfl, catOk rfl⟩ (c_isFar n2) ?_
        rw [h2]
        refine eEq rfl rfl (fun _ => ?_) (fun z => absurd rfl z)
        refine eS rfl rfl ?_
        refine gGet hn rfl rfl rfl rfl ?_
        refine eEq rfl rfl (fun z56 => ?_) (fun z56 => ?_)
        · rw [if_pos z56]
          refine eS rfl rfl ?_
          refine eS rfl rfl ?_
          refine gPut hn rfl rfl rfl rfl rfl rfl rfl cS_41 ?_
          refine eS rfl rfl ?_
          refine eS rfl rfl ?_
          refine gPut hn rfl rfl rfl rfl rfl rfl rfl cS_41 ?_
          refine eS rfl rfl ?_
          exact eR rfl rfl ⟨rfl, rfl⟩
        · rw [if_neg z56]
          refine eS rfl rfl ?_
          refine gGet hn rfl rfl rfl rfl ?_
          refine eS rfl rfl ?_
          refine gGet hn rfl rfl rfl rfl ?_
          refine eC1 rfl rfl rfl ⟨catOk rfl, catOk rfl⟩ (c_pixelOf hx) ?_
          refine eS rfl rfl ?_
          refine gGet hn rfl rfl rfl rfl ?_
          refine eC1 rfl rfl rfl ⟨catOk rfl, catOk rfl⟩ (c_pixelOf hy) ?_
          refine eS rfl rfl ?_
          refine eC1 rfl rfl rfl ⟨catOk rfl, catOk rfl⟩ (c_pixelOf x1) ?_
          refine eS rfl rfl ?_
          refine eC1 rfl rfl rfl ⟨catOk rfl, catOk rfl⟩ (c_pixelOf y1) ?_
          refine eS rfl rfl ?_
          refine gGet hn rfl rfl rfl rfl ?_
          refine gV1 hn rfl rfl rfl rfl rfl ⟨catOk rfl, catOk rfl⟩ (c_drawLine hn hl (by omega) (by omega) (by omega) (by omega)) ?_
          refine eS rfl rfl ?_
          refine eS rfl rfl ?_
          refine gPut hn rfl rfl rfl rfl rfl rfl rfl cS_41 ?_
          refine eS rfl rfl ?_
          refine eS rfl rfl ?_
          refine gPut hn rfl rfl rfl rfl rfl rfl rfl cS_41 ?_
          refine eS rfl rfl ?_
          exact eR rfl rfl ⟨rfl, rfl⟩
  refine eS rfl rfl ?_
  refine gGet hn rfl rfl rfl rfl ?_
  refine eS rfl rfl ?_
  refine eS rfl rfl ?_
  refine gGet hn rfl rfl rfl rfl ?_
  refine eS rfl rfl ?_
  refine eS rfl rfl ?_
  refine eS rfl rfl ?_
  refine eP rfl (irem_ok (by decide)) ?_
  rw [e6]
  refine eC1 rfl rfl rfl ⟨catOk rfl, catOk rfl⟩ (c_sine (by omega)) ?_
  refine eP rfl (fmul_ok (n32_mul hf (gF_sin (by omega)))) ?_
  refine eP rfl (fadd_ok n1) ?_
  refine eS rfl rfl ?_
  refine eS rfl rfl ?_
  refine gGet hn rfl rfl rfl rfl ?_
  refine eS rfl rfl ?_
  refine eS rfl rfl ?_
  refine gGet hn rfl rfl rfl rfl ?_
  refine eC1 rfl rfl rfl ⟨catOk rfl, catOk rfl⟩ (c_sine hh) ?_
  refine eP rfl (fmul_ok (n32_mul hf (gF_sin hh))) ?_
  refine eP rfl (fadd_ok n2) ?_
  refine eS rfl rfl ?_
  exact key
end CDRAW
