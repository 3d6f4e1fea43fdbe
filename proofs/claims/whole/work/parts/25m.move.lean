/-! the turtle's words, and tests of what is on top, on the class's side -/
abbrev aTu : Type := UInt32 × UInt32 × Nat × Int32 × Int32 × List Int32
def movA (w : Nat) (stk : List UInt32) (t : aTu) : Int32 × List UInt32 × aTu :=
  if w = 23 then (0, stk, t.1, t.2.1, t.2.2.1, t.2.2.2.1, 0, t.2.2.2.2.2)
  else if w = 24 then (0, stk, t.1, t.2.1, t.2.2.1, t.2.2.2.1, 1, t.2.2.2.2.2)
  else if w = 25 then (0, stk, t.1, t.2.1, t.2.2.1, t.2.2.2.1, t.2.2.2.2.1, (filA nbrC t.2.2.2.2.2 (Int32.ofInt (pixA t.1)) (Int32.ofInt (pixA t.2.1)) t.2.2.2.1).1)
  else if w = 26 then (0, stk, 1098907648, 1094713344, 0, t.2.2.2.1, t.2.2.2.2.1, t.2.2.2.2.2)
  else match stk with
    | [] => (0, [], t)
    | f :: r => if w = 18 ∨ w = 19 then
        (if (advA (if w = 18 then f else FP.fneg f) t.1 t.2.1 t.2.2.1 t.2.2.2.1 t.2.2.2.2.1 t.2.2.2.2.2).1 then 0 else 12, r, (advA (if w = 18 then f else FP.fneg f) t.1 t.2.1 t.2.2.1 t.2.2.2.1 t.2.2.2.2.1 t.2.2.2.2.2).2.1, (advA (if w = 18 then f else FP.fneg f) t.1 t.2.1 t.2.2.1 t.2.2.2.1 t.2.2.2.2.1 t.2.2.2.2.2).2.2.1, t.2.2.1, t.2.2.2.1, t.2.2.2.2.1, (advA (if w = 18 then f else FP.fneg f) t.1 t.2.1 t.2.2.1 t.2.2.2.1 t.2.2.2.2.1 t.2.2.2.2.2).2.2.2)
      else ((steerA w f t.2.2.1 t.2.2.2.1).1, r, t.1, t.2.1, (steerA w f t.2.2.1 t.2.2.2.1).2.1, (steerA w f t.2.2.1 t.2.2.2.1).2.2, t.2.2.2.2.1, t.2.2.2.2.2)
def movOk (w ht : Nat) : Prop := ((w = 18 ∨ w = 19 ∨ w = 20 ∨ w = 21 ∨ w = 22) ∧ 1 ≤ ht) ∨ w = 23 ∨ w = 24 ∨ w = 25 ∨ w = 26
/-- the picture, the colour and the turtle's place are as they may be -/
def tuOk (t : aTu) : Prop := gX t.1 ∧ gX t.2.1 ∧ t.2.2.1 < 24 ∧ t.2.2.2.1 ≠ -1 ∧ (t.2.2.2.2.1 = 0 ∨ t.2.2.2.2.1 = 1) ∧ t.2.2.2.2.2.length = 768 ∧ ∀ c ∈ t.2.2.2.2.2, c ≠ -1
section CMOVE
variable {scr : List Value} {kd : Nat → Nat} {n : Nat} {S0 : Nat → List Value} {a35 a36 a37 a38 a39 a40 a41 a42 a43 a44 g : List Value} {d w hd : Nat} {cl pc co dn rc an : Int32} {stk : List UInt32} {x y f : UInt32} {px : List Int32} {v : Value}
theorem c_takeIsZero (hn : 67 ≤ n) (hs : stk.length < 24) (hf : gF f) : aE aM123 (d + 1) 0 [(0, .ref 35)] [] (gH scr kd n (cS S0 (kM (Int32.ofNat (f :: stk).length) cl pc an) (fA (f :: stk) g) a37 a38 a39 a40 (kT x y (Int32.ofNat hd) co dn) (kPi rc) (px.map Value.int) a44)) (aIs (some (.int (if FP.fcmp f 0 = some .eq then 1 else 0))) (gH scr kd n (cS S0 (kM (Int32.ofNat stk.length) cl pc an) (fA stk (.float f :: g)) a37 a38 a39 a40 (kT x y (Int32.ofNat hd) co dn) (kPi rc) (px.map Value.int) a44))) := by
  refine eS rfl rfl ?_
  refine gV1 hn rfl rfl rfl rfl rfl ⟨catOk rfl, catOk rfl⟩ (c_take hn hs) ?_
  refine eS rfl rfl ?_
  refine eS rfl rfl ?_
  refine eNe rfl rfl (fun z6 => ?_) (fun z6 => ?_)
  · rw [if_neg (fun y => z6 ((cv_eq hf.nn gF_0.nn).mpr y))]
    refine eS rfl rfl ?_
    exact eR rfl rfl ⟨rfl, rfl⟩
  · rw [if_pos ((cv_eq hf.nn gF_0.nn).mp z6)]
    refine eS rfl rfl ?_
    refine eS rfl rfl ?_
    exact eR rfl rfl ⟨rfl, rfl⟩
def turnA (f : UInt32) (stk : List UInt32) : Bool × List UInt32 := if FP.fcmp f 1065353216 = some .lt then (false, stk) else (true, FP.fsub f 1065353216 :: stk)
theorem c_takeTurn (hn : 67 ≤ n) (hs : stk.length < 24) (hf : gF f) : ∃ g', (turnA f stk).2.length + g'.length = (f :: stk).length + g.length ∧ aE aM125 (d + 1) 0 [(0, .ref 35)] [] (gH scr kd n (cS S0 (kM (Int32.ofNat (f :: stk).length) cl pc an) (fA (f :: stk) g) a37 a38 a39 a40 (kT x y (Int32.ofNat hd) co dn) (kPi rc) (px.map Value.int) a44)) (aIs (some (.int (if (turnA f stk).1 then 1 else 0))) (gH scr kd n (cS S0 (kM (Int32.ofNat (turnA f stk).2.length) cl pc an) (fA (turnA f stk).2 g') a37 a38 a39 a40 (kT x y (Int32.ofNat hd) co dn) (kPi rc) (px.map Value.int) a44))) := by
  by_cases h : FP.fcmp f 1065353216 = some .lt
  · have e : turnA f stk = (false, stk) := if_pos h
    refine ⟨.float f :: g, by rw [e]; simp; omega, ?_⟩
    rw [e]
    refine eS rfl rfl ?_
    refine gV1 hn rfl rfl rfl rfl rfl ⟨catOk rfl, catOk rfl⟩ (c_take hn hs) ?_
    refine eS rfl rfl ?_
    refine eS rfl rfl ?_
    refine eS rfl rfl ?_
    refine eS rfl rfl ?_
    refine eGe rfl rfl (fun z => absurd h ((cv_ge hf.nn gF_1.nn).mp z)) (fun _ => ?_)
    refine eS rfl rfl ?_
    exact eR rfl rfl ⟨rfl, rfl⟩
  · have e : turnA f stk = (true, FP.fsub f 1065353216 :: stk) := if_neg h
    refine ⟨g, by rw [e]; simp, ?_⟩
    rw [e]
    refine eS rfl rfl ?_
    refine gV1 hn rfl rfl rfl rfl rfl ⟨catOk rfl, catOk rfl⟩ (c_take hn hs) ?_
    refine eS rfl rfl ?_
    refine eS rfl rfl ?_
    refine eS rfl rfl ?_
    refine eS rfl rfl ?_
    refine eGe rfl rfl (fun _ => ?_) (fun z => absurd ((cv_ge hf.nn gF_1.nn).mpr h) z)
    refine eS rfl rfl ?_
    refine eS rfl rfl ?_
    refine eS rfl rfl ?_
    refine eP rfl (fsub_ok (n32_sub hf gF_1)) ?_
    refine gV1 hn rfl rfl rfl rfl rfl ⟨catOk rfl, catOk rfl⟩ (c_push hn hs) ?_
    refine eS rfl rfl ?_
    exact eR rfl rfl ⟨rfl, rfl⟩
theorem c_paint (hn : 67 ≤ n) (hl : px.length = 768) (ha : a44.length = 768) (hp : ∀ c ∈ px, c ≠ -1) (hx : gX x) (hy : gX y) : ∃ rc' a44', a44'.length = 768 ∧ aE aM141 (d + 3) 0 [(0, .ref 41)] [] (gH scr kd n (cS S0 a35 a36 a37 a38 a39 a40 (kT x y (Int32.ofNat hd) co dn) (kPi rc) (px.map Value.int) a44)) (aIs none (gH scr kd n (cS S0 a35 a36 a37 a38 a39 a40 (kT x y (Int32.ofNat hd) co dn) (kPi rc') ((filA nbrC px (Int32.ofInt (pixA x)) (Int32.ofInt (pixA y)) co).1.map Value.int) a44'))) := by
  obtain ⟨rc', a', l, e⟩ := c_fillFrom (dd := d) (scr := scr) (kd := kd) (S0 := S0) (a35 := a35) (a36 := a36) (a37 := a37) (a38 := a38) (a39 := a39) (a40 := a40) (a41 := kT x y (Int32.ofNat hd) co dn) (co := co) (a := Int32.ofInt (pixA x)) (b := Int32.ofInt (pixA y)) (rc := rc) hn hl ha hp
  refine ⟨rc', a', l, ?_⟩
  refine eS rfl rfl ?_
  refine gGet hn rfl rfl rfl rfl ?_
  refine eS rfl rfl ?_
  refine gGet hn rfl rfl rfl rfl ?_
  refine eC1 rfl rfl rfl ⟨catOk rfl, catOk rfl⟩ (c_pixelOf hx) ?_
  refine eS rfl rfl ?_
  refine gGet hn rfl rfl rfl rfl ?_
  refine eC1 rfl rfl rfl ⟨catOk rfl, catOk rfl⟩ (c_pixelOf hy) ?_
  refine eS rfl rfl ?_
  refine gGet hn rfl rfl rfl rfl ?_
  refine gV1 hn rfl rfl rfl rfl rfl ⟨catOk rfl, catOk rfl⟩ (e) ?_
  exact eR rfl rfl ⟨rfl, rfl⟩
theorem c_move (hn : 67 ≤ n) (hg : stk.length + g.length = 24) (hs : ∀ f ∈ stk, gF f) (ht : tuOk (x, y, hd, co, dn, px)) (ha : a44.length = 768) (hw : movOk w stk.length) : ∃ g' rc' a44', (movA w stk (x, y, hd, co, dn, px)).2.1.length + g'.length = 24 ∧ a44'.length = 768 ∧
    aE aM129 (d + 5) 0 [(0, .ref 35), (1, .int (Int32.ofNat w))] [] (gH scr kd n (cS S0 (kM (Int32.ofNat stk.length) cl pc 0) (fA stk g) a37 a38 a39 a40 (kT x y (Int32.ofNat hd) co dn) (kPi rc) (px.map Value.int) a44)) (aIs none (gH scr kd n (cS S0 (kM (Int32.ofNat (movA w stk (x, y, hd, co, dn, px)).2.1.length) cl pc (movA w stk (x, y, hd, co, dn, px)).1) (fA (movA w stk (x, y, hd, co, dn, px)).2.1 g') a37 a38 a39 a40 (kT (movA w stk (x, y, hd, co, dn, px)).2.2.1 (movA w stk (x, y, hd, co, dn, px)).2.2.2.1 (Int32.ofNat (movA w stk (x, y, hd, co, dn, px)).2.2.2.2.1) (movA w stk (x, y, hd, co, dn, px)).2.2.2.2.2.1 (movA w stk (x, y, hd, co, dn, px)).2.2.2.2.2.2.1) (kPi rc') ((movA w stk (x, y, hd, co, dn, px)).2.2.2.2.2.2.2.map Value.int) a44'))) := by
  obtain ⟨t1, t2, t3, t4, t5, t6, t7⟩ := ht
  rcases hw with ⟨hw, h1⟩ | rfl | rfl | rfl | rfl
  · obtain ⟨f, r, rfl⟩ : ∃ f r, stk = f :: r := by
      cases stk with
      | nil => simp at h1
      | cons f r => exact ⟨f, r, rfl⟩
    have hl : r.length < 24 := by simp at hg; omega
    have gf : gF f := hs f (by simp)
    refine ⟨.float f :: g, rc, a44, ?_, ha, ?_⟩
    · rcases hw with rfl | rfl | rfl | rfl | rfl <;> (show r.length + _ = 24; simp at hg ⊢; omega)
    rcases hw with rfl | rfl | rfl | rfl | rfl
    · have e : movA 18 (f :: r) (x, y, hd, co, dn, px) = (if (advA f x y hd co dn px).1 then 0 else 12, r, (advA f x y hd co dn px).2.1, (advA f x y hd co dn px).2.2.1, hd, co, dn, (advA f x y hd co dn px).2.2.2) := rfl
      rw [e]
      have ea := c_advance (dd := d) (scr := scr) (kd := kd) (S0 := S0) (a35 := kM (Int32.ofNat r.length) cl pc 0) (a36 := fA r (.float f :: g)) (a37 := a37) (a38 := a38) (a39 := a39) (a40 := a40) (a44 := a44) (co := co) (dn := dn) (rc := rc) hn t6 gf t1 t2 t3
      cases hb : (advA f x y hd co dn px).1 with
      | true =>
        rw [hb] at ea
        refine eS rfl rfl ?_
        refine eS rfl rfl ?_
        refine eS rfl rfl ?_
        refine gGet hn rfl rfl rfl rfl ?_
        refine eS rfl rfl ?_
        refine eS rfl rfl ?_
        refine eINe rfl rfl (fun z => absurd rfl z) (fun _ => ?_)
        refine eS rfl rfl ?_
        refine gV1 hn rfl rfl rfl rfl rfl ⟨catOk rfl, catOk rfl⟩ (c_take hn hl) ?_
        refine eS rfl rfl ?_
        refine gV1 hn rfl rfl rfl rfl rfl ⟨catOk rfl, catOk rfl⟩ (ea) ?_
        refine eNe rfl rfl (fun _ => ?_) (fun z => absurd z (by decide))
        exact eR rfl rfl ⟨rfl, rfl⟩
      | false =>
        rw [hb] at ea
        refine eS rfl rfl ?_
        refine eS rfl rfl ?_
        refine eS rfl rfl ?_
        refine gGet hn rfl rfl rfl rfl ?_
        refine eS rfl rfl ?_
        refine eS rfl rfl ?_
        refine eINe rfl rfl (fun z => absurd rfl z) (fun _ => ?_)
        refine eS rfl rfl ?_
        refine gV1 hn rfl rfl rfl rfl rfl ⟨catOk rfl, catOk rfl⟩ (c_take hn hl) ?_
        refine eS rfl rfl ?_
        refine gV1 hn rfl rfl rfl rfl rfl ⟨catOk rfl, catOk rfl⟩ (ea) ?_
        refine eNe rfl rfl (fun z => absurd rfl z) (fun _ => ?_)
        refine eS rfl rfl ?_
        refine eS rfl rfl ?_
        refine gPut hn rfl rfl rfl rfl rfl rfl rfl cS_35 ?_
        refine eS rfl rfl ?_
        exact eR rfl rfl ⟨rfl, rfl⟩
    · have e : movA 19 (f :: r) (x, y, hd, co, dn, px) = (if (advA (FP.fneg f) x y hd co dn px).1 then 0 else 12, r, (advA (FP.fneg f) x y hd co dn px).2.1, (advA (FP.fneg f) x y hd co dn px).2.2.1, hd, co, dn, (advA (FP.fneg f) x y hd co dn px).2.2.2) := rfl
      rw [e]
      have ea := c_advance (dd := d) (scr := scr) (kd := kd) (S0 := S0) (a35 := kM (Int32.ofNat r.length) cl pc 0) (a36 := fA r (.float f :: g)) (a37 := a37) (a38 := a38) (a39 := a39) (a40 := a40) (a44 := a44) (co := co) (dn := dn) (rc := rc) hn t6 (gF_neg gf) t1 t2 t3
      cases hb : (advA (FP.fneg f) x y hd co dn px).1 with
      | true =>
        rw [hb] at ea
        refine eS rfl rfl ?_
        refine eS rfl rfl ?_
        refine eS rfl rfl ?_
        refine gGet hn rfl rfl rfl rfl ?_
        refine eS rfl rfl ?_
        refine eS rfl rfl ?_
        refine eINe rfl rfl (fun _ => ?_) (fun z => absurd z (by decide))
        refine eS rfl rfl ?_
        refine gV1 hn rfl rfl rfl rfl rfl ⟨catOk rfl, catOk rfl⟩ (c_take hn hl) ?_
        refine eS rfl rfl ?_
        refine gV1 hn rfl rfl rfl rfl rfl ⟨catOk rfl, catOk rfl⟩ (ea) ?_
        refine eNe rfl rfl (fun _ => ?_) (fun z => absurd z (by decide))
        exact eR rfl rfl ⟨rfl, rfl⟩
      | false =>
        rw [hb] at ea
        refine eS rfl rfl ?_
        refine eS rfl rfl ?_
        refine eS rfl rfl ?_
        refine gGet hn rfl rfl rfl rfl ?_
        refine eS rfl rfl ?_
        refine eS rfl rfl ?_
        refine eINe rfl rfl (fun _ => ?_) (fun z => absurd z (by decide))
        refine eS rfl rfl ?_
        refine gV1 hn rfl rfl rfl rfl rfl ⟨catOk rfl, catOk rfl⟩ (c_take hn hl) ?_
        refine eS rfl rfl ?_
        refine gV1 hn rfl rfl rfl rfl rfl ⟨catOk rfl, catOk rfl⟩ (ea) ?_
        refine eNe rfl rfl (fun z => absurd rfl z) (fun _ => ?_)
        refine eS rfl rfl ?_
        refine eS rfl rfl ?_
        refine gPut hn rfl rfl rfl rfl rfl rfl rfl cS_35 ?_
        refine eS rfl rfl ?_
        exact eR rfl rfl ⟨rfl, rfl⟩
    · have e : movA 20 (f :: r) (x, y, hd, co, dn, px) = ((steerA 20 f hd co).1, r, x, y, (steerA 20 f hd co).2.1, (steerA 20 f hd co).2.2, dn, px) := rfl
      rw [e]
      refine eS rfl rfl ?_
      refine eS rfl rfl ?_
      refine eS rfl rfl ?_
      refine eS rfl rfl ?_
      refine eS rfl rfl ?_
      refine gV1 hn rfl rfl rfl rfl rfl ⟨catOk rfl, catOk rfl⟩ (c_take hn hl) ?_
      refine gV1 hn rfl rfl rfl rfl rfl ⟨catOk rfl, catOk rfl⟩ (c_steer hn gf (by decide)) ?_
      refine eS rfl rfl ?_
      exact eR rfl rfl ⟨rfl, rfl⟩
    · have e : movA 21 (f :: r) (x, y, hd, co, dn, px) = ((steerA 21 f hd co).1, r, x, y, (steerA 21 f hd co).2.1, (steerA 21 f hd co).2.2, dn, px) := rfl
      rw [e]
      refine eS rfl rfl ?_
      refine eS rfl rfl ?_
      refine eS rfl rfl ?_
      refine eS rfl rfl ?_
      refine eS rfl rfl ?_
      refine gV1 hn rfl rfl rfl rfl rfl ⟨catOk rfl, catOk rfl⟩ (c_take hn hl) ?_
      refine gV1 hn rfl rfl rfl rfl rfl ⟨catOk rfl, catOk rfl⟩ (c_steer hn gf (by decide)) ?_
      refine eS rfl rfl ?_
      exact eR rfl rfl ⟨rfl, rfl⟩
    · have e : movA 22 (f :: r) (x, y, hd, co, dn, px) = ((steerA 22 f hd co).1, r, x, y, (steerA 22 f hd co).2.1, (steerA 22 f hd co).2.2, dn, px) := rfl
      rw [e]
      refine eS rfl rfl ?_
      refine eS rfl rfl ?_
      refine eS rfl rfl ?_
      refine eS rfl rfl ?_
      refine eS rfl rfl ?_
      refine gV1 hn rfl rfl rfl rfl rfl ⟨catOk rfl, catOk rfl⟩ (c_take hn hl) ?_
      refine gV1 hn rfl rfl rfl rfl rfl ⟨catOk rfl, catOk rfl⟩ (c_steer hn gf (by decide)) ?_
      refine eS rfl rfl ?_
      exact eR rfl rfl ⟨rfl, rfl⟩
  · refine ⟨g, rc, a44, hg, ha, ?_⟩
    refine eS rfl rfl ?_
    refine eS rfl rfl ?_
    refine eS rfl rfl ?_
    refine gGet hn rfl rfl rfl rfl ?_
    refine eS rfl rfl ?_
    refine gPut hn rfl rfl rfl rfl rfl rfl rfl cS_41 ?_
    refine eS rfl rfl ?_
    exact eR rfl rfl ⟨rfl, rfl⟩
  · refine ⟨g, rc, a44, hg, ha, ?_⟩
    refine eS rfl rfl ?_
    refine eS rfl rfl ?_
    refine eS rfl rfl ?_
    refine gGet hn rfl rfl rfl rfl ?_
    refine eS rfl rfl ?_
    refine gPut hn rfl rfl rfl rfl rfl rfl rfl cS_41 ?_
    refine eS rfl rfl ?_
    exact eR rfl rfl ⟨rfl, rfl⟩
  · obtain ⟨rc', a', l, e⟩ := c_paint (d := d + 1) (scr := scr) (kd := kd) (S0 := S0) (a35 := kM (Int32.ofNat stk.length) cl pc 0) (a36 := fA stk g) (a37 := a37) (a38 := a38) (a39 := a39) (a40 := a40) (hd := hd) (co := co) (dn := dn) (rc := rc) hn t6 ha t7 t1 t2
    refine ⟨g, rc', a', hg, l, ?_⟩
    refine eS rfl rfl ?_
    refine eS rfl rfl ?_
    refine eS rfl rfl ?_
    refine gGet hn rfl rfl rfl rfl ?_
    refine gV1 hn rfl rfl rfl rfl rfl ⟨catOk rfl, catOk rfl⟩ (e) ?_
    refine eS rfl rfl ?_
    exact eR rfl rfl ⟨rfl, rfl⟩
  · refine ⟨g, rc, a44, hg, ha, ?_⟩
    refine eS rfl rfl ?_
    refine eS rfl rfl ?_
    refine eS rfl rfl ?_
    refine gGet hn rfl rfl rfl rfl ?_
    refine gV1 hn rfl rfl rfl rfl rfl ⟨catOk rfl, catOk rfl⟩ (c_goHome hn) ?_
    refine eS rfl rfl ?_
    exact eR rfl rfl ⟨rfl, rfl⟩
end CMOVE
