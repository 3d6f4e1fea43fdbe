/-! one word that reckons or draws, on the model's side -/
theorem stk1 {stk : List UInt32} (h : 1 ≤ stk.length) : ∃ f r, stk = f :: r := by
  cases stk with
  | nil => simp at h
  | cons f r => exact ⟨f, r, rfl⟩
theorem stk2 {stk : List UInt32} (h : 2 ≤ stk.length) : ∃ f a r, stk = f :: a :: r := by
  match stk, h with
  | f :: a :: r, _ => exact ⟨f, a, r, rfl⟩
section MPLAIN
variable {scr : List Value} {kd : Nat → Nat} {n N : Nat} {S0 : Nat → List Value} {a77 a78 a79 a80 a81 a82 a83 g : List Value} {w : Nat → Value} {nn co dn : Int32} {x y : UInt32} {d pc cl hd : Nat} {stk par vrs : List UInt32} {W : Nat → Nat} {px : List Int32}
theorem m_plain_op (hn : 67 ≤ n) (hP : prgM S0 N W) (hg : stk.length + g.length = 24) (hp : par.length = 9) (hv : vrs.length = 8) (hs : ∀ f ∈ stk, gF f) (ho : opOk (W pc) (W (pc + 1)) (W (pc + 2)) cl stk.length) (hb : W pc = 1 → W (pc + 2) ≤ 2) (hj : pc + lenA (W pc) ≤ N) :
    ∃ hi' a77', a77'.length = 24 ∧ ((opA (W pc) (W (pc + 1)) (W (pc + 2)) cl stk par vrs).1 = 0 → hi' = Int32.ofNat (opA (W pc) (W (pc + 1)) (W (pc + 2)) cl stk par vrs).2.1.length ∧ ∃ g', a77' = fA (opA (W pc) (W (pc + 1)) (W (pc + 2)) cl stk par vrs).2.1 g') ∧ aE aM212 (d + 3) 0 [(0, .ref 56), (1, .int (Int32.ofNat (W pc)))] [] (gH scr kd n (mS S0 (mM w nn (Int32.ofNat pc) 0 (Int32.ofNat stk.length) (Int32.ofNat cl) x y (Int32.ofNat hd) co dn) (fA stk g) (par.map Value.float) a79 a80 (vrs.map Value.float) (px.map Value.int) a83)) (aIs none (gH scr kd n (mS S0 (mM w nn (Int32.ofNat pc) (opA (W pc) (W (pc + 1)) (W (pc + 2)) cl stk par vrs).1 hi' (Int32.ofNat cl) x y (Int32.ofNat hd) co dn) a77' ((opA (W pc) (W (pc + 1)) (W (pc + 2)) cl stk par vrs).2.2.1.map Value.float) a79 a80 ((opA (W pc) (W (pc + 1)) (W (pc + 2)) cl stk par vrs).2.2.2.map Value.float) (px.map Value.int) a83))) := by
  have hN := hP.1
  have p1 : Int32.ofNat pc + Int32.ofInt 1 = Int32.ofNat (pc + 1) := i32_succ
  rcases ho with ⟨o, hk, hb'⟩ | ⟨o, hk⟩ | ⟨o, c1, c2, hk⟩ | ⟨o, hk, h1⟩ | ⟨o, c1, c2, hk, h1⟩ | ⟨hw, h1⟩ | ⟨o, h1⟩ | ⟨hw, h1⟩
  · rw [o] at hj
    have hj : pc + 3 ≤ N := hj
    have hb2 := hb o
    have er : rdA W pc cl par vrs = (numA (W (pc + 1)) (W (pc + 2))) := by
      unfold rdA
      rw [if_pos o]
    have eo : (opA (W pc) (W (pc + 1)) (W (pc + 2)) cl stk par vrs) = ((pushA (numA (W (pc + 1)) (W (pc + 2))) stk).1, (pushA (numA (W (pc + 1)) (W (pc + 2))) stk).2, par, vrs) := by
      rw [o]
      rfl
    rw [eo]
    obtain ⟨g', l, e⟩ := m_pushA (d := d + 2) (scr := scr) (kd := kd) (S0 := S0) (w := w) (nn := nn) (pc := Int32.ofNat pc) (un := Int32.ofNat cl) (x := x) (y := y) (hd := Int32.ofNat hd) (co := co) (dn := dn) (a78 := par.map Value.float) (a79 := a79) (a80 := a80) (a81 := vrs.map Value.float) (a82 := px.map Value.int) (a83 := a83) (f := (numA (W (pc + 1)) (W (pc + 2)))) hn hg
    have er2 := m_read (d := d + 2) (cl := cl) (scr := scr) (kd := kd) (w := w) (nn := nn) (en := 0) (x := x) (y := y) (hd := Int32.ofNat hd) (co := co) (dn := dn) (a77 := fA stk g) (a79 := a79) (a80 := a80) (a82 := px.map Value.int) (a83 := a83) (hi := Int32.ofNat stk.length) hn hP hp hv (Or.inl ⟨o, hk, hb2, by omega⟩)
    rw [er, o] at er2
    refine ⟨Int32.ofNat (pushA (numA (W (pc + 1)) (W (pc + 2))) stk).2.length, fA (pushA (numA (W (pc + 1)) (W (pc + 2))) stk).2 g', fA_len.trans l, fun _ => ⟨rfl, g', rfl⟩, ?_⟩
    rw [o]
    refine eS rfl rfl ?_
    refine eS rfl rfl ?_
    refine eILt rfl rfl (fun z => absurd z (by decide)) (fun _ => ?_)
    refine eS rfl rfl ?_
    refine eS rfl rfl ?_
    refine eIGt rfl rfl (fun z => absurd z (by decide)) (fun _ => ?_)
    refine eS rfl rfl ?_
    refine eS rfl rfl ?_
    refine eS rfl rfl ?_
    refine gV1 hn rfl rfl rfl rfl rfl ⟨catOk rfl, catOk rfl⟩ (er2) ?_
    refine gV1 hn rfl rfl rfl rfl rfl ⟨catOk rfl, catOk rfl⟩ (e) ?_
    refine eS rfl rfl ?_
    refine eS rfl rfl ?_
    refine eINe rfl rfl (fun _ => ?_) (fun z => absurd z (by decide))
    refine eS rfl rfl ?_
    refine eS rfl rfl ?_
    refine eINe rfl rfl (fun _ => ?_) (fun z => absurd z (by decide))
    refine eS rfl rfl ?_
    refine eS rfl rfl ?_
    refine eILt rfl rfl (fun _ => ?_) (fun z => absurd (by decide) z)
    refine eS rfl rfl ?_
    refine eS rfl rfl ?_
    refine eINe rfl rfl (fun _ => ?_) (fun z => absurd z (by decide))
    refine eS rfl rfl ?_
    refine eS rfl rfl ?_
    refine eILt rfl rfl (fun _ => ?_) (fun z => absurd (by decide) z)
    refine eS rfl rfl ?_
    refine eS rfl rfl ?_
    refine eINe rfl rfl (fun _ => ?_) (fun z => absurd z (by decide))
    refine eS rfl rfl ?_
    refine eS rfl rfl ?_
    refine eINe rfl rfl (fun _ => ?_) (fun z => absurd z (by decide))
    refine eS rfl rfl ?_
    refine eS rfl rfl ?_
    refine eILt rfl rfl (fun _ => ?_) (fun z => absurd (by decide) z)
    refine eS rfl rfl ?_
    refine eS rfl rfl ?_
    refine eIEq rfl rfl (fun z => absurd z (by decide)) (fun _ => ?_)
    refine eS rfl rfl ?_
    refine eS rfl rfl ?_
    refine eINe rfl rfl (fun _ => ?_) (fun z => absurd z (by decide))
    refine eS rfl rfl ?_
    refine eS rfl rfl ?_
    refine eINe rfl rfl (fun _ => ?_) (fun z => absurd z (by decide))
    refine eS rfl rfl ?_
    refine eS rfl rfl ?_
    refine eINe rfl rfl (fun _ => ?_) (fun z => absurd z (by decide))
    exact eR rfl rfl ⟨rfl, rfl⟩
  · rw [o] at hj
    have hj : pc + 2 ≤ N := hj
    have er : rdA W pc cl par vrs = (vrs.getD (W (pc + 1)) 0) := by
      unfold rdA
      rw [if_neg (by omega), if_pos o]
    have eo : (opA (W pc) (W (pc + 1)) (W (pc + 2)) cl stk par vrs) = ((pushA (vrs.getD (W (pc + 1)) 0) stk).1, (pushA (vrs.getD (W (pc + 1)) 0) stk).2, par, vrs) := by
      rw [o]
      rfl
    rw [eo]
    obtain ⟨g', l, e⟩ := m_pushA (d := d + 2) (scr := scr) (kd := kd) (S0 := S0) (w := w) (nn := nn) (pc := Int32.ofNat pc) (un := Int32.ofNat cl) (x := x) (y := y) (hd := Int32.ofNat hd) (co := co) (dn := dn) (a78 := par.map Value.float) (a79 := a79) (a80 := a80) (a81 := vrs.map Value.float) (a82 := px.map Value.int) (a83 := a83) (f := (vrs.getD (W (pc + 1)) 0)) hn hg
    have er2 := m_read (d := d + 2) (cl := cl) (scr := scr) (kd := kd) (w := w) (nn := nn) (en := 0) (x := x) (y := y) (hd := Int32.ofNat hd) (co := co) (dn := dn) (a77 := fA stk g) (a79 := a79) (a80 := a80) (a82 := px.map Value.int) (a83 := a83) (hi := Int32.ofNat stk.length) hn hP hp hv (Or.inr (Or.inl ⟨o, hk, by omega⟩))
    rw [er, o] at er2
    refine ⟨Int32.ofNat (pushA (vrs.getD (W (pc + 1)) 0) stk).2.length, fA (pushA (vrs.getD (W (pc + 1)) 0) stk).2 g', fA_len.trans l, fun _ => ⟨rfl, g', rfl⟩, ?_⟩
    rw [o]
    refine eS rfl rfl ?_
    refine eS rfl rfl ?_
    refine eILt rfl rfl (fun z => absurd z (by decide)) (fun _ => ?_)
    refine eS rfl rfl ?_
    refine eS rfl rfl ?_
    refine eIGt rfl rfl (fun z => absurd z (by decide)) (fun _ => ?_)
    refine eS rfl rfl ?_
    refine eS rfl rfl ?_
    refine eS rfl rfl ?_
    refine gV1 hn rfl rfl rfl rfl rfl ⟨catOk rfl, catOk rfl⟩ (er2) ?_
    refine gV1 hn rfl rfl rfl rfl rfl ⟨catOk rfl, catOk rfl⟩ (e) ?_
    refine eS rfl rfl ?_
    refine eS rfl rfl ?_
    refine eINe rfl rfl (fun _ => ?_) (fun z => absurd z (by decide))
    refine eS rfl rfl ?_
    refine eS rfl rfl ?_
    refine eINe rfl rfl (fun _ => ?_) (fun z => absurd z (by decide))
    refine eS rfl rfl ?_
    refine eS rfl rfl ?_
    refine eILt rfl rfl (fun _ => ?_) (fun z => absurd (by decide) z)
    refine eS rfl rfl ?_
    refine eS rfl rfl ?_
    refine eINe rfl rfl (fun _ => ?_) (fun z => absurd z (by decide))
    refine eS rfl rfl ?_
    refine eS rfl rfl ?_
    refine eILt rfl rfl (fun _ => ?_) (fun z => absurd (by decide) z)
    refine eS rfl rfl ?_
    refine eS rfl rfl ?_
    refine eINe rfl rfl (fun _ => ?_) (fun z => absurd z (by decide))
    refine eS rfl rfl ?_
    refine eS rfl rfl ?_
    refine eINe rfl rfl (fun _ => ?_) (fun z => absurd z (by decide))
    refine eS rfl rfl ?_
    refine eS rfl rfl ?_
    refine eILt rfl rfl (fun _ => ?_) (fun z => absurd (by decide) z)
    refine eS rfl rfl ?_
    refine eS rfl rfl ?_
    refine eIEq rfl rfl (fun z => absurd z (by decide)) (fun _ => ?_)
    refine eS rfl rfl ?_
    refine eS rfl rfl ?_
    refine eINe rfl rfl (fun _ => ?_) (fun z => absurd z (by decide))
    refine eS rfl rfl ?_
    refine eS rfl rfl ?_
    refine eINe rfl rfl (fun _ => ?_) (fun z => absurd z (by decide))
    refine eS rfl rfl ?_
    refine eS rfl rfl ?_
    refine eINe rfl rfl (fun _ => ?_) (fun z => absurd z (by decide))
    exact eR rfl rfl ⟨rfl, rfl⟩
  · rw [o] at hj
    have hj : pc + 2 ≤ N := hj
    have er : rdA W pc cl par vrs = (par.getD (3 * (cl - 1) + W (pc + 1)) 0) := by
      unfold rdA
      rw [if_neg (by omega), if_neg (by omega)]
    have eo : (opA (W pc) (W (pc + 1)) (W (pc + 2)) cl stk par vrs) = ((pushA (par.getD (3 * (cl - 1) + W (pc + 1)) 0) stk).1, (pushA (par.getD (3 * (cl - 1) + W (pc + 1)) 0) stk).2, par, vrs) := by
      rw [o]
      rfl
    rw [eo]
    obtain ⟨g', l, e⟩ := m_pushA (d := d + 2) (scr := scr) (kd := kd) (S0 := S0) (w := w) (nn := nn) (pc := Int32.ofNat pc) (un := Int32.ofNat cl) (x := x) (y := y) (hd := Int32.ofNat hd) (co := co) (dn := dn) (a78 := par.map Value.float) (a79 := a79) (a80 := a80) (a81 := vrs.map Value.float) (a82 := px.map Value.int) (a83 := a83) (f := (par.getD (3 * (cl - 1) + W (pc + 1)) 0)) hn hg
    have er2 := m_read (d := d + 2) (cl := cl) (scr := scr) (kd := kd) (w := w) (nn := nn) (en := 0) (x := x) (y := y) (hd := Int32.ofNat hd) (co := co) (dn := dn) (a77 := fA stk g) (a79 := a79) (a80 := a80) (a82 := px.map Value.int) (a83 := a83) (hi := Int32.ofNat stk.length) hn hP hp hv (Or.inr (Or.inr ⟨o, c1, c2, hk, by omega⟩))
    rw [er, o] at er2
    refine ⟨Int32.ofNat (pushA (par.getD (3 * (cl - 1) + W (pc + 1)) 0) stk).2.length, fA (pushA (par.getD (3 * (cl - 1) + W (pc + 1)) 0) stk).2 g', fA_len.trans l, fun _ => ⟨rfl, g', rfl⟩, ?_⟩
    rw [o]
    refine eS rfl rfl ?_
    refine eS rfl rfl ?_
    refine eILt rfl rfl (fun z => absurd z (by decide)) (fun _ => ?_)
    refine eS rfl rfl ?_
    refine eS rfl rfl ?_
    refine eIGt rfl rfl (fun z => absurd z (by decide)) (fun _ => ?_)
    refine eS rfl rfl ?_
    refine eS rfl rfl ?_
    refine eS rfl rfl ?_
    refine gV1 hn rfl rfl rfl rfl rfl ⟨catOk rfl, catOk rfl⟩ (er2) ?_
    refine gV1 hn rfl rfl rfl rfl rfl ⟨catOk rfl, catOk rfl⟩ (e) ?_
    refine eS rfl rfl ?_
    refine eS rfl rfl ?_
    refine eINe rfl rfl (fun _ => ?_) (fun z => absurd z (by decide))
    refine eS rfl rfl ?_
    refine eS rfl rfl ?_
    refine eINe rfl rfl (fun _ => ?_) (fun z => absurd z (by decide))
    refine eS rfl rfl ?_
    refine eS rfl rfl ?_
    refine eILt rfl rfl (fun _ => ?_) (fun z => absurd (by decide) z)
    refine eS rfl rfl ?_
    refine eS rfl rfl ?_
    refine eINe rfl rfl (fun _ => ?_) (fun z => absurd z (by decide))
    refine eS rfl rfl ?_
    refine eS rfl rfl ?_
    refine eILt rfl rfl (fun _ => ?_) (fun z => absurd (by decide) z)
    refine eS rfl rfl ?_
    refine eS rfl rfl ?_
    refine eINe rfl rfl (fun _ => ?_) (fun z => absurd z (by decide))
    refine eS rfl rfl ?_
    refine eS rfl rfl ?_
    refine eINe rfl rfl (fun _ => ?_) (fun z => absurd z (by decide))
    refine eS rfl rfl ?_
    refine eS rfl rfl ?_
    refine eILt rfl rfl (fun _ => ?_) (fun z => absurd (by decide) z)
    refine eS rfl rfl ?_
    refine eS rfl rfl ?_
    refine eIEq rfl rfl (fun z => absurd z (by decide)) (fun _ => ?_)
    refine eS rfl rfl ?_
    refine eS rfl rfl ?_
    refine eINe rfl rfl (fun _ => ?_) (fun z => absurd z (by decide))
    refine eS rfl rfl ?_
    refine eS rfl rfl ?_
    refine eINe rfl rfl (fun _ => ?_) (fun z => absurd z (by decide))
    refine eS rfl rfl ?_
    refine eS rfl rfl ?_
    refine eINe rfl rfl (fun _ => ?_) (fun z => absurd z (by decide))
    exact eR rfl rfl ⟨rfl, rfl⟩
  · rw [o] at hj
    have hj : pc + 2 ≤ N := hj
    obtain ⟨f, r, rfl⟩ := stk1 h1
    have hl : r.length < 24 := by simp at hg; omega
    have eo : (opA (W pc) (W (pc + 1)) (W (pc + 2)) cl (f :: r) par vrs) = (0, r, par, vrs.set (W (pc + 1)) f) := by
      rw [o]
      rfl
    rw [eo, o]
    refine ⟨Int32.ofNat r.length, fA r (.float f :: g), by rw [← fA_cons]; exact fA_len.trans hg, fun _ => ⟨rfl, _, rfl⟩, ?_⟩
    refine eS rfl rfl ?_
    refine eS rfl rfl ?_
    refine eILt rfl rfl (fun z => absurd z (by decide)) (fun _ => ?_)
    refine eS rfl rfl ?_
    refine eS rfl rfl ?_
    refine eIGt rfl rfl (fun _ => ?_) (fun z => absurd (by decide) z)
    refine eS rfl rfl ?_
    refine eS rfl rfl ?_
    refine eINe rfl rfl (fun z => absurd rfl z) (fun _ => ?_)
    refine eS rfl rfl ?_
    refine gGet hn rfl rfl rfl rfl ?_
    refine eS rfl rfl ?_
    refine gGet hn rfl rfl rfl rfl ?_
    refine eS rfl rfl ?_
    refine gGet hn rfl rfl rfl rfl ?_
    refine eS rfl rfl ?_
    refine eS rfl rfl ?_
    rw [p1]
    refine gRd0 hn rfl rfl rfl (pc + 1) (by omega) (hP.2 (pc + 1) (by omega)) ?_
    refine eS rfl rfl ?_
    refine gV1 hn rfl rfl rfl rfl rfl ⟨catOk rfl, catOk rfl⟩ (m_pop (stk := r) hn hl) ?_
    refine gWr3 hn rfl rfl rfl (W (pc + 1)) (by omega) (by show W (pc + 1) < (vrs.map Value.float).length; rw [List.length_map]; omega) (mS_81.trans (congrArg (fun z => mS S0 _ _ _ _ _ z _ _) fl_set)) ?_
    refine eS rfl rfl ?_
    refine eS rfl rfl ?_
    refine eINe rfl rfl (fun _ => ?_) (fun z => absurd z (by decide))
    refine eS rfl rfl ?_
    refine eS rfl rfl ?_
    refine eILt rfl rfl (fun _ => ?_) (fun z => absurd (by decide) z)
    refine eS rfl rfl ?_
    refine eS rfl rfl ?_
    refine eINe rfl rfl (fun _ => ?_) (fun z => absurd z (by decide))
    refine eS rfl rfl ?_
    refine eS rfl rfl ?_
    refine eILt rfl rfl (fun _ => ?_) (fun z => absurd (by decide) z)
    refine eS rfl rfl ?_
    refine eS rfl rfl ?_
    refine eINe rfl rfl (fun _ => ?_) (fun z => absurd z (by decide))
    refine eS rfl rfl ?_
    refine eS rfl rfl ?_
    refine eINe rfl rfl (fun _ => ?_) (fun z => absurd z (by decide))
    refine eS rfl rfl ?_
    refine eS rfl rfl ?_
    refine eILt rfl rfl (fun _ => ?_) (fun z => absurd (by decide) z)
    refine eS rfl rfl ?_
    refine eS rfl rfl ?_
    refine eIEq rfl rfl (fun z => absurd z (by decide)) (fun _ => ?_)
    refine eS rfl rfl ?_
    refine eS rfl rfl ?_
    refine eINe rfl rfl (fun _ => ?_) (fun z => absurd z (by decide))
    refine eS rfl rfl ?_
    refine eS rfl rfl ?_
    refine eINe rfl rfl (fun _ => ?_) (fun z => absurd z (by decide))
    refine eS rfl rfl ?_
    refine eS rfl rfl ?_
    refine eINe rfl rfl (fun _ => ?_) (fun z => absurd z (by decide))
    exact eR rfl rfl ⟨rfl, rfl⟩
  · rw [o] at hj
    have hj : pc + 2 ≤ N := hj
    obtain ⟨f, r, rfl⟩ := stk1 h1
    obtain ⟨c, rfl⟩ : ∃ c, cl = c + 1 := ⟨cl - 1, by omega⟩
    have hl : r.length < 24 := by simp at hg; omega
    have eo : (opA (W pc) (W (pc + 1)) (W (pc + 2)) (c + 1) (f :: r) par vrs) = (0, r, par.set (3 * c + W (pc + 1)) f, vrs) := by
      rw [o]
      rfl
    have e3 : Int32.ofInt 3 * Int32.ofNat (c + 1) - Int32.ofInt 3 = Int32.ofNat (3 * c) := by
      rw [show Int32.ofInt 3 * Int32.ofNat (c + 1) = Int32.ofNat (3 * (c + 1)) from i32_mul (a := 3), show Int32.ofInt 3 = Int32.ofNat 3 from rfl, i32_sub (by omega)]
      congr 1
    rw [eo, o]
    refine ⟨Int32.ofNat r.length, fA r (.float f :: g), by rw [← fA_cons]; exact fA_len.trans hg, fun _ => ⟨rfl, _, rfl⟩, ?_⟩
    refine eS rfl rfl ?_
    refine eS rfl rfl ?_
    refine eILt rfl rfl (fun z => absurd z (by decide)) (fun _ => ?_)
    refine eS rfl rfl ?_
    refine eS rfl rfl ?_
    refine eIGt rfl rfl (fun _ => ?_) (fun z => absurd (by decide) z)
    refine eS rfl rfl ?_
    refine eS rfl rfl ?_
    refine eINe rfl rfl (fun _ => ?_) (fun z => absurd z (by decide))
    refine eS rfl rfl ?_
    refine eS rfl rfl ?_
    refine eINe rfl rfl (fun z => absurd rfl z) (fun _ => ?_)
    refine eS rfl rfl ?_
    refine gGet hn rfl rfl rfl rfl ?_
    refine eS rfl rfl ?_
    refine eS rfl rfl ?_
    refine gGet hn rfl rfl rfl rfl ?_
    refine eS rfl rfl ?_
    refine eS rfl rfl ?_
    refine eS rfl rfl ?_
    rw [e3]
    refine eS rfl rfl ?_
    refine gGet hn rfl rfl rfl rfl ?_
    refine eS rfl rfl ?_
    refine gGet hn rfl rfl rfl rfl ?_
    refine eS rfl rfl ?_
    refine eS rfl rfl ?_
    rw [p1]
    refine gRd0 hn rfl rfl rfl (pc + 1) (by omega) (hP.2 (pc + 1) (by omega)) ?_
    refine eS rfl rfl ?_
    rw [← Int32.ofNat_add]
    refine eS rfl rfl ?_
    refine gV1 hn rfl rfl rfl rfl rfl ⟨catOk rfl, catOk rfl⟩ (m_pop (stk := r) hn hl) ?_
    refine gWr3 hn rfl rfl rfl (3 * c + W (pc + 1)) (by omega) (by show 3 * c + W (pc + 1) < (par.map Value.float).length; rw [List.length_map]; omega) (mS_78.trans (congrArg (fun z => mS S0 _ _ z _ _ _ _ _) fl_set)) ?_
    refine eS rfl rfl ?_
    refine eS rfl rfl ?_
    refine eILt rfl rfl (fun _ => ?_) (fun z => absurd (by decide) z)
    refine eS rfl rfl ?_
    refine eS rfl rfl ?_
    refine eINe rfl rfl (fun _ => ?_) (fun z => absurd z (by decide))
    refine eS rfl rfl ?_
    refine eS rfl rfl ?_
    refine eILt rfl rfl (fun _ => ?_) (fun z => absurd (by decide) z)
    refine eS rfl rfl ?_
    refine eS rfl rfl ?_
    refine eINe rfl rfl (fun _ => ?_) (fun z => absurd z (by decide))
    refine eS rfl rfl ?_
    refine eS rfl rfl ?_
    refine eINe rfl rfl (fun _ => ?_) (fun z => absurd z (by decide))
    refine eS rfl rfl ?_
    refine eS rfl rfl ?_
    refine eILt rfl rfl (fun _ => ?_) (fun z => absurd (by decide) z)
    refine eS rfl rfl ?_
    refine eS rfl rfl ?_
    refine eIEq rfl rfl (fun z => absurd z (by decide)) (fun _ => ?_)
    refine eS rfl rfl ?_
    refine eS rfl rfl ?_
    refine eINe rfl rfl (fun _ => ?_) (fun z => absurd z (by decide))
    refine eS rfl rfl ?_
    refine eS rfl rfl ?_
    refine eINe rfl rfl (fun _ => ?_) (fun z => absurd z (by decide))
    refine eS rfl rfl ?_
    refine eS rfl rfl ?_
    refine eINe rfl rfl (fun _ => ?_) (fun z => absurd z (by decide))
    exact eR rfl rfl ⟨rfl, rfl⟩
  · obtain ⟨f, a, r, rfl⟩ := stk2 h1
    obtain ⟨hi', a77', l, q, e⟩ := m_calc (d := d + 2) (scr := scr) (kd := kd) (S0 := S0) (w := w) (nn := nn) (pcv := Int32.ofNat pc) (un := Int32.ofNat cl) (x := x) (y := y) (hd := Int32.ofNat hd) (co := co) (dn := dn) (a78 := par.map Value.float) (a79 := a79) (a80 := a80) (a81 := vrs.map Value.float) (a82 := px.map Value.int) (a83 := a83) (o := W pc) (b := f) (a := a) (r := r) (g := g) hn hg (hs a (by simp)) (hs f (by simp)) hw
    have eo : (opA (W pc) (W (pc + 1)) (W (pc + 2)) cl (f :: a :: r) par vrs) = ((calcA (W pc) a f r).1, (calcA (W pc) a f r).2, par, vrs) := by
      rcases hw with o | o | o | o <;> rw [o] <;> rfl
    rw [eo]
    refine ⟨hi', a77', l, q, ?_⟩
    rcases hw with o | o | o | o
    · rw [o] at e ⊢
      refine eS rfl rfl ?_
      refine eS rfl rfl ?_
      refine eILt rfl rfl (fun z => absurd z (by decide)) (fun _ => ?_)
      refine eS rfl rfl ?_
      refine eS rfl rfl ?_
      refine eIGt rfl rfl (fun _ => ?_) (fun z => absurd (by decide) z)
      refine eS rfl rfl ?_
      refine eS rfl rfl ?_
      refine eINe rfl rfl (fun _ => ?_) (fun z => absurd z (by decide))
      refine eS rfl rfl ?_
      refine eS rfl rfl ?_
      refine eINe rfl rfl (fun _ => ?_) (fun z => absurd z (by decide))
      refine eS rfl rfl ?_
      refine eS rfl rfl ?_
      refine eILt rfl rfl (fun z => absurd z (by decide)) (fun _ => ?_)
      refine eS rfl rfl ?_
      refine eS rfl rfl ?_
      refine eIGt rfl rfl (fun z => absurd z (by decide)) (fun _ => ?_)
      refine eS rfl rfl ?_
      refine eS rfl rfl ?_
      refine gV1 hn rfl rfl rfl rfl rfl ⟨catOk rfl, catOk rfl⟩ (e) ?_
      refine eS rfl rfl ?_
      refine eS rfl rfl ?_
      refine eINe rfl rfl (fun _ => ?_) (fun z => absurd z (by decide))
      refine eS rfl rfl ?_
      refine eS rfl rfl ?_
      refine eILt rfl rfl (fun _ => ?_) (fun z => absurd (by decide) z)
      refine eS rfl rfl ?_
      refine eS rfl rfl ?_
      refine eINe rfl rfl (fun _ => ?_) (fun z => absurd z (by decide))
      refine eS rfl rfl ?_
      refine eS rfl rfl ?_
      refine eINe rfl rfl (fun _ => ?_) (fun z => absurd z (by decide))
      refine eS rfl rfl ?_
      refine eS rfl rfl ?_
      refine eILt rfl rfl (fun _ => ?_) (fun z => absurd (by decide) z)
      refine eS rfl rfl ?_
      refine eS rfl rfl ?_
      refine eIEq rfl rfl (fun z => absurd z (by decide)) (fun _ => ?_)
      refine eS rfl rfl ?_
      refine eS rfl rfl ?_
      refine eINe rfl rfl (fun _ => ?_) (fun z => absurd z (by decide))
      refine eS rfl rfl ?_
      refine eS rfl rfl ?_
      refine eINe rfl rfl (fun _ => ?_) (fun z => absurd z (by decide))
      refine eS rfl rfl ?_
      refine eS rfl rfl ?_
      refine eINe rfl rfl (fun _ => ?_) (fun z => absurd z (by decide))
      exact eR rfl rfl ⟨rfl, rfl⟩
    · rw [o] at e ⊢
      refine eS rfl rfl ?_
      refine eS rfl rfl ?_
      refine eILt rfl rfl (fun z => absurd z (by decide)) (fun _ => ?_)
      refine eS rfl rfl ?_
      refine eS rfl rfl ?_
      refine eIGt rfl rfl (fun _ => ?_) (fun z => absurd (by decide) z)
      refine eS rfl rfl ?_
      refine eS rfl rfl ?_
      refine eINe rfl rfl (fun _ => ?_) (fun z => absurd z (by decide))
      refine eS rfl rfl ?_
      refine eS rfl rfl ?_
      refine eINe rfl rfl (fun _ => ?_) (fun z => absurd z (by decide))
      refine eS rfl rfl ?_
      refine eS rfl rfl ?_
      refine eILt rfl rfl (fun z => absurd z (by decide)) (fun _ => ?_)
      refine eS rfl rfl ?_
      refine eS rfl rfl ?_
      refine eIGt rfl rfl (fun z => absurd z (by decide)) (fun _ => ?_)
      refine eS rfl rfl ?_
      refine eS rfl rfl ?_
      refine gV1 hn rfl rfl rfl rfl rfl ⟨catOk rfl, catOk rfl⟩ (e) ?_
      refine eS rfl rfl ?_
      refine eS rfl rfl ?_
      refine eINe rfl rfl (fun _ => ?_) (fun z => absurd z (by decide))
      refine eS rfl rfl ?_
      refine eS rfl rfl ?_
      refine eILt rfl rfl (fun _ => ?_) (fun z => absurd (by decide) z)
      refine eS rfl rfl ?_
      refine eS rfl rfl ?_
      refine eINe rfl rfl (fun _ => ?_) (fun z => absurd z (by decide))
      refine eS rfl rfl ?_
      refine eS rfl rfl ?_
      refine eINe rfl rfl (fun _ => ?_) (fun z => absurd z (by decide))
      refine eS rfl rfl ?_
      refine eS rfl rfl ?_
      refine eILt rfl rfl (fun _ => ?_) (fun z => absurd (by decide) z)
      refine eS rfl rfl ?_
      refine eS rfl rfl ?_
      refine eIEq rfl rfl (fun z => absurd z (by decide)) (fun _ => ?_)
      refine eS rfl rfl ?_
      refine eS rfl rfl ?_
      refine eINe rfl rfl (fun _ => ?_) (fun z => absurd z (by decide))
      refine eS rfl rfl ?_
      refine eS rfl rfl ?_
      refine eINe rfl rfl (fun _ => ?_) (fun z => absurd z (by decide))
      refine eS rfl rfl ?_
      refine eS rfl rfl ?_
      refine eINe rfl rfl (fun _ => ?_) (fun z => absurd z (by decide))
      exact eR rfl rfl ⟨rfl, rfl⟩
    · rw [o] at e ⊢
      refine eS rfl rfl ?_
      refine eS rfl rfl ?_
      refine eILt rfl rfl (fun z => absurd z (by decide)) (fun _ => ?_)
      refine eS rfl rfl ?_
      refine eS rfl rfl ?_
      refine eIGt rfl rfl (fun _ => ?_) (fun z => absurd (by decide) z)
      refine eS rfl rfl ?_
      refine eS rfl rfl ?_
      refine eINe rfl rfl (fun _ => ?_) (fun z => absurd z (by decide))
      refine eS rfl rfl ?_
      refine eS rfl rfl ?_
      refine eINe rfl rfl (fun _ => ?_) (fun z => absurd z (by decide))
      refine eS rfl rfl ?_
      refine eS rfl rfl ?_
      refine eILt rfl rfl (fun z => absurd z (by decide)) (fun _ => ?_)
      refine eS rfl rfl ?_
      refine eS rfl rfl ?_
      refine eIGt rfl rfl (fun z => absurd z (by decide)) (fun _ => ?_)
      refine eS rfl rfl ?_
      refine eS rfl rfl ?_
      refine gV1 hn rfl rfl rfl rfl rfl ⟨catOk rfl, catOk rfl⟩ (e) ?_
      refine eS rfl rfl ?_
      refine eS rfl rfl ?_
      refine eINe rfl rfl (fun _ => ?_) (fun z => absurd z (by decide))
      refine eS rfl rfl ?_
      refine eS rfl rfl ?_
      refine eILt rfl rfl (fun _ => ?_) (fun z => absurd (by decide) z)
      refine eS rfl rfl ?_
      refine eS rfl rfl ?_
      refine eINe rfl rfl (fun _ => ?_) (fun z => absurd z (by decide))
      refine eS rfl rfl ?_
      refine eS rfl rfl ?_
      refine eINe rfl rfl (fun _ => ?_) (fun z => absurd z (by decide))
      refine eS rfl rfl ?_
      refine eS rfl rfl ?_
      refine eILt rfl rfl (fun _ => ?_) (fun z => absurd (by decide) z)
      refine eS rfl rfl ?_
      refine eS rfl rfl ?_
      refine eIEq rfl rfl (fun z => absurd z (by decide)) (fun _ => ?_)
      refine eS rfl rfl ?_
      refine eS rfl rfl ?_
      refine eINe rfl rfl (fun _ => ?_) (fun z => absurd z (by decide))
      refine eS rfl rfl ?_
      refine eS rfl rfl ?_
      refine eINe rfl rfl (fun _ => ?_) (fun z => absurd z (by decide))
      refine eS rfl rfl ?_
      refine eS rfl rfl ?_
      refine eINe rfl rfl (fun _ => ?_) (fun z => absurd z (by decide))
      exact eR rfl rfl ⟨rfl, rfl⟩
    · rw [o] at e ⊢
      refine eS rfl rfl ?_
      refine eS rfl rfl ?_
      refine eILt rfl rfl (fun z => absurd z (by decide)) (fun _ => ?_)
      refine eS rfl rfl ?_
      refine eS rfl rfl ?_
      refine eIGt rfl rfl (fun _ => ?_) (fun z => absurd (by decide) z)
      refine eS rfl rfl ?_
      refine eS rfl rfl ?_
      refine eINe rfl rfl (fun _ => ?_) (fun z => absurd z (by decide))
      refine eS rfl rfl ?_
      refine eS rfl rfl ?_
      refine eINe rfl rfl (fun _ => ?_) (fun z => absurd z (by decide))
      refine eS rfl rfl ?_
      refine eS rfl rfl ?_
      refine eILt rfl rfl (fun z => absurd z (by decide)) (fun _ => ?_)
      refine eS rfl rfl ?_
      refine eS rfl rfl ?_
      refine eIGt rfl rfl (fun z => absurd z (by decide)) (fun _ => ?_)
      refine eS rfl rfl ?_
      refine eS rfl rfl ?_
      refine gV1 hn rfl rfl rfl rfl rfl ⟨catOk rfl, catOk rfl⟩ (e) ?_
      refine eS rfl rfl ?_
      refine eS rfl rfl ?_
      refine eINe rfl rfl (fun _ => ?_) (fun z => absurd z (by decide))
      refine eS rfl rfl ?_
      refine eS rfl rfl ?_
      refine eILt rfl rfl (fun _ => ?_) (fun z => absurd (by decide) z)
      refine eS rfl rfl ?_
      refine eS rfl rfl ?_
      refine eINe rfl rfl (fun _ => ?_) (fun z => absurd z (by decide))
      refine eS rfl rfl ?_
      refine eS rfl rfl ?_
      refine eINe rfl rfl (fun _ => ?_) (fun z => absurd z (by decide))
      refine eS rfl rfl ?_
      refine eS rfl rfl ?_
      refine eILt rfl rfl (fun _ => ?_) (fun z => absurd (by decide) z)
      refine eS rfl rfl ?_
      refine eS rfl rfl ?_
      refine eIEq rfl rfl (fun z => absurd z (by decide)) (fun _ => ?_)
      refine eS rfl rfl ?_
      refine eS rfl rfl ?_
      refine eINe rfl rfl (fun _ => ?_) (fun z => absurd z (by decide))
      refine eS rfl rfl ?_
      refine eS rfl rfl ?_
      refine eINe rfl rfl (fun _ => ?_) (fun z => absurd z (by decide))
      refine eS rfl rfl ?_
      refine eS rfl rfl ?_
      refine eINe rfl rfl (fun _ => ?_) (fun z => absurd z (by decide))
      exact eR rfl rfl ⟨rfl, rfl⟩
  · obtain ⟨f, r, rfl⟩ := stk1 h1
    have hl : r.length < 24 := by simp at hg; omega
    have eo : (opA (W pc) (W (pc + 1)) (W (pc + 2)) cl (f :: r) par vrs) = (0, FP.fneg f :: r, par, vrs) := by
      rw [o]
      rfl
    have e1 : Int32.ofNat (f :: r).length - Int32.ofInt 1 = Int32.ofNat r.length := i32_pre
    rw [eo, o]
    refine ⟨Int32.ofNat (f :: r).length, fA (FP.fneg f :: r) g, fA_len.trans hg, fun _ => ⟨rfl, _, rfl⟩, ?_⟩
    rw [show fA (f :: r) g = fA r (.float f :: g) from fA_cons]
    refine eS rfl rfl ?_
    refine eS rfl rfl ?_
    refine eILt rfl rfl (fun z => absurd z (by decide)) (fun _ => ?_)
    refine eS rfl rfl ?_
    refine eS rfl rfl ?_
    refine eIGt rfl rfl (fun _ => ?_) (fun z => absurd (by decide) z)
    refine eS rfl rfl ?_
    refine eS rfl rfl ?_
    refine eINe rfl rfl (fun _ => ?_) (fun z => absurd z (by decide))
    refine eS rfl rfl ?_
    refine eS rfl rfl ?_
    refine eINe rfl rfl (fun _ => ?_) (fun z => absurd z (by decide))
    refine eS rfl rfl ?_
    refine eS rfl rfl ?_
    refine eILt rfl rfl (fun z => absurd z (by decide)) (fun _ => ?_)
    refine eS rfl rfl ?_
    refine eS rfl rfl ?_
    refine eIGt rfl rfl (fun _ => ?_) (fun z => absurd (by decide) z)
    refine eS rfl rfl ?_
    refine eS rfl rfl ?_
    refine eINe rfl rfl (fun z => absurd rfl z) (fun _ => ?_)
    refine eS rfl rfl ?_
    refine gGet hn rfl rfl rfl rfl ?_
    refine eS rfl rfl ?_
    refine gGet hn rfl rfl rfl rfl ?_
    refine eS rfl rfl ?_
    refine eS rfl rfl ?_
    rw [e1]
    refine eS rfl rfl ?_
    refine gGet hn rfl rfl rfl rfl ?_
    refine eS rfl rfl ?_
    refine gGet hn rfl rfl rfl rfl ?_
    refine eS rfl rfl ?_
    refine eS rfl rfl ?_
    rw [e1]
    refine gRd3 hn rfl rfl rfl r.length (by omega) fA_get ?_
    refine eS rfl rfl ?_
    refine gWr3 hn rfl rfl rfl r.length (by omega) (by show r.length < (fA r (.float f :: g)).length; rw [fA_len]; simp only [List.length_cons]; omega) (mS_77.trans (congrArg (fun z => mS S0 _ z _ _ _ _ _ _) fA_set)) ?_
    refine eS rfl rfl ?_
    refine eS rfl rfl ?_
    refine eILt rfl rfl (fun _ => ?_) (fun z => absurd (by decide) z)
    refine eS rfl rfl ?_
    refine eS rfl rfl ?_
    refine eINe rfl rfl (fun _ => ?_) (fun z => absurd z (by decide))
    refine eS rfl rfl ?_
    refine eS rfl rfl ?_
    refine eINe rfl rfl (fun _ => ?_) (fun z => absurd z (by decide))
    refine eS rfl rfl ?_
    refine eS rfl rfl ?_
    refine eILt rfl rfl (fun _ => ?_) (fun z => absurd (by decide) z)
    refine eS rfl rfl ?_
    refine eS rfl rfl ?_
    refine eIEq rfl rfl (fun z => absurd z (by decide)) (fun _ => ?_)
    refine eS rfl rfl ?_
    refine eS rfl rfl ?_
    refine eINe rfl rfl (fun _ => ?_) (fun z => absurd z (by decide))
    refine eS rfl rfl ?_
    refine eS rfl rfl ?_
    refine eINe rfl rfl (fun _ => ?_) (fun z => absurd z (by decide))
    refine eS rfl rfl ?_
    refine eS rfl rfl ?_
    refine eINe rfl rfl (fun _ => ?_) (fun z => absurd z (by decide))
    exact eR rfl rfl ⟨rfl, rfl⟩
  · obtain ⟨f, a, r, rfl⟩ := stk2 h1
    have hl : r.length + 1 < 24 := by simp at hg; omega
    have e := m_compare (d := d + 1) (scr := scr) (kd := kd) (S0 := S0) (w := w) (nn := nn) (pcv := Int32.ofNat pc) (en := 0) (un := Int32.ofNat cl) (x := x) (y := y) (hd := Int32.ofNat hd) (co := co) (dn := dn) (a78 := par.map Value.float) (a79 := a79) (a80 := a80) (a81 := vrs.map Value.float) (a82 := px.map Value.int) (a83 := a83) (o := W pc) (b := f) (a := a) (r := r) (g := g) hn hl (hs a (by simp)) (hs f (by simp)) (by omega)
    have eo : (opA (W pc) (W (pc + 1)) (W (pc + 2)) cl (f :: a :: r) par vrs) = (0, oneF (cmpA (W pc) a f) :: r, par, vrs) := by
      rcases hw with o | o | o <;> rw [o] <;> rfl
    rw [eo]
    refine ⟨Int32.ofNat (oneF (cmpA (W pc) a f) :: r).length, fA (oneF (cmpA (W pc) a f) :: r) (.float f :: g), by rw [fA_len]; simp at hg ⊢; omega, fun _ => ⟨rfl, _, rfl⟩, ?_⟩
    rcases hw with o | o | o
    · rw [o] at e ⊢
      refine eS rfl rfl ?_
      refine eS rfl rfl ?_
      refine eILt rfl rfl (fun z => absurd z (by decide)) (fun _ => ?_)
      refine eS rfl rfl ?_
      refine eS rfl rfl ?_
      refine eIGt rfl rfl (fun _ => ?_) (fun z => absurd (by decide) z)
      refine eS rfl rfl ?_
      refine eS rfl rfl ?_
      refine eINe rfl rfl (fun _ => ?_) (fun z => absurd z (by decide))
      refine eS rfl rfl ?_
      refine eS rfl rfl ?_
      refine eINe rfl rfl (fun _ => ?_) (fun z => absurd z (by decide))
      refine eS rfl rfl ?_
      refine eS rfl rfl ?_
      refine eILt rfl rfl (fun z => absurd z (by decide)) (fun _ => ?_)
      refine eS rfl rfl ?_
      refine eS rfl rfl ?_
      refine eIGt rfl rfl (fun _ => ?_) (fun z => absurd (by decide) z)
      refine eS rfl rfl ?_
      refine eS rfl rfl ?_
      refine eINe rfl rfl (fun _ => ?_) (fun z => absurd z (by decide))
      refine eS rfl rfl ?_
      refine eS rfl rfl ?_
      refine eILt rfl rfl (fun z => absurd z (by decide)) (fun _ => ?_)
      refine eS rfl rfl ?_
      refine eS rfl rfl ?_
      refine eIGt rfl rfl (fun z => absurd z (by decide)) (fun _ => ?_)
      refine eS rfl rfl ?_
      refine eS rfl rfl ?_
      refine gV1 hn rfl rfl rfl rfl rfl ⟨catOk rfl, catOk rfl⟩ (e) ?_
      refine eS rfl rfl ?_
      refine eS rfl rfl ?_
      refine eINe rfl rfl (fun _ => ?_) (fun z => absurd z (by decide))
      refine eS rfl rfl ?_
      refine eS rfl rfl ?_
      refine eINe rfl rfl (fun _ => ?_) (fun z => absurd z (by decide))
      refine eS rfl rfl ?_
      refine eS rfl rfl ?_
      refine eILt rfl rfl (fun _ => ?_) (fun z => absurd (by decide) z)
      refine eS rfl rfl ?_
      refine eS rfl rfl ?_
      refine eIEq rfl rfl (fun z => absurd z (by decide)) (fun _ => ?_)
      refine eS rfl rfl ?_
      refine eS rfl rfl ?_
      refine eINe rfl rfl (fun _ => ?_) (fun z => absurd z (by decide))
      refine eS rfl rfl ?_
      refine eS rfl rfl ?_
      refine eINe rfl rfl (fun _ => ?_) (fun z => absurd z (by decide))
      refine eS rfl rfl ?_
      refine eS rfl rfl ?_
      refine eINe rfl rfl (fun _ => ?_) (fun z => absurd z (by decide))
      exact eR rfl rfl ⟨rfl, rfl⟩
    · rw [o] at e ⊢
      refine eS rfl rfl ?_
      refine eS rfl rfl ?_
      refine eILt rfl rfl (fun z => absurd z (by decide)) (fun _ => ?_)
      refine eS rfl rfl ?_
      refine eS rfl rfl ?_
      refine eIGt rfl rfl (fun _ => ?_) (fun z => absurd (by decide) z)
      refine eS rfl rfl ?_
      refine eS rfl rfl ?_
      refine eINe rfl rfl (fun _ => ?_) (fun z => absurd z (by decide))
      refine eS rfl rfl ?_
      refine eS rfl rfl ?_
      refine eINe rfl rfl (fun _ => ?_) (fun z => absurd z (by decide))
      refine eS rfl rfl ?_
      refine eS rfl rfl ?_
      refine eILt rfl rfl (fun z => absurd z (by decide)) (fun _ => ?_)
      refine eS rfl rfl ?_
      refine eS rfl rfl ?_
      refine eIGt rfl rfl (fun _ => ?_) (fun z => absurd (by decide) z)
      refine eS rfl rfl ?_
      refine eS rfl rfl ?_
      refine eINe rfl rfl (fun _ => ?_) (fun z => absurd z (by decide))
      refine eS rfl rfl ?_
      refine eS rfl rfl ?_
      refine eILt rfl rfl (fun z => absurd z (by decide)) (fun _ => ?_)
      refine eS rfl rfl ?_
      refine eS rfl rfl ?_
      refine eIGt rfl rfl (fun z => absurd z (by decide)) (fun _ => ?_)
      refine eS rfl rfl ?_
      refine eS rfl rfl ?_
      refine gV1 hn rfl rfl rfl rfl rfl ⟨catOk rfl, catOk rfl⟩ (e) ?_
      refine eS rfl rfl ?_
      refine eS rfl rfl ?_
      refine eINe rfl rfl (fun _ => ?_) (fun z => absurd z (by decide))
      refine eS rfl rfl ?_
      refine eS rfl rfl ?_
      refine eINe rfl rfl (fun _ => ?_) (fun z => absurd z (by decide))
      refine eS rfl rfl ?_
      refine eS rfl rfl ?_
      refine eILt rfl rfl (fun _ => ?_) (fun z => absurd (by decide) z)
      refine eS rfl rfl ?_
      refine eS rfl rfl ?_
      refine eIEq rfl rfl (fun z => absurd z (by decide)) (fun _ => ?_)
      refine eS rfl rfl ?_
      refine eS rfl rfl ?_
      refine eINe rfl rfl (fun _ => ?_) (fun z => absurd z (by decide))
      refine eS rfl rfl ?_
      refine eS rfl rfl ?_
      refine eINe rfl rfl (fun _ => ?_) (fun z => absurd z (by decide))
      refine eS rfl rfl ?_
      refine eS rfl rfl ?_
      refine eINe rfl rfl (fun _ => ?_) (fun z => absurd z (by decide))
      exact eR rfl rfl ⟨rfl, rfl⟩
    · rw [o] at e ⊢
      refine eS rfl rfl ?_
      refine eS rfl rfl ?_
      refine eILt rfl rfl (fun z => absurd z (by decide)) (fun _ => ?_)
      refine eS rfl rfl ?_
      refine eS rfl rfl ?_
      refine eIGt rfl rfl (fun _ => ?_) (fun z => absurd (by decide) z)
      refine eS rfl rfl ?_
      refine eS rfl rfl ?_
      refine eINe rfl rfl (fun _ => ?_) (fun z => absurd z (by decide))
      refine eS rfl rfl ?_
      refine eS rfl rfl ?_
      refine eINe rfl rfl (fun _ => ?_) (fun z => absurd z (by decide))
      refine eS rfl rfl ?_
      refine eS rfl rfl ?_
      refine eILt rfl rfl (fun z => absurd z (by decide)) (fun _ => ?_)
      refine eS rfl rfl ?_
      refine eS rfl rfl ?_
      refine eIGt rfl rfl (fun _ => ?_) (fun z => absurd (by decide) z)
      refine eS rfl rfl ?_
      refine eS rfl rfl ?_
      refine eINe rfl rfl (fun _ => ?_) (fun z => absurd z (by decide))
      refine eS rfl rfl ?_
      refine eS rfl rfl ?_
      refine eILt rfl rfl (fun z => absurd z (by decide)) (fun _ => ?_)
      refine eS rfl rfl ?_
      refine eS rfl rfl ?_
      refine eIGt rfl rfl (fun z => absurd z (by decide)) (fun _ => ?_)
      refine eS rfl rfl ?_
      refine eS rfl rfl ?_
      refine gV1 hn rfl rfl rfl rfl rfl ⟨catOk rfl, catOk rfl⟩ (e) ?_
      refine eS rfl rfl ?_
      refine eS rfl rfl ?_
      refine eINe rfl rfl (fun _ => ?_) (fun z => absurd z (by decide))
      refine eS rfl rfl ?_
      refine eS rfl rfl ?_
      refine eINe rfl rfl (fun _ => ?_) (fun z => absurd z (by decide))
      refine eS rfl rfl ?_
      refine eS rfl rfl ?_
      refine eILt rfl rfl (fun _ => ?_) (fun z => absurd (by decide) z)
      refine eS rfl rfl ?_
      refine eS rfl rfl ?_
      refine eIEq rfl rfl (fun z => absurd z (by decide)) (fun _ => ?_)
      refine eS rfl rfl ?_
      refine eS rfl rfl ?_
      refine eINe rfl rfl (fun _ => ?_) (fun z => absurd z (by decide))
      refine eS rfl rfl ?_
      refine eS rfl rfl ?_
      refine eINe rfl rfl (fun _ => ?_) (fun z => absurd z (by decide))
      refine eS rfl rfl ?_
      refine eS rfl rfl ?_
      refine eINe rfl rfl (fun _ => ?_) (fun z => absurd z (by decide))
      exact eR rfl rfl ⟨rfl, rfl⟩
theorem m_plain_mov (hn : 67 ≤ n) (hsn : S0 84 = sinL) (hg : stk.length + g.length = 24) (hs : ∀ f ∈ stk, gF f) (ht : tuOk (x, y, hd, co, dn, px)) (ha : a83.length = 768) (ho : movOk (W pc) stk.length) : ∃ g' a83', (movA (W pc) stk (x, y, hd, co, dn, px)).2.1.length + g'.length = 24 ∧ a83'.length = 768 ∧
    aE aM212 (d + 5) 0 [(0, .ref 56), (1, .int (Int32.ofNat (W pc)))] [] (gH scr kd n (mS S0 (mM w nn (Int32.ofNat pc) 0 (Int32.ofNat stk.length) (Int32.ofNat cl) x y (Int32.ofNat hd) co dn) (fA stk g) (par.map Value.float) a79 a80 (vrs.map Value.float) (px.map Value.int) a83)) (aIs none (gH scr kd n (mS S0 (mM w nn (Int32.ofNat pc) (movA (W pc) stk (x, y, hd, co, dn, px)).1 (Int32.ofNat (movA (W pc) stk (x, y, hd, co, dn, px)).2.1.length) (Int32.ofNat cl) (movA (W pc) stk (x, y, hd, co, dn, px)).2.2.1 (movA (W pc) stk (x, y, hd, co, dn, px)).2.2.2.1 (Int32.ofNat (movA (W pc) stk (x, y, hd, co, dn, px)).2.2.2.2.1) (movA (W pc) stk (x, y, hd, co, dn, px)).2.2.2.2.2.1 (movA (W pc) stk (x, y, hd, co, dn, px)).2.2.2.2.2.2.1) (fA (movA (W pc) stk (x, y, hd, co, dn, px)).2.1 g') (par.map Value.float) a79 a80 (vrs.map Value.float) ((movA (W pc) stk (x, y, hd, co, dn, px)).2.2.2.2.2.2.2.map Value.int) a83'))) := by
  obtain ⟨t1, t2, t3, t4, t5, t6, t7⟩ := ht
  rcases ho with ⟨hw, h1⟩ | o | o | o | o
  · obtain ⟨f, r, rfl⟩ := stk1 h1
    have hl : r.length < 24 := by simp at hg; omega
    have gf : gF f := hs f (by simp)
    refine ⟨.float f :: g, a83, ?_, ha, ?_⟩
    · rcases hw with o | o | o | o | o <;> rw [o] <;> (show r.length + _ = 24; simp at hg ⊢; omega)
    rcases hw with o | o | o | o | o
    · rw [o]
      have e : movA 18 (f :: r) (x, y, hd, co, dn, px) = (if (advA f x y hd co dn px).1 then 0 else 12, r, (advA f x y hd co dn px).2.1, (advA f x y hd co dn px).2.2.1, hd, co, dn, (advA f x y hd co dn px).2.2.2) := rfl
      rw [e]
      have ea := m_walk (d := d) (scr := scr) (kd := kd) (w := w) (nn := nn) (pc := Int32.ofNat pc) (hi := Int32.ofNat r.length) (un := Int32.ofNat cl) (co := co) (dn := dn) (a77 := fA r (.float f :: g)) (a78 := par.map Value.float) (a79 := a79) (a80 := a80) (a81 := vrs.map Value.float) (a83 := a83) hn hsn t6 gf t1 t2 t3
      refine eS rfl rfl ?_
      refine eS rfl rfl ?_
      refine eILt rfl rfl (fun z => absurd z (by decide)) (fun _ => ?_)
      refine eS rfl rfl ?_
      refine eS rfl rfl ?_
      refine eIGt rfl rfl (fun _ => ?_) (fun z => absurd (by decide) z)
      refine eS rfl rfl ?_
      refine eS rfl rfl ?_
      refine eINe rfl rfl (fun _ => ?_) (fun z => absurd z (by decide))
      refine eS rfl rfl ?_
      refine eS rfl rfl ?_
      refine eINe rfl rfl (fun _ => ?_) (fun z => absurd z (by decide))
      refine eS rfl rfl ?_
      refine eS rfl rfl ?_
      refine eILt rfl rfl (fun z => absurd z (by decide)) (fun _ => ?_)
      refine eS rfl rfl ?_
      refine eS rfl rfl ?_
      refine eIGt rfl rfl (fun _ => ?_) (fun z => absurd (by decide) z)
      refine eS rfl rfl ?_
      refine eS rfl rfl ?_
      refine eINe rfl rfl (fun _ => ?_) (fun z => absurd z (by decide))
      refine eS rfl rfl ?_
      refine eS rfl rfl ?_
      refine eILt rfl rfl (fun z => absurd z (by decide)) (fun _ => ?_)
      refine eS rfl rfl ?_
      refine eS rfl rfl ?_
      refine eIGt rfl rfl (fun _ => ?_) (fun z => absurd (by decide) z)
      refine eS rfl rfl ?_
      refine eS rfl rfl ?_
      refine eINe rfl rfl (fun z => absurd rfl z) (fun _ => ?_)
      refine eS rfl rfl ?_
      refine eS rfl rfl ?_
      refine gV1 hn rfl rfl rfl rfl rfl ⟨catOk rfl, catOk rfl⟩ (m_pop (stk := r) hn hl) ?_
      refine gV1 hn rfl rfl rfl rfl rfl ⟨catOk rfl, catOk rfl⟩ (ea) ?_
      refine eS rfl rfl ?_
      refine eS rfl rfl ?_
      refine eINe rfl rfl (fun _ => ?_) (fun z => absurd z (by decide))
      refine eS rfl rfl ?_
      refine eS rfl rfl ?_
      refine eILt rfl rfl (fun _ => ?_) (fun z => absurd (by decide) z)
      refine eS rfl rfl ?_
      refine eS rfl rfl ?_
      refine eIEq rfl rfl (fun z => absurd z (by decide)) (fun _ => ?_)
      refine eS rfl rfl ?_
      refine eS rfl rfl ?_
      refine eINe rfl rfl (fun _ => ?_) (fun z => absurd z (by decide))
      refine eS rfl rfl ?_
      refine eS rfl rfl ?_
      refine eINe rfl rfl (fun _ => ?_) (fun z => absurd z (by decide))
      refine eS rfl rfl ?_
      refine eS rfl rfl ?_
      refine eINe rfl rfl (fun _ => ?_) (fun z => absurd z (by decide))
      exact eR rfl rfl ⟨rfl, rfl⟩
    · rw [o]
      have e : movA 19 (f :: r) (x, y, hd, co, dn, px) = (if (advA (FP.fneg f) x y hd co dn px).1 then 0 else 12, r, (advA (FP.fneg f) x y hd co dn px).2.1, (advA (FP.fneg f) x y hd co dn px).2.2.1, hd, co, dn, (advA (FP.fneg f) x y hd co dn px).2.2.2) := rfl
      rw [e]
      have ea := m_walk (d := d) (scr := scr) (kd := kd) (w := w) (nn := nn) (pc := Int32.ofNat pc) (hi := Int32.ofNat r.length) (un := Int32.ofNat cl) (co := co) (dn := dn) (a77 := fA r (.float f :: g)) (a78 := par.map Value.float) (a79 := a79) (a80 := a80) (a81 := vrs.map Value.float) (a83 := a83) hn hsn t6 (gF_neg gf) t1 t2 t3
      refine eS rfl rfl ?_
      refine eS rfl rfl ?_
      refine eILt rfl rfl (fun z => absurd z (by decide)) (fun _ => ?_)
      refine eS rfl rfl ?_
      refine eS rfl rfl ?_
      refine eIGt rfl rfl (fun _ => ?_) (fun z => absurd (by decide) z)
      refine eS rfl rfl ?_
      refine eS rfl rfl ?_
      refine eINe rfl rfl (fun _ => ?_) (fun z => absurd z (by decide))
      refine eS rfl rfl ?_
      refine eS rfl rfl ?_
      refine eINe rfl rfl (fun _ => ?_) (fun z => absurd z (by decide))
      refine eS rfl rfl ?_
      refine eS rfl rfl ?_
      refine eILt rfl rfl (fun z => absurd z (by decide)) (fun _ => ?_)
      refine eS rfl rfl ?_
      refine eS rfl rfl ?_
      refine eIGt rfl rfl (fun _ => ?_) (fun z => absurd (by decide) z)
      refine eS rfl rfl ?_
      refine eS rfl rfl ?_
      refine eINe rfl rfl (fun _ => ?_) (fun z => absurd z (by decide))
      refine eS rfl rfl ?_
      refine eS rfl rfl ?_
      refine eILt rfl rfl (fun z => absurd z (by decide)) (fun _ => ?_)
      refine eS rfl rfl ?_
      refine eS rfl rfl ?_
      refine eIGt rfl rfl (fun _ => ?_) (fun z => absurd (by decide) z)
      refine eS rfl rfl ?_
      refine eS rfl rfl ?_
      refine eINe rfl rfl (fun _ => ?_) (fun z => absurd z (by decide))
      refine eS rfl rfl ?_
      refine eS rfl rfl ?_
      refine eINe rfl rfl (fun z => absurd rfl z) (fun _ => ?_)
      refine eS rfl rfl ?_
      refine eS rfl rfl ?_
      refine gV1 hn rfl rfl rfl rfl rfl ⟨catOk rfl, catOk rfl⟩ (m_pop (stk := r) hn hl) ?_
      refine eS rfl rfl ?_
      refine gV1 hn rfl rfl rfl rfl rfl ⟨catOk rfl, catOk rfl⟩ (ea) ?_
      refine eS rfl rfl ?_
      refine eS rfl rfl ?_
      refine eILt rfl rfl (fun _ => ?_) (fun z => absurd (by decide) z)
      refine eS rfl rfl ?_
      refine eS rfl rfl ?_
      refine eIEq rfl rfl (fun z => absurd z (by decide)) (fun _ => ?_)
      refine eS rfl rfl ?_
      refine eS rfl rfl ?_
      refine eINe rfl rfl (fun _ => ?_) (fun z => absurd z (by decide))
      refine eS rfl rfl ?_
      refine eS rfl rfl ?_
      refine eINe rfl rfl (fun _ => ?_) (fun z => absurd z (by decide))
      refine eS rfl rfl ?_
      refine eS rfl rfl ?_
      refine eINe rfl rfl (fun _ => ?_) (fun z => absurd z (by decide))
      exact eR rfl rfl ⟨rfl, rfl⟩
    · rw [o]
      have e : movA 20 (f :: r) (x, y, hd, co, dn, px) = ((steerA 20 f hd co).1, r, x, y, (steerA 20 f hd co).2.1, (steerA 20 f hd co).2.2, dn, px) := rfl
      rw [e]
      refine eS rfl rfl ?_
      refine eS rfl rfl ?_
      refine eILt rfl rfl (fun z => absurd z (by decide)) (fun _ => ?_)
      refine eS rfl rfl ?_
      refine eS rfl rfl ?_
      refine eIGt rfl rfl (fun _ => ?_) (fun z => absurd (by decide) z)
      refine eS rfl rfl ?_
      refine eS rfl rfl ?_
      refine eINe rfl rfl (fun _ => ?_) (fun z => absurd z (by decide))
      refine eS rfl rfl ?_
      refine eS rfl rfl ?_
      refine eINe rfl rfl (fun _ => ?_) (fun z => absurd z (by decide))
      refine eS rfl rfl ?_
      refine eS rfl rfl ?_
      refine eILt rfl rfl (fun z => absurd z (by decide)) (fun _ => ?_)
      refine eS rfl rfl ?_
      refine eS rfl rfl ?_
      refine eIGt rfl rfl (fun _ => ?_) (fun z => absurd (by decide) z)
      refine eS rfl rfl ?_
      refine eS rfl rfl ?_
      refine eINe rfl rfl (fun _ => ?_) (fun z => absurd z (by decide))
      refine eS rfl rfl ?_
      refine eS rfl rfl ?_
      refine eILt rfl rfl (fun z => absurd z (by decide)) (fun _ => ?_)
      refine eS rfl rfl ?_
      refine eS rfl rfl ?_
      refine eIGt rfl rfl (fun _ => ?_) (fun z => absurd (by decide) z)
      refine eS rfl rfl ?_
      refine eS rfl rfl ?_
      refine eINe rfl rfl (fun _ => ?_) (fun z => absurd z (by decide))
      refine eS rfl rfl ?_
      refine eS rfl rfl ?_
      refine eINe rfl rfl (fun _ => ?_) (fun z => absurd z (by decide))
      refine eS rfl rfl ?_
      refine eS rfl rfl ?_
      refine eILt rfl rfl (fun z => absurd z (by decide)) (fun _ => ?_)
      refine eS rfl rfl ?_
      refine eS rfl rfl ?_
      refine eIGt rfl rfl (fun z => absurd z (by decide)) (fun _ => ?_)
      refine eS rfl rfl ?_
      refine eS rfl rfl ?_
      refine eS rfl rfl ?_
      refine gV1 hn rfl rfl rfl rfl rfl ⟨catOk rfl, catOk rfl⟩ (m_pop (stk := r) hn hl) ?_
      refine gV1 hn rfl rfl rfl rfl rfl ⟨catOk rfl, catOk rfl⟩ (m_turn (o := 20) hn gf (by omega) t3) ?_
      refine eS rfl rfl ?_
      refine eS rfl rfl ?_
      refine eIEq rfl rfl (fun z => absurd z (by decide)) (fun _ => ?_)
      refine eS rfl rfl ?_
      refine eS rfl rfl ?_
      refine eINe rfl rfl (fun _ => ?_) (fun z => absurd z (by decide))
      refine eS rfl rfl ?_
      refine eS rfl rfl ?_
      refine eINe rfl rfl (fun _ => ?_) (fun z => absurd z (by decide))
      refine eS rfl rfl ?_
      refine eS rfl rfl ?_
      refine eINe rfl rfl (fun _ => ?_) (fun z => absurd z (by decide))
      exact eR rfl rfl ⟨rfl, rfl⟩
    · rw [o]
      have e : movA 21 (f :: r) (x, y, hd, co, dn, px) = ((steerA 21 f hd co).1, r, x, y, (steerA 21 f hd co).2.1, (steerA 21 f hd co).2.2, dn, px) := rfl
      rw [e]
      refine eS rfl rfl ?_
      refine eS rfl rfl ?_
      refine eILt rfl rfl (fun z => absurd z (by decide)) (fun _ => ?_)
      refine eS rfl rfl ?_
      refine eS rfl rfl ?_
      refine eIGt rfl rfl (fun _ => ?_) (fun z => absurd (by decide) z)
      refine eS rfl rfl ?_
      refine eS rfl rfl ?_
      refine eINe rfl rfl (fun _ => ?_) (fun z => absurd z (by decide))
      refine eS rfl rfl ?_
      refine eS rfl rfl ?_
      refine eINe rfl rfl (fun _ => ?_) (fun z => absurd z (by decide))
      refine eS rfl rfl ?_
      refine eS rfl rfl ?_
      refine eILt rfl rfl (fun z => absurd z (by decide)) (fun _ => ?_)
      refine eS rfl rfl ?_
      refine eS rfl rfl ?_
      refine eIGt rfl rfl (fun _ => ?_) (fun z => absurd (by decide) z)
      refine eS rfl rfl ?_
      refine eS rfl rfl ?_
      refine eINe rfl rfl (fun _ => ?_) (fun z => absurd z (by decide))
      refine eS rfl rfl ?_
      refine eS rfl rfl ?_
      refine eILt rfl rfl (fun z => absurd z (by decide)) (fun _ => ?_)
      refine eS rfl rfl ?_
      refine eS rfl rfl ?_
      refine eIGt rfl rfl (fun _ => ?_) (fun z => absurd (by decide) z)
      refine eS rfl rfl ?_
      refine eS rfl rfl ?_
      refine eINe rfl rfl (fun _ => ?_) (fun z => absurd z (by decide))
      refine eS rfl rfl ?_
      refine eS rfl rfl ?_
      refine eINe rfl rfl (fun _ => ?_) (fun z => absurd z (by decide))
      refine eS rfl rfl ?_
      refine eS rfl rfl ?_
      refine eILt rfl rfl (fun z => absurd z (by decide)) (fun _ => ?_)
      refine eS rfl rfl ?_
      refine eS rfl rfl ?_
      refine eIGt rfl rfl (fun z => absurd z (by decide)) (fun _ => ?_)
      refine eS rfl rfl ?_
      refine eS rfl rfl ?_
      refine eS rfl rfl ?_
      refine gV1 hn rfl rfl rfl rfl rfl ⟨catOk rfl, catOk rfl⟩ (m_pop (stk := r) hn hl) ?_
      refine gV1 hn rfl rfl rfl rfl rfl ⟨catOk rfl, catOk rfl⟩ (m_turn (o := 21) hn gf (by omega) t3) ?_
      refine eS rfl rfl ?_
      refine eS rfl rfl ?_
      refine eIEq rfl rfl (fun z => absurd z (by decide)) (fun _ => ?_)
      refine eS rfl rfl ?_
      refine eS rfl rfl ?_
      refine eINe rfl rfl (fun _ => ?_) (fun z => absurd z (by decide))
      refine eS rfl rfl ?_
      refine eS rfl rfl ?_
      refine eINe rfl rfl (fun _ => ?_) (fun z => absurd z (by decide))
      refine eS rfl rfl ?_
      refine eS rfl rfl ?_
      refine eINe rfl rfl (fun _ => ?_) (fun z => absurd z (by decide))
      exact eR rfl rfl ⟨rfl, rfl⟩
    · rw [o]
      have e : movA 22 (f :: r) (x, y, hd, co, dn, px) = ((steerA 22 f hd co).1, r, x, y, (steerA 22 f hd co).2.1, (steerA 22 f hd co).2.2, dn, px) := rfl
      rw [e]
      refine eS rfl rfl ?_
      refine eS rfl rfl ?_
      refine eILt rfl rfl (fun z => absurd z (by decide)) (fun _ => ?_)
      refine eS rfl rfl ?_
      refine eS rfl rfl ?_
      refine eIGt rfl rfl (fun _ => ?_) (fun z => absurd (by decide) z)
      refine eS rfl rfl ?_
      refine eS rfl rfl ?_
      refine eINe rfl rfl (fun _ => ?_) (fun z => absurd z (by decide))
      refine eS rfl rfl ?_
      refine eS rfl rfl ?_
      refine eINe rfl rfl (fun _ => ?_) (fun z => absurd z (by decide))
      refine eS rfl rfl ?_
      refine eS rfl rfl ?_
      refine eILt rfl rfl (fun z => absurd z (by decide)) (fun _ => ?_)
      refine eS rfl rfl ?_
      refine eS rfl rfl ?_
      refine eIGt rfl rfl (fun _ => ?_) (fun z => absurd (by decide) z)
      refine eS rfl rfl ?_
      refine eS rfl rfl ?_
      refine eINe rfl rfl (fun _ => ?_) (fun z => absurd z (by decide))
      refine eS rfl rfl ?_
      refine eS rfl rfl ?_
      refine eILt rfl rfl (fun z => absurd z (by decide)) (fun _ => ?_)
      refine eS rfl rfl ?_
      refine eS rfl rfl ?_
      refine eIGt rfl rfl (fun _ => ?_) (fun z => absurd (by decide) z)
      refine eS rfl rfl ?_
      refine eS rfl rfl ?_
      refine eINe rfl rfl (fun _ => ?_) (fun z => absurd z (by decide))
      refine eS rfl rfl ?_
      refine eS rfl rfl ?_
      refine eINe rfl rfl (fun _ => ?_) (fun z => absurd z (by decide))
      refine eS rfl rfl ?_
      refine eS rfl rfl ?_
      refine eILt rfl rfl (fun z => absurd z (by decide)) (fun _ => ?_)
      refine eS rfl rfl ?_
      refine eS rfl rfl ?_
      refine eIGt rfl rfl (fun z => absurd z (by decide)) (fun _ => ?_)
      refine eS rfl rfl ?_
      refine eS rfl rfl ?_
      refine eS rfl rfl ?_
      refine gV1 hn rfl rfl rfl rfl rfl ⟨catOk rfl, catOk rfl⟩ (m_pop (stk := r) hn hl) ?_
      refine gV1 hn rfl rfl rfl rfl rfl ⟨catOk rfl, catOk rfl⟩ (m_turn (o := 22) hn gf (by omega) t3) ?_
      refine eS rfl rfl ?_
      refine eS rfl rfl ?_
      refine eIEq rfl rfl (fun z => absurd z (by decide)) (fun _ => ?_)
      refine eS rfl rfl ?_
      refine eS rfl rfl ?_
      refine eINe rfl rfl (fun _ => ?_) (fun z => absurd z (by decide))
      refine eS rfl rfl ?_
      refine eS rfl rfl ?_
      refine eINe rfl rfl (fun _ => ?_) (fun z => absurd z (by decide))
      refine eS rfl rfl ?_
      refine eS rfl rfl ?_
      refine eINe rfl rfl (fun _ => ?_) (fun z => absurd z (by decide))
      exact eR rfl rfl ⟨rfl, rfl⟩
  · refine ⟨g, a83, by rw [o]; exact hg, ha, ?_⟩
    rw [o]
    refine eS rfl rfl ?_
    refine eS rfl rfl ?_
    refine eILt rfl rfl (fun z => absurd z (by decide)) (fun _ => ?_)
    refine eS rfl rfl ?_
    refine eS rfl rfl ?_
    refine eIGt rfl rfl (fun _ => ?_) (fun z => absurd (by decide) z)
    refine eS rfl rfl ?_
    refine eS rfl rfl ?_
    refine eINe rfl rfl (fun _ => ?_) (fun z => absurd z (by decide))
    refine eS rfl rfl ?_
    refine eS rfl rfl ?_
    refine eINe rfl rfl (fun _ => ?_) (fun z => absurd z (by decide))
    refine eS rfl rfl ?_
    refine eS rfl rfl ?_
    refine eILt rfl rfl (fun z => absurd z (by decide)) (fun _ => ?_)
    refine eS rfl rfl ?_
    refine eS rfl rfl ?_
    refine eIGt rfl rfl (fun _ => ?_) (fun z => absurd (by decide) z)
    refine eS rfl rfl ?_
    refine eS rfl rfl ?_
    refine eINe rfl rfl (fun _ => ?_) (fun z => absurd z (by decide))
    refine eS rfl rfl ?_
    refine eS rfl rfl ?_
    refine eILt rfl rfl (fun z => absurd z (by decide)) (fun _ => ?_)
    refine eS rfl rfl ?_
    refine eS rfl rfl ?_
    refine eIGt rfl rfl (fun _ => ?_) (fun z => absurd (by decide) z)
    refine eS rfl rfl ?_
    refine eS rfl rfl ?_
    refine eINe rfl rfl (fun _ => ?_) (fun z => absurd z (by decide))
    refine eS rfl rfl ?_
    refine eS rfl rfl ?_
    refine eINe rfl rfl (fun _ => ?_) (fun z => absurd z (by decide))
    refine eS rfl rfl ?_
    refine eS rfl rfl ?_
    refine eILt rfl rfl (fun z => absurd z (by decide)) (fun _ => ?_)
    refine eS rfl rfl ?_
    refine eS rfl rfl ?_
    refine eIGt rfl rfl (fun _ => ?_) (fun z => absurd (by decide) z)
    refine eS rfl rfl ?_
    refine eS rfl rfl ?_
    refine eIEq rfl rfl (fun _ => ?_) (fun z => absurd rfl z)
    refine eS rfl rfl ?_
    refine eS rfl rfl ?_
    refine eS rfl rfl ?_
    refine eINe rfl rfl (fun _ => ?_) (fun z => absurd z (by decide))
    refine eS rfl rfl ?_
    refine gPut hn rfl rfl rfl rfl rfl rfl rfl mS_56 ?_
    refine eS rfl rfl ?_
    refine eS rfl rfl ?_
    refine eINe rfl rfl (fun _ => ?_) (fun z => absurd z (by decide))
    refine eS rfl rfl ?_
    refine eS rfl rfl ?_
    refine eINe rfl rfl (fun _ => ?_) (fun z => absurd z (by decide))
    exact eR rfl rfl ⟨rfl, rfl⟩
  · refine ⟨g, a83, by rw [o]; exact hg, ha, ?_⟩
    rw [o]
    refine eS rfl rfl ?_
    refine eS rfl rfl ?_
    refine eILt rfl rfl (fun z => absurd z (by decide)) (fun _ => ?_)
    refine eS rfl rfl ?_
    refine eS rfl rfl ?_
    refine eIGt rfl rfl (fun _ => ?_) (fun z => absurd (by decide) z)
    refine eS rfl rfl ?_
    refine eS rfl rfl ?_
    refine eINe rfl rfl (fun _ => ?_) (fun z => absurd z (by decide))
    refine eS rfl rfl ?_
    refine eS rfl rfl ?_
    refine eINe rfl rfl (fun _ => ?_) (fun z => absurd z (by decide))
    refine eS rfl rfl ?_
    refine eS rfl rfl ?_
    refine eILt rfl rfl (fun z => absurd z (by decide)) (fun _ => ?_)
    refine eS rfl rfl ?_
    refine eS rfl rfl ?_
    refine eIGt rfl rfl (fun _ => ?_) (fun z => absurd (by decide) z)
    refine eS rfl rfl ?_
    refine eS rfl rfl ?_
    refine eINe rfl rfl (fun _ => ?_) (fun z => absurd z (by decide))
    refine eS rfl rfl ?_
    refine eS rfl rfl ?_
    refine eILt rfl rfl (fun z => absurd z (by decide)) (fun _ => ?_)
    refine eS rfl rfl ?_
    refine eS rfl rfl ?_
    refine eIGt rfl rfl (fun _ => ?_) (fun z => absurd (by decide) z)
    refine eS rfl rfl ?_
    refine eS rfl rfl ?_
    refine eINe rfl rfl (fun _ => ?_) (fun z => absurd z (by decide))
    refine eS rfl rfl ?_
    refine eS rfl rfl ?_
    refine eINe rfl rfl (fun _ => ?_) (fun z => absurd z (by decide))
    refine eS rfl rfl ?_
    refine eS rfl rfl ?_
    refine eILt rfl rfl (fun z => absurd z (by decide)) (fun _ => ?_)
    refine eS rfl rfl ?_
    refine eS rfl rfl ?_
    refine eIGt rfl rfl (fun _ => ?_) (fun z => absurd (by decide) z)
    refine eS rfl rfl ?_
    refine eS rfl rfl ?_
    refine eIEq rfl rfl (fun z => absurd z (by decide)) (fun _ => ?_)
    refine eS rfl rfl ?_
    refine eS rfl rfl ?_
    refine eINe rfl rfl (fun z => absurd rfl z) (fun _ => ?_)
    refine eS rfl rfl ?_
    refine eS rfl rfl ?_
    refine eS rfl rfl ?_
    refine eINe rfl rfl (fun z => absurd rfl z) (fun _ => ?_)
    refine eS rfl rfl ?_
    refine eS rfl rfl ?_
    refine gPut hn rfl rfl rfl rfl rfl rfl rfl mS_56 ?_
    refine eS rfl rfl ?_
    refine eS rfl rfl ?_
    refine eINe rfl rfl (fun _ => ?_) (fun z => absurd z (by decide))
    refine eS rfl rfl ?_
    refine eS rfl rfl ?_
    refine eINe rfl rfl (fun _ => ?_) (fun z => absurd z (by decide))
    exact eR rfl rfl ⟨rfl, rfl⟩
  · obtain ⟨a83', l, e⟩ := m_fill (dd := d + 1) (scr := scr) (kd := kd) (S0 := S0) (w := w) (nn := nn) (pc := Int32.ofNat pc) (en := 0) (hi := Int32.ofNat stk.length) (un := Int32.ofNat cl) (hd := Int32.ofNat hd) (co := co) (dn := dn) (a77 := fA stk g) (a78 := par.map Value.float) (a79 := a79) (a80 := a80) (a81 := vrs.map Value.float) (a83 := a83) (px := px) hn t6 ha t1 t2
    rw [filA_CM t6] at e
    refine ⟨g, a83', by rw [o]; exact hg, l, ?_⟩
    rw [o]
    refine eS rfl rfl ?_
    refine eS rfl rfl ?_
    refine eILt rfl rfl (fun z => absurd z (by decide)) (fun _ => ?_)
    refine eS rfl rfl ?_
    refine eS rfl rfl ?_
    refine eIGt rfl rfl (fun _ => ?_) (fun z => absurd (by decide) z)
    refine eS rfl rfl ?_
    refine eS rfl rfl ?_
    refine eINe rfl rfl (fun _ => ?_) (fun z => absurd z (by decide))
    refine eS rfl rfl ?_
    refine eS rfl rfl ?_
    refine eINe rfl rfl (fun _ => ?_) (fun z => absurd z (by decide))
    refine eS rfl rfl ?_
    refine eS rfl rfl ?_
    refine eILt rfl rfl (fun z => absurd z (by decide)) (fun _ => ?_)
    refine eS rfl rfl ?_
    refine eS rfl rfl ?_
    refine eIGt rfl rfl (fun _ => ?_) (fun z => absurd (by decide) z)
    refine eS rfl rfl ?_
    refine eS rfl rfl ?_
    refine eINe rfl rfl (fun _ => ?_) (fun z => absurd z (by decide))
    refine eS rfl rfl ?_
    refine eS rfl rfl ?_
    refine eILt rfl rfl (fun z => absurd z (by decide)) (fun _ => ?_)
    refine eS rfl rfl ?_
    refine eS rfl rfl ?_
    refine eIGt rfl rfl (fun _ => ?_) (fun z => absurd (by decide) z)
    refine eS rfl rfl ?_
    refine eS rfl rfl ?_
    refine eINe rfl rfl (fun _ => ?_) (fun z => absurd z (by decide))
    refine eS rfl rfl ?_
    refine eS rfl rfl ?_
    refine eINe rfl rfl (fun _ => ?_) (fun z => absurd z (by decide))
    refine eS rfl rfl ?_
    refine eS rfl rfl ?_
    refine eILt rfl rfl (fun z => absurd z (by decide)) (fun _ => ?_)
    refine eS rfl rfl ?_
    refine eS rfl rfl ?_
    refine eIGt rfl rfl (fun _ => ?_) (fun z => absurd (by decide) z)
    refine eS rfl rfl ?_
    refine eS rfl rfl ?_
    refine eIEq rfl rfl (fun z => absurd z (by decide)) (fun _ => ?_)
    refine eS rfl rfl ?_
    refine eS rfl rfl ?_
    refine eINe rfl rfl (fun _ => ?_) (fun z => absurd z (by decide))
    refine eS rfl rfl ?_
    refine eS rfl rfl ?_
    refine eINe rfl rfl (fun z => absurd rfl z) (fun _ => ?_)
    refine eS rfl rfl ?_
    refine gV1 hn rfl rfl rfl rfl rfl ⟨catOk rfl, catOk rfl⟩ (e) ?_
    refine eS rfl rfl ?_
    refine eS rfl rfl ?_
    refine eINe rfl rfl (fun _ => ?_) (fun z => absurd z (by decide))
    exact eR rfl rfl ⟨rfl, rfl⟩
  · refine ⟨g, a83, by rw [o]; exact hg, ha, ?_⟩
    rw [o]
    refine eS rfl rfl ?_
    refine eS rfl rfl ?_
    refine eILt rfl rfl (fun z => absurd z (by decide)) (fun _ => ?_)
    refine eS rfl rfl ?_
    refine eS rfl rfl ?_
    refine eIGt rfl rfl (fun _ => ?_) (fun z => absurd (by decide) z)
    refine eS rfl rfl ?_
    refine eS rfl rfl ?_
    refine eINe rfl rfl (fun _ => ?_) (fun z => absurd z (by decide))
    refine eS rfl rfl ?_
    refine eS rfl rfl ?_
    refine eINe rfl rfl (fun _ => ?_) (fun z => absurd z (by decide))
    refine eS rfl rfl ?_
    refine eS rfl rfl ?_
    refine eILt rfl rfl (fun z => absurd z (by decide)) (fun _ => ?_)
    refine eS rfl rfl ?_
    refine eS rfl rfl ?_
    refine eIGt rfl rfl (fun _ => ?_) (fun z => absurd (by decide) z)
    refine eS rfl rfl ?_
    refine eS rfl rfl ?_
    refine eINe rfl rfl (fun _ => ?_) (fun z => absurd z (by decide))
    refine eS rfl rfl ?_
    refine eS rfl rfl ?_
    refine eILt rfl rfl (fun z => absurd z (by decide)) (fun _ => ?_)
    refine eS rfl rfl ?_
    refine eS rfl rfl ?_
    refine eIGt rfl rfl (fun _ => ?_) (fun z => absurd (by decide) z)
    refine eS rfl rfl ?_
    refine eS rfl rfl ?_
    refine eINe rfl rfl (fun _ => ?_) (fun z => absurd z (by decide))
    refine eS rfl rfl ?_
    refine eS rfl rfl ?_
    refine eINe rfl rfl (fun _ => ?_) (fun z => absurd z (by decide))
    refine eS rfl rfl ?_
    refine eS rfl rfl ?_
    refine eILt rfl rfl (fun z => absurd z (by decide)) (fun _ => ?_)
    refine eS rfl rfl ?_
    refine eS rfl rfl ?_
    refine eIGt rfl rfl (fun _ => ?_) (fun z => absurd (by decide) z)
    refine eS rfl rfl ?_
    refine eS rfl rfl ?_
    refine eIEq rfl rfl (fun z => absurd z (by decide)) (fun _ => ?_)
    refine eS rfl rfl ?_
    refine eS rfl rfl ?_
    refine eINe rfl rfl (fun _ => ?_) (fun z => absurd z (by decide))
    refine eS rfl rfl ?_
    refine eS rfl rfl ?_
    refine eINe rfl rfl (fun _ => ?_) (fun z => absurd z (by decide))
    refine eS rfl rfl ?_
    refine eS rfl rfl ?_
    refine eINe rfl rfl (fun z => absurd rfl z) (fun _ => ?_)
    refine eS rfl rfl ?_
    refine eS rfl rfl ?_
    refine gPut hn rfl rfl rfl rfl rfl rfl rfl mS_56 ?_
    refine eS rfl rfl ?_
    refine eS rfl rfl ?_
    refine gPut hn rfl rfl rfl rfl rfl rfl rfl mS_56 ?_
    refine eS rfl rfl ?_
    refine eS rfl rfl ?_
    refine gPut hn rfl rfl rfl rfl rfl rfl rfl mS_56 ?_
    exact eR rfl rfl ⟨rfl, rfl⟩
end MPLAIN
