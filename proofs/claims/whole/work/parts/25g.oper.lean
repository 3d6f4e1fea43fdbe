/-! the machine's words that reckon, on the class's side -/
def opA (w k b cl : Nat) (stk par vrs : List UInt32) : Int32 × List UInt32 × List UInt32 × List UInt32 :=
  if w = 1 then ((pushA (numA k b) stk).1, (pushA (numA k b) stk).2, par, vrs)
  else if w = 2 then ((pushA (vrs.getD k 0) stk).1, (pushA (vrs.getD k 0) stk).2, par, vrs)
  else if w = 3 then ((pushA (par.getD (3 * (cl - 1) + k) 0) stk).1, (pushA (par.getD (3 * (cl - 1) + k) 0) stk).2, par, vrs)
  else match stk with
    | [] => (0, [], par, vrs)
    | f :: r => if w = 4 then (0, r, par, vrs.set k f)
      else if w = 5 then (0, r, par.set (3 * (cl - 1) + k) f, vrs)
      else if w = 10 then (0, FP.fneg f :: r, par, vrs)
      else match r with
        | [] => (0, f :: r, par, vrs)
        | a :: r' => if w ≤ 9 then ((calcA w a f r').1, (calcA w a f r').2, par, vrs) else (0, oneF (cmpA w a f) :: r', par, vrs)
def opOk (w k b cl ht : Nat) : Prop := (w = 1 ∧ k ≤ 2 ^ 20 ∧ b < 2 ^ 31) ∨ (w = 2 ∧ k < 8) ∨ (w = 3 ∧ 1 ≤ cl ∧ cl ≤ 3 ∧ k < 3) ∨ (w = 4 ∧ k < 8 ∧ 1 ≤ ht) ∨ (w = 5 ∧ 1 ≤ cl ∧ cl ≤ 3 ∧ k < 3 ∧ 1 ≤ ht) ∨ ((w = 6 ∨ w = 7 ∨ w = 8 ∨ w = 9) ∧ 2 ≤ ht) ∨ (w = 10 ∧ 1 ≤ ht) ∨ ((w = 11 ∨ w = 12 ∨ w = 13) ∧ 2 ≤ ht)
theorem fl_get {l : List UInt32} {k : Nat} (h : k < l.length) : (l.map Value.float)[k]? = some (.float (l.getD k 0)) := by
  rw [List.getElem?_map, List.getD_eq_getElem?_getD, List.getElem?_eq_getElem h]
  rfl
theorem fl_set {l : List UInt32} {k : Nat} {f : UInt32} : (l.map Value.float).set k (.float f) = (l.set k f).map Value.float := List.map_set.symm
section COPER
variable {scr : List Value} {kd : Nat → Nat} {n : Nat} {S0 : Nat → List Value} {a39 a40 a41 a42 a43 a44 g : List Value} {pc an : Int32} {d w k b cl : Nat} {stk par vrs : List UInt32} {f : UInt32} {v : Value} {a37 a38 : List Value}
theorem c_pushA {c : Int32} (hn : 67 ≤ n) (hg : stk.length + g.length = 24) : ∃ g', (pushA f stk).2.length + g'.length = 24 ∧ aE aM126 d 0 [(0, .ref 35), (1, .float f)] [] (gH scr kd n (cS S0 (kM (Int32.ofNat stk.length) c pc 0) (fA stk g) a37 a38 a39 a40 a41 a42 a43 a44)) (aIs none (gH scr kd n (cS S0 (kM (Int32.ofNat (pushA f stk).2.length) c pc (pushA f stk).1) (fA (pushA f stk).2 g') a37 a38 a39 a40 a41 a42 a43 a44))) := by
  by_cases h : stk.length = 24
  · refine ⟨g, by unfold pushA; rw [if_pos h]; exact hg, ?_⟩
    unfold pushA
    rw [if_pos h]
    dsimp only
    rw [h]
    exact c_push_full hn
  · obtain ⟨v, g', rfl⟩ : ∃ v g', g = v :: g' := by
      cases g with
      | nil => simp at hg; omega
      | cons v g' => exact ⟨v, g', rfl⟩
    refine ⟨g', by unfold pushA; rw [if_neg h]; simp at hg ⊢; omega, ?_⟩
    unfold pushA
    rw [if_neg h]
    exact c_push hn (by simp at hg; omega)
theorem c_operate (hn : 67 ≤ n) (hg : stk.length + g.length = 24) (hp : par.length = 9) (hv : vrs.length = 8) (hs : ∀ f ∈ stk, gF f) (ho : opOk w k b cl stk.length) : ∃ g', (opA w k b cl stk par vrs).2.1.length + g'.length = 24 ∧ aE aM144 (d + 2) 0 [(0, .ref 35), (1, .int (Int32.ofNat w)), (2, .int (Int32.ofNat k)), (3, .int (Int32.ofNat b))] [] (gH scr kd n (cS S0 (kM (Int32.ofNat stk.length) (Int32.ofNat cl) pc 0) (fA stk g) (vrs.map Value.float) (par.map Value.float) a39 a40 a41 a42 a43 a44)) (aIs none (gH scr kd n (cS S0 (kM (Int32.ofNat (opA w k b cl stk par vrs).2.1.length) (Int32.ofNat cl) pc (opA w k b cl stk par vrs).1) (fA (opA w k b cl stk par vrs).2.1 g') ((opA w k b cl stk par vrs).2.2.2.map Value.float) ((opA w k b cl stk par vrs).2.2.1.map Value.float) a39 a40 a41 a42 a43 a44))) := by
  rcases ho with ⟨rfl, hk, hb⟩ | ⟨rfl, hk⟩ | ⟨rfl, c1, c2, hk⟩ | ⟨rfl, hk, h1⟩ | ⟨rfl, c1, c2, hk, h1⟩ | ⟨hw, h1⟩ | ⟨rfl, h1⟩ | ⟨hw, h1⟩
  · obtain ⟨g', g1, e⟩ := c_pushA (d := d + 1) (scr := scr) (kd := kd) (S0 := S0) (pc := pc) (a37 := vrs.map Value.float) (a38 := par.map Value.float) (a39 := a39) (a40 := a40) (a41 := a41) (a42 := a42) (a43 := a43) (a44 := a44) (c := Int32.ofNat cl) (f := numA k b) hn hg
    refine ⟨g', g1, ?_⟩
    refine eS rfl rfl ?_
    refine eS rfl rfl ?_
    refine eS rfl rfl ?_
    refine eS rfl rfl ?_
    refine eS rfl rfl ?_
    refine eC1 rfl rfl rfl ⟨catOk rfl, catOk rfl⟩ (c_number hk hb) ?_
    refine gV1 hn rfl rfl rfl rfl rfl ⟨catOk rfl, catOk rfl⟩ (e) ?_
    refine eS rfl rfl ?_
    exact eR rfl rfl ⟨rfl, rfl⟩
  · obtain ⟨g', g1, e⟩ := c_pushA (d := d + 1) (scr := scr) (kd := kd) (S0 := S0) (pc := pc) (a37 := vrs.map Value.float) (a38 := par.map Value.float) (a39 := a39) (a40 := a40) (a41 := a41) (a42 := a42) (a43 := a43) (a44 := a44) (c := Int32.ofNat cl) (f := vrs.getD k 0) hn hg
    have e2 : fmA (Int32.ofNat k) 8 = k := by
      unfold fmA
      rw [Int32.toInt_ofNat_small (by omega)]
      omega
    refine ⟨g', g1, ?_⟩
    refine eS rfl rfl ?_
    refine eS rfl rfl ?_
    refine eS rfl rfl ?_
    refine eS rfl rfl ?_
    refine gGet hn rfl rfl rfl rfl ?_
    refine eS rfl rfl ?_
    refine eS rfl rfl ?_
    refine eC1 rfl rfl rfl ⟨catOk rfl, catOk rfl⟩ (s_floorMod _ (m := 8) (by decide) (by decide)) ?_
    rw [e2]
    refine gRd3 hn rfl rfl rfl k (by omega) (fl_get (by omega)) ?_
    refine gV1 hn rfl rfl rfl rfl rfl ⟨catOk rfl, catOk rfl⟩ (e) ?_
    refine eS rfl rfl ?_
    exact eR rfl rfl ⟨rfl, rfl⟩
  · obtain ⟨c, rfl⟩ : ∃ c, cl = c + 1 := ⟨cl - 1, by omega⟩
    obtain ⟨g', g1, e⟩ := c_pushA (d := d + 1) (scr := scr) (kd := kd) (S0 := S0) (pc := pc) (a37 := vrs.map Value.float) (a38 := par.map Value.float) (a39 := a39) (a40 := a40) (a41 := a41) (a42 := a42) (a43 := a43) (a44 := a44) (c := Int32.ofNat (c + 1)) (f := par.getD (3 * c + k) 0) hn hg
    refine ⟨g', g1, ?_⟩
    refine eS rfl rfl ?_
    refine eS rfl rfl ?_
    refine eS rfl rfl ?_
    refine eS rfl rfl ?_
    refine gGet hn rfl rfl rfl rfl ?_
    refine eS rfl rfl ?_
    refine eS rfl rfl ?_
    refine gV1 hn rfl rfl rfl rfl rfl ⟨catOk rfl, catOk rfl⟩ (c_parPlace hn (by omega) hk) ?_
    refine gRd3 hn rfl rfl rfl (3 * c + k) (by omega) (fl_get (by omega)) ?_
    refine gV1 hn rfl rfl rfl rfl rfl ⟨catOk rfl, catOk rfl⟩ (e) ?_
    refine eS rfl rfl ?_
    exact eR rfl rfl ⟨rfl, rfl⟩
  · obtain ⟨f, r, rfl⟩ : ∃ f r, stk = f :: r := by
      cases stk with
      | nil => simp at h1
      | cons f r => exact ⟨f, r, rfl⟩
    have e2 : fmA (Int32.ofNat k) 8 = k := by
      unfold fmA
      rw [Int32.toInt_ofNat_small (by omega)]
      omega
    have hl : r.length < 24 := by simp at hg; omega
    refine ⟨.float f :: g, by show r.length + _ = _; simp at hg ⊢; omega, ?_⟩
    refine eS rfl rfl ?_
    refine eS rfl rfl ?_
    refine eS rfl rfl ?_
    refine gGet hn rfl rfl rfl rfl ?_
    refine eS rfl rfl ?_
    refine eS rfl rfl ?_
    refine eC1 rfl rfl rfl ⟨catOk rfl, catOk rfl⟩ (s_floorMod _ (m := 8) (by decide) (by decide)) ?_
    rw [e2]
    refine eS rfl rfl ?_
    refine gV1 hn rfl rfl rfl rfl rfl ⟨catOk rfl, catOk rfl⟩ (c_take (stk := r) hn hl) ?_
    refine gWr3 hn rfl rfl rfl k (by omega) (by show k < (vrs.map Value.float).length; rw [List.length_map]; omega) (cS_37.trans (congrArg (fun z => cS S0 _ _ z _ a39 a40 a41 a42 a43 a44) fl_set)) ?_
    refine eS rfl rfl ?_
    exact eR rfl rfl ⟨rfl, rfl⟩
  · obtain ⟨f, r, rfl⟩ : ∃ f r, stk = f :: r := by
      cases stk with
      | nil => simp at h1
      | cons f r => exact ⟨f, r, rfl⟩
    obtain ⟨c, rfl⟩ : ∃ c, cl = c + 1 := ⟨cl - 1, by omega⟩
    have hl : r.length < 24 := by simp at hg; omega
    refine ⟨.float f :: g, by show r.length + _ = _; simp at hg ⊢; omega, ?_⟩
    refine eS rfl rfl ?_
    refine eS rfl rfl ?_
    refine eS rfl rfl ?_
    refine gGet hn rfl rfl rfl rfl ?_
    refine eS rfl rfl ?_
    refine eS rfl rfl ?_
    refine gV1 hn rfl rfl rfl rfl rfl ⟨catOk rfl, catOk rfl⟩ (c_parPlace hn (by omega) hk) ?_
    refine eS rfl rfl ?_
    refine gV1 hn rfl rfl rfl rfl rfl ⟨catOk rfl, catOk rfl⟩ (c_take (stk := r) hn hl) ?_
    refine gWr3 hn rfl rfl rfl (3 * c + k) (by omega) (by show 3 * c + k < (par.map Value.float).length; rw [List.length_map]; omega) (cS_38.trans (congrArg (fun z => cS S0 _ _ _ z a39 a40 a41 a42 a43 a44) fl_set)) ?_
    refine eS rfl rfl ?_
    exact eR rfl rfl ⟨rfl, rfl⟩
  · obtain ⟨f, a, r, rfl⟩ : ∃ f a r, stk = f :: a :: r := by
      match stk, h1 with
      | f :: a :: r, _ => exact ⟨f, a, r, rfl⟩
    have hl : r.length + 1 < 24 := by simp at hg; omega
    have ga : gF a := hs a (by simp)
    have gf : gF f := hs f (by simp)
    obtain ⟨g', g1, e⟩ := c_calc (d := d) (w := w) (stk := r) (a := a) (b := f) (g := g) (scr := scr) (kd := kd) (S0 := S0) (pc := pc) (a37 := vrs.map Value.float) (a38 := par.map Value.float) (a39 := a39) (a40 := a40) (a41 := a41) (a42 := a42) (a43 := a43) (a44 := a44) (cl := Int32.ofNat cl) hn hl ga gf hw
    have e1 : opA w k b cl (f :: a :: r) par vrs = ((calcA w a f r).1, (calcA w a f r).2, par, vrs) := by
      rcases hw with rfl | rfl | rfl | rfl <;> rfl
    refine ⟨g', by rw [e1]; exact g1.trans hg, ?_⟩
    rw [e1]
    rcases hw with rfl | rfl | rfl | rfl
    · refine eS rfl rfl ?_
      refine eS rfl rfl ?_
      refine eS rfl rfl ?_
      refine eS rfl rfl ?_
      refine gV1 hn rfl rfl rfl rfl rfl ⟨catOk rfl, catOk rfl⟩ (e) ?_
      refine eS rfl rfl ?_
      exact eR rfl rfl ⟨rfl, rfl⟩
    · refine eS rfl rfl ?_
      refine eS rfl rfl ?_
      refine eS rfl rfl ?_
      refine eS rfl rfl ?_
      refine gV1 hn rfl rfl rfl rfl rfl ⟨catOk rfl, catOk rfl⟩ (e) ?_
      refine eS rfl rfl ?_
      exact eR rfl rfl ⟨rfl, rfl⟩
    · refine eS rfl rfl ?_
      refine eS rfl rfl ?_
      refine eS rfl rfl ?_
      refine eS rfl rfl ?_
      refine gV1 hn rfl rfl rfl rfl rfl ⟨catOk rfl, catOk rfl⟩ (e) ?_
      refine eS rfl rfl ?_
      exact eR rfl rfl ⟨rfl, rfl⟩
    · refine eS rfl rfl ?_
      refine eS rfl rfl ?_
      refine eS rfl rfl ?_
      refine eS rfl rfl ?_
      refine gV1 hn rfl rfl rfl rfl rfl ⟨catOk rfl, catOk rfl⟩ (e) ?_
      refine eS rfl rfl ?_
      exact eR rfl rfl ⟨rfl, rfl⟩
  · obtain ⟨f, r, rfl⟩ : ∃ f r, stk = f :: r := by
      cases stk with
      | nil => simp at h1
      | cons f r => exact ⟨f, r, rfl⟩
    have hl : r.length < 24 := by simp at hg; omega
    refine ⟨g, hg, ?_⟩
    refine eS rfl rfl ?_
    refine eS rfl rfl ?_
    refine eS rfl rfl ?_
    refine eS rfl rfl ?_
    refine gV1 hn rfl rfl rfl rfl rfl ⟨catOk rfl, catOk rfl⟩ (c_take (stk := r) hn hl) ?_
    refine eS rfl rfl ?_
    refine gV1 hn rfl rfl rfl rfl rfl ⟨catOk rfl, catOk rfl⟩ (c_push (stk := r) hn hl) ?_
    refine eS rfl rfl ?_
    exact eR rfl rfl ⟨rfl, rfl⟩
  · obtain ⟨f, a, r, rfl⟩ : ∃ f a r, stk = f :: a :: r := by
      match stk, h1 with
      | f :: a :: r, _ => exact ⟨f, a, r, rfl⟩
    have hl : r.length + 1 < 24 := by simp at hg; omega
    have ga : gF a := hs a (by simp)
    have gf : gF f := hs f (by simp)
    have e := c_compare (d := d) (w := w) (stk := r) (a := a) (b := f) (g := g) (scr := scr) (kd := kd) (S0 := S0) (pc := pc) (an := 0) (a37 := vrs.map Value.float) (a38 := par.map Value.float) (a39 := a39) (a40 := a40) (a41 := a41) (a42 := a42) (a43 := a43) (a44 := a44) (cl := Int32.ofNat cl) hn hl ga gf (by omega)
    have e1 : opA w k b cl (f :: a :: r) par vrs = (0, oneF (cmpA w a f) :: r, par, vrs) := by
      rcases hw with rfl | rfl | rfl <;> rfl
    refine ⟨.float f :: g, by rw [e1]; simp at hg ⊢; omega, ?_⟩
    rw [e1]
    rcases hw with rfl | rfl | rfl
    · refine eS rfl rfl ?_
      refine eS rfl rfl ?_
      refine eS rfl rfl ?_
      refine eS rfl rfl ?_
      refine gV1 hn rfl rfl rfl rfl rfl ⟨catOk rfl, catOk rfl⟩ (e) ?_
      refine eS rfl rfl ?_
      exact eR rfl rfl ⟨rfl, rfl⟩
    · refine eS rfl rfl ?_
      refine eS rfl rfl ?_
      refine eS rfl rfl ?_
      refine eS rfl rfl ?_
      refine gV1 hn rfl rfl rfl rfl rfl ⟨catOk rfl, catOk rfl⟩ (e) ?_
      refine eS rfl rfl ?_
      exact eR rfl rfl ⟨rfl, rfl⟩
    · refine eS rfl rfl ?_
      refine eS rfl rfl ?_
      refine eS rfl rfl ?_
      refine eS rfl rfl ?_
      refine gV1 hn rfl rfl rfl rfl rfl ⟨catOk rfl, catOk rfl⟩ (e) ?_
      refine eS rfl rfl ?_
      exact eR rfl rfl ⟨rfl, rfl⟩
end COPER
