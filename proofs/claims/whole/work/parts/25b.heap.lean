/-! the heap by contents: S by place, kd the kinds behind place 86, n + 20 places -/
def gK (kd : Nat → Nat) (p : Nat) : Nat := if p < 87 then aKd p else kd p
def gH (scr : List Value) (kd : Nat → Nat) (n : Nat) (S : Nat → List Value) : aH := (0, scr) :: (aH0t ++ (List.range n).map (fun i => (gK kd (i + 20), S (i + 20))))
theorem aH0t_len : aH0t.length = 19 := by decide +kernel
section GH
variable {scr : List Value} {kd : Nat → Nat} {n : Nat} {S S' : Nat → List Value}
theorem gH_at {p : Nat} (h1 : 20 ≤ p) (h2 : p < n + 20) : (gH scr kd n S)[p]? = some (gK kd p, S p) := by
  obtain ⟨q, rfl⟩ : ∃ q, p = (19 + q) + 1 := ⟨p - 20, by omega⟩
  show (aH0t ++ (List.range n).map (fun i => (gK kd (i + 20), S (i + 20))))[19 + q]? = _
  rw [List.getElem?_append_right (by rw [aH0t_len]; omega), aH0t_len, show 19 + q - 19 = q by omega, List.getElem?_map, List.getElem?_range (by omega), show 19 + q + 1 = q + 20 by omega]
  rfl
theorem gH_len : (gH scr kd n S).length = n + 20 := by
  show (aH0t ++ (List.range n).map (fun i => (gK kd (i + 20), S (i + 20)))).length + 1 = _
  rw [List.length_append, aH0t_len, List.length_map, List.length_range]
  omega
theorem gH_0 : (gH scr kd n S)[0]? = some (0, scr) := rfl
theorem gH_lo {p : Nat} (h1 : 1 ≤ p) (h2 : p < 20) : (gH scr kd n S)[p]? = aH0t[p - 1]? := by
  obtain ⟨q, rfl⟩ : ∃ q, p = q + 1 := ⟨p - 1, by omega⟩
  show (aH0t ++ (List.range n).map (fun i => (gK kd (i + 20), S (i + 20))))[q]? = _
  rw [List.getElem?_append_left (by rw [aH0t_len]; omega)]
  rfl
theorem gH_eq {h : aH} (hl : h.length = n + 20) (h0 : h[0]? = some (0, scr)) (h1 : ∀ p, 1 ≤ p → p < 20 → h[p]? = aH0t[p - 1]?) (h2 : ∀ p, 20 ≤ p → p < n + 20 → h[p]? = some (gK kd p, S p)) : h = gH scr kd n S := by
  apply List.ext_getElem?
  intro p
  by_cases e : p < n + 20
  · by_cases e1 : 20 ≤ p
    · rw [gH_at e1 e, h2 p e1 e]
    · match p, e1 with
      | 0, _ => rw [h0, gH_0]
      | p + 1, e1 => rw [gH_lo (by omega) (by omega), h1 _ (by omega) (by omega)]
  · rw [List.getElem?_eq_none (by omega), List.getElem?_eq_none (by rw [gH_len]; omega)]
theorem gH_set {p : Nat} {b : List Value} (h1 : 20 ≤ p) (h2 : p < n + 20) : (gH scr kd n S).set p (gK kd p, b) = gH scr kd n (aUp S p b) := by
  refine gH_eq (by rw [List.length_set, gH_len]) ((gN (by omega)).trans gH_0) (fun q q1 q2 => (gN (by omega)).trans (gH_lo q1 q2)) (fun q q1 q2 => ?_)
  by_cases e : q = p
  · subst e
    rw [aUp_same]
    exact gS (by rw [gH_len]; omega)
  · rw [aUp_ne e]
    exact (gN (fun z => e z.symm)).trans (gH_at q1 q2)
def kUp (kd : Nat → Nat) (p k : Nat) : Nat → Nat := fun q => if q = p then k else kd q
theorem gH_push {k : Nat} {b : List Value} (hn : 67 ≤ n) : gH scr kd n S ++ [(k, b)] = gH scr (kUp kd (n + 20) k) (n + 1) (aUp S (n + 20) b) := by
  refine gH_eq (by rw [List.length_append, gH_len]; show n + 20 + 1 = _; omega) ((List.getElem?_append_left (by rw [gH_len]; omega)).trans gH_0) (fun q q1 q2 => (List.getElem?_append_left (by rw [gH_len]; omega)).trans (gH_lo q1 q2)) (fun q q1 q2 => ?_)
  by_cases e : q = n + 20
  · subst e
    rw [List.getElem?_append_right (by rw [gH_len]; omega), gH_len, Nat.sub_self, aUp_same]
    unfold gK kUp
    rw [if_neg (by omega), if_pos rfl]
    rfl
  · rw [aUp_ne e, List.getElem?_append_left (by rw [gH_len]; omega), gH_at q1 (by omega)]
    unfold gK kUp
    rw [if_neg e]
theorem gH_S {S S' : Nat → List Value} (h : ∀ p, 20 ≤ p → p < n + 20 → S p = S' p) : gH scr kd n S = gH scr kd n S' :=
  gH_eq gH_len gH_0 (fun _ p1 p2 => gH_lo p1 p2) (fun p p1 p2 => by rw [gH_at p1 p2, h p p1 p2])
theorem gH_of {h : aH} (hM : aMem scr S h) : ∃ kd S' n, 67 ≤ n ∧ h = gH scr kd n S' ∧ ∀ p, p < 87 → S' p = S p := by
  refine ⟨fun p => (h.getD p (0, [])).1, fun p => if p < 87 then S p else (h.getD p (0, [])).2, h.length - 20, by have := hM.1; omega, gH_eq (by have := hM.1; omega) hM.2.1 hM.2.2.1 (fun p p1 p2 => ?_), fun p hp => if_pos hp⟩
  by_cases e : p < 87
  · rw [hM.at p p1 e]
    unfold gK
    rw [if_pos e, if_pos e]
  · have hp : p < h.length := by have := hM.1; omega
    unfold gK
    rw [if_neg e, if_neg e]
    have e2 : h.getD p (0, []) = h[p] := by
      rw [List.getD_eq_getElem?_getD, List.getElem?_eq_getElem hp]
      rfl
    show h[p]? = some ((h.getD p (0, [])).1, (h.getD p (0, [])).2)
    rw [e2, List.getElem?_eq_getElem hp]
theorem gH_mem (hn : 67 ≤ n) (hl : ∀ p, 20 ≤ p → p < 87 → (S p).length = aLn p) (ht : ∀ p, 87 ≤ p → p < n + 20 → aTl (kd p, S p) = true) : aMem scr S (gH scr kd n S) := by
  refine ⟨by rw [gH_len]; omega, gH_0, fun p p1 p2 => gH_lo p1 p2, fun p p1 p2 => ⟨?_, hl p p1 p2⟩, fun p o p1 hp => ?_⟩
  · rw [gH_at p1 (by omega)]
    unfold gK
    rw [if_pos p2]
  · by_cases e : p < n + 20
    · rw [gH_at (by omega) e] at hp
      cases hp
      unfold gK
      rw [if_neg (by omega)]
      exact ht p p1 e
    · rw [List.getElem?_eq_none (by rw [gH_len]; omega)] at hp
      cases hp
end GH
/-! the rules over such a heap -/
section GR
variable {M : aMt} {d pc : Nat} {ls : aLc} {st r : List Value} {res : aOut → aH → Prop} {lk : aLk} {scr : List Value} {kd : Nat → Nat} {n : Nat} {S S' : Nat → List Value} {i p : Nat} {v : Value}
theorem gGet (hn : 67 ≤ n) (hf : aFind M.cd pc = some (.getfield i, lk)) (hp : (Nat.ble 20 p && Nat.blt p 87) = true) (hk : gK kd p = 2 * lk.1 + 8) (hv : (S p)[lk.2.1]? = some v) (k : aE M d (pc + 3) ls (v :: r) (gH scr kd n S) res) : aE M d pc ls (.ref p :: r) (gH scr kd n S) res := by
  simp only [Bool.and_eq_true, Nat.ble_eq, Nat.blt_eq] at hp
  exact eGet hf (gH_at hp.1 (by omega)) hk hv k
theorem gPut {c : vw_C × List FieldType} {ty : FieldType} (hn : 67 ≤ n) (hf : aFind M.cd pc = some (.putfield i, lk)) (hp : (Nat.ble 20 p && Nat.blt p 87) = true) (hc : aCls[lk.1]? = some c) (hk : gK kd p = 2 * lk.1 + 8) (hl : Nat.blt lk.2.1 (S p).length = true) (ht : c.2[lk.2.1]? = some ty) (hv : aFit ty v = true)
    (e : aUp S p ((S p).set lk.2.1 v) = S') (k : aE M d (pc + 3) ls r (gH scr kd n S') res) : aE M d pc ls (v :: .ref p :: r) (gH scr kd n S) res := by
  simp only [Bool.and_eq_true, Nat.ble_eq, Nat.blt_eq] at hp
  refine ePut hf (gH_at hp.1 (by omega)) hc hk hp.1 (Nat.blt_eq.mp hl) ht hv ?_
  rw [gH_set hp.1 (by omega), e]
  exact k
theorem gV1 {q : Nat} {as rest : List Value} {M' : aMt} {v : Option Value} {h' : aH} (hn : 67 ≤ n) (hf : aFind M.cd pc = some (.invokevirtual i, lk)) (ha : aArgs lk.2.1 st = some (.ref q :: as, rest)) (hp : (Nat.ble 20 q && Nat.blt q 87) = true) (hk : gK kd q = 2 * lk.2.2.1 + 8) (hM : aP[lk.1]? = some M')
    (hc : aCat rest + M'.nl ≤ 80 ∧ aCat (.ref q :: as) ≤ M'.nl) (hb : aE M' d 0 (lv_args 0 (.ref q :: as)) [] (gH scr kd n S) (aIs v h')) (kk : aE M (d + 1) (pc + 3) ls (v.toList ++ rest) h' res) : aE M (d + 1) pc ls st (gH scr kd n S) res := by
  simp only [Bool.and_eq_true, Nat.ble_eq, Nat.blt_eq] at hp
  exact eV1 hf ha (gH_at hp.1 (by omega)) hk hM hc hb kk
theorem gLen (hn : 67 ≤ n) (hf : aFind M.cd pc = some (.arraylength, lk)) (hp : (Nat.ble 20 p && Nat.blt p 87) = true) (hk : Nat.blt (gK kd p) 6 = true) (k : aE M d (pc + 1) ls (.int (Int32.ofNat (S p).length) :: r) (gH scr kd n S) res) : aE M d pc ls (.ref p :: r) (gH scr kd n S) res := by
  simp only [Bool.and_eq_true, Nat.ble_eq, Nat.blt_eq] at hp
  exact eLen hf (gH_at hp.1 (by omega)) (Nat.blt_eq.mp hk) k
theorem gRd0 (hn : 67 ≤ n) (hf : aFind M.cd pc = some (.iaload, lk)) (hp : (Nat.ble 20 p && Nat.blt p 87) = true) (hk : gK kd p = 0) (j : Nat) (hb : j < 2 ^ 31) (hv : (S p)[j]? = some v) (k : aE M d (pc + 1) ls (v :: r) (gH scr kd n S) res) : aE M d pc ls (.int (Int32.ofNat j) :: .ref p :: r) (gH scr kd n S) res := by
  simp only [Bool.and_eq_true, Nat.ble_eq, Nat.blt_eq] at hp
  exact eH hf rfl rfl rfl (aRd_at (by rw [gH_at hp.1 (by omega), hk]) rfl hb hv) k
theorem gRd1 (hn : 67 ≤ n) (hf : aFind M.cd pc = some (.caload, lk)) (hp : (Nat.ble 20 p && Nat.blt p 87) = true) (hk : gK kd p = 1) (j : Nat) (hb : j < 2 ^ 31) (hv : (S p)[j]? = some v) (k : aE M d (pc + 1) ls (v :: r) (gH scr kd n S) res) : aE M d pc ls (.int (Int32.ofNat j) :: .ref p :: r) (gH scr kd n S) res := by
  simp only [Bool.and_eq_true, Nat.ble_eq, Nat.blt_eq] at hp
  exact eH hf rfl rfl rfl (aRd_at (by rw [gH_at hp.1 (by omega), hk]) rfl hb hv) k
theorem gRd2 (hn : 67 ≤ n) (hf : aFind M.cd pc = some (.laload, lk)) (hp : (Nat.ble 20 p && Nat.blt p 87) = true) (hk : gK kd p = 2) (j : Nat) (hb : j < 2 ^ 31) (hv : (S p)[j]? = some v) (k : aE M d (pc + 1) ls (v :: r) (gH scr kd n S) res) : aE M d pc ls (.int (Int32.ofNat j) :: .ref p :: r) (gH scr kd n S) res := by
  simp only [Bool.and_eq_true, Nat.ble_eq, Nat.blt_eq] at hp
  exact eH hf rfl rfl rfl (aRd_at (by rw [gH_at hp.1 (by omega), hk]) rfl hb hv) k
theorem gRd3 (hn : 67 ≤ n) (hf : aFind M.cd pc = some (.faload, lk)) (hp : (Nat.ble 20 p && Nat.blt p 87) = true) (hk : gK kd p = 3) (j : Nat) (hb : j < 2 ^ 31) (hv : (S p)[j]? = some v) (k : aE M d (pc + 1) ls (v :: r) (gH scr kd n S) res) : aE M d pc ls (.int (Int32.ofNat j) :: .ref p :: r) (gH scr kd n S) res := by
  simp only [Bool.and_eq_true, Nat.ble_eq, Nat.blt_eq] at hp
  exact eH hf rfl rfl rfl (aRd_at (by rw [gH_at hp.1 (by omega), hk]) rfl hb hv) k
theorem gWr0 {x : Int32} (hn : 67 ≤ n) (hf : aFind M.cd pc = some (.iastore, lk)) (hp : (Nat.ble 20 p && Nat.blt p 87) = true) (hk : gK kd p = 0) (j : Nat) (hb : j < 2 ^ 31) (hl : j < (S p).length) (e : aUp S p ((S p).set j (.int x)) = S') (k : aE M d (pc + 1) ls r (gH scr kd n S') res) : aE M d pc ls (.int x :: .int (Int32.ofNat j) :: .ref p :: r) (gH scr kd n S) res := by
  simp only [Bool.and_eq_true, Nat.ble_eq, Nat.blt_eq] at hp
  have hg := gH_at (scr := scr) (kd := kd) (n := n) (S := S) hp.1 (by omega)
  rw [hk] at hg
  refine eH hf rfl rfl rfl (aWr_at hg hp.1 rfl hb hl) ?_
  rw [← hk, gH_set hp.1 (by omega), e]
  exact k
theorem gWr2 {x : Int64} (hn : 67 ≤ n) (hf : aFind M.cd pc = some (.lastore, lk)) (hp : (Nat.ble 20 p && Nat.blt p 87) = true) (hk : gK kd p = 2) (j : Nat) (hb : j < 2 ^ 31) (hl : j < (S p).length) (e : aUp S p ((S p).set j (.long x)) = S') (k : aE M d (pc + 1) ls r (gH scr kd n S') res) : aE M d pc ls (.long x :: .int (Int32.ofNat j) :: .ref p :: r) (gH scr kd n S) res := by
  simp only [Bool.and_eq_true, Nat.ble_eq, Nat.blt_eq] at hp
  have hg := gH_at (scr := scr) (kd := kd) (n := n) (S := S) hp.1 (by omega)
  rw [hk] at hg
  refine eH hf rfl rfl rfl (aWr_at hg hp.1 rfl hb hl) ?_
  rw [← hk, gH_set hp.1 (by omega), e]
  exact k
theorem gWr3 {x : UInt32} (hn : 67 ≤ n) (hf : aFind M.cd pc = some (.fastore, lk)) (hp : (Nat.ble 20 p && Nat.blt p 87) = true) (hk : gK kd p = 3) (j : Nat) (hb : j < 2 ^ 31) (hl : j < (S p).length) (e : aUp S p ((S p).set j (.float x)) = S') (k : aE M d (pc + 1) ls r (gH scr kd n S') res) : aE M d pc ls (.float x :: .int (Int32.ofNat j) :: .ref p :: r) (gH scr kd n S) res := by
  simp only [Bool.and_eq_true, Nat.ble_eq, Nat.blt_eq] at hp
  have hg := gH_at (scr := scr) (kd := kd) (n := n) (S := S) hp.1 (by omega)
  rw [hk] at hg
  refine eH hf rfl rfl rfl (aWr_at hg hp.1 rfl hb hl) ?_
  rw [← hk, gH_set hp.1 (by omega), e]
  exact k
end GR
