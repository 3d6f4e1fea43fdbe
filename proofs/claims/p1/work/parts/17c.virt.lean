/-! calls by the receiver's class -/
section VIRT
variable {M : aMt} {d pc : Nat} {ls : aLc} {st : List Value} {h h' : aH} {res Q' : aOut → aH → Prop} {lk : aLk} {M' : aMt} {as rest : List Value} {i q kd : Nat} {vs : List Value}
theorem aStep_v (ha : aArgs lk.2.1 st = some (.ref q :: as, rest)) (hh : h[q]? = some (kd, vs)) (hk : kd = 2 * lk.2.2.1 + 8) : aStep aCls aKn M (.invokevirtual i) lk pc ls st h = some (.inr (.inr (lk.1, .ref q :: as, rest))) := by
  show (match aArgs lk.2.1 st with
    | some (.ref q :: as, r) => (match h[q]? with
      | some (kd, _) => if kd = 2 * lk.2.2.1 + 8 then some (Sum.inr (Sum.inr (lk.1, Value.ref q :: as, r))) else none
      | none => none)
    | _ => none) = _
  rw [ha]
  dsimp only
  rw [hh]
  dsimp only
  rw [if_pos hk]
theorem eV1 {v : Option Value} (hf : aFind M.cd pc = some (.invokevirtual i, lk)) (ha : aArgs lk.2.1 st = some (.ref q :: as, rest)) (hh : h[q]? = some (kd, vs)) (hk : kd = 2 * lk.2.2.1 + 8) (hM : aP[lk.1]? = some M')
    (hc : aCat rest + M'.nl ≤ 80 ∧ aCat (.ref q :: as) ≤ M'.nl) (hb : aE M' d 0 (lv_args 0 (.ref q :: as)) [] h (aIs v h')) (kk : aE M (d + 1) (pc + 3) ls (v.toList ++ rest) h' res) : aE M (d + 1) pc ls st h res :=
  eC1 hf (aStep_v ha hh hk) hM hc hb kk
theorem eV (hf : aFind M.cd pc = some (.invokevirtual i, lk)) (ha : aArgs lk.2.1 st = some (.ref q :: as, rest)) (hh : h[q]? = some (kd, vs)) (hk : kd = 2 * lk.2.2.1 + 8) (hM : aP[lk.1]? = some M')
    (hc : aCat rest + M'.nl ≤ 80 ∧ aCat (.ref q :: as) ≤ M'.nl) (hb : aE M' d 0 (lv_args 0 (.ref q :: as)) [] h Q') (kk : ∀ v h', Q' (.inl v) h' → aE M (d + 1) (pc + 3) ls (v.toList ++ rest) h' res)
    (kx : ∀ q h', Q' (.inr q) h' → ∃ kd vs t, h'[q]? = some (kd, vs) ∧ aHand M.hd pc kd = some t ∧ aE M (d + 1) t ls [.ref q] h' res) : aE M (d + 1) pc ls st h res :=
  eCH hf (aStep_v ha hh hk) hM hc hb kk kx
end VIRT
theorem catOk {a b : Nat} (h : Nat.ble a b = true) : a ≤ b := Nat.le_of_ble_eq_true h
theorem eP {M : aMt} {d pc : Nat} {ls : aLc} {st st' : List Value} {h : aH} {res : aOut → aH → Prop} {I : Instr} {lk : aLk} (hf : aFind M.cd pc = some (I, lk)) (hp : aPure I lk.2.2.2 st = some st') (k : aE M d (pc + aLen I) ls st' h res) : aE M d pc ls st h res := by
  refine eS hf ?_ k
  unfold aStep
  rw [hp]
theorem f2d_ok {x : UInt32} {v : Value} {r : List Value} (hn : aN64 (FP.f2d x) = true) : aPure .f2d v (.float x :: r) = some (.double (FP.f2d x) :: r) := by
  show (if aN64 (FP.f2d x) then some (Value.double (FP.f2d x) :: r) else none) = _
  rw [if_pos hn]
theorem lg_cmp_self (x : Int64) : lg_cmp x x = 0 := by
  unfold lg_cmp
  simp [Int64.lt_irrefl]
