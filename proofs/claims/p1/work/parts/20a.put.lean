/-! put -/
def cB (w : Int32) (k : Nat) : Int32 := (w >>> (((Int8.ofInt 8).toInt32 * Int32.ofNat k) &&& 31)) &&& (Int16.ofInt 255).toInt32
def cV (w : Int32) (k : Nat) : Value := narrow .char (.int ((cB w k).toUInt32 % 65536).toInt32)
def okC (c : Int32) : Bool := decide (c = 10) || (decide (¬ c < 32) && decide (¬ 126 < c))
def okFrom (w : Int32) : Nat → Nat → Bool
  | _, 0 => true
  | k, m + 1 => okC (cB w k) && okFrom w (k + 1) m
def putTx (w : Int32) : Nat → List Value → Nat → List Value
  | 0, tx, _ => tx
  | k + 1, tx, tl => putTx w k (tx.set tl (cV w k)) (tl + 1)
def putOk (w n : Int32) (tl : Nat) : Bool := decide (¬ n < 1) && decide (¬ 4 < n) && decide (tl + n.toNatClampNeg ≤ 160) && okFrom w 0 n.toNatClampNeg
theorem putTx_len (w : Int32) : ∀ (k : Nat) (tx : List Value) (tl : Nat), (putTx w k tx tl).length = tx.length
  | 0, _, _ => rfl
  | k + 1, tx, tl => by rw [putTx, putTx_len w k]; exact List.length_set
section PUT
variable {d : Nat} {h : aH} {vs tx : List Value} {w c : Int32} {Q : aOut → aH → Prop}
theorem s_byteOf {k : Nat} : aE aM23 d 0 [(0, .int w), (1, .int (Int32.ofNat k))] [] h (aIs (some (.int (cB w k))) h) := by
  refine eS rfl rfl ?_
  refine eS rfl rfl ?_
  refine eS rfl rfl ?_
  refine eS rfl rfl ?_
  refine eS rfl rfl ?_
  refine eS rfl rfl ?_
  refine eS rfl rfl ?_
  exact eR rfl rfl ⟨rfl, rfl⟩
theorem s_isCharacter : aE aM24 d 0 [(0, .int c)] [] h (aIs (some (.int (if okC c then 1 else 0))) h) := by
  have yes : okC c = true → aE aM24 d 18 [(0, .int c)] [] h (aIs (some (.int (if okC c then 1 else 0))) h) := by
    intro hc
    refine eS rfl rfl ?_
    refine eS rfl rfl ?_
    refine eR rfl rfl ⟨?_, rfl⟩
    rw [if_pos hc]
    rfl
  have no : okC c = false → aE aM24 d 22 [(0, .int c)] [] h (aIs (some (.int (if okC c then 1 else 0))) h) := by
    intro hc
    refine eS rfl rfl ?_
    refine eR rfl rfl ⟨?_, rfl⟩
    rw [hc]
    rfl
  refine eS rfl rfl ?_
  refine eS rfl rfl ?_
  refine eIEq rfl rfl (fun h1 => yes (by rw [h1]; rfl)) (fun h1 => ?_)
  have h1 : ¬ c = 10 := h1
  refine eS rfl rfl ?_
  refine eS rfl rfl ?_
  refine eILt rfl rfl (fun h2 => no ?_) (fun h2 => ?_)
  · have h2 : c < 32 := h2
    simp [okC, h1, h2]
  have h2 : ¬ c < 32 := h2
  refine eS rfl rfl ?_
  refine eS rfl rfl ?_
  refine eIGt rfl rfl (fun h3 => no ?_) (fun h3 => yes ?_)
  · have h3 : 126 < c := h3
    simp [okC, h1, h3]
  · have h3 : ¬ 126 < c := h3
    simp only [okC, Bool.or_eq_true, Bool.and_eq_true, decide_eq_true_eq]
    exact Or.inr ⟨h2, h3⟩
theorem s_put_l1 {n : Nat} (hn : n ≤ 4) : ∀ (m k : Nat), k + m = n → (okFrom w k m = true → aE aM22 (d + 1) 50 [(3, .int (Int32.ofNat n)), (0, .ref 20), (1, .int w), (2, .int (Int32.ofNat n))] [] h Q) → (okFrom w k m = false → Q (.inl (some (.int 0))) h) →
    aE aM22 (d + 1) 26 [(3, .int (Int32.ofNat k)), (0, .ref 20), (1, .int w), (2, .int (Int32.ofNat n))] [] h Q
  | 0, k, hk, k1, k2 => by
    obtain rfl : k = n := by omega
    refine eS rfl rfl ?_
    refine eS rfl rfl ?_
    refine eIGe rfl rfl (fun _ => k1 rfl) (fun z => absurd (Int32.le_refl _) z)
  | m + 1, k, hk, k1, k2 => by
    refine eS rfl rfl ?_
    refine eS rfl rfl ?_
    refine eIGe rfl rfl (fun z => absurd ((i32_le (by omega) (by omega)).mp z) (by omega)) (fun _ => ?_)
    refine eS rfl rfl ?_
    refine eS rfl rfl ?_
    refine eC1 rfl rfl rfl ⟨catOk rfl, catOk rfl⟩ s_byteOf ?_
    refine eC1 rfl rfl rfl ⟨catOk rfl, catOk rfl⟩ s_isCharacter ?_
    by_cases hc : okC (cB w k) = true
    · rw [if_pos hc]
      refine eNe rfl rfl (fun _ => ?_) (fun z => absurd z (by decide))
      refine eS rfl rfl ?_
      refine eS rfl rfl ?_
      rw [i32_succ]
      exact s_put_l1 hn m (k + 1) (by omega) (fun z => k1 (by rw [okFrom, hc, z]; rfl)) (fun z => k2 (by rw [okFrom, z, Bool.and_false]))
    · rw [if_neg hc]
      refine eNe rfl rfl (fun z => absurd rfl z) (fun _ => ?_)
      refine eS rfl rfl ?_
      exact eR rfl rfl (k2 (by rw [okFrom, Bool.eq_false_iff.mpr hc]; rfl))
theorem i32_pred {k : Nat} : Int32.ofNat (k + 1) - 1 = Int32.ofNat k := by
  rw [Int32.ofNat_add]
  show Int32.ofNat k + 1 - 1 = _
  rw [Int32.add_sub_cancel]
theorem i32_dec {k : Nat} : Int32.ofNat (k + 1) + Int32.ofInt (-1) = Int32.ofNat (k + 1) - 1 := by
  rw [Int32.sub_eq_add_neg]; rfl
theorem nneg {k : Nat} (hk : k < 2 ^ 31) : ¬ Int32.ofNat k < 0 := fun z => by
  have z : Int32.ofNat k < Int32.ofNat 0 := z
  rw [i32_lt hk (by decide)] at z
  omega
theorem s_put_l2 {n0 : Int32} (h0 : vs[0]? = some (.ref 21)) (hv : vs.length = 8) (hl : 57 ≤ h.length) : ∀ (k : Nat) (tx : List Value) (tl : Nat), k ≤ 4 → tl + k ≤ 160 → tx.length = 160 →
    Q (.inl (some (.int 1))) ((h.set 20 (8, vs.set 1 (.int (Int32.ofNat (tl + k))))).set 21 (1, putTx w k tx tl)) →
    aE aM22 (d + 1) 54 [(3, .int (Int32.ofNat k - 1)), (0, .ref 20), (1, .int w), (2, .int n0)] [] ((h.set 20 (8, vs.set 1 (.int (Int32.ofNat tl)))).set 21 (1, tx)) Q
  | 0, tx, tl, hk, ht, hx, kk => by
    refine eS rfl rfl ?_
    refine eLt rfl rfl (fun _ => ?_) (fun z => absurd (by decide) z)
    refine eS rfl rfl ?_
    exact eR rfl rfl kk
  | k + 1, tx, tl, hk, ht, hx, kk => by
    rw [i32_pred]
    refine eS rfl rfl ?_
    refine eLt rfl rfl (fun z => absurd z (nneg (by omega))) (fun _ => ?_)
    refine eS rfl rfl ?_
    refine eGet rfl ((gN (by decide)).trans (gS (by omega))) rfl ((List.getElem?_set_ne (by decide)).trans h0) ?_
    refine eS rfl rfl ?_
    refine eGet rfl ((gN (by decide)).trans (gS (by omega))) rfl (List.getElem?_set_self (by show 1 < vs.length; omega)) ?_
    refine eS rfl rfl ?_
    refine eS rfl rfl ?_
    refine eC1 rfl rfl rfl ⟨catOk rfl, catOk rfl⟩ s_byteOf ?_
    refine eS rfl rfl ?_
    refine eH (I := .castore) rfl rfl rfl rfl (aWr_at (gS (by rw [List.length_set]; omega)) (by decide) rfl (by omega) (by omega)) ?_
    refine eS rfl rfl ?_
    refine eS rfl rfl ?_
    refine eGet rfl ((gN (by decide)).trans ((gN (by decide)).trans (gS (by omega)))) rfl (List.getElem?_set_self (by show 1 < vs.length; omega)) ?_
    refine eS rfl rfl ?_
    refine eS rfl rfl ?_
    refine ePut rfl ((gN (by decide)).trans ((gN (by decide)).trans (gS (by omega)))) rfl rfl (by decide) (by rw [List.length_set]; show 1 < vs.length; omega) rfl rfl ?_
    refine eS rfl rfl ?_
    refine eS rfl rfl ?_
    rw [uS, uC (by decide), uS, show (vs.set 1 (Value.int (Int32.ofNat tl))).set _ _ = vs.set 1 (.int (Int32.ofNat tl + Int32.ofInt 1)) from List.set_set .., i32_succ]
    have e3 : Int32.ofNat k + Int32.ofInt (-1) = Int32.ofNat k - 1 := by rw [Int32.sub_eq_add_neg]; rfl
    rw [e3]
    refine s_put_l2 h0 hv hl k (tx.set tl (cV w k)) (tl + 1) (by omega) (by omega) (by rw [List.length_set]; exact hx) ?_
    rw [show tl + 1 + k = tl + (k + 1) by omega]
    exact kk
end PUT
