/-! the class takes tokens from a text -/
theorem i64_mul {a b : Nat} : Int64.ofNat a * Int64.ofNat b = Int64.ofNat (a * b) := (Int64.ofNat_mul ..).symm
theorem i64_add {a b : Nat} : Int64.ofNat a + Int64.ofNat b = Int64.ofNat (a + b) := (Int64.ofNat_add ..).symm
theorem i64_sub {a b : Nat} (h : b ≤ a) : Int64.ofNat a - Int64.ofNat b = Int64.ofNat (a - b) := (Int64.ofNat_sub a b h).symm
theorem i64_eq {a b : Nat} (ha : a < 2 ^ 63) (hb : b < 2 ^ 63) : Int64.ofNat a = Int64.ofNat b ↔ a = b := by
  refine ⟨fun e => ?_, fun e => by rw [e]⟩
  have h1 := Int64.toInt_ofNat_of_lt ha
  have h2 := Int64.toInt_ofNat_of_lt hb
  rw [e, h2] at h1
  omega
theorem lg_eq {a b : Int64} : lg_cmp a b = 0 ↔ a = b := by
  refine ⟨fun e => ?_, fun e => by rw [e]; exact lg_cmp_self b⟩
  unfold lg_cmp at e
  split at e
  · cases e
  · split at e
    · next z => exact z
    · cases e
theorem wl_ok : ∀ z, z < 256 → isL z = true → ((Int32.ofNat z - (Int8.ofInt 97).toInt32) + Int32.ofInt 1).toInt64 = Int64.ofNat (z - 96) := by decide +kernel
theorem ci_ok : ∀ z, z < 256 → (Int32.ofNat z).toInt64 = Int64.ofNat z := by decide +kernel
def tkS (S0 : Nat → List Value) (a24 a25 a26 a27 a28 : List Value) (cn en : Int32) : Nat → List Value := fun q => if q = 23 then [.ref 24, .ref 25, .ref 26, .ref 27, .ref 28, .ref 29, .int cn, .int en] else if q = 24 then a24 else if q = 25 then a25 else if q = 26 then a26 else if q = 27 then a27 else if q = 28 then a28 else S0 q
section TKS
variable {S0 : Nat → List Value} {a24 a25 a26 a27 a28 x : List Value} {cn en v : Int32}
theorem tk_24 : aUp (tkS S0 a24 a25 a26 a27 a28 cn en) 24 x = tkS S0 x a25 a26 a27 a28 cn en := by
  funext q
  unfold aUp tkS
  by_cases e : q = 24 <;> simp [e]
theorem tk_25 : aUp (tkS S0 a24 a25 a26 a27 a28 cn en) 25 x = tkS S0 a24 x a26 a27 a28 cn en := by
  funext q
  unfold aUp tkS
  by_cases e : q = 25 <;> simp [e]
theorem tk_26 : aUp (tkS S0 a24 a25 a26 a27 a28 cn en) 26 x = tkS S0 a24 a25 x a27 a28 cn en := by
  funext q
  unfold aUp tkS
  by_cases e : q = 26 <;> simp [e]
theorem tk_27 : aUp (tkS S0 a24 a25 a26 a27 a28 cn en) 27 x = tkS S0 a24 a25 a26 x a28 cn en := by
  funext q
  unfold aUp tkS
  by_cases e : q = 27 <;> simp [e]
theorem tk_28 : aUp (tkS S0 a24 a25 a26 a27 a28 cn en) 28 x = tkS S0 a24 a25 a26 a27 x cn en := by
  funext q
  unfold aUp tkS
  by_cases e : q = 28 <;> simp [e]
theorem tk_c : aUp (tkS S0 a24 a25 a26 a27 a28 cn en) 23 (([.ref 24, .ref 25, .ref 26, .ref 27, .ref 28, .ref 29, .int cn, .int en] : List Value).set 6 (.int v)) = tkS S0 a24 a25 a26 a27 a28 v en := by
  funext q
  unfold aUp tkS
  by_cases e : q = 23 <;> simp [e]
theorem tk_e : aUp (tkS S0 a24 a25 a26 a27 a28 cn en) 23 (([.ref 24, .ref 25, .ref 26, .ref 27, .ref 28, .ref 29, .int cn, .int en] : List Value).set 7 (.int v)) = tkS S0 a24 a25 a26 a27 a28 cn v := by
  funext q
  unfold aUp tkS
  by_cases e : q = 23 <;> simp [e]
end TKS
section TKC
variable {scr : List Value} {kd : Nat → Nat} {n d L : Nat} {S0 : Nat → List Value} {a24 a25 a26 a27 a28 : List Value} {en : Int32} {c : Nat → Nat} {Q : aOut → aH → Prop} {h : aH}
theorem c_withL {a z : Nat} (hz : z < 256) (hl : isL z = true) : aE aM14 d 0 [(0, .long (Int64.ofNat a)), (2, .int (Int32.ofNat z))] [] h (aIs (some (.long (Int64.ofNat (32 * a + (z - 96))))) h) := by
  refine eS rfl rfl ?_
  refine eS rfl rfl ?_
  refine eS rfl rfl ?_
  refine eS rfl rfl ?_
  refine eS rfl rfl ?_
  refine eS rfl rfl ?_
  refine eS rfl rfl ?_
  refine eS rfl rfl ?_
  refine eS rfl rfl ?_
  refine eS rfl rfl ?_
  refine eR rfl rfl ⟨?_, rfl⟩
  show (Sum.inl (some (Value.long (Int64.ofNat 32 * Int64.ofNat a + ((Int32.ofNat z - (Int8.ofInt 97).toInt32) + Int32.ofInt 1).toInt64))) : aOut) = _
  rw [wl_ok z hz hl, i64_mul, i64_add]
theorem c_tkadd {cn : Nat} {k p : Int32} (hn : 67 ≤ n) (hc : cn < 160) (h24 : a24.length = 160) (h25 : a25.length = 160) : aE aM45 d 0 [(0, .ref 23), (1, .int k), (2, .int p)] [] (gH scr kd n (tkS S0 a24 a25 a26 a27 a28 (Int32.ofNat cn) en)) (aIs none (gH scr kd n (tkS S0 (a24.set cn (.int k)) (a25.set cn (.int p)) a26 a27 a28 (Int32.ofNat (cn + 1)) en))) := by
  refine eS rfl rfl ?_
  refine gGet hn rfl rfl rfl rfl ?_
  refine eS rfl rfl ?_
  refine eIGe rfl rfl (fun z => absurd ((i32_le (a := 160) (b := cn) (by omega) (by omega)).mp z) (by omega)) (fun _ => ?_)
  refine eS rfl rfl ?_
  refine gGet hn rfl rfl rfl rfl ?_
  refine eS rfl rfl ?_
  refine gGet hn rfl rfl rfl rfl ?_
  refine eS rfl rfl ?_
  refine gWr0 hn rfl rfl rfl cn (by omega) (by show cn < a24.length; omega) tk_24 ?_
  refine eS rfl rfl ?_
  refine gGet hn rfl rfl rfl rfl ?_
  refine eS rfl rfl ?_
  refine gGet hn rfl rfl rfl rfl ?_
  refine eS rfl rfl ?_
  refine gWr0 hn rfl rfl rfl cn (by omega) (by show cn < a25.length; omega) tk_25 ?_
  refine eS rfl rfl ?_
  refine eS rfl rfl ?_
  refine gGet hn rfl rfl rfl rfl ?_
  refine eS rfl rfl ?_
  refine eS rfl rfl ?_
  refine gPut hn rfl rfl rfl rfl rfl rfl rfl tk_c ?_
  refine eR rfl rfl ⟨rfl, ?_⟩
  rw [i32_succ]
  rfl
theorem c_kow (hn : 67 ≤ n) (h29 : S0 29 = aS0 29) {l : List Nat} (hl : ∀ x ∈ l, 1 ≤ x ∧ x ≤ 26) (h8 : l.length ≤ 8) {cn : Int32} : ∀ (k i : Nat), i + k = 16 → aE aM44 d 2 [(3, .int (Int32.ofNat i)), (0, .ref 23), (1, .long (Int64.ofNat (pk 32 l)))] [] (gH scr kd n (tkS S0 a24 a25 a26 a27 a28 cn en)) (aIs (some (.int (Int32.ofNat ((((kwds.drop i).find? (fun q => q.1 == l)).map (fun q => q.2)).getD 30)))) (gH scr kd n (tkS S0 a24 a25 a26 a27 a28 cn en)))
  | k, i, hk => by
    have e29 : aS0 29 = kwds.map (fun q => Value.long (Int64.ofNat (pk 32 q.1))) := by decide +kernel
    have f29 : tkS S0 a24 a25 a26 a27 a28 cn en 29 = kwds.map (fun q => Value.long (Int64.ofNat (pk 32 q.1))) := h29.trans e29
    have e1 : (gH scr kd n (tkS S0 a24 a25 a26 a27 a28 cn en))[1]? = some (0, kwds.map (fun q => Value.int (Int32.ofNat q.2))) := rfl
    have l16 : kwds.length = 16 := rfl
    match k, hk with
    | 0, hk =>
      obtain rfl : i = 16 := by omega
      refine eS rfl rfl ?_
      refine eS rfl rfl ?_
      refine gGet hn rfl rfl rfl rfl ?_
      refine gLen hn rfl rfl rfl ?_
      rw [f29, List.length_map, l16]
      refine eIGe rfl rfl (fun _ => ?_) (fun z => (z (by decide)).elim)
      refine eS rfl rfl ?_
      exact eR rfl rfl ⟨rfl, rfl⟩
    | k + 1, hk =>
      have hi : i < kwds.length := by omega
      have wv : ∃ w v, kwds[i]? = some (w, v) ∧ kwds.drop i = (w, v) :: kwds.drop (i + 1) := ⟨_, _, List.getElem?_eq_getElem hi, (List.drop_eq_getElem_cons hi)⟩
      obtain ⟨w, v, hw, hd⟩ := wv
      have hwl : (∀ x ∈ w, 1 ≤ x ∧ x ≤ 26) ∧ w.length ≤ 8 := (show ∀ q ∈ kwds, (∀ x ∈ q.1, 1 ≤ x ∧ x ≤ 26) ∧ q.1.length ≤ 8 by decide) (w, v) (List.mem_of_getElem? hw)
      have b1 := pk_lt8 (b := 32) (Or.inr rfl) hwl.1 hwl.2
      have b2 := pk_lt8 (b := 32) (Or.inr rfl) hl h8
      have r29 : (tkS S0 a24 a25 a26 a27 a28 cn en 29)[i]? = some (.long (Int64.ofNat (pk 32 w))) := by rw [f29, List.getElem?_map, hw]; rfl
      rw [hd, List.find?_cons]
      refine eS rfl rfl ?_
      refine eS rfl rfl ?_
      refine gGet hn rfl rfl rfl rfl ?_
      refine gLen hn rfl rfl rfl ?_
      rw [f29, List.length_map, l16]
      refine eIGe rfl rfl (fun z => absurd ((i32_le (a := 16) (b := i) (by omega) (by omega)).mp z) (by omega)) (fun _ => ?_)
      refine eS rfl rfl ?_
      refine gGet hn rfl rfl rfl rfl ?_
      refine eS rfl rfl ?_
      refine gRd2 hn rfl rfl rfl i (by omega) r29 ?_
      refine eS rfl rfl ?_
      refine eS rfl rfl ?_
      by_cases e : w = l
      · subst e
        refine eNe rfl rfl (fun z => absurd (lg_eq.mpr rfl) z) (fun _ => ?_)
        refine eS rfl rfl ?_
        refine eS rfl rfl ?_
        refine eH rfl rfl rfl rfl (aRd_at e1 rfl (by omega) (by rw [List.getElem?_map, hw]; rfl)) ?_
        exact eR rfl rfl ⟨by rw [beq_self_eq_true]; rfl, rfl⟩
      · have ne : (w == l) = false := by rw [beq_eq_false_iff_ne]; exact e
        rw [show (((w, v) : List Nat × Nat).1 == l) = false from ne]
        refine eNe rfl rfl (fun _ => ?_) (fun z => absurd ((i64_eq (a := pk 32 w) (b := pk 32 l) (by omega) (by omega)).mp (lg_eq.mp z)) (fun y => e (pk_inj (by decide) hwl.1 hl y)))
        refine eS rfl rfl ?_
        refine eS rfl rfl ?_
        rw [i32_succ]
        exact c_kow hn h29 hl h8 k (i + 1) (by omega)
end TKC
