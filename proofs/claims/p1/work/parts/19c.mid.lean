/-! pixel, value, and the calls that are refused -/
section MID
variable {d pa : Nat} {h : aH} {vs rd pr mc tu pi pl vl : List Value} {a b n : Int32}
/-- the picture's index -/
theorem i32_bnd {a : Int32} {n : Nat} (h1 : ¬ a < 0) (h2 : ¬ Int32.ofNat n < a) (hn : n < 2 ^ 31) : ∃ k : Nat, k ≤ n ∧ a = Int32.ofNat k := by
  rw [Int32.lt_iff_toInt_lt] at h1 h2
  rw [Int32.toInt_ofNat_small hn] at h2
  have h1 : ¬ a.toInt < 0 := h1
  refine ⟨a.toInt.toNat, by omega, ?_⟩
  apply Int32.toInt_inj.mp
  rw [Int32.toInt_ofNat_small (by omega)]
  omega
theorem inB_at (hb : inB a b = true) : ∃ p q : Nat, p ≤ 31 ∧ q ≤ 23 ∧ a = Int32.ofNat p ∧ b = Int32.ofNat q := by
  simp only [inB, Bool.and_eq_true, decide_eq_true_eq] at hb
  obtain ⟨⟨⟨h1, h2⟩, h3⟩, h4⟩ := hb
  obtain ⟨p, hp, rfl⟩ := i32_bnd (n := 31) h1 h2 (by decide)
  obtain ⟨q, hq, rfl⟩ := i32_bnd (n := 23) h3 h4 (by decide)
  exact ⟨p, q, hp, hq, rfl, rfl⟩
theorem pix_a {p q : Nat} : Int32.ofNat q * (Int8.ofInt 32).toInt32 + Int32.ofNat p = Int32.ofNat (32 * q + p) := by
  rw [show (Int8.ofInt 32).toInt32 = Int32.ofNat 32 from by decide, ← Int32.ofNat_mul, ← Int32.ofNat_add, Nat.mul_comm]
theorem pix_b {p q : Nat} : (Int8.ofInt 32).toInt32 * Int32.ofNat q + Int32.ofNat p = Int32.ofNat (32 * q + p) := by
  rw [show (Int8.ofInt 32).toInt32 = Int32.ofNat 32 from by decide, ← Int32.ofNat_mul, ← Int32.ofNat_add]
/-- what pixel answers out of a picture's row -/
def pixOf (pl : List Value) (a b : Int32) : Int32 := if inB a b then (match pl[(32 * b.toNatClampNeg + a.toNatClampNeg)]? with | some (.int x) => x | _ => 0) else -1
def aInts (pl : List Value) : Prop := ∀ (j : Nat) (v : Value), pl[j]? = some v → ∃ x, v = .int x
theorem i32_clamp {k : Nat} (hk : k < 2 ^ 31) : (Int32.ofNat k).toNatClampNeg = k := by
  rw [Int32.toNatClampNeg, Int32.toInt_ofNat_small hk]
  rfl
theorem s_colourAt (h42 : h[42]? = some (22, pi)) (hp : pi[0]? = some (.ref 43)) (h43 : h[43]? = some (0, pl)) (hn : pl.length = 768) (hI : aInts pl) : aE aM29 (d + 1) 0 [(0, .ref 42), (1, .int a), (2, .int b)] [] h (aIs (some (.int (pixOf pl a b))) h) := by
  refine eS rfl rfl ?_
  refine eS rfl rfl ?_
  refine eC1 rfl rfl rfl ⟨catOk rfl, catOk rfl⟩ s_holds ?_
  by_cases hb : inB a b = true
  · obtain ⟨p, q, hp1, hq1, rfl, rfl⟩ := inB_at hb
    have hlt : 32 * q + p < pl.length := by omega
    obtain ⟨x, hx⟩ := hI _ _ (List.getElem?_eq_getElem hlt)
    have hx' : pl[32 * q + p]? = some (.int x) := by rw [← hx]; exact List.getElem?_eq_getElem hlt
    rw [if_pos hb]
    refine eEq rfl rfl (fun z => absurd z (by decide)) (fun _ => ?_)
    refine eS rfl rfl ?_
    refine eGet rfl h42 rfl hp ?_
    refine eS rfl rfl ?_
    refine eS rfl rfl ?_
    refine eS rfl rfl ?_
    refine eS rfl rfl ?_
    refine eS rfl rfl ?_
    rw [pix_a]
    refine eH (I := .iaload) rfl rfl rfl rfl (aRd_at h43 rfl (by omega) hx') ?_
    refine eS rfl rfl ?_
    refine eR rfl rfl ⟨?_, rfl⟩
    rw [pixOf, if_pos hb, i32_clamp (by omega), i32_clamp (by omega), hx']
  · rw [if_neg hb]
    refine eEq rfl rfl (fun _ => ?_) (fun z => absurd rfl z)
    refine eS rfl rfl ?_
    refine eR rfl rfl ⟨?_, rfl⟩
    rw [pixOf, if_neg hb]
    rfl
theorem s_pixel (h20 : h[20]? = some (8, vs)) (h4 : vs[4]? = some (.ref 35)) (h35 : h[35]? = some (18, mc)) (h7 : mc[7]? = some (.ref 41)) (h41 : h[41]? = some (20, tu)) (ht : tu[0]? = some (.ref 42)) (h42 : h[42]? = some (22, pi)) (hp : pi[0]? = some (.ref 43)) (h43 : h[43]? = some (0, pl)) (hn : pl.length = 768) (hI : aInts pl) :
    aE aM28 (d + 2) 0 [(0, .ref 20), (1, .int a), (2, .int b)] [] h (aIs (some (.int (pixOf pl a b))) h) := by
  refine eS rfl rfl ?_
  refine eGet rfl h20 rfl h4 ?_
  refine eGet rfl h35 rfl h7 ?_
  refine eGet rfl h41 rfl ht ?_
  refine eS rfl rfl ?_
  refine eS rfl rfl ?_
  refine eV1 rfl rfl h42 rfl rfl ⟨catOk rfl, catOk rfl⟩ (s_colourAt h42 hp h43 hn hI) ?_
  exact eR rfl rfl ⟨rfl, rfl⟩
theorem s_mpixel (hl : 57 ≤ h.length) (h56 : h[56]? = some (36, vs)) (hv : vs.length = 49) (hp : vs[46]? = some (.ref 82)) (h82 : h[82]? = some (0, pl)) (hn : pl.length = 768) (hI : aInts pl) :
    aE aM229 (d + 2) 0 [(0, .ref 56), (1, .int a), (2, .int b)] [] h (aIs (some (.int (pixOf pl a b))) (mT h vs 0)) := by
  refine eS rfl rfl ?_
  refine eS rfl rfl ?_
  refine ePut rfl h56 rfl rfl (by decide) (by show 0 < vs.length; omega) rfl rfl ?_
  refine eS rfl rfl ?_
  refine eS rfl rfl ?_
  refine eC1 rfl rfl rfl ⟨catOk rfl, catOk rfl⟩ s_inside ?_
  by_cases hb : inB a b = true
  · obtain ⟨p, q, hp1, hq1, rfl, rfl⟩ := inB_at hb
    have hlt : 32 * q + p < pl.length := by omega
    obtain ⟨x, hx⟩ := hI _ _ (List.getElem?_eq_getElem hlt)
    have hx' : pl[32 * q + p]? = some (.int x) := by rw [← hx]; exact List.getElem?_eq_getElem hlt
    rw [if_pos hb]
    refine eEq rfl rfl (fun z => absurd z (by decide)) (fun _ => ?_)
    refine eS rfl rfl ?_
    refine eGet rfl (gS (by omega)) rfl (sT (by decide) hp) ?_
    refine eS rfl rfl ?_
    refine eS rfl rfl ?_
    refine eS rfl rfl ?_
    refine eS rfl rfl ?_
    refine eS rfl rfl ?_
    rw [pix_b]
    refine eH (I := .iaload) rfl rfl rfl rfl (aRd_at ((gN (by decide)).trans h82) rfl (by omega) hx') ?_
    refine eS rfl rfl ?_
    refine eR rfl rfl ⟨?_, rfl⟩
    rw [pixOf, if_pos hb, i32_clamp (by omega), i32_clamp (by omega), hx']
  · rw [if_neg hb]
    refine eEq rfl rfl (fun _ => ?_) (fun z => absurd rfl z)
    refine eS rfl rfl ?_
    refine eR rfl rfl ⟨?_, rfl⟩
    rw [pixOf, if_neg hb]
    rfl
/-- value -/
theorem s_value_bad (hl : 20 ≤ h.length) (hb : a < 0 ∨ 7 < a) : aE aM161 d 0 [(0, .ref 20), (1, .int a)] [] h (aTh 13 h) := by
  have th : aE aM161 d 10 [(1, .int a), (0, .ref 20)] [] h (aTh 13 h) := eThrow rfl rfl hl rfl rfl rfl rfl rfl
  have th : aE aM161 d 10 [(0, .ref 20), (1, .int a)] [] h (aTh 13 h) := eThrow rfl rfl hl rfl rfl rfl rfl rfl
  refine eS rfl rfl ?_
  refine eLt rfl rfl (fun _ => th) (fun h1 => ?_)
  refine eS rfl rfl ?_
  refine eS rfl rfl ?_
  refine eILt rfl rfl (fun h2 => ?_) (fun _ => th)
  refine (hb.elim h1 (fun z => ?_)).elim
  rw [Int32.lt_iff_toInt_lt] at h2 z
  have h2 : a.toInt < 8 := h2
  have z : 7 < a.toInt := z
  omega
theorem s_value_ok {k : Nat} {f : UInt32} (hk : k < 8) (h20 : h[20]? = some (8, vs)) (h4 : vs[4]? = some (.ref 35)) (h35 : h[35]? = some (18, mc)) (h2 : mc[2]? = some (.ref 37)) (h37 : h[37]? = some (3, vl)) (hv : vl[k]? = some (.float f)) : aE aM161 d 0 [(0, .ref 20), (1, .int (Int32.ofNat k))] [] h (aIs (some (.float f)) h) := by
  refine eS rfl rfl ?_
  refine eLt rfl rfl (fun z => ?_) (fun _ => ?_)
  · have z : Int32.ofNat k < Int32.ofNat 0 := z
    rw [i32_lt (by omega) (by omega)] at z
    omega
  refine eS rfl rfl ?_
  refine eS rfl rfl ?_
  refine eILt rfl rfl (fun _ => ?_) (fun z => absurd ((i32_lt (a := k) (b := 8) (by omega) (by omega)).mpr hk) z)
  refine eS rfl rfl ?_
  refine eGet rfl h20 rfl h4 ?_
  refine eGet rfl h35 rfl h2 ?_
  refine eS rfl rfl ?_
  refine eH (I := .faload) rfl rfl rfl rfl (aRd_at h37 rfl (by omega) hv) ?_
  exact eR rfl rfl ⟨rfl, rfl⟩
theorem s_mvalue_bad (hl : 57 ≤ h.length) (h56 : h[56]? = some (36, vs)) (hv : vs.length = 49) (hb : a < 0 ∨ 7 < a) : aE aM233 (d + 1) 0 [(0, .ref 56), (1, .int a)] [] h (aIs (some (.float (FP.i2f 0))) (mT h vs 1)) := by
  refine eS rfl rfl ?_
  refine eS rfl rfl ?_
  refine eS rfl rfl ?_
  refine eC1 rfl rfl rfl ⟨catOk rfl, catOk rfl⟩ (s_outside d a 0 7 h) ?_
  rw [outB_1 hb]
  refine eEq rfl rfl (fun z => absurd z (by decide)) (fun _ => ?_)
  refine eS rfl rfl ?_
  refine eS rfl rfl ?_
  refine eV1 rfl rfl h56 rfl rfl ⟨catOk rfl, catOk rfl⟩ (s_refuse hl h56 hv) ?_
  refine eS rfl rfl ?_
  exact eR rfl rfl ⟨rfl, rfl⟩
theorem s_mvalue_ok {k : Nat} {f : UInt32} (hk : k < 8) (hl : 57 ≤ h.length) (h56 : h[56]? = some (36, vs)) (hn : vs.length = 49) (h40 : vs[40]? = some (.ref 81)) (h81 : h[81]? = some (3, vl)) (hv : vl[k]? = some (.float f)) : aE aM233 (d + 1) 0 [(0, .ref 56), (1, .int (Int32.ofNat k))] [] h (aIs (some (.float f)) (mT h vs 0)) := by
  refine eS rfl rfl ?_
  refine eS rfl rfl ?_
  refine eS rfl rfl ?_
  refine eC1 rfl rfl rfl ⟨catOk rfl, catOk rfl⟩ (s_outside d (Int32.ofNat k) 0 7 h) ?_
  rw [outB_0 (fun z => by
    have z : Int32.ofNat k < Int32.ofNat 0 := z
    rw [i32_lt (by omega) (by omega)] at z
    omega) (fun z => by
    have z : Int32.ofNat 7 < Int32.ofNat k := z
    rw [i32_lt (by omega) (by omega)] at z
    omega)]
  refine eEq rfl rfl (fun _ => ?_) (fun z => absurd rfl z)
  refine eS rfl rfl ?_
  refine eS rfl rfl ?_
  refine ePut rfl h56 rfl rfl (by decide) (by show 0 < vs.length; omega) rfl rfl ?_
  refine eS rfl rfl ?_
  refine eGet rfl (gS (by omega)) rfl (sT (by decide) h40) ?_
  refine eS rfl rfl ?_
  refine eH (I := .faload) rfl rfl rfl rfl (aRd_at ((gN (by decide)).trans h81) rfl (by omega) hv) ?_
  exact eR rfl rfl ⟨rfl, rfl⟩
end MID
