/-- the characters of a text -/
def txOk (S : List Value) (L : Nat) (c : Nat → Nat) : Prop := L ≤ 160 ∧ (∀ j, j < L → S[j]? = some (.int (Int32.ofNat (c j)))) ∧ (∀ j, c j < 256) ∧ ∀ j, L ≤ j → c j = 0
section TKW
variable {scr : List Value} {kd : Nat → Nat} {n d L p : Nat} {S0 : Nat → List Value} {a24 a25 a26 a27 a28 : List Value} {cn en : Int32} {c : Nat → Nat} {Q : aOut → aH → Prop}
theorem spn_0 {f : Nat → Bool} {k at' : Nat} (h : f (c at') = false) : spn c f k at' = at' := by
  cases k with
  | zero => rfl
  | succ k => unfold spn; rw [if_neg (by rw [h]; decide)]
theorem spn_1 {f : Nat → Bool} {k at' : Nat} (h : f (c at') = true) : spn c f (k + 1) at' = spn c f k (at' + 1) := by
  rw [spn, if_pos h]
def twL (c : Nat → Nat) (L p at' : Nat) : aLc := [(6, .int (Int32.ofNat at')), (4, .long (Int64.ofNat (pk 32 (ltr c p (at' - p))))), (7, .int (Int32.ofNat (min L (p + 8)))), (0, .ref 23), (1, .ref 21), (2, .int (Int32.ofNat p)), (3, .int (Int32.ofNat L))]
theorem c_word_loop (hn : 67 ≤ n) (hT : txOk (S0 21) L c) : ∀ (k at' : Nat), p ≤ at' → at' + k = p + 8 → at' ≤ L → aE aM42 (d + 1) 50 (twL c L p (spn c isL k at')) [] (gH scr kd n (tkS S0 a24 a25 a26 a27 a28 cn en)) Q → aE aM42 (d + 1) 16 (twL c L p at') [] (gH scr kd n (tkS S0 a24 a25 a26 a27 a28 cn en)) Q
  | k, at', hp, hk, hL, kk => by
    obtain ⟨t1, t2, t3, t4⟩ := hT
    by_cases hge : min L (p + 8) ≤ at'
    · have e : spn c isL k at' = at' := by
        by_cases hL2 : L ≤ at'
        · exact spn_0 (by rw [t4 at' hL2]; rfl)
        · obtain rfl : k = 0 := by omega
          rfl
      rw [e] at kk
      refine eS rfl rfl ?_
      refine eS rfl rfl ?_
      refine eIGe rfl rfl (fun _ => ?_) (fun z => absurd ((i32_le (a := min L (p + 8)) (b := at') (by omega) (by omega)).mpr hge) z)
      exact kk
    · obtain ⟨k, rfl⟩ : ∃ m, k = m + 1 := ⟨k - 1, by omega⟩
      have rd := t2 at' (by omega)
      by_cases hl : isL (c at') = true
      · rw [spn_1 hl] at kk
        refine eS rfl rfl ?_
        refine eS rfl rfl ?_
        refine eIGe rfl rfl (fun z => absurd ((i32_le (a := min L (p + 8)) (b := at') (by omega) (by omega)).mp z) hge) (fun _ => ?_)
        refine eS rfl rfl ?_
        refine eS rfl rfl ?_
        refine gRd1 hn rfl rfl rfl at' (by omega) rd ?_
        refine eC1 rfl rfl rfl ⟨catOk rfl, catOk rfl⟩ (c_isL (Nat.lt_trans (t3 _) (by decide))) ?_
        rw [if_pos hl]
        refine eEq rfl rfl (fun z => absurd z (by decide)) (fun _ => ?_)
        refine eS rfl rfl ?_
        refine eS rfl rfl ?_
        refine eS rfl rfl ?_
        refine gRd1 hn rfl rfl rfl at' (by omega) rd ?_
        refine eC1 rfl rfl rfl ⟨catOk rfl, catOk rfl⟩ (c_withL (t3 _) hl) ?_
        refine eS rfl rfl ?_
        refine eS rfl rfl ?_
        refine eS rfl rfl ?_
        rw [i32_succ]
        have e2 : 32 * pk 32 (ltr c p (at' - p)) + (c at' - 96) = pk 32 (ltr c p (at' + 1 - p)) := by
          rw [show at' + 1 - p = (at' - p) + 1 by omega, ltr_succ, pk_snoc, show p + (at' - p) = at' by omega]
        rw [e2]
        exact c_word_loop hn ⟨t1, t2, t3, t4⟩ k (at' + 1) (by omega) (by omega) (by omega) kk
      · rw [spn_0 (by rw [Bool.not_eq_true] at hl; exact hl)] at kk
        refine eS rfl rfl ?_
        refine eS rfl rfl ?_
        refine eIGe rfl rfl (fun z => absurd ((i32_le (a := min L (p + 8)) (b := at') (by omega) (by omega)).mp z) hge) (fun _ => ?_)
        refine eS rfl rfl ?_
        refine eS rfl rfl ?_
        refine gRd1 hn rfl rfl rfl at' (by omega) rd ?_
        refine eC1 rfl rfl rfl ⟨catOk rfl, catOk rfl⟩ (c_isL (Nat.lt_trans (t3 _) (by decide))) ?_
        rw [if_neg hl]
        refine eEq rfl rfl (fun _ => ?_) (fun z => (z rfl).elim)
        exact kk
/-- a word is taken -/
theorem c_word {cn : Nat} {en : Int32} (hn : 67 ≤ n) (h29 : S0 29 = aS0 29) (hT : txOk (S0 21) L c) (hp : p < L) (hcn : cn < 160) (h24 : a24.length = 160) (h25 : a25.length = 160) (h26 : a26.length = 160) : aE aM42 (d + 1) 0 [(0, .ref 23), (1, .ref 21), (2, .int (Int32.ofNat p)), (3, .int (Int32.ofNat L))] [] (gH scr kd n (tkS S0 a24 a25 a26 a27 a28 (Int32.ofNat cn) en))
    (aIs (some (.int (Int32.ofNat (spn c isL 8 p)))) (gH scr kd n (tkS S0 (a24.set cn (.int (Int32.ofNat (kwd (ltr c p (spn c isL 8 p - p)))))) (a25.set cn (.int (Int32.ofNat p))) (a26.set cn (.long (Int64.ofNat (pk 32 (ltr c p (spn c isL 8 p - p)))))) a27 a28 (Int32.ofNat (cn + 1)) en))) := by
  have t1 := hT.1
  have hs := spn_le (c := c) (f := isL) 8 p
  have lo : ∀ x ∈ ltr c p (spn c isL 8 p - p), 1 ≤ x ∧ x ≤ 26 := ltr_ok (fun i h1 h2 => spn_all 8 p i h1 (by omega))
  have l8 : (ltr c p (spn c isL 8 p - p)).length ≤ 8 := by rw [ltr_len]; omega
  have hk := c_kow (scr := scr) (kd := kd) (d := d) (a24 := a24) (a25 := a25) (a26 := a26.set cn (.long (Int64.ofNat (pk 32 (ltr c p (spn c isL 8 p - p)))))) (a27 := a27) (a28 := a28) (en := en) hn h29 lo l8 (cn := Int32.ofNat cn) 16 0 rfl
  have hmin : (if Int32.ofNat (p + 8) < Int32.ofNat L then Int32.ofNat (p + 8) else Int32.ofNat L) = Int32.ofNat (min L (p + 8)) := by
    by_cases hc : p + 8 < L
    · rw [if_pos ((i32_lt (by omega) (by omega)).mpr hc), show min L (p + 8) = p + 8 by omega]
    · rw [if_neg (fun y => hc ((i32_lt (by omega) (by omega)).mp y)), show min L (p + 8) = L by omega]
  refine eS rfl rfl ?_
  refine eS rfl rfl ?_
  refine eS rfl rfl ?_
  refine eS rfl rfl ?_
  refine eS rfl rfl ?_
  refine eS rfl rfl ?_
  refine eS rfl rfl ?_
  refine eS rfl rfl ?_
  refine eC1 rfl rfl rfl ⟨catOk rfl, catOk rfl⟩ (s_min) ?_
  rw [show Int32.ofNat p + (Int8.ofInt 8).toInt32 = Int32.ofNat (p + 8) from i32_add, hmin]
  refine eS rfl rfl ?_
  refine eLoc (l' := twL c L p p) rfl ⟨rfl, by rw [Nat.sub_self]; rfl, rfl, rfl, rfl, rfl, rfl, trivial⟩ ?_
  refine c_word_loop hn hT 8 p (Nat.le_refl _) rfl (Nat.le_of_lt hp) ?_
  refine eS rfl rfl ?_
  refine gGet hn rfl rfl rfl rfl ?_
  refine eS rfl rfl ?_
  refine eIGe rfl rfl (fun z => absurd ((i32_le (a := 160) (b := cn) (by omega) (by omega)).mp z) (by omega)) (fun _ => ?_)
  refine eS rfl rfl ?_
  refine gGet hn rfl rfl rfl rfl ?_
  refine eS rfl rfl ?_
  refine gGet hn rfl rfl rfl rfl ?_
  refine eS rfl rfl ?_
  refine gWr2 hn rfl rfl rfl cn (by omega) (by show cn < a26.length; omega) tk_26 ?_
  refine eS rfl rfl ?_
  refine eS rfl rfl ?_
  refine eS rfl rfl ?_
  refine gV1 hn rfl rfl rfl rfl rfl ⟨catOk rfl, catOk rfl⟩ ((eS rfl rfl (eS rfl rfl hk))) ?_
  refine eS rfl rfl ?_
  refine gV1 hn rfl rfl rfl rfl rfl ⟨catOk rfl, catOk rfl⟩ (c_tkadd hn hcn h24 h25) ?_
  refine eS rfl rfl ?_
  exact eR rfl rfl ⟨rfl, rfl⟩
end TKW
