/-! the model cuts a text -/
def mtS (S0 : Nat → List Value) (l : List Value) (A : Nat → List Value) : Nat → List Value := fun q => if q = 56 then l else if (Nat.ble 58 q && Nat.ble q 75) = true then A q else S0 q
def mK (w : Nat → Value) (L : Nat) (wr tk : Int32) (rest : List Value) : List Value := [w 0, .ref 57, .int (Int32.ofNat L), .int wr, .int tk, .ref 58, .ref 59, .ref 60, .ref 61, w 9, .ref 62, w 11, w 12, .ref 63, w 14, .ref 64, .ref 65, w 17, .ref 66, .ref 67, .ref 68, w 21, .ref 69, .ref 70, .ref 71, w 25, .ref 72, .ref 73, .ref 74, .ref 75] ++ rest
section MTK
variable {scr : List Value} {kd : Nat → Nat} {n d L p : Nat} {S0 A : Nat → List Value} {w : Nat → Value} {wr tk v : Int32} {rest l x y : List Value} {c : Nat → Nat} {Q : aOut → aH → Prop}
theorem mt_up {p : Nat} (hp : (Nat.ble 58 p && Nat.ble p 75) = true) : aUp (mtS S0 l A) p x = mtS S0 l (aUp A p x) := by
  funext q
  show (if q = p then x else if q = 56 then l else if (Nat.ble 58 q && Nat.ble q 75) = true then A q else S0 q) = (if q = 56 then l else if (Nat.ble 58 q && Nat.ble q 75) = true then (if q = p then x else A q) else S0 q)
  by_cases e : q = p
  · subst e
    rw [if_pos rfl, if_neg (fun z => by rw [z] at hp; cases hp), if_pos hp, if_pos rfl]
  · rw [if_neg e, if_neg e]
theorem chr_ok : ∀ n, n < 256 → narrow FieldType.char (.int (Int32.ofNat n)) = .int (Int32.ofNat n) := by decide +kernel
theorem eRch {M : aMt} {d pc : Nat} {ls : aLc} {h : aH} {lk : aLk} {res : aOut → aH → Prop} {x : Int32} (hrt : M.rt = some .char) (hf : aFind M.cd pc = some (.ireturn, lk)) (hx : narrow .char (.int x) = .int x) (hq : res (.inl (some (.int x))) h) : aE M d pc ls [.int x] h res := by
  have e : aRet .ireturn M.rt [.int x] = some (some (.int x)) := by
    rw [hrt]
    exact if_pos hx
  refine eR hf ?_ hq
  show (match aRet .ireturn M.rt [.int x] with | some v => (some (.inr (.inl (.inl v, h))) : Option aRes) | none => none) = _
  rw [e]
theorem mt_56 : aUp (mtS S0 l A) 56 x = mtS S0 x A := by
  funext q
  unfold aUp mtS
  by_cases e : q = 56
  · rw [if_pos e, if_pos e]
  · rw [if_neg e, if_neg e, if_neg e]
theorem mt_wr : aUp (mtS S0 (mK w L wr tk rest) A) 56 ((mK w L wr tk rest).set 3 (.int v)) = mtS S0 (mK w L v tk rest) A := mt_56
theorem mt_tk : aUp (mtS S0 (mK w L wr tk rest) A) 56 ((mK w L wr tk rest).set 4 (.int v)) = mtS S0 (mK w L wr v rest) A := mt_56
theorem m_look {q : Nat} (hn : 67 ≤ n) (hT : txOk (S0 57) L c) (hq : q < 2 ^ 20) : aE aM170 d 0 [(0, .ref 56), (1, .int (Int32.ofNat q))] [] (gH scr kd n (mtS S0 (mK w L wr tk rest) A)) (aIs (some (.int (Int32.ofNat (c q)))) (gH scr kd n (mtS S0 (mK w L wr tk rest) A))) := by
  have t1 := hT.1
  by_cases hge : L ≤ q
  · rw [hT.2.2.2 q hge]
    refine eS rfl rfl ?_
    refine eS rfl rfl ?_
    refine gGet hn rfl rfl rfl rfl ?_
    refine eIGe rfl rfl (fun _ => ?_) (fun z => absurd ((i32_le (a := L) (b := q) (by omega) (by omega)).mpr hge) z)
    refine eS rfl rfl ?_
    exact eR rfl rfl ⟨rfl, rfl⟩
  · have rd := hT.2.1 q (by omega)
    refine eS rfl rfl ?_
    refine eS rfl rfl ?_
    refine gGet hn rfl rfl rfl rfl ?_
    refine eIGe rfl rfl (fun z => absurd ((i32_le (a := L) (b := q) (by omega) (by omega)).mp z) hge) (fun _ => ?_)
    refine eS rfl rfl ?_
    refine gGet hn rfl rfl rfl rfl ?_
    refine eS rfl rfl ?_
    refine gRd1 hn rfl rfl rfl q (by omega) rd ?_
    refine eS rfl rfl ?_
    exact eRch rfl rfl (chr_ok _ (hT.2.2.1 q)) ⟨rfl, rfl⟩
theorem m_let_loop {cn : Nat} (hn : 67 ≤ n) (hT : txOk (S0 57) L c) (hcn : cn < 162) (h60 : (A 60).length = 162) (hp : p < 2 ^ 10) : ∀ (k q : Nat), p ≤ q → q + k = p + 8 → (∀ A2, A2 = aUp A 60 ((A 60).set cn (.long (Int64.ofNat (pk 27 (ltr c p (spn c isL k q - p)))))) → aE aM174 (d + 1) 60 [(2, .int (Int32.ofNat (spn c isL k q))), (0, .ref 56), (1, .int (Int32.ofNat p))] [] (gH scr kd n (mtS S0 (mK w L wr (Int32.ofNat cn) rest) A2)) Q) → aE aM174 (d + 1) 2 [(2, .int (Int32.ofNat q)), (0, .ref 56), (1, .int (Int32.ofNat p))] [] (gH scr kd n (mtS S0 (mK w L wr (Int32.ofNat cn) rest) (aUp A 60 ((A 60).set cn (.long (Int64.ofNat (pk 27 (ltr c p (q - p))))))))) Q
  | 0, q, hq, hk, kk => by
    refine eS rfl rfl ?_
    refine eS rfl rfl ?_
    refine eS rfl rfl ?_
    refine eS rfl rfl ?_
    rw [show Int32.ofNat p + (Int8.ofInt 8).toInt32 = Int32.ofNat (p + 8) from i32_add]
    refine eIGe rfl rfl (fun _ => ?_) (fun z => absurd ((i32_le (a := p + 8) (b := q) (by omega) (by omega)).mpr (by omega)) z)
    exact kk _ rfl
  | k + 1, q, hq, hk, kk => by
    have c256 := hT.2.2.1 q
    have cz : c q < 2 ^ 31 := Nat.lt_trans c256 (by decide)
    by_cases hl : isL (c q) = true
    · rw [spn_1 hl] at kk
      have ge : 97 ≤ c q := by
        unfold isL at hl
        simp only [Bool.and_eq_true, decide_eq_true_eq] at hl
        exact hl.1
      have e2 : 27 * pk 27 (ltr c p (q - p)) + c q - 96 = pk 27 (ltr c p (q + 1 - p)) := by
        rw [show q + 1 - p = (q - p) + 1 by omega, ltr_succ, pk_snoc, show p + (q - p) = q by omega]
        omega
      refine eS rfl rfl ?_
      refine eS rfl rfl ?_
      refine eS rfl rfl ?_
      refine eS rfl rfl ?_
      rw [show Int32.ofNat p + (Int8.ofInt 8).toInt32 = Int32.ofNat (p + 8) from i32_add]
      refine eIGe rfl rfl (fun z => absurd ((i32_le (a := p + 8) (b := q) (by omega) (by omega)).mp z) (by omega)) (fun _ => ?_)
      refine eS rfl rfl ?_
      refine eS rfl rfl ?_
      refine gV1 hn rfl rfl rfl rfl rfl ⟨catOk rfl, catOk rfl⟩ (m_look hn hT (by omega)) ?_
      refine eC1 rfl rfl rfl ⟨catOk rfl, catOk rfl⟩ (m_isL cz) ?_
      rw [if_pos hl]
      refine eEq rfl rfl (fun z => absurd z (by decide)) (fun _ => ?_)
      refine eS rfl rfl ?_
      refine gGet hn rfl rfl rfl rfl ?_
      refine eS rfl rfl ?_
      refine gGet hn rfl rfl rfl rfl ?_
      refine eS rfl rfl ?_
      refine eS rfl rfl ?_
      refine gGet hn rfl rfl rfl rfl ?_
      refine eS rfl rfl ?_
      refine gGet hn rfl rfl rfl rfl ?_
      refine gRd2 hn rfl rfl rfl cn (by omega) (st_at (by omega)) ?_
      refine eS rfl rfl ?_
      refine eS rfl rfl ?_
      refine eS rfl rfl ?_
      refine gV1 hn rfl rfl rfl rfl rfl ⟨catOk rfl, catOk rfl⟩ (m_look hn hT (by omega)) ?_
      refine eS rfl rfl ?_
      refine eS rfl rfl ?_
      refine eS rfl rfl ?_
      refine eS rfl rfl ?_
      rw [show (27 : Int64) * Int64.ofNat (pk 27 (ltr c p (q - p))) + (Int32.ofNat (c q)).toInt64 - 96 = Int64.ofNat (pk 27 (ltr c p (q + 1 - p))) from by
        show Int64.ofNat 27 * Int64.ofNat (pk 27 (ltr c p (q - p))) + (Int32.ofNat (c q)).toInt64 - Int64.ofNat 96 = _
        rw [ci_ok _ c256, i64_mul, i64_add, i64_sub (by omega), e2]]
      refine gWr2 hn rfl rfl rfl cn (by omega) (by show cn < ((A 60).set cn _).length; rw [List.length_set]; omega) ((mt_up rfl).trans (congrArg (mtS S0 (mK w L wr (Int32.ofNat cn) rest)) (aUp_aUp.trans (congrArg (aUp A 60) (List.set_set ..))))) ?_
      refine eS rfl rfl ?_
      refine eS rfl rfl ?_
      rw [i32_succ]
      exact m_let_loop hn hT hcn h60 hp k (q + 1) (by omega) (by omega) kk
    · rw [spn_0 (by rw [Bool.not_eq_true] at hl; exact hl)] at kk
      refine eS rfl rfl ?_
      refine eS rfl rfl ?_
      refine eS rfl rfl ?_
      refine eS rfl rfl ?_
      rw [show Int32.ofNat p + (Int8.ofInt 8).toInt32 = Int32.ofNat (p + 8) from i32_add]
      refine eIGe rfl rfl (fun z => absurd ((i32_le (a := p + 8) (b := q) (by omega) (by omega)).mp z) (by omega)) (fun _ => ?_)
      refine eS rfl rfl ?_
      refine eS rfl rfl ?_
      refine gV1 hn rfl rfl rfl rfl rfl ⟨catOk rfl, catOk rfl⟩ (m_look hn hT (by omega)) ?_
      refine eC1 rfl rfl rfl ⟨catOk rfl, catOk rfl⟩ (m_isL cz) ?_
      rw [if_neg hl]
      refine eEq rfl rfl (fun _ => ?_) (fun z => (z rfl).elim)
      exact kk _ rfl
theorem m_letters {cn : Nat} (hn : 67 ≤ n) (hT : txOk (S0 57) L c) (hcn : cn < 162) (h60 : (A 60).length = 162) (hz : (A 60)[cn]? = some (.long 0)) (hp : p < 2 ^ 10) : aE aM174 (d + 1) 0 [(0, .ref 56), (1, .int (Int32.ofNat p))] [] (gH scr kd n (mtS S0 (mK w L wr (Int32.ofNat cn) rest) A))
    (aIs (some (.int (Int32.ofNat (spn c isL 8 p)))) (gH scr kd n (mtS S0 (mK w L (if isL (c (spn c isL 8 p)) = true then Int32.ofNat (spn c isL 8 p) else wr) (Int32.ofNat cn) rest) (aUp A 60 ((A 60).set cn (.long (Int64.ofNat (pk 27 (ltr c p (spn c isL 8 p - p)))))))))) := by
  have sl := spn_le (c := c) (f := isL) 8 p
  have e0 : A = aUp A 60 ((A 60).set cn (.long (Int64.ofNat (pk 27 (ltr c p (p - p)))))) := by
    rw [Nat.sub_self, show (A 60).set cn (.long (Int64.ofNat (pk 27 (ltr c p 0)))) = A 60 from set_same hz]
    funext q
    unfold aUp
    by_cases e : q = 60
    · rw [if_pos e, e]
    · rw [if_neg e]
  refine eS rfl rfl ?_
  refine eS rfl rfl ?_
  have lp := m_let_loop (d := d) (w := w) (wr := wr) (rest := rest) (scr := scr) (kd := kd) (Q := aIs (some (.int (Int32.ofNat (spn c isL 8 p)))) (gH scr kd n (mtS S0 (mK w L (if isL (c (spn c isL 8 p)) = true then Int32.ofNat (spn c isL 8 p) else wr) (Int32.ofNat cn) rest) (aUp A 60 ((A 60).set cn (.long (Int64.ofNat (pk 27 (ltr c p (spn c isL 8 p - p)))))))))) hn hT hcn h60 hp 8 p (Nat.le_refl _) rfl (fun A2 hA2 => ?_)
  · rw [← e0] at lp
    exact lp
  rw [← hA2]
  by_cases hl : isL (c (spn c isL 8 p)) = true
  · rw [if_pos hl]
    refine eS rfl rfl ?_
    refine eS rfl rfl ?_
    refine gV1 hn rfl rfl rfl rfl rfl ⟨catOk rfl, catOk rfl⟩ (m_look hn hT (by omega)) ?_
    refine eC1 rfl rfl rfl ⟨catOk rfl, catOk rfl⟩ (m_isL (Nat.lt_trans (hT.2.2.1 _) (by decide))) ?_
    rw [if_pos hl]
    refine eEq rfl rfl (fun z => absurd z (by decide)) (fun _ => ?_)
    refine eS rfl rfl ?_
    refine eS rfl rfl ?_
    refine gPut hn rfl rfl rfl rfl rfl rfl rfl mt_wr ?_
    refine eS rfl rfl ?_
    exact eR rfl rfl ⟨rfl, rfl⟩
  · rw [if_neg hl]
    refine eS rfl rfl ?_
    refine eS rfl rfl ?_
    refine gV1 hn rfl rfl rfl rfl rfl ⟨catOk rfl, catOk rfl⟩ (m_look hn hT (by omega)) ?_
    refine eC1 rfl rfl rfl ⟨catOk rfl, catOk rfl⟩ (m_isL (Nat.lt_trans (hT.2.2.1 _) (by decide))) ?_
    rw [if_neg hl]
    refine eEq rfl rfl (fun _ => ?_) (fun z => (z rfl).elim)
    refine eS rfl rfl ?_
    exact eR rfl rfl ⟨rfl, rfl⟩
theorem m_dig_loop {cn f K v0 : Nat} (hn : 67 ≤ n) (hT : txOk (S0 57) L c) (hcn : cn < 162) (h60 : (A 60).length = 162) (hf : f < 2 ^ 10) (hK : K < 100) : ∀ (k q : Nat), f ≤ q → q + k = f + K → aE aM176 (d + 1) 2 [(3, .int (Int32.ofNat q)), (0, .ref 56), (1, .int (Int32.ofNat f)), (2, .int (Int32.ofNat K))] [] (gH scr kd n (mtS S0 (mK w L wr (Int32.ofNat cn) rest) (aUp A 60 ((A 60).set cn (.long (Int64.ofNat (dgt c v0 f (q - f)))))))) (aIs (some (.int (Int32.ofNat (spn c isD k q)))) (gH scr kd n (mtS S0 (mK w L wr (Int32.ofNat cn) rest) (aUp A 60 ((A 60).set cn (.long (Int64.ofNat (dgt c v0 f (spn c isD k q - f)))))))))
  | 0, q, hq, hk => by
    show aE _ _ _ _ _ _ (aIs (some (.int (Int32.ofNat q))) (gH scr kd n (mtS S0 (mK w L wr (Int32.ofNat cn) rest) (aUp A 60 ((A 60).set cn (.long (Int64.ofNat (dgt c v0 f (q - f)))))))))
    refine eS rfl rfl ?_
    refine eS rfl rfl ?_
    refine eS rfl rfl ?_
    refine eS rfl rfl ?_
    rw [i32_add]
    refine eIGe rfl rfl (fun _ => ?_) (fun z => absurd ((i32_le (a := f + K) (b := q) (by omega) (by omega)).mpr (by omega)) z)
    refine eS rfl rfl ?_
    exact eR rfl rfl ⟨rfl, rfl⟩
  | k + 1, q, hq, hk => by
    have c256 := hT.2.2.1 q
    have cz : c q < 2 ^ 31 := Nat.lt_trans c256 (by decide)
    by_cases hl : isD (c q) = true
    · rw [spn_1 hl]
      have ge : 48 ≤ c q := by
        unfold isD at hl
        simp only [Bool.and_eq_true, decide_eq_true_eq] at hl
        exact hl.1
      have e2 : 10 * dgt c v0 f (q - f) + c q - 48 = dgt c v0 f (q + 1 - f) := by
        rw [show q + 1 - f = (q - f) + 1 by omega, dgt, show f + (q - f) = q by omega]
        omega
      refine eS rfl rfl ?_
      refine eS rfl rfl ?_
      refine eS rfl rfl ?_
      refine eS rfl rfl ?_
      rw [i32_add]
      refine eIGe rfl rfl (fun z => absurd ((i32_le (a := f + K) (b := q) (by omega) (by omega)).mp z) (by omega)) (fun _ => ?_)
      refine eS rfl rfl ?_
      refine eS rfl rfl ?_
      refine gV1 hn rfl rfl rfl rfl rfl ⟨catOk rfl, catOk rfl⟩ (m_look hn hT (by omega)) ?_
      refine eC1 rfl rfl rfl ⟨catOk rfl, catOk rfl⟩ (m_isD cz) ?_
      rw [if_pos hl]
      refine eEq rfl rfl (fun z => absurd z (by decide)) (fun _ => ?_)
      refine eS rfl rfl ?_
      refine gGet hn rfl rfl rfl rfl ?_
      refine eS rfl rfl ?_
      refine gGet hn rfl rfl rfl rfl ?_
      refine eS rfl rfl ?_
      refine eS rfl rfl ?_
      refine gGet hn rfl rfl rfl rfl ?_
      refine eS rfl rfl ?_
      refine gGet hn rfl rfl rfl rfl ?_
      refine gRd2 hn rfl rfl rfl cn (by omega) (st_at (by omega)) ?_
      refine eS rfl rfl ?_
      refine eS rfl rfl ?_
      refine eS rfl rfl ?_
      refine gV1 hn rfl rfl rfl rfl rfl ⟨catOk rfl, catOk rfl⟩ (m_look hn hT (by omega)) ?_
      refine eS rfl rfl ?_
      refine eS rfl rfl ?_
      refine eS rfl rfl ?_
      refine eS rfl rfl ?_
      rw [show (10 : Int64) * Int64.ofNat (dgt c v0 f (q - f)) + (Int32.ofNat (c q)).toInt64 - 48 = Int64.ofNat (dgt c v0 f (q + 1 - f)) from by
        show Int64.ofNat 10 * Int64.ofNat (dgt c v0 f (q - f)) + (Int32.ofNat (c q)).toInt64 - Int64.ofNat 48 = _
        rw [ci_ok _ c256, i64_mul, i64_add, i64_sub (by omega), e2]]
      refine gWr2 hn rfl rfl rfl cn (by omega) (by show cn < ((A 60).set cn _).length; rw [List.length_set]; omega) ((mt_up rfl).trans (congrArg (mtS S0 (mK w L wr (Int32.ofNat cn) rest)) (aUp_aUp.trans (congrArg (aUp A 60) (List.set_set ..))))) ?_
      refine eS rfl rfl ?_
      refine eS rfl rfl ?_
      rw [i32_succ]
      exact m_dig_loop hn hT hcn h60 hf hK k (q + 1) (by omega) (by omega)
    · rw [spn_0 (by rw [Bool.not_eq_true] at hl; exact hl)]
      refine eS rfl rfl ?_
      refine eS rfl rfl ?_
      refine eS rfl rfl ?_
      refine eS rfl rfl ?_
      rw [i32_add]
      refine eIGe rfl rfl (fun z => absurd ((i32_le (a := f + K) (b := q) (by omega) (by omega)).mp z) (by omega)) (fun _ => ?_)
      refine eS rfl rfl ?_
      refine eS rfl rfl ?_
      refine gV1 hn rfl rfl rfl rfl rfl ⟨catOk rfl, catOk rfl⟩ (m_look hn hT (by omega)) ?_
      refine eC1 rfl rfl rfl ⟨catOk rfl, catOk rfl⟩ (m_isD cz) ?_
      rw [if_neg hl]
      refine eEq rfl rfl (fun _ => ?_) (fun z => (z rfl).elim)
      refine eS rfl rfl ?_
      exact eR rfl rfl ⟨rfl, rfl⟩
theorem m_digits {cn f K v0 : Nat} (hn : 67 ≤ n) (hT : txOk (S0 57) L c) (hcn : cn < 162) (h60 : (A 60).length = 162) (hf : f < 2 ^ 10) (hK : K < 100) (hz : (A 60)[cn]? = some (.long (Int64.ofNat v0))) : aE aM176 (d + 1) 0 [(0, .ref 56), (1, .int (Int32.ofNat f)), (2, .int (Int32.ofNat K))] [] (gH scr kd n (mtS S0 (mK w L wr (Int32.ofNat cn) rest) A)) (aIs (some (.int (Int32.ofNat (spn c isD K f)))) (gH scr kd n (mtS S0 (mK w L wr (Int32.ofNat cn) rest) (aUp A 60 ((A 60).set cn (.long (Int64.ofNat (dgt c v0 f (spn c isD K f - f))))))))) := by
  have e0 : A = aUp A 60 ((A 60).set cn (.long (Int64.ofNat (dgt c v0 f (f - f))))) := by
    rw [Nat.sub_self, show (A 60).set cn (.long (Int64.ofNat (dgt c v0 f 0))) = A 60 from set_same hz]
    funext q
    unfold aUp
    by_cases e : q = 60
    · rw [if_pos e, e]
    · rw [if_neg e]
  have lp := m_dig_loop (d := d) (w := w) (wr := wr) (rest := rest) (scr := scr) (kd := kd) (v0 := v0) hn hT hcn h60 hf hK K f (Nat.le_refl _) rfl
  rw [← e0] at lp
  exact eS rfl rfl (eS rfl rfl lp)
end MTK
