/-! run and interpret, on the model's side -/
section MRUN
variable {scr : List Value} {kd : Nat → Nat} {n N d : Nat} {S S0 : Nat → List Value} {W : Nat → Nat} {P : Nat → Nat → Bool → Prop} {w : Nat → Value} {nn : Int32}
theorem mRep.ended {s : aSt} (hR : mRep S0 w nn s S) : (S 56)[33]? = some (.int s.1) := by
  obtain ⟨hi, un, pcv, a77, a79, a80, a83, rfl, -⟩ := hR
  rfl
def wT (w : Nat → Value) (t : Int32) : Nat → Value := fun i => if i = 0 then .int t else w i
theorem m_run_end {s : aSt} {l : aLc} (hn : 67 ≤ n) (hR : mRep S0 w nn s S) : aE aM205 d 42 ((0, .ref 56) :: l) [] (gH scr kd n S) (aIs (some (.int (ansA s))) (gH scr kd n S)) := by
  have he := hR.ended
  unfold ansA
  by_cases h : s.1 = 0
  · rw [if_pos h]
    refine eS rfl rfl ?_
    refine gGet hn rfl rfl rfl he ?_
    refine eNe rfl rfl (fun z => absurd h z) (fun _ => ?_)
    refine eS rfl rfl ?_
    refine eS rfl rfl ?_
    exact eR rfl rfl ⟨rfl, rfl⟩
  · rw [if_neg h]
    refine eS rfl rfl ?_
    refine gGet hn rfl rfl rfl he ?_
    refine eNe rfl rfl (fun _ => ?_) (fun z => absurd z h)
    refine eS rfl rfl ?_
    refine gGet hn rfl rfl rfl he ?_
    exact eR rfl rfl ⟨rfl, rfl⟩
theorem m_run_loop {F : Nat} (hn : 67 ≤ n) (hP : prgM S0 N W) (hsn : S0 84 = sinL) (hC : cOk W N P) (hF : F ≤ 2000) : ∀ (f c : Nat) (s : aSt) (S : Nat → List Value), c + f = F → okS s → (s.1 = 0 → okL P s) → mRep S0 w nn s S → ∃ S', mRep S0 w nn (runA W f s) S' ∧ aE aM205 (d + 7) 20 [(2, .int (Int32.ofNat c)), (0, .ref 56), (1, .int (Int32.ofNat F))] [] (gH scr kd n S) (aIs (some (.int (ansA (runA W f s)))) (gH scr kd n S'))
  | 0, c, s, S, hc, _, _, hR => by
    obtain rfl : c = F := by omega
    refine ⟨S, hR, ?_⟩
    refine eS rfl rfl ?_
    refine eS rfl rfl ?_
    refine eIGe rfl rfl (fun _ => ?_) (fun z => absurd (Int32.le_refl _) z)
    exact eLoc (l' := [(0, .ref 56)]) rfl ⟨rfl, trivial⟩ (m_run_end hn hR)
  | f + 1, c, s, S, hc, hS, hL, hR => by
    have he := hR.ended
    unfold runA
    by_cases h : s.1 = 0
    · rw [if_pos h]
      obtain ⟨S1, R1, e1⟩ := m_one (d := d) (scr := scr) (kd := kd) hn hP hsn hC hS (hL h) h hR
      have ok := oneA_ok (an := s.1) (pc := s.2.1) (stk := s.2.2.1) (fr := s.2.2.2.1) (par := s.2.2.2.2.1) (vrs := s.2.2.2.2.2.1) (t := s.2.2.2.2.2.2) hC hS (hL h)
      obtain ⟨S2, R2, e2⟩ := m_run_loop hn hP hsn hC hF f (c + 1) (oneA W s) S1 (by omega) ok.1 ok.2 R1
      refine ⟨S2, R2, ?_⟩
      refine eS rfl rfl ?_
      refine eS rfl rfl ?_
      refine eIGe rfl rfl (fun z => absurd ((i32_le (a := F) (b := c) (by omega) (by omega)).mp z) (by omega)) (fun _ => ?_)
      refine eS rfl rfl ?_
      refine gGet hn rfl rfl rfl he ?_
      refine eNe rfl rfl (fun z => absurd h z) (fun _ => ?_)
      refine eS rfl rfl ?_
      refine gV1 hn rfl rfl rfl rfl rfl ⟨catOk rfl, catOk rfl⟩ (e1) ?_
      refine eS rfl rfl ?_
      refine eS rfl rfl ?_
      refine eLoc (l' := [(2, .int (Int32.ofNat (c + 1))), (0, .ref 56), (1, .int (Int32.ofNat F))]) rfl ⟨congrArg (fun z => some (Value.int z)) i32_succ, rfl, rfl, trivial⟩ e2
    · rw [if_neg h]
      refine ⟨S, hR, ?_⟩
      refine eS rfl rfl ?_
      refine eS rfl rfl ?_
      refine eIGe rfl rfl (fun z => absurd ((i32_le (a := F) (b := c) (by omega) (by omega)).mp z) (by omega)) (fun _ => ?_)
      refine eS rfl rfl ?_
      refine gGet hn rfl rfl rfl he ?_
      refine eNe rfl rfl (fun _ => ?_) (fun z => absurd z h)
      exact eLoc (l' := [(0, .ref 56)]) rfl ⟨rfl, trivial⟩ (m_run_end hn hR)
theorem m_takesFuel {s : aSt} (hn : 67 ≤ n) (hP : prgM S0 N W) (hC : cOk W N P) (hL : okL P s) (h0 : s.1 = 0) (hR : mRep S0 w nn s S) : aE aM228 d 0 [(0, .ref 56)] [] (gH scr kd n S) (aIs (some (.int (if tkA W s then 1 else 0))) (gH scr kd n S)) := by
  obtain ⟨an, pc, stk, fr, par, vrs, x, y, hd, co, dn, px⟩ := s
  obtain ⟨hi, un, pcv, a77, a79, a80, a83, e0, q77, q79, q80, q83, q0⟩ := hR
  obtain ⟨l1, l2, l3, l4⟩ := hL
  dsimp only at l1 l2 l3 l4 h0 e0 q0
  subst h0
  obtain ⟨rfl, rfl, rfl, ⟨g, rfl⟩, -⟩ := q0 rfl
  subst e0
  obtain ⟨k1, f1, hPk, hk, hf, hF⟩ := tyF_top l4
  obtain ⟨hpc, hT, hJ⟩ := hC.2 _ _ _ hPk
  have hN := hP.1
  have hg0 := hP.2 pc hpc
  have hw29 : W pc ≤ 29 := by rcases tyW_op hT hk hf l3 with ⟨o, -⟩ | ⟨o, -⟩ | o | o | ⟨o, -⟩ | ⟨o, -⟩ | ⟨o, -⟩ | ⟨-, o, -⟩ | ⟨-, o, -⟩ <;> omega
  by_cases w0 : W pc = 0
  · have e : tkA W (0, pc, stk, fr, par, vrs, x, y, hd, co, dn, px) = true := by
      unfold tkA
      simp [w0]
    rw [e]
    rw [w0] at hg0
    refine eS rfl rfl ?_
    refine gGet hn rfl rfl rfl rfl ?_
    refine eS rfl rfl ?_
    refine gGet hn rfl rfl rfl rfl ?_
    refine gRd0 hn rfl rfl rfl pc (by omega) hg0 ?_
    refine eS rfl rfl ?_
    refine eS rfl rfl ?_
    refine eEq rfl rfl (fun _ => ?_) (fun z => absurd rfl z)
    refine eS rfl rfl ?_
    refine eS rfl rfl ?_
    exact eR rfl rfl ⟨rfl, rfl⟩
  have z0 : ¬ Int32.ofNat (W pc) = 0 := i32_ne0 (by omega) w0
  by_cases w28 : W pc = 28
  · obtain ⟨f0, r, rfl⟩ := stk1 (stk := stk) (by rcases tyW_op hT hk hf l3 with ⟨o, -⟩ | ⟨o, -⟩ | o | o | ⟨o, -⟩ | ⟨o, -⟩ | ⟨o, h1, -⟩ | ⟨-, o, -⟩ | ⟨-, o, -⟩ <;> omega)
    have hl : r.length < 24 := by simp at l1; omega
    have g1 : gF f0 := l2 f0 (by simp)
    have e1 : Int32.ofNat (f0 :: r).length - Int32.ofInt 1 = Int32.ofNat r.length := i32_pre
    rw [show fA (f0 :: r) g = fA r (.float f0 :: g) from fA_cons]
    rw [w28] at hg0 z0
    by_cases c0 : FP.fcmp f0 1065353216 = some .lt
    · have e : tkA W (0, pc, f0 :: r, fr, par, vrs, x, y, hd, co, dn, px) = false := by
        unfold tkA
        simp [w28, c0]
      rw [e]
      refine eS rfl rfl ?_
      refine gGet hn rfl rfl rfl rfl ?_
      refine eS rfl rfl ?_
      refine gGet hn rfl rfl rfl rfl ?_
      refine gRd0 hn rfl rfl rfl pc (by omega) hg0 ?_
      refine eS rfl rfl ?_
      refine eS rfl rfl ?_
      refine eEq rfl rfl (fun z => absurd z z0) (fun _ => ?_)
      refine eS rfl rfl ?_
      refine eS rfl rfl ?_
      refine eINe rfl rfl (fun z => absurd rfl z) (fun _ => ?_)
      refine eS rfl rfl ?_
      refine gGet hn rfl rfl rfl rfl ?_
      refine eS rfl rfl ?_
      refine gGet hn rfl rfl rfl rfl ?_
      refine eS rfl rfl ?_
      refine eS rfl rfl ?_
      rw [e1]
      refine gRd3 hn rfl rfl rfl r.length (by omega) fA_get ?_
      refine eS rfl rfl ?_
      refine eS rfl rfl ?_
      refine eGe rfl rfl (fun z => absurd c0 ((cv_ge g1.nn gF_1.nn).mp z)) (fun _ => ?_)
      refine eS rfl rfl ?_
      refine eS rfl rfl ?_
      refine eINe rfl rfl (fun _ => ?_) (fun z => absurd z (by decide))
      refine eS rfl rfl ?_
      exact eR rfl rfl ⟨rfl, rfl⟩
    · have e : tkA W (0, pc, f0 :: r, fr, par, vrs, x, y, hd, co, dn, px) = true := by
        unfold tkA
        simp [w28, c0]
      rw [e]
      refine eS rfl rfl ?_
      refine gGet hn rfl rfl rfl rfl ?_
      refine eS rfl rfl ?_
      refine gGet hn rfl rfl rfl rfl ?_
      refine gRd0 hn rfl rfl rfl pc (by omega) hg0 ?_
      refine eS rfl rfl ?_
      refine eS rfl rfl ?_
      refine eEq rfl rfl (fun z => absurd z z0) (fun _ => ?_)
      refine eS rfl rfl ?_
      refine eS rfl rfl ?_
      refine eINe rfl rfl (fun z => absurd rfl z) (fun _ => ?_)
      refine eS rfl rfl ?_
      refine gGet hn rfl rfl rfl rfl ?_
      refine eS rfl rfl ?_
      refine gGet hn rfl rfl rfl rfl ?_
      refine eS rfl rfl ?_
      refine eS rfl rfl ?_
      rw [e1]
      refine gRd3 hn rfl rfl rfl r.length (by omega) fA_get ?_
      refine eS rfl rfl ?_
      refine eS rfl rfl ?_
      refine eGe rfl rfl (fun _ => ?_) (fun z => absurd ((cv_ge g1.nn gF_1.nn).mpr c0) z)
      refine eS rfl rfl ?_
      refine eS rfl rfl ?_
      exact eR rfl rfl ⟨rfl, rfl⟩
  have z28 : ¬ Int32.ofNat (W pc) = (Int8.ofInt 28).toInt32 := fun z => w28 ((i32_eq (b := 28) (by omega) (by decide)).mp z)
  by_cases w29 : W pc = 29
  · obtain ⟨f0, r, rfl⟩ := stk1 (stk := stk) (by rcases tyW_op hT hk hf l3 with ⟨o, -⟩ | ⟨o, -⟩ | o | o | ⟨o, -⟩ | ⟨o, h1, -⟩ | ⟨o, h1, -⟩ | ⟨-, o, -⟩ | ⟨-, o, -⟩ <;> omega)
    have hl : r.length < 24 := by simp at l1; omega
    have g1 : gF f0 := l2 f0 (by simp)
    have e1 : Int32.ofNat (f0 :: r).length - Int32.ofInt 1 = Int32.ofNat r.length := i32_pre
    rw [show fA (f0 :: r) g = fA r (.float f0 :: g) from fA_cons]
    rw [w29] at hg0 z0
    by_cases c0 : FP.fcmp f0 0 = some .eq
    · have e : tkA W (0, pc, f0 :: r, fr, par, vrs, x, y, hd, co, dn, px) = false := by
        unfold tkA
        simp [w29, c0]
      rw [e]
      refine eS rfl rfl ?_
      refine gGet hn rfl rfl rfl rfl ?_
      refine eS rfl rfl ?_
      refine gGet hn rfl rfl rfl rfl ?_
      refine gRd0 hn rfl rfl rfl pc (by omega) hg0 ?_
      refine eS rfl rfl ?_
      refine eS rfl rfl ?_
      refine eEq rfl rfl (fun z => absurd z z0) (fun _ => ?_)
      refine eS rfl rfl ?_
      refine eS rfl rfl ?_
      refine eINe rfl rfl (fun _ => ?_) (fun z => absurd z (by decide))
      refine eS rfl rfl ?_
      refine eS rfl rfl ?_
      refine eINe rfl rfl (fun z => absurd rfl z) (fun _ => ?_)
      refine eS rfl rfl ?_
      refine gGet hn rfl rfl rfl rfl ?_
      refine eS rfl rfl ?_
      refine gGet hn rfl rfl rfl rfl ?_
      refine eS rfl rfl ?_
      refine eS rfl rfl ?_
      rw [e1]
      refine gRd3 hn rfl rfl rfl r.length (by omega) fA_get ?_
      refine eS rfl rfl ?_
      refine eS rfl rfl ?_
      refine eEq rfl rfl (fun _ => ?_) (fun z => absurd ((cv_eq g1.nn gF_0.nn).mpr c0) z)
      refine eS rfl rfl ?_
      exact eR rfl rfl ⟨rfl, rfl⟩
    · have e : tkA W (0, pc, f0 :: r, fr, par, vrs, x, y, hd, co, dn, px) = true := by
        unfold tkA
        simp [w29, c0]
      rw [e]
      refine eS rfl rfl ?_
      refine gGet hn rfl rfl rfl rfl ?_
      refine eS rfl rfl ?_
      refine gGet hn rfl rfl rfl rfl ?_
      refine gRd0 hn rfl rfl rfl pc (by omega) hg0 ?_
      refine eS rfl rfl ?_
      refine eS rfl rfl ?_
      refine eEq rfl rfl (fun z => absurd z z0) (fun _ => ?_)
      refine eS rfl rfl ?_
      refine eS rfl rfl ?_
      refine eINe rfl rfl (fun _ => ?_) (fun z => absurd z (by decide))
      refine eS rfl rfl ?_
      refine eS rfl rfl ?_
      refine eINe rfl rfl (fun z => absurd rfl z) (fun _ => ?_)
      refine eS rfl rfl ?_
      refine gGet hn rfl rfl rfl rfl ?_
      refine eS rfl rfl ?_
      refine gGet hn rfl rfl rfl rfl ?_
      refine eS rfl rfl ?_
      refine eS rfl rfl ?_
      rw [e1]
      refine gRd3 hn rfl rfl rfl r.length (by omega) fA_get ?_
      refine eS rfl rfl ?_
      refine eS rfl rfl ?_
      refine eEq rfl rfl (fun z => absurd ((cv_eq g1.nn gF_0.nn).mp z) c0) (fun _ => ?_)
      refine eS rfl rfl ?_
      refine eS rfl rfl ?_
      exact eR rfl rfl ⟨rfl, rfl⟩
  have z29 : ¬ Int32.ofNat (W pc) = (Int8.ofInt 29).toInt32 := fun z => w29 ((i32_eq (b := 29) (by omega) (by decide)).mp z)
  have e : tkA W (0, pc, stk, fr, par, vrs, x, y, hd, co, dn, px) = false := by
    unfold tkA
    simp [w0, w28, w29]
  rw [e]
  refine eS rfl rfl ?_
  refine gGet hn rfl rfl rfl rfl ?_
  refine eS rfl rfl ?_
  refine gGet hn rfl rfl rfl rfl ?_
  refine gRd0 hn rfl rfl rfl pc (by omega) hg0 ?_
  refine eS rfl rfl ?_
  refine eS rfl rfl ?_
  refine eEq rfl rfl (fun z => absurd z z0) (fun _ => ?_)
  refine eS rfl rfl ?_
  refine eS rfl rfl ?_
  refine eINe rfl rfl (fun _ => ?_) (fun z => absurd z z28)
  refine eS rfl rfl ?_
  refine eS rfl rfl ?_
  refine eINe rfl rfl (fun _ => ?_) (fun z => absurd z z29)
  refine eS rfl rfl ?_
  exact eR rfl rfl ⟨rfl, rfl⟩
theorem m_itp_end {s : aSt} {l : aLc} (hn : 67 ≤ n) (hR : mRep S0 w nn s S) : aE aM227 d 86 ((0, .ref 56) :: l) [] (gH scr kd n S) (aIs (some (.int s.1)) (gH scr kd n S)) := by
  have he := hR.ended
  refine eS rfl rfl ?_
  refine gGet hn rfl rfl rfl he ?_
  exact eR rfl rfl ⟨rfl, rfl⟩
theorem m_itp_loop (hn : 67 ≤ n) (hP : prgM S0 N W) (hsn : S0 84 = sinL) (hC : cOk W N P) : ∀ (m c : Nat) (x x' : aSx) (S : Nat → List Value), c + m ≤ 1000000 → itN W m x = x' → x'.2.1 ≠ 0 → x.1 ≤ 2000 → okX P x → mRep S0 w nn x.2 S → ∃ S', mRep S0 w nn x'.2 S' ∧ aE aM227 (d + 7) 26 [(3, .int (Int32.ofNat c)), (2, .int (Int32.ofNat x.1)), (0, .ref 56)] [] (gH scr kd n S) (aIs (some (.int x'.2.1)) (gH scr kd n S')) := by
  intro m
  have out : ∀ (c : Nat) (x : aSx) (S : Nat → List Value), c ≤ 1000000 → x.2.1 ≠ 0 → mRep S0 w nn x.2 S → aE aM227 (d + 7) 26 [(3, .int (Int32.ofNat c)), (2, .int (Int32.ofNat x.1)), (0, .ref 56)] [] (gH scr kd n S) (aIs (some (.int x.2.1)) (gH scr kd n S)) := by
    intro c x S hc h hR
    have he := hR.ended
    refine eS rfl rfl ?_
    refine eS rfl rfl ?_
    refine eIGe rfl rfl (fun z30 => ?_) (fun z30 => ?_)
    · exact eLoc (l' := [(0, .ref 56)]) rfl ⟨rfl, trivial⟩ (m_itp_end hn hR)
    · refine eS rfl rfl ?_
      refine gGet hn rfl rfl rfl he ?_
      refine eNe rfl rfl (fun _ => ?_) (fun z => absurd z h)
      exact eLoc (l' := [(0, .ref 56)]) rfl ⟨rfl, trivial⟩ (m_itp_end hn hR)
  induction m with
  | zero =>
    intro c x x' S hc hi hx hl hok hR
    have hi : x = x' := hi
    subst hi
    exact ⟨S, hR, out c x S (by omega) hx hR⟩
  | succ m IH =>
    intro c x x' S hc hi hx hl hok hR
    by_cases h : x.2.1 = 0
    · rw [itN_s, if_pos h] at hi
      have ok1 := itA_ok hC hok h
      have he := hR.ended
      have ht := m_takesFuel (d := d + 6) (scr := scr) (kd := kd) hn hP hC (hok.2 h) h hR
      obtain ⟨l, s⟩ := x
      dsimp only at h hl hR he ht
      cases hk : tkA W s with
      | true =>
        rw [hk] at ht
        cases l with
        | zero =>
          rw [show itA W (0, s) = (0, 2, s.2) from tk_0 hk] at hi ok1
          rw [itN_end (show (2 : Int32) ≠ 0 by decide)] at hi
          subst hi
          obtain ⟨hiv, un, pcv, a77, a79, a80, a83, rfl, r1, r2, r3, r4, -⟩ := hR
          refine ⟨_, ⟨hiv, un, pcv, a77, a79, a80, a83, rfl, r1, r2, r3, r4, fun z => absurd (show (2 : Int32) = 0 from z) (by decide)⟩, ?_⟩
          have R2 : mRep S0 w nn (2, s.2) (mS S0 (mM w nn pcv 2 hiv un s.2.2.2.2.2.2.1 s.2.2.2.2.2.2.2.1 (Int32.ofNat s.2.2.2.2.2.2.2.2.1) s.2.2.2.2.2.2.2.2.2.1 s.2.2.2.2.2.2.2.2.2.2.1) a77 (s.2.2.2.2.1.map Value.float) a79 a80 (s.2.2.2.2.2.1.map Value.float) (s.2.2.2.2.2.2.2.2.2.2.2.map Value.int) a83) := ⟨hiv, un, pcv, a77, a79, a80, a83, rfl, r1, r2, r3, r4, fun z => absurd (show (2 : Int32) = 0 from z) (by decide)⟩
          have eo := out (c + 1) (0, 2, s.2) _ (by omega) (show (2 : Int32) ≠ 0 by decide) R2
          refine eS rfl rfl ?_
          refine eS rfl rfl ?_
          refine eIGe rfl rfl (fun z => absurd ((i32_le (a := 1000000) (b := c) (by decide) (by omega)).mp z) (by omega)) (fun _ => ?_)
          refine eS rfl rfl ?_
          refine gGet hn rfl rfl rfl he ?_
          refine eNe rfl rfl (fun z => absurd h z) (fun _ => ?_)
          refine eS rfl rfl ?_
          refine gV1 hn rfl rfl rfl rfl rfl ⟨catOk rfl, catOk rfl⟩ (ht) ?_
          refine eS rfl rfl ?_
          refine eS rfl rfl ?_
          refine eEq rfl rfl (fun z => absurd z (by decide)) (fun _ => ?_)
          refine eS rfl rfl ?_
          refine eNe rfl rfl (fun z => absurd rfl z) (fun _ => ?_)
          refine eS rfl rfl ?_
          refine eS rfl rfl ?_
          refine gPut hn rfl rfl rfl rfl rfl rfl rfl mS_56 ?_
          refine eS rfl rfl ?_
          refine eS rfl rfl ?_
          refine eS rfl rfl ?_
          refine eLoc (l' := [(3, .int (Int32.ofNat (c + 1))), (2, .int (Int32.ofNat 0)), (0, .ref 56)]) rfl ⟨congrArg (fun z => some (Value.int z)) i32_succ, rfl, rfl, trivial⟩ ?_
          exact eo
        | succ l1 =>
          have ei : itA W (l1 + 1, s) = (l1, oneA W s) := by
            unfold itA
            rw [if_pos hk]
          obtain ⟨S1, R1, e1⟩ := m_one (d := d) (scr := scr) (kd := kd) hn hP hsn hC hok.1 (hok.2 h) h hR
          rw [ei] at hi ok1
          obtain ⟨S2, R2, e2⟩ := IH (c + 1) (l1, oneA W s) x' S1 (by omega) hi hx (by dsimp only; omega) ok1 R1
          refine ⟨S2, R2, ?_⟩
          refine eS rfl rfl ?_
          refine eS rfl rfl ?_
          refine eIGe rfl rfl (fun z => absurd ((i32_le (a := 1000000) (b := c) (by decide) (by omega)).mp z) (by omega)) (fun _ => ?_)
          refine eS rfl rfl ?_
          refine gGet hn rfl rfl rfl he ?_
          refine eNe rfl rfl (fun z => absurd h z) (fun _ => ?_)
          refine eS rfl rfl ?_
          refine gV1 hn rfl rfl rfl rfl rfl ⟨catOk rfl, catOk rfl⟩ (ht) ?_
          refine eS rfl rfl ?_
          refine eS rfl rfl ?_
          refine eEq rfl rfl (fun z => absurd z (by decide)) (fun _ => ?_)
          refine eS rfl rfl ?_
          refine eNe rfl rfl (fun _ => ?_) (fun z => absurd z (i32_ne0 (by omega) (by omega)))
          refine eS rfl rfl ?_
          refine eEq rfl rfl (fun z => absurd z (by decide)) (fun _ => ?_)
          refine eS rfl rfl ?_
          refine eS rfl rfl ?_
          refine eS rfl rfl ?_
          refine eS rfl rfl ?_
          refine eS rfl rfl ?_
          refine eS rfl rfl ?_
          refine gV1 hn rfl rfl rfl rfl rfl ⟨catOk rfl, catOk rfl⟩ (e1) ?_
          refine eS rfl rfl ?_
          refine eS rfl rfl ?_
          refine eLoc (l' := [(3, .int (Int32.ofNat (c + 1))), (2, .int (Int32.ofNat l1)), (0, .ref 56)]) rfl ⟨congrArg (fun z => some (Value.int z)) i32_succ, congrArg (fun z => some (Value.int z)) i32_pre, rfl, trivial⟩ ?_
          exact e2
      | false =>
        rw [hk] at ht
        have ei : itA W (l, s) = (l, oneA W s) := by
          unfold itA
          rw [hk]
          rfl
        obtain ⟨S1, R1, e1⟩ := m_one (d := d) (scr := scr) (kd := kd) hn hP hsn hC hok.1 (hok.2 h) h hR
        rw [ei] at hi ok1
        obtain ⟨S2, R2, e2⟩ := IH (c + 1) (l, oneA W s) x' S1 (by omega) hi hx hl ok1 R1
        refine ⟨S2, R2, ?_⟩
        refine eS rfl rfl ?_
        refine eS rfl rfl ?_
        refine eIGe rfl rfl (fun z => absurd ((i32_le (a := 1000000) (b := c) (by decide) (by omega)).mp z) (by omega)) (fun _ => ?_)
        refine eS rfl rfl ?_
        refine gGet hn rfl rfl rfl he ?_
        refine eNe rfl rfl (fun z => absurd h z) (fun _ => ?_)
        refine eS rfl rfl ?_
        refine gV1 hn rfl rfl rfl rfl rfl ⟨catOk rfl, catOk rfl⟩ (ht) ?_
        refine eS rfl rfl ?_
        refine eS rfl rfl ?_
        refine eEq rfl rfl (fun _ => ?_) (fun z => absurd rfl z)
        refine eS rfl rfl ?_
        refine eEq rfl rfl (fun _ => ?_) (fun z => absurd rfl z)
        refine eS rfl rfl ?_
        refine eS rfl rfl ?_
        refine eS rfl rfl ?_
        refine gV1 hn rfl rfl rfl rfl rfl ⟨catOk rfl, catOk rfl⟩ (e1) ?_
        refine eS rfl rfl ?_
        refine eS rfl rfl ?_
        refine eLoc (l' := [(3, .int (Int32.ofNat (c + 1))), (2, .int (Int32.ofNat l)), (0, .ref 56)]) rfl ⟨congrArg (fun z => some (Value.int z)) i32_succ, rfl, rfl, trivial⟩ ?_
        exact e2
    · rw [itN_end h] at hi
      subst hi
      exact ⟨S, hR, out c x S (by omega) h hR⟩
end MRUN
