/-! repeat, walked -/
section WREP
variable {scr : List Value} {kd : Nat → Nat} {n pa N d tc q cc : Nat} {S S0 : Nat → List Value} {W : Nat → Nat} {P : Nat → Nat → Bool → Prop} {T : Nat → Nat × Nat × Nat} {D : Nat → Nat → Prop} {R : Value → Nat → Nat → Nat → Prop} {st : Int32} {f : Bool} {kind num frm to : Nat} {body : Value} {he : Int32} {els nxt : Value} {nm : Int64} {nos : Value} {tp : Int32} {dfn : Value} {cp : Int32} {a e m k k' : Nat} {x : aSx}
theorem wRes.mono {b own : Nat} {Z Z' : (Nat → List Value) → Prop} (h : wRes W S0 pa cc x b own Z) (hZ : ∀ S', Z S' → Z' S') : wRes W S0 pa cc x b own Z' := h.pre (m0 := 0) rfl (Nat.le_refl _) rfl (by omega) hZ
theorem top_step (hC : cOk W N P) (hok : okX P x) (h0 : x.2.1 = 0) (hpc : x.2.2.1 = e) (hw : W e = 28 ∨ W e = 29) : ∃ f0 r, x.2.2.2.1 = f0 :: r ∧ gF f0 ∧ (f0 :: r).length ≤ 24 := by
  obtain ⟨l1, l2, l3, l4⟩ := hok.2 h0
  obtain ⟨k1, f1, hP, hk, hf, hF⟩ := tyF_top l4
  obtain ⟨hpc', hT, hJ⟩ := hC.2 _ _ _ hP
  rw [hpc] at hT
  have h1 : 1 ≤ x.2.2.2.1.length := by
    rcases tyW_op hT hk hf l3 with ⟨o, -⟩ | ⟨o, -⟩ | o | o | ⟨o, -⟩ | ⟨o, h1, -⟩ | ⟨o, h1, -⟩ | ⟨-, o, -⟩ | ⟨-, o, -⟩
    all_goals omega
  obtain ⟨f0, r, hs⟩ := stk1 h1
  exact ⟨f0, r, hs, l2 f0 (by rw [hs]; simp), by rw [← hs]; exact l1⟩
theorem rep_out {l : Nat} {f0 : UInt32} {r par vrs : List UInt32} {fr : aFr} {t : aTu} (hw : W e = 28) (hlt : FP.fcmp f0 1065353216 = some .lt) : itA W (l, 0, e, f0 :: r, fr, par, vrs, t) = (l, 0, W (e + 1), r, fr, par, vrs, t) := by
  unfold itA
  rw [if_neg]
  · rw [oneA_rep hw]
    unfold turnA
    rw [if_pos hlt]
    rfl
  · unfold tkA
    simp only [Bool.or_eq_true, Bool.and_eq_true, beq_iff_eq, Bool.not_eq_true', decide_eq_false_iff_not]
    rintro ((z | z) | z)
    · omega
    · exact z.2 hlt
    · omega
theorem rep_tk {f0 : UInt32} {r par vrs : List UInt32} {fr : aFr} {t : aTu} (hw : W e = 28) (hlt : ¬ FP.fcmp f0 1065353216 = some .lt) : tkA W (0, e, f0 :: r, fr, par, vrs, t) = true := by
  unfold tkA
  simp only [Bool.or_eq_true, Bool.and_eq_true, beq_iff_eq, Bool.not_eq_true', decide_eq_false_iff_not]
  exact Or.inl (Or.inr ⟨hw, hlt⟩)
theorem rep_in {l : Nat} {f0 : UInt32} {r par vrs : List UInt32} {fr : aFr} {t : aTu} (hw : W e = 28) (hlt : ¬ FP.fcmp f0 1065353216 = some .lt) : itA W (l + 1, 0, e, f0 :: r, fr, par, vrs, t) = (l, 0, e + 2, (turnA f0 r).2, fr, par, vrs, t) := by
  unfold itA
  rw [if_pos (rep_tk hw hlt)]
  dsimp only
  rw [oneA_rep hw]
  unfold turnA
  rw [if_neg hlt]
  rfl
theorem tk_0 {s : aSt} (h : tkA W s = true) : itA W (0, s) = (0, 2, s.2) := by
  unfold itA
  rw [if_pos h]
theorem rep_exit {kk : Nat} (hn : 67 ≤ n) (hk : kk ≤ 2001) (hst : st = 0 ∨ st = 1) (h : x.2.1 ≠ 0 ∨ st = 1) (hR : wRep S0 pa cc x st S) : aE aM156 (d + 6) 11 [(2, .int (Int32.ofNat kk)), (0, .ref 45), (1, .ref q)] [] (gH scr kd n S) (aIs none (gH scr kd n S)) := by
  have hg := w_goesOn (d := d + 4) (scr := scr) (kd := kd) hn hR hst
  rw [if_neg (fun z => h.elim (fun y => y z.1) (fun y => absurd (y.symm.trans z.2) (by decide)))] at hg
  refine eS rfl rfl ?_
  refine eS rfl rfl ?_
  refine eIGt rfl rfl (fun z15 => ?_) (fun z15 => ?_)
  · exact eR rfl rfl ⟨rfl, rfl⟩
  · refine eS rfl rfl ?_
    refine gV1 hn rfl rfl rfl rfl rfl ⟨catOk rfl, catOk rfl⟩ (hg) ?_
    refine eEq rfl rfl (fun _ => ?_) (fun z => absurd rfl z)
    exact eR rfl rfl ⟨rfl, rfl⟩
theorem rep_loop {j : Nat} (hn : 67 ≤ n) (hC : cOk W N P) (h87 : 87 ≤ q) (hq : (gH scr kd n S0)[q]? = some (30, stV 28 num frm to body he els nxt nm nos tp dfn cp)) (hB : blkOk scr kd n W P S0 pa R cc (d + 4)) (hR1 : ∀ v k a b, R v k a b → v.category = 1) (hw : W e = 28) (hm : W (e + 1) = m) (hb : R body (k + 1) (e + 2) j) (hj : W j = 14) (hj1 : W (j + 1) = e) : ∀ (l kk : Nat) (x : aSx) (S : Nat → List Value), x.1 ≤ l → kk + x.1 ≤ 2000 → okX P x → x.2.1 = 0 → x.2.2.1 = e → x.2.2.2.2.1.length = cc → wRep S0 pa cc x 0 S →
    wRes W S0 pa cc x m 1 (fun S' => aE aM156 (d + 6) 11 [(2, .int (Int32.ofNat kk)), (0, .ref 45), (1, .ref q)] [] (gH scr kd n S) (aIs none (gH scr kd n S'))) := by
  have hv1 := hR1 _ _ _ _ hb
  intro l
  induction l with
  | zero =>
    intro kk x S hl hkk hok h0 hpc hcc hR
    obtain ⟨f0, r, hs, gf0, h24⟩ := top_step hC hok h0 hpc (Or.inl hw)
    have hg := w_goesOn (d := d + 4) (scr := scr) (kd := kd) hn hR (Or.inl rfl)
    obtain ⟨l, an, pc, stk, fr, par, vrs, t⟩ := x
    dsimp only at hl hkk h0 hpc hs hg
    subst h0 hpc hs
    rw [if_pos ⟨rfl, rfl⟩] at hg
    obtain rfl : l = 0 := by omega
    by_cases hlt : FP.fcmp f0 1065353216 = some .lt
    · obtain ⟨S2, R2, e2⟩ := w_turn (d := d + 4) (scr := scr) (kd := kd) (pc' := m) hn h24 gf0 hR
      rw [show turnA f0 r = (false, r) from if_pos hlt] at R2 e2
      refine (wRes.here (S0 := S0) (own := 0) (Z := fun S' => S' = S2) (Or.inl rfl) (Or.inr (Or.inl ⟨rfl, rfl⟩)) R2 rfl).pre (m0 := 1) ((itN_1 rfl).trans ((rep_out hw hlt).trans (by rw [hm]))) (Nat.le_refl _) rfl (by omega) (fun S' z => ?_)
      subst z
      refine eS rfl rfl ?_
      refine eS rfl rfl ?_
      refine eIGt rfl rfl (fun z => absurd ((i32_lt (a := 2000) (b := kk) (by decide) (by omega)).mp z) (by omega)) (fun _ => ?_)
      refine eS rfl rfl ?_
      refine gV1 hn rfl rfl rfl rfl rfl ⟨catOk rfl, catOk rfl⟩ (hg) ?_
      refine eEq rfl rfl (fun z => absurd z (by decide)) (fun _ => ?_)
      refine eS rfl rfl ?_
      refine gGet hn rfl rfl rfl (by rw [hR.k45]; rfl) ?_
      refine gV1 hn rfl rfl rfl rfl rfl ⟨catOk rfl, catOk rfl⟩ (e2) ?_
      refine eEq rfl rfl (fun _ => ?_) (fun z => absurd rfl z)
      exact eR rfl rfl ⟨rfl, rfl⟩
    · obtain ⟨S2, R2, e2⟩ := w_turn (d := d + 4) (scr := scr) (kd := kd) (pc' := pc) hn h24 gf0 hR
      rw [show turnA f0 r = (true, FP.fsub f0 1065353216 :: r) from if_neg hlt] at R2 e2
      obtain ⟨S3, R3, e3⟩ := w_takesFuel_0 (d := d + 5) (scr := scr) (kd := kd) hn R2
      have R3' : wRep S0 pa cc (0, 2, pc, f0 :: r, fr, par, vrs, t) 0 S3 := by
        obtain ⟨ht, pcv, a36, a39, a40, a44, rc, z0, z1, z2, z3, z4, z5, -⟩ := R3
        exact ⟨ht, pcv, a36, a39, a40, a44, rc, z0, z1, z2, z3, z4, z5, fun y => absurd (show (2 : Int32) = 0 from y) (by decide)⟩
      refine (wRes.here (S0 := S0) (own := 0) (Z := fun S' => S' = S3) (Or.inl rfl) (Or.inl (show (2 : Int32) ≠ 0 by decide)) R3' rfl).pre (m0 := 1) ((itN_1 rfl).trans (tk_0 (rep_tk hw hlt))) (Nat.le_refl _) rfl (by omega) (fun S' z => ?_)
      subst z
      have hx := rep_exit (d := d) (q := q) (scr := scr) (kd := kd) (kk := kk + 1) hn (by omega) (Or.inl rfl) (Or.inl (show (2 : Int32) ≠ 0 by decide)) R3'
      refine eS rfl rfl ?_
      refine eS rfl rfl ?_
      refine eIGt rfl rfl (fun z => absurd ((i32_lt (a := 2000) (b := kk) (by decide) (by omega)).mp z) (by omega)) (fun _ => ?_)
      refine eS rfl rfl ?_
      refine gV1 hn rfl rfl rfl rfl rfl ⟨catOk rfl, catOk rfl⟩ (hg) ?_
      refine eEq rfl rfl (fun z => absurd z (by decide)) (fun _ => ?_)
      refine eS rfl rfl ?_
      refine gGet hn rfl rfl rfl (by rw [hR.k45]; rfl) ?_
      refine gV1 hn rfl rfl rfl rfl rfl ⟨catOk rfl, catOk rfl⟩ (e2) ?_
      refine eEq rfl rfl (fun z => absurd (show (1 : Int32) = 0 from z) (by decide)) (fun _ => ?_)
      refine eS rfl rfl ?_
      refine gV1 hn rfl rfl rfl rfl rfl ⟨catOk rfl, catOk rfl⟩ (e3) ?_
      refine eEq rfl rfl (fun _ => ?_) (fun z => absurd rfl z)
      refine eS rfl rfl ?_
      refine eS rfl rfl ?_
      refine eLoc (l' := [(2, .int (Int32.ofNat (kk + 1))), (0, .ref 45), (1, .ref q)]) rfl ⟨congrArg (fun z => some (Value.int z)) i32_succ, rfl, rfl, trivial⟩ ?_
      exact hx
  | succ l IH =>
    intro kk x S hl hkk hok h0 hpc hcc hR
    obtain ⟨f0, r, hs, gf0, h24⟩ := top_step hC hok h0 hpc (Or.inl hw)
    have hg := w_goesOn (d := d + 4) (scr := scr) (kd := kd) hn hR (Or.inl rfl)
    obtain ⟨lx, an, pc, stk, fr, par, vrs, t⟩ := x
    dsimp only at hl hkk h0 hpc hs hg
    subst h0 hpc hs
    rw [if_pos ⟨rfl, rfl⟩] at hg
    by_cases hlt : FP.fcmp f0 1065353216 = some .lt
    · obtain ⟨S2, R2, e2⟩ := w_turn (d := d + 4) (scr := scr) (kd := kd) (pc' := m) hn h24 gf0 hR
      rw [show turnA f0 r = (false, r) from if_pos hlt] at R2 e2
      refine (wRes.here (S0 := S0) (own := 0) (Z := fun S' => S' = S2) (Or.inl rfl) (Or.inr (Or.inl ⟨rfl, rfl⟩)) R2 rfl).pre (m0 := 1) ((itN_1 rfl).trans ((rep_out hw hlt).trans (by rw [hm]))) (Nat.le_refl _) rfl (by omega) (fun S' z => ?_)
      subst z
      refine eS rfl rfl ?_
      refine eS rfl rfl ?_
      refine eIGt rfl rfl (fun z => absurd ((i32_lt (a := 2000) (b := kk) (by decide) (by omega)).mp z) (by omega)) (fun _ => ?_)
      refine eS rfl rfl ?_
      refine gV1 hn rfl rfl rfl rfl rfl ⟨catOk rfl, catOk rfl⟩ (hg) ?_
      refine eEq rfl rfl (fun z => absurd z (by decide)) (fun _ => ?_)
      refine eS rfl rfl ?_
      refine gGet hn rfl rfl rfl (by rw [hR.k45]; rfl) ?_
      refine gV1 hn rfl rfl rfl rfl rfl ⟨catOk rfl, catOk rfl⟩ (e2) ?_
      refine eEq rfl rfl (fun _ => ?_) (fun z => absurd rfl z)
      exact eR rfl rfl ⟨rfl, rfl⟩
    · cases lx with
      | zero => exact IH kk _ S (Nat.zero_le _) hkk hok rfl rfl hcc hR
      | succ l1 =>
        obtain ⟨S2, R2, e2⟩ := w_turn (d := d + 4) (scr := scr) (kd := kd) (pc' := pc + 2) hn h24 gf0 hR
        rw [show (turnA f0 r).1 = true by unfold turnA; rw [if_neg hlt]] at e2
        obtain ⟨S3, R3, e3⟩ := w_takesFuel (d := d + 5) (scr := scr) (kd := kd) hn (by omega) R2
        have hi := itA_ok hC hok rfl
        rw [rep_in hw hlt] at hi
        have hb2 := (hB body (k + 1) (pc + 2) j hb _ S3 hi rfl rfl hcc (by dsimp only; omega) R3).jump hC hi hj
        rw [hj1] at hb2
        have turn : ∀ S4 S5, aE aM152 (d + 4) 0 [(0, .ref 45), (1, body)] [] (gH scr kd n S3) (aIs none (gH scr kd n S4)) → aE aM156 (d + 6) 11 [(2, .int (Int32.ofNat (kk + 1))), (0, .ref 45), (1, .ref q)] [] (gH scr kd n S4) (aIs none (gH scr kd n S5)) → aE aM156 (d + 6) 11 [(2, .int (Int32.ofNat kk)), (0, .ref 45), (1, .ref q)] [] (gH scr kd n S) (aIs none (gH scr kd n S5)) := by
          intro S4 S5 ez0 er
          have ez := ez0.deep (d' := d + 5) (by omega)
          refine eS rfl rfl ?_
          refine eS rfl rfl ?_
          refine eIGt rfl rfl (fun z => absurd ((i32_lt (a := 2000) (b := kk) (by decide) (by omega)).mp z) (by omega)) (fun _ => ?_)
          refine eS rfl rfl ?_
          refine gV1 hn rfl rfl rfl rfl rfl ⟨catOk rfl, catOk rfl⟩ (hg) ?_
          refine eEq rfl rfl (fun z => absurd z (by decide)) (fun _ => ?_)
          refine eS rfl rfl ?_
          refine gGet hn rfl rfl rfl (by rw [hR.k45]; rfl) ?_
          refine gV1 hn rfl rfl rfl rfl rfl ⟨catOk rfl, catOk rfl⟩ (e2) ?_
          refine eEq rfl rfl (fun z => absurd (show (1 : Int32) = 0 from z) (by decide)) (fun _ => ?_)
          refine eS rfl rfl ?_
          refine gV1 hn rfl rfl rfl rfl rfl ⟨catOk rfl, catOk rfl⟩ (e3) ?_
          refine eEq rfl rfl (fun z => absurd z (by decide)) (fun _ => ?_)
          refine eS rfl rfl ?_
          refine eS rfl rfl ?_
          refine eGet rfl (R3.hq h87 hq) rfl rfl ?_
          refine gV1 hn rfl rfl rfl rfl rfl ⟨catOk rfl, catOk (by show Nat.ble (1 + (body.category + 0)) 3 = true; rw [hv1]; rfl)⟩ ez ?_
          refine eS rfl rfl ?_
          refine eS rfl rfl ?_
          refine eLoc (l' := [(2, .int (Int32.ofNat (kk + 1))), (0, .ref 45), (1, .ref q)]) rfl ⟨congrArg (fun z => some (Value.int z)) i32_succ, rfl, rfl, trivial⟩ ?_
          exact er
        refine (hb2.bind (b2 := m) (own2 := 1) (own' := 2) (Z2 := fun S' => aE aM156 (d + 6) 11 [(2, .int (Int32.ofNat kk)), (0, .ref 45), (1, .ref q)] [] (gH scr kd n S) (aIs none (gH scr kd n S'))) hC hi (fun x' S4 ok' h1 h2 h3 h4 R4 ez => ?_) (fun x' st' S4 h1 h2 R4 ez => ?_) (by omega)).pre (m0 := 1) ((itN_1 rfl).trans (rep_in hw hlt)) (Nat.le_succ _) rfl (by dsimp only; omega) (fun S' z => z)
        · exact (IH (kk + 1) x' S4 (by dsimp only at h1; omega) (by dsimp only at h1; omega) ok' h2 h3 (by rw [h4]; exact hcc) R4).mono (fun S5 er => turn S4 S5 ez er)
        · exact turn S4 S4 ez (rep_exit hn (by omega) h2 h1 R4)
theorem st_repeat {j : Nat} (hn : 67 ≤ n) (hC : cOk W N P) (hN : N ≤ 240) (hW : ∀ j, N ≤ j → W j = 27) (hpp : pa = 46 ∨ pa = 51) (hT : trmS S0 pa tc T) (h87 : 87 ≤ q) (hq : (gH scr kd n S0)[q]? = some (30, stV 28 num frm to body he els nxt nm nos tp dfn cp)) (hft : frm ≤ to) (hto : to ≤ tc) (ht : tTm W T f (to - frm) frm (a + 1) e k k') (hok : okX P x) (h0 : x.2.1 = 0) (hpc : x.2.2.1 = a + 1) (hcc : x.2.2.2.2.1.length = cc) (hfu : x.1 ≤ 2000) (hR : wRep S0 pa cc x 0 S) (hB : blkOk scr kd n W P S0 pa R cc (d + 4)) (hR1 : ∀ v k a b, R v k a b → v.category = 1) (hw : W e = 28) (hm : W (e + 1) = m) (hb : R body (k + 1) (e + 2) j) (hj : W j = 14) (hj1 : W (j + 1) = e) : wRes W S0 pa cc x m 248 (fun S' => aE aM155 (d + 7) 0 [(0, .ref 45), (1, .ref q)] [] (gH scr kd n S) (aIs none (gH scr kd n S'))) := by
  have he := e_lt (e := e) hW (by omega)
  obtain ⟨m1, x1, S1, g1, g2, g3, g4, g5, R1, ok1, e1⟩ := w_workOut (d := d + 2) (scr := scr) (kd := kd) hn hC hpp hT h87 hq hft hto ht hok h0 hpc hR
  by_cases hz : x1.2.1 = 0
  · have hr := rep_loop (d := d) (scr := scr) (kd := kd) hn hC h87 hq hB hR1 hw hm hb hj hj1 x1.1 0 x1 S1 (Nat.le_refl _) (by omega) ok1 hz (g5 hz) (by rw [g4]; exact hcc) R1
    refine hr.pre g1 (Nat.le_of_eq g3) g4 (by omega) (fun S' er => ?_)
    rw [if_pos hz] at e1
    have el : aE aM156 (d + 6) 0 [(0, .ref 45), (1, .ref q)] [] (gH scr kd n S) (aIs none (gH scr kd n S')) := by
      refine eS rfl rfl ?_
      refine eS rfl rfl ?_
      refine gV1 hn rfl rfl rfl rfl rfl ⟨catOk rfl, catOk rfl⟩ (e1) ?_
      refine eNe rfl rfl (fun _ => ?_) (fun z => absurd z (by decide))
      refine eS rfl rfl ?_
      refine eS rfl rfl ?_
      exact er
    refine eS rfl rfl ?_
    refine eGet rfl (hR.hq h87 hq) rfl rfl ?_
    refine eS rfl rfl ?_
    refine eS rfl rfl ?_
    refine eS rfl rfl ?_
    refine gV1 hn rfl rfl rfl rfl rfl ⟨catOk rfl, catOk rfl⟩ (el) ?_
    refine eS rfl rfl ?_
    exact eR rfl rfl ⟨rfl, rfl⟩
  · refine ⟨m1, x1, 0, S1, g1, Nat.le_of_eq g3, ?_, Or.inl hz, Or.inl rfl, R1, ?_⟩
    · rw [if_neg hz]
      omega
    · rw [if_neg hz] at e1
      have el : aE aM156 (d + 6) 0 [(0, .ref 45), (1, .ref q)] [] (gH scr kd n S) (aIs none (gH scr kd n S1)) := by
        refine eS rfl rfl ?_
        refine eS rfl rfl ?_
        refine gV1 hn rfl rfl rfl rfl rfl ⟨catOk rfl, catOk rfl⟩ (e1) ?_
        refine eNe rfl rfl (fun z => absurd rfl z) (fun _ => ?_)
        exact eR rfl rfl ⟨rfl, rfl⟩
      refine eS rfl rfl ?_
      refine eGet rfl (hR.hq h87 hq) rfl rfl ?_
      refine eS rfl rfl ?_
      refine eS rfl rfl ?_
      refine eS rfl rfl ?_
      refine gV1 hn rfl rfl rfl rfl rfl ⟨catOk rfl, catOk rfl⟩ (el) ?_
      refine eS rfl rfl ?_
      exact eR rfl rfl ⟨rfl, rfl⟩
end WREP
