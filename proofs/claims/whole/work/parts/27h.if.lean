/-! tests and loops, walked -/
section WIF
variable {scr : List Value} {kd : Nat → Nat} {n pa N d tc q cc : Nat} {S S0 : Nat → List Value} {W : Nat → Nat} {P : Nat → Nat → Bool → Prop} {T : Nat → Nat × Nat × Nat} {D : Nat → Nat → Prop} {R : Value → Nat → Nat → Nat → Prop} {st : Int32} {f : Bool} {kind num frm to : Nat} {body : Value} {he : Int32} {els nxt : Value} {nm : Int64} {nos : Value} {tp : Int32} {dfn : Value} {cp : Int32} {a e m k k' : Nat} {x : aSx}
theorem w_null {M d : Nat} {h : aH} : aE aM152 d 0 [(0, .ref 45), (1, .null)] [] h (aIs none h) := by
  refine eS rfl rfl ?_
  refine eS rfl rfl ?_
  refine eS rfl rfl ?_
  refine eS rfl rfl ?_
  exact eR rfl rfl ⟨rfl, rfl⟩
theorem itA_okL (hC : cOk W N P) (hok : okX P x) (h0 : x.2.1 = 0) : okX P (itA W x) := itA_ok hC hok h0
theorem st_if (hn : 67 ≤ n) (hC : cOk W N P) (hN : N ≤ 240) (hW : ∀ j, N ≤ j → W j = 27) (hpp : pa = 46 ∨ pa = 51) (hT : trmS S0 pa tc T) (h87 : 87 ≤ q) (hq : (gH scr kd n S0)[q]? = some (30, stV 15 num frm to body he els nxt nm nos tp dfn cp)) (hft : frm ≤ to) (hto : to ≤ tc) (ht : tTm W T f (to - frm) frm (a + 1) e k k') (hok : okX P x) (h0 : x.2.1 = 0) (hpc : x.2.2.1 = a + 1) (hcc : x.2.2.2.2.1.length = cc) (hfu : x.1 ≤ 2000) (hR : wRep S0 pa cc x 0 S) (hB : blkOk scr kd n W P S0 pa R cc (d + 4)) (hR1 : ∀ v k a b, R v k a b → v.category = 1) (hw : W e = 15) (hb : (els = .null ∧ W (e + 1) = m ∧ R body k (e + 2) m) ∨ ∃ j, R body k (e + 2) j ∧ W j = 14 ∧ W (j + 1) = m ∧ W (e + 1) = j + 2 ∧ R els k (j + 2) m) : wRes W S0 pa cc x m 248 (fun S' => aE aM155 (d + 7) 0 [(0, .ref 45), (1, .ref q)] [] (gH scr kd n S) (aIs none (gH scr kd n S'))) := by
  have he := e_lt (e := e) hW (by omega)
  obtain ⟨m1, x1, S1, g1, g2, g3, g4, g5, R1, ok1, e1⟩ := w_workOut (d := d + 3) (scr := scr) (kd := kd) hn hC hpp hT h87 hq hft hto ht hok h0 hpc hR
  by_cases hz : x1.2.1 = 0
  · obtain ⟨f0, r, hs, gf0, ei⟩ := if_step hz (g5 hz) hw ok1 hC
    have ok2 := itA_ok hC ok1 hz
    have hl24 := (ok1.2 hz).1
    obtain ⟨l, an, pc1, stk1, fr1, par1, vrs1, t1⟩ := x1
    dsimp only at hz hs g3 g4 g5 ei hl24
    subst hz hs
    have hcc1 : fr1.length = cc := by rw [g4]; exact hcc
    obtain ⟨S2, R2, e2⟩ := w_zero (d := d + 5) (scr := scr) (kd := kd) (pc' := if FP.fcmp f0 0 = some .eq then W (e + 1) else e + 2) hn hl24 gf0 R1
    rw [if_pos rfl] at e1
    have hi : itN W (m1 + 1) x = (l, 0, if FP.fcmp f0 0 = some .eq then W (e + 1) else e + 2, r, fr1, par1, vrs1, t1) := (itN_more g1 rfl).trans ei
    rw [ei] at ok2
    by_cases c0 : FP.fcmp f0 0 = some .eq
    · rw [if_pos c0] at hi ok2 e2 R2
      have fin : ∀ (v : Value), v = els → v.category = 1 → ∀ S', aE aM152 (d + 6) 0 [(0, .ref 45), (1, v)] [] (gH scr kd n S2) (aIs none (gH scr kd n S')) → aE aM155 (d + 7) 0 [(0, .ref 45), (1, .ref q)] [] (gH scr kd n S) (aIs none (gH scr kd n S')) := by
        intro v hv hv1 S' ez
        subst hv
        refine eS rfl rfl ?_
        refine eGet rfl (hR.hq h87 hq) rfl rfl ?_
        refine eS rfl rfl ?_
        refine eS rfl rfl ?_
        refine eS rfl rfl ?_
        refine gV1 hn rfl rfl rfl rfl rfl ⟨catOk rfl, catOk rfl⟩ (e1) ?_
        refine eEq rfl rfl (fun z => absurd z (by decide)) (fun _ => ?_)
        refine eS rfl rfl ?_
        refine eS rfl rfl ?_
        refine gGet hn rfl rfl rfl (by rw [R1.k45]; rfl) ?_
        refine gV1 hn rfl rfl rfl rfl rfl ⟨catOk rfl, catOk rfl⟩ (e2) ?_
        refine eEq rfl rfl (fun z => absurd z (by decide)) (fun _ => ?_)
        refine eS rfl rfl ?_
        refine eGet rfl (R2.hq h87 hq) rfl rfl ?_
        refine eS rfl rfl ?_
        refine gV1 hn rfl rfl rfl rfl rfl ⟨catOk rfl, catOk (by show Nat.ble (1 + (v.category + 0)) 3 = true; rw [hv1]; rfl)⟩ ez ?_
        refine eS rfl rfl ?_
        exact eR rfl rfl ⟨rfl, rfl⟩
      rcases hb with ⟨rfl, w2, hb⟩ | ⟨j, hb, w2, w3, w4, hb2⟩
      · refine (wRes.here (S0 := S0) (x := (l, 0, W (e + 1), r, fr1, par1, vrs1, t1)) (own := 0) (Z := fun S' => S' = S2) (Or.inl rfl) (Or.inr (Or.inl ⟨rfl, w2⟩)) R2 rfl).pre hi (Nat.le_of_eq g3) g4 (by omega) (fun S' z => ?_)
        subst z
        exact fin _ rfl rfl _ (w_null (M := 0))
      · rw [w4] at hi ok2 R2
        refine (hB els k (j + 2) m hb2 _ S2 ok2 rfl rfl hcc1 (by dsimp only; omega) R2).pre hi (Nat.le_of_eq g3) g4 (by omega) (fun S' z => ?_)
        exact fin _ rfl (hR1 _ _ _ _ hb2) _ (z.deep (by omega))
    · rw [if_neg c0] at hi ok2 e2 R2
      have fin : body.category = 1 → ∀ S', aE aM152 (d + 6) 0 [(0, .ref 45), (1, body)] [] (gH scr kd n S2) (aIs none (gH scr kd n S')) → aE aM155 (d + 7) 0 [(0, .ref 45), (1, .ref q)] [] (gH scr kd n S) (aIs none (gH scr kd n S')) := by
        intro hv1 S' ez
        refine eS rfl rfl ?_
        refine eGet rfl (hR.hq h87 hq) rfl rfl ?_
        refine eS rfl rfl ?_
        refine eS rfl rfl ?_
        refine eS rfl rfl ?_
        refine gV1 hn rfl rfl rfl rfl rfl ⟨catOk rfl, catOk rfl⟩ (e1) ?_
        refine eEq rfl rfl (fun z => absurd z (by decide)) (fun _ => ?_)
        refine eS rfl rfl ?_
        refine eS rfl rfl ?_
        refine gGet hn rfl rfl rfl (by rw [R1.k45]; rfl) ?_
        refine gV1 hn rfl rfl rfl rfl rfl ⟨catOk rfl, catOk rfl⟩ (e2) ?_
        refine eEq rfl rfl (fun _ => ?_) (fun z => absurd rfl z)
        refine eS rfl rfl ?_
        refine eGet rfl (R2.hq h87 hq) rfl rfl ?_
        refine gV1 hn rfl rfl rfl rfl rfl ⟨catOk rfl, catOk (by show Nat.ble (1 + (body.category + 0)) 3 = true; rw [hv1]; rfl)⟩ ez ?_
        refine eS rfl rfl ?_
        exact eR rfl rfl ⟨rfl, rfl⟩
      rcases hb with ⟨rfl, w2, hb⟩ | ⟨j, hb, w2, w3, w4, hb2⟩
      · exact (hB body k (e + 2) m hb _ S2 ok2 rfl rfl hcc1 (by dsimp only; omega) R2).pre hi (Nat.le_of_eq g3) g4 (by omega) (fun S' z => fin (hR1 _ _ _ _ hb) _ (z.deep (by omega)))
      · have hj := (hB body k (e + 2) j hb _ S2 ok2 rfl rfl hcc1 (by dsimp only; omega) R2).jump hC ok2 w2
        rw [w3] at hj
        exact hj.pre hi (Nat.le_of_eq g3) g4 (by omega) (fun S' z => fin (hR1 _ _ _ _ hb) _ (z.deep (by omega)))
  · refine ⟨m1, x1, 0, S1, g1, Nat.le_of_eq g3, ?_, Or.inl hz, Or.inl rfl, R1, ?_⟩
    · rw [if_neg hz]
      omega
    · rw [if_neg hz] at e1
      refine eS rfl rfl ?_
      refine eGet rfl (hR.hq h87 hq) rfl rfl ?_
      refine eS rfl rfl ?_
      refine eS rfl rfl ?_
      refine eS rfl rfl ?_
      refine gV1 hn rfl rfl rfl rfl rfl ⟨catOk rfl, catOk rfl⟩ (e1) ?_
      refine eEq rfl rfl (fun _ => ?_) (fun z => absurd rfl z)
      exact eR rfl rfl ⟨rfl, rfl⟩
end WIF
