/-! a whole text, read -/
def cIt (ts : List aTk) (L n0 : Nat) (kd0 : Nat → Nat) (U0 S0 : Nat → List Value) (pa : Nat) (x : gSt) (K : List (Nat × cAl)) (D : List (Nat × dEf)) (kd : Nat → Nat) (n : Nat) (U S : Nat → List Value) : Prop := D.map (fun p => p.2) = x.2 ∧ ∃ rp, cF ts L n0 S0 pa [] rp ∧ cI0 ts L n0 kd0 U0 S0 pa [] rp x.1 K D kd n U S
section STP
variable {scr : List Value} {n0 d L pa n q pc i j : Nat} {kd0 kd : Nat → Nat} {U0 S0 U S : Nat → List Value} {ts : List aTk} {ps : List (List Nat)} {rp : List Value} {x : gSt} {K : List (Nat × cAl)} {D : List (Nat × dEf)} {dp : Int32} {res : aOut → aH → Prop} {a : Nat}
theorem cIt_ok (hn0 : 67 ≤ n0) (hkA : ∀ t, kA ts t < 2 ^ 20) : iOk scr n0 d (fun x : gSt => x.1) (cIt ts L n0 kd0 U0 S0 pa) (gxA ts) :=
  ⟨fun x K D' kd n U S h => by
    obtain ⟨h1, rp, hF, h⟩ := h
    exact ⟨hn0, h.2.1, hkA _, I_87 hn0 h, h.2.2.2.1.2, I_here hF h⟩, fun x K D' kd n U S q v h q1 q2 => by
    obtain ⟨h1, rp, hF, h⟩ := h
    exact ⟨h1, rp, hF, I_set hn0 h q1 q2 rfl⟩⟩
theorem c_top (h : cIt ts L n0 kd0 U0 S0 pa x K D kd n U S) (hb : n ≤ n0 + x.1.1) : aE aM71 (d + 31) 0 [(0, .ref 22), (1, .int (Int32.ofNat 0))] [] (gH scr kd n S) (stO scr (fun x : gSt => x.1) (cIt ts L n0 kd0 U0 S0 pa) (cEr scr n0 kd0 U0 S0 pa) tpP kd n U x K D a (tsA ts L a x)) := by
  obtain ⟨hD, rp, hF, h⟩ := h
  have hn0 := hF.1
  have hnn := h.2.1
  unfold tsA
  by_cases c : kA ts x.1.1 = 31
  · rw [if_pos c]
    refine c_stBegin hF h hb (fun kd1 U1 S1 h1 u1 v1 => ?_)
    rw [c] at u1 ⊢
    have nk : (∀ p ∈ K, p.1 ≠ n + 20) ∧ ∀ p ∈ D, p.1 ≠ n + 20 := ⟨fun p hp => by have := (h.2.2.2.2.2.1 p hp).2.1; omega, fun p hp => by have := (h.2.2.2.2.2.2 p hp).2.1; omega⟩
    have hl : ∀ p ∈ D, p.1 < n + 20 := fun p hp => (h.2.2.2.2.2.2 p hp).2.1
    refine eB (pc' := 176) (st' := []) rfl rfl rfl rfl ?_
    refine eS rfl rfl ?_
    refine eLe rfl rfl (fun _ => ?_) (fun z => absurd (by decide) z)
    refine eS rfl rfl ?_
    refine eS rfl rfl ?_
    refine gVq (by omega) rfl rfl rfl rfl rfl ⟨catOk rfl, catOk rfl⟩ rfl (c_def (a := a) hF h1 (by omega) (by omega) nk hl u1 c (fun pq y kd2 n2 U2 S2 K2 M rp2 b nos z e1 e2 e3 e4 hF2 h2 e5 e6 e7 e8 e9 u2 t2 v2 => Or.inl ⟨rfl, ?_⟩) (fun e o h' e1 z => ?_))
    · have ed : dfA ts L a x = .ok ((y.1, x.2 ++ [(nmA ts (x.1.1 + 1), pq.2.length, a + 2)]), 14 :: (a + 2 + y.2.1.length + 1) :: (y.2.1 ++ [17]), y.2.2) := by
        rw [hD] at e2
        unfold dfA; rw [if_pos ⟨e1, e2⟩, e3]; dsimp only; rw [e4]
      rw [ed]
      obtain ⟨l, e9⟩ := e9
      have hr := prA_rd hF.2.2.2.1 3 (x.1.1 + 2) [] pq (by have := kA_lt e1 (by decide); omega) (fun y hy => by cases hy) e3
      refine eS rfl rfl ?_
      refine c_tail hF2 h2 (by omega) (by omega) u2 (fun U3 S3 h3 u3 v3 => ?_)
      refine c_leaf hF2 h3 (by omega) (by omega) u3 (by decide) (by decide) (by decide) (by decide) ?_
      refine ⟨kd2, n2, U3, S3, K2, [(n + 20, (nmA ts (x.1.1 + 1), pq.2.length, a + 2))], (n + 20, a + 2) :: M, rfl, rfl, ⟨?_, rp2, hF2, h3⟩, e5, fun p hp => List.mem_cons_of_mem _ (e6.1 p hp), ⟨fun p hp => ?_, fun e he => by
        rcases List.mem_cons.mp he with rfl | he
        · exact Or.inr ⟨_, List.mem_singleton.mpr rfl, rfl⟩
        · rcases e6.2 e he with z | ⟨z, hz, -⟩
          · exact Or.inl z
          · cases hz⟩, by omega, by show n2 + x.1.1 ≤ n + y.1.1; omega, ⟨l, e9⟩, by rw [u3]; rfl, Or.inr ⟨pq.2.length, x.1.2.2.length, y.1.2.2.length, b, 0, .null, z, 0, y.2.1, M, ⟨_, _, _, _, u3⟩, ?_, rfl, rfl⟩, fun p hp => ?_⟩
      · rw [List.map_append, hD]; rfl
      · rw [List.mem_singleton.mp hp]
        exact List.mem_cons_self ..
      · have z8 := uBk_mono (U' := U3) (l := []) 3 (fun p p1 p2 => by rw [v3 p (by omega)]; exact fr9_id) t2
        rw [List.append_nil] at z8
        rw [show n + 20 + 1 = n + 1 + 20 by omega]
        exact z8
      · have q := v2 p (by omega)
        have q1 := v1 p hp
        have q2 := q.2 (by omega)
        rw [q1.2] at q2
        exact ⟨q.1.trans q1.1, by rw [v3 p (by omega)]; exact q2⟩
    · obtain ⟨q, rfl⟩ := cEr_inr z
      rw [hD] at e1
      rw [show dfA ts L a x = .error e from e1]
      exact Or.inr ⟨q, rfl, z⟩
  · rw [if_neg c]
    have key := c_stOne (a := a) (g := 3) (d := d + 11) (scr := scr) (dp := Int32.ofNat 0) (f := false) hF (fun z => absurd rfl z) h hb (fun a x K kd n U S h hb => c_bkA (d := d + 2) hF (fun z => absurd rfl z) 3 0 rfl a x K kd n U S h hb) rfl (by decide) (fun z => absurd z c)
    refine aE.mono ?_ key
    intro o h'
    cases e : stA ts L [] (bkA ts L [] 3) a x.1 with
    | error z => exact fun z => z
    | ok y =>
      rintro ⟨kd2, n2, U2, S2, K2, D2, M, y1, y2, ⟨y3, y4⟩, y5, y6, y7, y8, y9, y10, y11, y12, y13⟩
      have hD2 : D2 = [] := List.append_right_eq_self.mp y3
      subst hD2
      exact ⟨kd2, n2, U2, S2, K2, [], M, y1, y2, ⟨by rw [List.append_nil]; exact hD, rp, hF, y4⟩, y5, y6, y7, y8, y9, y10, y11, Or.inl y12, y13⟩
theorem c_topAll (hn0 : 67 ≤ n0) (hkA : ∀ t, kA ts t < 2 ^ 20) (h : cIt ts L n0 kd0 U0 S0 pa ((0, [], []), []) [] [] kd n0 U S) : aE aM68 (d + 32) 0 [(0, .ref 22), (1, .int (Int32.ofNat 0)), (2, .int (Int32.ofNat 34))] [] (gH scr kd n0 S) (lsO scr (fun x : gSt => x.1) (cIt ts L n0 kd0 U0 S0 pa) (cEr scr n0 kd0 U0 S0 pa) tpP kd n0 U ((0, [], []), []) [] [] 0 (tpA ts L)) :=
  c_readAll (d := d + 30) (E := cEr scr n0 kd0 U0 S0 pa) (st := tsA ts L) (by decide) (cIt_ok (d := d + 30) (scr := scr) (kd0 := kd0) (U0 := U0) hn0 hkA) tpP_ok (fun e v h => cEr_no) (fun a x K D kd n U S i1 i2 i3 => c_top i1 i2) 0 ((0, [], []), []) [] [] kd n0 U S h (Nat.le_add_right _ _)
end STP
