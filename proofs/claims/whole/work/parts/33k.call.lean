/-! calls, read -/
/-- what follows an expression of a call -/
def ctA (ts : List aTk) (L : Nat) (ps : List (List Nat)) (k : Nat) (y : xSt) (n : Nat) : Except Nat (xSt × Nat) := if kA ts y.1 = 44 ∧ k ≠ 0 then argA ts L ps k (y.1 + 1, y.2) n else .ok (y, n)
theorem argA_ct {ts : List aTk} {L : Nat} {ps : List (List Nat)} {k : Nat} {x : xSt} {n : Nat} : argA ts L ps (k + 1) x n = match sumA ts L ps 4 0 x with | .error e => .error e | .ok y => ctA ts L ps k y (n + 1) := rfl
section SCL
variable {scr : List Value} {n0 d L pa n q pc i j : Nat} {kd0 kd : Nat → Nat} {U0 S0 U S : Nat → List Value} {ts : List aTk} {ps : List (List Nat)} {rp : List Value} {x y : xSt} {K : List (Nat × cAl)} {D : List (Nat × dEf)} {dp : Int32} {res : aOut → aH → Prop} {f : Bool} {Q : aOut → aH → Prop} {tc0 : Nat} {nm : Int64} {tp : Int32}
/-- a call comes to the end of the calls -/
theorem c_link {c : cAl} (hF : cF ts L n0 S0 pa ps rp) (h : cI0 ts L n0 kd0 U0 S0 pa ps rp x K D kd n U S) (hq : n0 + 20 ≤ q) (hq2 : q < n + 20) (hlast : ∀ p ∈ K, p.1 < q) (hk : kI ts L U (q, c)) (h9 : (U q)[9]? = some .null)
    (k : ∀ U' S', cI0 ts L n0 kd0 U0 S0 pa ps rp x (K ++ [(q, c)]) D kd n U' S' → U' q = U q → (∀ p, p ≠ q → fr9 (U p) (U' p)) → Q (.inl none) (gH scr kd n S')) : aE aM90 (d + 1) 129 [(0, .ref 22), (1, .ref q)] [] (gH scr kd n S) Q := by
  have hn0 := hF.1
  have hnn := h.2.1
  have hn : 67 ≤ n := by omega
  have hpa := hF.2.1
  obtain ⟨e0, e2, e3, e5, e6, e7, etc⟩ := I_22 hF h
  have h0 := h
  obtain ⟨a1, a2, a3, a4, ⟨fd, fc, a5, a6, a7⟩, a8, a9⟩ := h
  cases hg : (K.map (fun p => p.1)).getLast? with
  | none =>
    have hK : K = [] := List.map_eq_nil_iff.mp (List.getLast?_eq_none_iff.mp hg)
    subst hK
    have e6 : (S 22)[6]? = some .null := e6
    obtain ⟨rv, t1, t2, t3, rfl, b1⟩ := a5
    refine eS rfl rfl ?_
    refine gGet hn rfl rfl rfl rfl ?_
    refine eS rfl rfl ?_
    refine eS rfl rfl ?_
    refine gGet hn rfl rfl rfl rfl ?_
    refine eS rfl rfl ?_
    refine gPut hn rfl (pa_h0 hpa) rfl (pa_k0 hpa) (by rw [rS_p0 hpa]; rfl) rfl rfl ((congrArg (fun z : List Value => aUp _ pa (z.set 1 (.ref q))) (rS_p0 hpa)).trans (rS_fc hpa)) ?_
    refine eS rfl rfl ?_
    refine eS rfl rfl ?_
    refine eS rfl rfl ?_
    refine gPut hn rfl rfl rfl rfl rfl rfl rfl rS_lc ?_
    refine eR rfl rfl (k U _ ⟨a1, a2, a3, a4, ⟨fd, .ref q, ⟨rv, t1, t2, t3, rfl, b1⟩, chF_one h9, a7⟩, fun p hp => ?_, a9⟩ rfl (fun p _ => fr9_id))
    rw [List.mem_singleton.mp hp]
    exact ⟨hq, hq2, hk⟩
  | some b =>
    have hl : lstV (K.map (fun p => p.1)) = .ref b := by unfold lstV; rw [hg]
    rw [hl] at e6
    obtain ⟨pb, hpb, hb⟩ := List.mem_map.mp (List.mem_of_getLast? hg)
    obtain ⟨k1, k2, k3⟩ := a8 pb hpb
    have k4 := hlast pb hpb
    rw [hb] at k1 k2 k4
    have kb := a4.2 b k1 k2
    have sb : S b = U b := I_87 hn0 h0 b (by omega)
    have ne : q ≠ b := by omega
    have bd : ∀ p ∈ D, p.1 ≠ b := fun p hp e => by
      have d1 := (a9 p hp).2.2.2.1
      have d2 := k3.2.1
      rw [hb] at d2
      rw [e, d2] at d1
      exact absurd (Value.int.inj (Option.some.inj d1)) (by decide)
    have fr : ∀ p, fr9 (U p) (aUp U b ((U b).set 9 (.ref q)) p) := fun p => by
      by_cases e : p = b
      · subst e; rw [aUp_same]; exact Or.inr ⟨_, rfl⟩
      · rw [aUp_ne e]; exact fr9_id
    refine eS rfl rfl ?_
    refine I_g22 rfl hF h0 e6 ?_
    refine eS rfl rfl ?_
    refine eS rfl rfl ?_
    refine I_g22 rfl hF h0 e6 ?_
    refine eS rfl rfl ?_
    refine gPutO rfl (by omega) (by omega) rfl kb.1 (by rw [sb]; exact kb.2) rfl rfl rfl ?_
    show aE aM90 (d + 1) 155 _ _ (gH scr kd n (aUp S b ((S b).set 9 (.ref q)))) Q
    rw [sb]
    obtain ⟨rv, t1, t2, t3, e, b1⟩ := cX_U (b := (U b).set 9 (.ref q)) a5 (show 87 ≤ b by omega)
    rw [e]
    refine eS rfl rfl ?_
    refine eS rfl rfl ?_
    refine gPut hn rfl rfl rfl rfl rfl rfl rfl rS_lc ?_
    have c1 := chF_snoc (q := q) hg (fun p hp => by obtain ⟨z, hz, rfl⟩ := List.mem_map.mp hp; exact hlast z hz) (fun p hp => by obtain ⟨z, hz, rfl⟩ := List.mem_map.mp hp; exact (a4.2 z.1 (a8 z hz).1 (a8 z hz).2.1).2) h9 a6
    refine eR rfl rfl (k (aUp U b ((U b).set 9 (.ref q))) _ ⟨a1, a2, a3, bI_up a4 k1 (by rw [List.length_set]; exact kb.2), ⟨fd, fc, ⟨rv, t1, t2, t3, ?_, b1⟩, by rw [List.map_append]; exact c1, chF_tr (fun p hp => ?_) a7⟩, fun p hp => ?_, fun p hp => ?_⟩ (aUp_ne ne) (fun p _ => fr p))
    · rw [List.map_append]
      show _ = rS S0 _ pa fd _ (lstV (K.map (fun p => p.1) ++ [q])) _ _ _ _ _ _ _ _ _ _ _ _ _
      rw [lstV_snoc]
    · obtain ⟨z, hz, rfl⟩ := List.mem_map.mp hp
      rw [aUp_ne (bd z hz)]
    · rcases List.mem_append.mp hp with hp | hp
      · obtain ⟨b1, b2, b0, b3, b4, b5, b6⟩ := a8 p hp
        exact ⟨b1, b2, b0, (fr9_at (fr _) (by decide)).trans b3, (fr9_at (fr _) (by decide)).trans b4, (fr9_at (fr _) (by decide)).trans b5, (fr9_at (fr _) (by decide)).trans b6⟩
      · rw [List.mem_singleton.mp hp]
        refine ⟨hq, hq2, ?_⟩
        unfold kI
        rw [show aUp U b ((U b).set 9 (.ref q)) (q, c).1 = U q from aUp_ne ne]
        exact hk
    · obtain ⟨b1, b2, b3⟩ := a9 p hp
      refine ⟨b1, b2, ?_⟩
      unfold dI
      rw [aUp_ne (bd p hp)]
      exact b3
theorem c_argLoop (hF : cF ts L n0 S0 pa ps rp) (hq : n0 + 20 ≤ q) (hq2 : q < n + 20) (nk : (∀ p ∈ K, p.1 ≠ q) ∧ ∀ p ∈ D, p.1 ≠ q) : ∀ (k nn : Nat) (y : xSt) (U1 S1 : Nat → List Value), k + nn = 3 → 1 ≤ nn → cI0 ts L n0 kd0 U0 S0 pa ps rp y K D kd n U1 S1 → U1 q = stV 16 nn tc0 0 .null 0 .null .null nm .null tp .null 0 → (∀ z m U' S', ctA ts L ps k y nn = .ok (z, m) → cI0 ts L n0 kd0 U0 S0 pa ps rp z K D kd n U' S' → U' q = stV 16 m tc0 0 .null 0 .null .null nm .null tp .null 0 → (∀ p, p ≠ q → U' p = U1 p) → aE aM90 (d + 19) 123 [(0, .ref 22), (1, .ref q)] [] (gH scr kd n S') Q) → (∀ e o h', ctA ts L ps k y nn = .error e → cEr scr n0 kd0 U0 S0 pa e o h' → Q o h') → aE aM90 (d + 19) 71 [(0, .ref 22), (1, .ref q)] [] (gH scr kd n S1) Q
  | 0, nn, y, U1, S1, hk, h1n, h1, u1, kk, kx => by
    obtain rfl : nn = 3 := by omega
    refine eS rfl rfl ?_
    refine I_get (v := .int (Int32.ofNat 3)) rfl hF h1 hq hq2 u1 rfl ?_
    refine eLe rfl rfl (fun z => absurd z (by decide)) (fun _ => ?_)
    refine eS rfl rfl ?_
    refine I_get (v := .int (Int32.ofNat 3)) rfl hF h1 hq hq2 u1 rfl ?_
    refine eS rfl rfl ?_
    refine eIGe rfl rfl (fun _ => ?_) (fun z => absurd (by decide) z)
    exact kk y 3 U1 S1 (by unfold ctA; rw [if_neg (fun z => z.2 rfl)]) h1 u1 (fun p _ => rfl)
  | k + 1, nn, y, U1, S1, hk, h1n, h1, u1, kk, kx => by
    have hb := hF.2.2.2.2.1 y.1
    have hn : 67 ≤ n := by have := hF.1; have := h1.2.1; omega
    by_cases c : kA ts y.1 = 44
    · have hlt : y.1 < ts.length := kA_lt c (by decide)
      have ec : ctA ts L ps (k + 1) y nn = argA ts L ps (k + 1) (y.1 + 1, y.2) nn := by unfold ctA; rw [if_pos ⟨c, by omega⟩]
      refine eS rfl rfl ?_
      refine I_get (v := .int (Int32.ofNat nn)) rfl hF h1 hq hq2 u1 rfl ?_
      refine eLe rfl rfl (fun z => absurd ((i32_le (a := nn) (b := 0) (by omega) (by omega)).mp z) (by omega)) (fun _ => ?_)
      refine eS rfl rfl ?_
      refine I_get (v := .int (Int32.ofNat nn)) rfl hF h1 hq hq2 u1 rfl ?_
      refine eS rfl rfl ?_
      refine eIGe rfl rfl (fun z => absurd ((i32_le (a := 3) (b := nn) (by omega) (by omega)).mp z) (by omega)) (fun _ => ?_)
      refine eS rfl rfl ?_
      refine gV1 hn rfl rfl rfl rfl rfl ⟨catOk rfl, catOk rfl⟩ (I_here hF h1) ?_
      refine eS rfl rfl ?_
      refine eINe rfl rfl (fun z => absurd ((i32_eq (a := kA ts y.1) (b := 44) (by omega) (by omega)).mpr c) z) (fun _ => ?_)
      refine I_tick hn rfl rfl rfl rfl rfl rfl rfl h1 hlt (fun S2 h2 => ?_)
      refine eS rfl rfl ?_
      refine eS rfl rfl ?_
      refine I_sum hF h2 rfl rfl ⟨catOk rfl, catOk rfl⟩ rfl (fun w S3 e h3 => ?_) (fun e o h' he hc => kx e o h' (by rw [ec, argA_ct, he]) hc)
      refine eS rfl rfl ?_
      refine eS rfl rfl ?_
      refine I_get (v := .int (Int32.ofNat nn)) rfl hF h3 hq hq2 u1 rfl ?_
      refine eS rfl rfl ?_
      refine eS rfl rfl ?_
      rw [i32_succ]
      refine I_put rfl rfl rfl rfl rfl hF h3 hq hq2 u1 (Or.inl nk) (fun U4 S4 h4 u4 v4 => ?_)
      refine eS rfl rfl ?_
      exact c_argLoop hF hq hq2 nk k (nn + 1) w U4 S4 (by omega) (by omega) h4 u4 (fun z m U' S' e' h' u' v' => kk z m U' S' (by rw [ec, argA_ct, e]; exact e') h' u' (fun p hp => (v' p hp).trans (v4 p hp))) (fun e' o h' he hc => kx e' o h' (by rw [ec, argA_ct, e]; exact he) hc)
    · skip
      refine eS rfl rfl ?_
      refine I_get (v := .int (Int32.ofNat nn)) rfl hF h1 hq hq2 u1 rfl ?_
      refine eLe rfl rfl (fun z => absurd ((i32_le (a := nn) (b := 0) (by omega) (by omega)).mp z) (by omega)) (fun _ => ?_)
      refine eS rfl rfl ?_
      refine I_get (v := .int (Int32.ofNat nn)) rfl hF h1 hq hq2 u1 rfl ?_
      refine eS rfl rfl ?_
      refine eIGe rfl rfl (fun z => absurd ((i32_le (a := 3) (b := nn) (by omega) (by omega)).mp z) (by omega)) (fun _ => ?_)
      refine eS rfl rfl ?_
      refine gV1 hn rfl rfl rfl rfl rfl ⟨catOk rfl, catOk rfl⟩ (I_here hF h1) ?_
      refine eS rfl rfl ?_
      refine eINe rfl rfl (fun _ => ?_) (fun z => absurd ((i32_eq (a := kA ts y.1) (b := 44) (by omega) (by omega)).mp z) c)
      exact kk y nn U1 S1 (by unfold ctA; rw [if_neg (fun z => c z.1)]) h1 u1 (fun p _ => rfl)
end SCL
