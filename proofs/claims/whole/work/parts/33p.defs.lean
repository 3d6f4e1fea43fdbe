/-! definitions: looked for, linked; parameters -/
def fndD (Ds : List (Nat × dEf)) (x : List Nat) : Value := match Ds.find? (fun p => p.2.1 == x) with | none => .null | some p => .ref p.1
section SDF
variable {scr : List Value} {n0 d L pa n q pc i j : Nat} {kd0 kd : Nat → Nat} {U0 S0 U S : Nat → List Value} {ts : List aTk} {ps : List (List Nat)} {rp : List Value} {x y : xSt} {K : List (Nat × cAl)} {D : List (Nat × dEf)} {dp : Int32} {res : aOut → aH → Prop} {f : Bool} {Q : aOut → aH → Prop} {nm : List Nat}
theorem c_defLoop (hn0 : 67 ≤ n0) (hx : nmOk nm) (hS : ∀ p, 87 ≤ p → S p = U p) : ∀ (Ds : List (Nat × dEf)) (v : Value), chF U v (Ds.map (fun p => p.1)) → (∀ p ∈ Ds, n0 + 20 ≤ p.1 ∧ p.1 < n + 20 ∧ kd p.1 = 30 ∧ dI U p) → aE aM92 d 5 [(3, v), (0, .ref 22), (1, .long (Int64.ofNat (pk 32 nm)))] [] (gH scr kd n S) (aIs (some (fndD Ds nm)) (gH scr kd n S))
  | [], v, h, _ => by
    have h : v = .null := h
    subst h
    refine eS rfl rfl ?_
    refine eS rfl rfl ?_
    refine eS rfl rfl ?_
    exact eR rfl rfl ⟨rfl, rfl⟩
  | p :: r, v, ⟨h1, h2, w, h3, h4⟩, hd => by
    subst h1
    obtain ⟨p1, p2, p3, p4, p5, p6, p7⟩ := hd p (List.mem_cons_self ..)
    have sp := hS p.1 (by omega)
    by_cases e : p.2.1 = nm
    · have ef : fndD (p :: r) nm = .ref p.1 := by
        unfold fndD
        rw [List.find?_cons_of_pos (by rw [e]; exact beq_self_eq_true nm)]
      rw [ef]
      refine eS rfl rfl ?_
      refine eS rfl rfl ?_
      refine eS rfl rfl ?_
      refine gGetO (p := p.1) (c := U p.1) rfl (by omega) p2 p3 sp p7 ?_
      refine eS rfl rfl ?_
      refine eS rfl rfl ?_
      refine eNe rfl rfl (fun z => absurd (lg_eq.mpr ((nm_eq (Or.inr rfl) p4 hx).mpr e)) z) (fun _ => ?_)
      refine eS rfl rfl ?_
      exact eR rfl rfl ⟨rfl, rfl⟩
    · have ef : fndD (p :: r) nm = fndD r nm := by
        unfold fndD
        rw [List.find?_cons_of_neg (by simp only [beq_iff_eq]; exact e)]
      rw [ef]
      refine eS rfl rfl ?_
      refine eS rfl rfl ?_
      refine eS rfl rfl ?_
      refine gGetO (p := p.1) (c := U p.1) rfl (by omega) p2 p3 sp p7 ?_
      refine eS rfl rfl ?_
      refine eS rfl rfl ?_
      refine eNe rfl rfl (fun _ => ?_) (fun z => absurd ((nm_eq (Or.inr rfl) p4 hx).mp (lg_eq.mp z)) e)
      refine eS rfl rfl ?_
      refine gGetO (p := p.1) (c := U p.1) rfl (by omega) p2 p3 sp h3 ?_
      have hv : w = .null ∨ ∃ q, w = .ref q := by
        cases r with
        | nil => exact Or.inl h4
        | cons p2 r2 => exact Or.inr ⟨_, h4.1⟩
      have IH := c_defLoop hn0 hx hS r w h4 (fun z hz => hd z (List.mem_cons_of_mem _ hz))
      rcases hv with rfl | ⟨q, rfl⟩
      · refine eS rfl rfl ?_
        refine eS rfl rfl ?_
        exact eLoc (l' := [(3, .null), (0, .ref 22), (1, .long (Int64.ofNat (pk 32 nm)))]) rfl ⟨rfl, rfl, rfl, trivial⟩ IH
      · refine eS rfl rfl ?_
        refine eS rfl rfl ?_
        exact eLoc (l' := [(3, .ref q), (0, .ref 22), (1, .long (Int64.ofNat (pk 32 nm)))]) rfl ⟨rfl, rfl, rfl, trivial⟩ IH
theorem I_defOf (hF : cF ts L n0 S0 pa ps rp) (h : cI0 ts L n0 kd0 U0 S0 pa ps rp x K D kd n U S) (hx : nmOk nm) : aE aM92 d 0 [(0, .ref 22), (1, .long (Int64.ofNat (pk 32 nm)))] [] (gH scr kd n S) (aIs (some (fndD D nm)) (gH scr kd n S)) := by
  have hn0 := hF.1
  have hn : 67 ≤ n := by have := h.2.1; omega
  have h87 := I_87 hn0 h
  obtain ⟨a1, a2, a3, a4, ⟨fd, fc, ⟨rv, t1, t2, t3, rfl, b1⟩, a6, a7⟩, a8, a9⟩ := h
  have IH := c_defLoop (scr := scr) (kd := kd) (n := n) (d := d) hn0 hx h87 D fd a7 (fun p hp => ⟨(a9 p hp).1, (a9 p hp).2.1, (a4.2 p.1 (a9 p hp).1 (a9 p hp).2.1).1, (a9 p hp).2.2⟩)
  have hv : fd = .null ∨ ∃ q, fd = .ref q := by
    cases D with
    | nil => exact Or.inl a7
    | cons p2 r2 => exact Or.inr ⟨_, a7.1⟩
  refine eS rfl rfl ?_
  refine gGet hn rfl rfl rfl rfl ?_
  rcases hv with rfl | ⟨q, rfl⟩
  · refine eS rfl rfl ?_
    exact IH
  · refine eS rfl rfl ?_
    exact IH
theorem I_nameE (hF : cF ts L n0 S0 pa ps rp) (h : cI0 ts L n0 kd0 U0 S0 pa ps rp x K D kd n U S) : ∃ z : Int64, (kA ts x.1 = 30 → z = Int64.ofNat (pk 32 (nmA ts x.1))) ∧ aE aM80 d 0 [(0, .ref 23), (1, .int (Int32.ofNat x.1))] [] (gH scr kd n S) (aIs (some (.long z)) (gH scr kd n S)) := by
  obtain ⟨a1, a2, a3, a4, ⟨fd, fc, ⟨rv, t1, t2, t3, rfl, b1⟩, a6, a7⟩, a8, a9⟩ := h
  obtain ⟨f1, f2, f3, f4, f5, f6, f7, f8, f9, f10⟩ := hF
  have := a1.1
  have := f3.2.2.1
  exact c_nameAt (by omega) (rS_tk f3) (by omega)
/-- a definition comes to the end of the definitions -/
theorem c_linkD {c : dEf} (hF : cF ts L n0 S0 pa ps rp) (h : cI0 ts L n0 kd0 U0 S0 pa ps rp x K D kd n U S) (hq : n0 + 20 ≤ q) (hq2 : q < n + 20) (hlast : ∀ p ∈ D, p.1 < q) (hk : dI U (q, c)) (h9 : (U q)[9]? = some .null)
    (k : ∀ U' S', cI0 ts L n0 kd0 U0 S0 pa ps rp x K (D ++ [(q, c)]) kd n U' S' → U' q = U q → (∀ p, p ≠ q → fr9 (U p) (U' p)) → aE aM91 (d + 1) 83 [(0, .ref 22), (1, .ref q)] [] (gH scr kd n S') Q) : aE aM91 (d + 1) 55 [(0, .ref 22), (1, .ref q)] [] (gH scr kd n S) Q := by
  have hn0 := hF.1
  have hnn := h.2.1
  have hn : 67 ≤ n := by omega
  obtain ⟨e0, e2, e3, e5, e6, e7, etc⟩ := I_22 hF h
  have h0 := h
  obtain ⟨a1, a2, a3, a4, ⟨fd, fc, a5, a6, a7⟩, a8, a9⟩ := h
  cases hg : (D.map (fun p => p.1)).getLast? with
  | none =>
    have hK : D = [] := List.map_eq_nil_iff.mp (List.getLast?_eq_none_iff.mp hg)
    subst hK
    have e5 : (S 22)[5]? = some .null := e5
    obtain ⟨rv, t1, t2, t3, rfl, b1⟩ := a5
    refine eS rfl rfl ?_
    refine gGet hn rfl rfl rfl rfl ?_
    refine eS rfl rfl ?_
    refine eS rfl rfl ?_
    refine eS rfl rfl ?_
    refine gPut hn rfl rfl rfl rfl rfl rfl rfl rS_fd ?_
    refine eS rfl rfl ?_
    refine eS rfl rfl ?_
    refine eS rfl rfl ?_
    refine gPut hn rfl rfl rfl rfl rfl rfl rfl rS_ld ?_
    refine k U _ ⟨a1, a2, a3, a4, ⟨.ref q, fc, ⟨rv, t1, t2, t3, rfl, b1⟩, a6, chF_one h9⟩, a8, fun p hp => ?_⟩ rfl (fun p _ => fr9_id)
    rw [List.mem_singleton.mp hp]
    exact ⟨hq, hq2, hk⟩
  | some b =>
    have hl : lstV (D.map (fun p => p.1)) = .ref b := by unfold lstV; rw [hg]
    rw [hl] at e5
    obtain ⟨pb, hpb, hb⟩ := List.mem_map.mp (List.mem_of_getLast? hg)
    obtain ⟨k1, k2, k3⟩ := a9 pb hpb
    have k4 := hlast pb hpb
    rw [hb] at k1 k2 k4
    have kb := a4.2 b k1 k2
    have sb : S b = U b := I_87 hn0 h0 b (by omega)
    have ne : q ≠ b := by omega
    have bd : ∀ p ∈ K, p.1 ≠ b := fun p hp e => by
      have d1 := (a8 p hp).2.2.2.1
      have d2 := k3.2.1
      rw [hb] at d2
      rw [e, d2] at d1
      exact absurd (Value.int.inj (Option.some.inj d1)) (by decide)
    have fr : ∀ p, fr9 (U p) (aUp U b ((U b).set 9 (.ref q)) p) := fun p => by
      by_cases e : p = b
      · subst e; rw [aUp_same]; exact Or.inr ⟨_, rfl⟩
      · rw [aUp_ne e]; exact fr9_id
    refine eS rfl rfl ?_
    refine I_g22 rfl hF h0 e5 ?_
    refine eS rfl rfl ?_
    refine eS rfl rfl ?_
    refine I_g22 rfl hF h0 e5 ?_
    refine eS rfl rfl ?_
    refine gPutO rfl (by omega) (by omega) rfl kb.1 (by rw [sb]; exact kb.2) rfl rfl rfl ?_
    skip
    show aE aM91 (d + 1) 78 _ _ (gH scr kd n (aUp S b ((S b).set 9 (.ref q)))) Q
    rw [sb]
    obtain ⟨rv, t1, t2, t3, e, b1⟩ := cX_U (b := (U b).set 9 (.ref q)) a5 (show 87 ≤ b by omega)
    rw [e]
    refine eS rfl rfl ?_
    refine eS rfl rfl ?_
    refine gPut hn rfl rfl rfl rfl rfl rfl rfl rS_ld ?_
    skip
    have c1 := chF_snoc (q := q) hg (fun p hp => by obtain ⟨z, hz, rfl⟩ := List.mem_map.mp hp; exact hlast z hz) (fun p hp => by obtain ⟨z, hz, rfl⟩ := List.mem_map.mp hp; exact (a4.2 z.1 (a9 z hz).1 (a9 z hz).2.1).2) h9 a7
    refine k (aUp U b ((U b).set 9 (.ref q))) _ ⟨a1, a2, a3, bI_up a4 k1 (by rw [List.length_set]; exact kb.2), ⟨fd, fc, ⟨rv, t1, t2, t3, ?_, b1⟩, chF_tr (fun p hp => ?_) a6, by rw [List.map_append]; exact c1⟩, fun p hp => ?_, fun p hp => ?_⟩ (aUp_ne ne) (fun p _ => fr p)
    · rw [List.map_append]
      show _ = rS S0 _ pa fd (lstV (D.map (fun p => p.1) ++ [q])) _ _ _ _ _ _ _ _ _ _ _ _ _ _
      rw [lstV_snoc]
    · obtain ⟨z, hz, rfl⟩ := List.mem_map.mp hp
      rw [aUp_ne (bd z hz)]
    · obtain ⟨b1, b2, b3⟩ := a8 p hp
      refine ⟨b1, b2, ?_⟩
      unfold kI
      rw [aUp_ne (bd p hp)]
      exact b3
    · rcases List.mem_append.mp hp with hp | hp
      · obtain ⟨b1, b2, b0, b3, b4, b5⟩ := a9 p hp
        exact ⟨b1, b2, b0, (fr9_at (fr _) (by decide)).trans b3, (fr9_at (fr _) (by decide)).trans b4, (fr9_at (fr _) (by decide)).trans b5⟩
      · rw [List.mem_singleton.mp hp]
        refine ⟨hq, hq2, ?_⟩
        unfold dI
        rw [show aUp U b ((U b).set 9 (.ref q)) (q, c).1 = U q from aUp_ne ne]
        exact hk
theorem cF_ps {ps' : List (List Nat)} {rp' : List Value} (hF : cF ts L n0 S0 pa ps rp) (h1 : nmF 32 ps' rp') (h2 : ps'.length ≤ 3) (h3 : ∀ y ∈ ps', nmOk y) (h4 : rp'.length = 3) : cF ts L n0 S0 pa ps' rp' := by
  obtain ⟨f1, f2, f3, f4, f5, f6, f7, f8, f9, f10⟩ := hF
  exact ⟨f1, f2, f3, f4, f5, h1, h2, h3, h4, f10⟩
theorem I_addP (hF : cF ts L n0 S0 pa ps rp) (h : cI0 ts L n0 kd0 U0 S0 pa ps rp x K D kd n U S) (hp : ps.length < 3) (hx : nmOk nm) : ∃ S' rp', cF ts L n0 S0 pa (ps ++ [nm]) rp' ∧ cI0 ts L n0 kd0 U0 S0 pa (ps ++ [nm]) rp' x K D kd n U S' ∧ ∃ v, aE aM83 d 0 [(0, .ref 32), (1, .long (Int64.ofNat (pk 32 nm)))] [] (gH scr kd n S) (aIs (some (.int v)) (gH scr kd n S')) := by
  have hn : 67 ≤ n := by have := hF.1; have := h.2.1; omega
  obtain ⟨a1, a2, a3, a4, ⟨fd, fc, ⟨rv, t1, t2, t3, rfl, b1⟩, a6, a7⟩, a8, a9⟩ := h
  have hr := hF.2.2.2.2.2.2.2.2.1
  refine ⟨_, rp.set ps.length (.long (Int64.ofNat (pk 32 nm))), cF_ps hF (nmF_snoc hF.2.2.2.2.2.1 (by omega)) (by rw [List.length_append, List.length_singleton]; omega) (fun y hy => ?_) (by rw [List.length_set]; exact hr), ⟨a1, a2, a3, a4, ⟨fd, fc, ⟨rv, t1, t2, t3, rfl, b1⟩, a6, a7⟩, a8, a9⟩, Int32.ofNat ps.length, ?_⟩
  · rcases List.mem_append.mp hy with hy | hy
    · exact hF.2.2.2.2.2.2.2.1 y hy
    · rw [List.mem_singleton.mp hy]; exact hx
  rw [List.length_append, List.length_singleton]
  refine eS rfl rfl ?_
  refine gGet hn rfl rfl rfl rfl ?_
  refine eS rfl rfl ?_
  refine gGet hn rfl rfl rfl rfl ?_
  refine gLen hn rfl rfl rfl ?_
  rw [show ((rS S0 U pa fd (lstV (D.map (fun p => p.1))) (lstV (K.map (fun p => p.1))) x.1 (-1) x.2.1.length rv ps.length rp .null fc x.2.2.length 0 t1 t2 t3) 33).length = 3 from hr]
  refine eILt rfl rfl (fun _ => ?_) (fun z => absurd ((i32_lt (a := ps.length) (b := 3) (by omega) (by omega)).mpr hp) z)
  refine eS rfl rfl ?_
  refine gGet hn rfl rfl rfl rfl ?_
  refine eS rfl rfl ?_
  refine gGet hn rfl rfl rfl rfl ?_
  refine eS rfl rfl ?_
  refine gWr2 hn rfl rfl rfl ps.length (by omega) (by show ps.length < rp.length; omega) rS_rp ?_
  refine eS rfl rfl ?_
  refine eS rfl rfl ?_
  refine gGet hn rfl rfl rfl rfl ?_
  refine eS rfl rfl ?_
  refine eS rfl rfl ?_
  rw [i32_succ]
  refine gPut hn rfl rfl rfl rfl rfl rfl rfl rS_cp ?_
  refine eS rfl rfl ?_
  refine gGet hn rfl rfl rfl rfl ?_
  refine eS rfl rfl ?_
  refine eS rfl rfl ?_
  rw [show Int32.ofNat (ps.length + 1) - Int32.ofInt 1 = Int32.ofNat ps.length from i32_pre]
  exact eR rfl rfl ⟨rfl, rfl⟩
theorem I_fndP (hF : cF ts L n0 S0 pa ps rp) (h : cI0 ts L n0 kd0 U0 S0 pa ps rp x K D kd n U S) (hx : nmOk nm) : aE aM81 d 0 [(0, .ref 32), (1, .long (Int64.ofNat (pk 32 nm)))] [] (gH scr kd n S) (aIs (some (.int (fndV 0 ps nm))) (gH scr kd n S)) := by
  have hn : 67 ≤ n := by have := hF.1; have := h.2.1; omega
  obtain ⟨a1, a2, a3, a4, ⟨fd, fc, ⟨rv, t1, t2, t3, rfl, b1⟩, a6, a7⟩, a8, a9⟩ := h
  have := hF.2.2.2.2.2.2.1
  exact c_fnd (p := 32) hn (Or.inr rfl) rfl hF.2.2.2.2.2.1 (by omega) hF.2.2.2.2.2.2.2.1 hx
/-- the parameters are forgotten -/
theorem I_forget (hF : cF ts L n0 S0 pa ps rp) (h : cI0 ts L n0 kd0 U0 S0 pa ps rp x K D kd n U S) : ∃ S', cF ts L n0 S0 pa [] rp ∧ cI0 ts L n0 kd0 U0 S0 pa [] rp x K D kd n U S' ∧ aE aM38 d 0 [(0, .ref 32)] [] (gH scr kd n S) (aIs none (gH scr kd n S')) := by
  have hn : 67 ≤ n := by have := hF.1; have := h.2.1; omega
  obtain ⟨a1, a2, a3, a4, ⟨fd, fc, ⟨rv, t1, t2, t3, rfl, b1⟩, a6, a7⟩, a8, a9⟩ := h
  refine ⟨_, cF_ps hF (fun i y hy => by cases hy) (Nat.zero_le _) (fun y hy => by cases hy) hF.2.2.2.2.2.2.2.2.1, ⟨a1, a2, a3, a4, ⟨fd, fc, ⟨rv, t1, t2, t3, rfl, b1⟩, a6, a7⟩, a8, a9⟩, ?_⟩
  refine eS rfl rfl ?_
  refine eS rfl rfl ?_
  refine gPut hn rfl rfl rfl rfl rfl rfl rfl (rS_cp (u := 0)) ?_
  exact eR rfl rfl ⟨rfl, rfl⟩
end SDF
