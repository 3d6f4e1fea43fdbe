/-! a definition, read -/
section SDE
variable {scr : List Value} {n0 d L pa n q pc i j : Nat} {kd0 kd : Nat → Nat} {U0 S0 U S : Nat → List Value} {ts : List aTk} {ps : List (List Nat)} {rp : List Value} {x y : xSt} {K : List (Nat × cAl)} {D : List (Nat × dEf)} {dp : Int32} {res : aOut → aH → Prop} {f : Bool} {Q : aOut → aH → Prop} {nm : List Nat} {a tc0 : Nat}
theorem fnd_mem {ps : List (List Nat)} {x : List Nat} : ps.findIdx? (fun y => y == x) = none ↔ x ∉ ps := by
  rw [List.findIdx?_eq_none_iff]
  constructor
  · intro h hm
    have := h x hm
    simp at this
  · intro h y hy
    rw [beq_eq_false_iff_ne]
    exact fun e => h (by rw [← e]; exact hy)
theorem fndD_has {D : List (Nat × dEf)} {x : List Nat} : (hasD (D.map (fun p => p.2)) x = false → D.find? (fun p => p.2.1 == x) = none) ∧ (D.find? (fun p => p.2.1 == x) = none → hasD (D.map (fun p => p.2)) x = false) := by
  have e : hasD (D.map (fun p => p.2)) x = D.any (fun p => p.2.1 == x) := by
    unfold hasD
    rw [List.any_map]
    rfl
  rw [e]
  refine ⟨fun h => List.find?_eq_none.mpr (fun p hp => ?_), fun h => ?_⟩
  · have := List.any_eq_false.mp h p hp
    exact this
  · exact List.any_eq_false.mpr (fun p hp => List.find?_eq_none.mp h p hp)
theorem I_putD {c : Nat} {s v : Nat} (hn0 : 67 ≤ n0) (h : cI0 ts L n0 kd0 U0 S0 pa ps rp x K (D ++ [(q, (nm, v, s))]) kd n U S) (hq : n0 + 20 ≤ q) (hq2 : q < n + 20) (nk : (∀ p ∈ K, p.1 ≠ q) ∧ ∀ p ∈ D, p.1 ≠ q) : cI0 ts L n0 kd0 U0 S0 pa ps rp x K (D ++ [(q, (nm, c, s))]) kd n (aUp U q ((U q).set 1 (.int (Int32.ofNat c)))) (aUp S q ((S q).set 1 (.int (Int32.ofNat c)))) := by
  obtain ⟨a1, a2, a3, a4, ⟨fd, fc, a5, a6, a7⟩, a8, a9⟩ := h
  have hl := (a4.2 q hq hq2).2
  have sq : S q = U q := cX_87 a5 (by omega)
  have nd : ∀ z ∈ (D ++ [(q, (nm, v, s))]).map (fun p => p.1), (aUp U q ((U q).set 1 (.int (Int32.ofNat c))) z)[9]? = (U z)[9]? := fun z hz => by
    by_cases e : z = q
    · subst e
      rw [aUp_same, List.getElem?_set_ne (by decide)]
    · rw [aUp_ne e]
  have em : (D ++ [(q, (nm, c, s))]).map (fun p => p.1) = (D ++ [(q, (nm, v, s))]).map (fun p => p.1) := by rw [List.map_append, List.map_append]; rfl
  refine ⟨a1, a2, a3, bI_up a4 hq (by rw [List.length_set]; exact hl), ⟨fd, fc, ?_, chF_tr (fun p hp => ?_) a6, ?_⟩, fun p hp => ?_, fun p hp => ?_⟩
  · rw [em, sq]
    exact cX_U a5 (by omega)
  · obtain ⟨z, hz, rfl⟩ := List.mem_map.mp hp
    rw [aUp_ne (nk.1 z hz)]
  · rw [em]
    exact chF_tr nd a7
  · obtain ⟨b1, b2, b3⟩ := a8 p hp
    refine ⟨b1, b2, ?_⟩
    unfold kI
    rw [aUp_ne (nk.1 p hp)]
    exact b3
  · rcases List.mem_append.mp hp with hp | hp
    · obtain ⟨b1, b2, b3⟩ := a9 p (List.mem_append_left _ hp)
      refine ⟨b1, b2, ?_⟩
      unfold dI
      rw [aUp_ne (nk.2 p hp)]
      exact b3
    · obtain ⟨b1, b2, b0, b3, b4, b5⟩ := a9 (q, (nm, v, s)) (List.mem_append_right _ (List.mem_singleton.mpr rfl))
      rw [List.mem_singleton.mp hp]
      refine ⟨b1, b2, b0, ?_, ?_, ?_⟩
      · rw [aUp_same, List.getElem?_set_ne (by decide)]; exact b3
      · rw [aUp_same, List.getElem?_set_self (by omega)]
      · rw [aUp_same, List.getElem?_set_ne (by decide)]; exact b5
theorem c_prLoop : ∀ (m j : Nat) (ps : List (List Nat)) (rp : List Value) (x : xSt) (S : Nat → List Value), j + m = 3 → ps.length = j → cF ts L n0 S0 pa ps rp → cI0 ts L n0 kd0 U0 S0 pa ps rp x K D kd n U S → (∀ ps' rp' t S' j', prA ts L m x.1 ps = .ok (t, ps') → cF ts L n0 S0 pa ps' rp' → cI0 ts L n0 kd0 U0 S0 pa ps' rp' (t, x.2) K D kd n U S' → aE aM91 (d + 3) 160 [(2, .int j'), (0, .ref 22), (1, .ref q)] [] (gH scr kd n S') Q) → (∀ e o h', prA ts L m x.1 ps = .error e → cEr scr n0 kd0 U0 S0 pa e o h' → Q o h') → aE aM91 (d + 3) 85 [(2, .int (Int32.ofNat j)), (0, .ref 22), (1, .ref q)] [] (gH scr kd n S) Q
  | 0, j, ps, rp, x, S, hm, hj, hF, h, kk, kx => by
    obtain rfl : j = 3 := by omega
    refine eS rfl rfl ?_
    refine eS rfl rfl ?_
    refine eIGe rfl rfl (fun _ => ?_) (fun z => absurd (by decide) z)
    exact kk ps rp x.1 S _ rfl hF h
  | m + 1, j, ps, rp, x, S, hm, hj, hF, h, kk, kx => by
    have hn : 67 ≤ n := by have := hF.1; have := h.2.1; omega
    have hkb := hF.2.2.2.2.1 x.1
    have k30 := i32_eq (a := kA ts x.1) (b := 30) (by omega) (by omega)
    have k3 := i32_le (a := 3) (b := j) (by omega) (by omega)
    by_cases c : kA ts x.1 = 30
    · have hx := nmA_ok hF.2.2.2.1 c
      have hlt : x.1 < ts.length := kA_lt c (by decide)
      have fp := I_fndP (d := d + 2) (scr := scr) hF h hx
      by_cases cm : nmA ts x.1 ∈ ps
      · have hv : fndV 0 ps (nmA ts x.1) ≠ -1 := by
          cases e : ps.findIdx? (fun y => y == nmA ts x.1) with
          | none => exact absurd cm (fnd_mem.mp e)
          | some k =>
            rw [fndV_some e]
            have := fnd_lt e
            exact neg1_ne (by omega)
        refine eS rfl rfl ?_
        refine eS rfl rfl ?_
        refine eIGe rfl rfl (fun z => absurd (k3.mp z) (by omega)) (fun _ => ?_)
        refine eS rfl rfl ?_
        refine gV1 hn rfl rfl rfl rfl rfl ⟨catOk rfl, catOk rfl⟩ (I_here hF h) ?_
        refine eS rfl rfl ?_
        refine eINe rfl rfl (fun z => absurd (k30.mpr c) z) (fun _ => ?_)
        refine eS rfl rfl ?_
        refine I_g22 rfl hF h (I_22 hF h).2.1 ?_
        refine eS rfl rfl ?_
        refine I_g22 rfl hF h (I_22 hF h).1 ?_
        refine eS rfl rfl ?_
        refine I_g22 rfl hF h (I_22 hF h).2.2.2.2.2.1 ?_
        refine gV1 hn rfl rfl rfl rfl rfl ⟨catOk rfl, catOk rfl⟩ (I_name hF h c) ?_
        refine gV1 hn rfl rfl rfl rfl rfl ⟨catOk rfl, catOk rfl⟩ (fp) ?_
        refine eS rfl rfl ?_
        refine eIEq rfl rfl (fun z => absurd z hv) (fun _ => ?_)
        refine eS rfl rfl ?_
        exact I_ref hF h rfl rfl ⟨catOk rfl, catOk rfl⟩ rfl (fun o h' hc => kx _ o h' (by rw [prA, if_pos c, if_pos cm]) hc)
      · have hv : fndV 0 ps (nmA ts x.1) = -1 := fndV_none (fnd_mem.mpr cm)
        obtain ⟨S2, rp2, hF2, h2, w, a2⟩ := I_addP (d := d + 2) (scr := scr) hF h (by omega) hx
        refine eS rfl rfl ?_
        refine eS rfl rfl ?_
        refine eIGe rfl rfl (fun z => absurd (k3.mp z) (by omega)) (fun _ => ?_)
        refine eS rfl rfl ?_
        refine gV1 hn rfl rfl rfl rfl rfl ⟨catOk rfl, catOk rfl⟩ (I_here hF h) ?_
        refine eS rfl rfl ?_
        refine eINe rfl rfl (fun z => absurd (k30.mpr c) z) (fun _ => ?_)
        refine eS rfl rfl ?_
        refine I_g22 rfl hF h (I_22 hF h).2.1 ?_
        refine eS rfl rfl ?_
        refine I_g22 rfl hF h (I_22 hF h).1 ?_
        refine eS rfl rfl ?_
        refine I_g22 rfl hF h (I_22 hF h).2.2.2.2.2.1 ?_
        refine gV1 hn rfl rfl rfl rfl rfl ⟨catOk rfl, catOk rfl⟩ (I_name hF h c) ?_
        refine gV1 hn rfl rfl rfl rfl rfl ⟨catOk rfl, catOk rfl⟩ (fp) ?_
        refine eS rfl rfl ?_
        refine eIEq rfl rfl (fun _ => ?_) (fun z => absurd hv z)
        refine eS rfl rfl ?_
        refine I_g22 rfl hF h (I_22 hF h).2.1 ?_
        refine eS rfl rfl ?_
        refine I_g22 rfl hF h (I_22 hF h).1 ?_
        refine eS rfl rfl ?_
        refine I_g22 rfl hF h (I_22 hF h).2.2.2.2.2.1 ?_
        refine gV1 hn rfl rfl rfl rfl rfl ⟨catOk rfl, catOk rfl⟩ (I_name hF h c) ?_
        refine gV1 hn rfl rfl rfl rfl rfl ⟨catOk rfl, catOk rfl⟩ (a2) ?_
        refine eS rfl rfl ?_
        refine I_tick hn rfl rfl rfl rfl rfl rfl rfl h2 hlt (fun S3 h3 => ?_)
        refine eS rfl rfl ?_
        refine eS rfl rfl ?_
        rw [i32_succ]
        exact c_prLoop m (j + 1) (ps ++ [nmA ts x.1]) rp2 (x.1 + 1, x.2) S3 (by omega) (by rw [List.length_append, List.length_singleton, hj]) hF2 h3 (fun ps' rp' t S' j' e hF' h' => kk ps' rp' t S' j' (by rw [prA, if_pos c, if_neg cm]; exact e) hF' h') (fun e o h' he hc => kx e o h' (by rw [prA, if_pos c, if_neg cm]; exact he) hc)
    · skip
      refine eS rfl rfl ?_
      refine eS rfl rfl ?_
      refine eIGe rfl rfl (fun z => absurd (k3.mp z) (by omega)) (fun _ => ?_)
      refine eS rfl rfl ?_
      refine gV1 hn rfl rfl rfl rfl rfl ⟨catOk rfl, catOk rfl⟩ (I_here hF h) ?_
      refine eS rfl rfl ?_
      refine eINe rfl rfl (fun _ => ?_) (fun z => absurd (k30.mp z) c)
      exact kk ps rp x.1 S _ (by rw [prA, if_neg c]) hF h
end SDE
