/-! a call, read whole -/
section SCM
variable {scr : List Value} {n0 d L pa n q pc i j : Nat} {kd0 kd : Nat → Nat} {U0 S0 U S : Nat → List Value} {ts : List aTk} {ps : List (List Nat)} {rp : List Value} {x y : xSt} {K : List (Nat × cAl)} {D : List (Nat × dEf)} {dp : Int32} {res : aOut → aH → Prop} {f : Bool} {Q : aOut → aH → Prop} {tc0 a : Nat}
theorem c_call {k0 : Nat} (hF : cF ts L n0 S0 pa ps rp) (h : cI0 ts L n0 kd0 U0 S0 pa ps rp x K D kd n U S) (hq : n0 + 20 ≤ q) (hq2 : q < n + 20) (nk : (∀ p ∈ K, p.1 ≠ q) ∧ ∀ p ∈ D, p.1 ≠ q) (hlast : ∀ p ∈ K, p.1 < q) (hU : U q = stV k0 0 tc0 0 .null 0 .null .null 0 .null 0 .null 0) (hk : kA ts x.1 = 30)
    (kk : ∀ y U' S', argsA ts L ps (x.1 + 1, x.2) = .ok y → cI0 ts L n0 kd0 U0 S0 pa ps rp y.1 (K ++ [(q, (nmA ts x.1, y.2, a + 1 + (nwW x y.1).length + 1, x.1))]) D kd n U' S' → U' q = stV 16 y.2 tc0 0 .null 0 .null .null (Int64.ofNat (pk 32 (nmA ts x.1))) .null (Int32.ofNat (plA ts L x.1)) .null 0 → (∀ p, p ≠ q → fr9 (U p) (U' p)) → Q (.inl none) (gH scr kd n S'))
    (kx : ∀ e o h', argsA ts L ps (x.1 + 1, x.2) = .error e → cEr scr n0 kd0 U0 S0 pa e o h' → Q o h') : aE aM90 (d + 19) 0 [(0, .ref 22), (1, .ref q)] [] (gH scr kd n S) Q := by
  have hn0 := hF.1
  have hnn := h.2.1
  have hn : 67 ≤ n := by omega
  have hx := h.1
  have hlt : x.1 < ts.length := kA_lt hk (by decide)
  have hnm := nmA_ok hF.2.2.2.1 hk
  have f123 : ∀ z U5 S5, arg0 ts L ps (x.1 + 2, x.2) = .ok z → kA ts (x.1 + 1) = 40 → cI0 ts L n0 kd0 U0 S0 pa ps rp z.1 K D kd n U5 S5 → U5 q = stV 16 z.2 tc0 0 .null 0 .null .null (Int64.ofNat (pk 32 (nmA ts x.1))) .null (Int32.ofNat (plA ts L x.1)) .null 0 → (∀ p, p ≠ q → U5 p = U p) → aE aM90 (d + 19) 123 [(0, .ref 22), (1, .ref q)] [] (gH scr kd n S5) Q := by
    intro z U5 S5 ez hk40 h5 u5 v5
    refine eS rfl rfl ?_
    refine eS rfl rfl ?_
    refine I_exp (k := 41) (by decide) (by decide) hF h5 rfl rfl ⟨catOk rfl, catOk rfl⟩ rfl (fun S6 c h6 => ?_) (fun o h' c hc => kx _ _ _ (by unfold argsA; rw [if_pos hk40]; dsimp only; rw [ez]; dsimp only; rw [if_neg c]) hc)
    have ey : argsA ts L ps (x.1 + 1, x.2) = .ok ((z.1.1 + 1, z.1.2), z.2) := by unfold argsA; rw [if_pos hk40]; dsimp only; rw [ez]; dsimp only; rw [if_pos c]
    refine c_link (c := (nmA ts x.1, z.2, a + 1 + (nwW x (z.1.1 + 1, z.1.2)).length + 1, x.1)) hF h6 hq hq2 hlast ⟨hnm, by rw [u5]; rfl, by rw [u5]; rfl, by rw [u5]; rfl, by rw [u5]; rfl⟩ (by rw [u5]; rfl) (fun U7 S7 h7 u7 v7 => kk ((z.1.1 + 1, z.1.2), z.2) U7 S7 ey h7 (u7.trans u5) (fun p hp => ?_))
    have := v7 p hp
    rw [v5 p hp] at this
    exact this
  refine eS rfl rfl ?_
  refine eS rfl rfl ?_
  refine I_put rfl rfl rfl rfl rfl hF h hq hq2 hU (Or.inl nk) (fun U1 S1 h1 u1 v1 => ?_)
  refine eS rfl rfl ?_
  refine eS rfl rfl ?_
  refine I_g22 rfl hF h1 (I_22 hF h1).1 ?_
  refine eS rfl rfl ?_
  refine I_g22 rfl hF h1 (I_22 hF h1).2.2.2.2.2.1 ?_
  refine gV1 hn rfl rfl rfl rfl rfl ⟨catOk rfl, catOk rfl⟩ (I_name hF h1 hk) ?_
  refine I_put rfl rfl rfl rfl rfl hF h1 hq hq2 u1 (Or.inl nk) (fun U2 S2 h2 u2 v2 => ?_)
  refine eS rfl rfl ?_
  refine eS rfl rfl ?_
  refine I_g22 rfl hF h2 (I_22 hF h2).1 ?_
  refine eS rfl rfl ?_
  refine I_g22 rfl hF h2 (I_22 hF h2).2.2.2.2.2.1 ?_
  refine gV1 hn rfl rfl rfl rfl rfl ⟨catOk rfl, catOk rfl⟩ (I_place hF h2) ?_
  refine I_put rfl rfl rfl rfl rfl hF h2 hq hq2 u2 (Or.inl nk) (fun U3 S3 h3 u3 v3 => ?_)
  refine I_tick hn rfl rfl rfl rfl rfl rfl rfl h3 hlt (fun S4 h4 => ?_)
  have v3' : ∀ p, p ≠ q → U3 p = U p := fun p hp => ((v3 p hp).trans (v2 p hp)).trans (v1 p hp)
  refine eS rfl rfl ?_
  refine eS rfl rfl ?_
  refine I_exp (k := 40) (by decide) (by decide) hF h4 rfl rfl ⟨catOk rfl, catOk rfl⟩ rfl (fun S5 c h5 => ?_) (fun o h' c hc => kx _ _ _ (by unfold argsA; rw [if_neg c]) hc)
  have c : kA ts (x.1 + 1) = 40 := c
  have hb := hF.2.2.2.2.1 (x.1 + 2)
  by_cases c3 : kA ts (x.1 + 2) = 41
  · skip
    refine eS rfl rfl ?_
    refine gV1 hn rfl rfl rfl rfl rfl ⟨catOk rfl, catOk rfl⟩ (I_here hF h5) ?_
    refine eS rfl rfl ?_
    refine eIEq rfl rfl (fun _ => ?_) (fun z => absurd ((i32_eq (a := kA ts (x.1 + 2)) (b := 41) (by omega) (by omega)).mpr c3) z)
    refine eS rfl rfl ?_
    refine I_get (v := .int (Int32.ofNat 0)) rfl hF h5 hq hq2 u3 rfl ?_
    refine eLe rfl rfl (fun _ => ?_) (fun z => absurd (by decide) z)
    exact f123 ((x.1 + 2, x.2), 0) U3 S5 (by unfold arg0; rw [if_pos c3]) c h5 u3 v3'
  · have ea : arg0 ts L ps (x.1 + 2, x.2) = argA ts L ps (2 + 1) (x.1 + 2, x.2) 0 := by unfold arg0; rw [if_neg c3]
    refine eS rfl rfl ?_
    refine gV1 hn rfl rfl rfl rfl rfl ⟨catOk rfl, catOk rfl⟩ (I_here hF h5) ?_
    refine eS rfl rfl ?_
    refine eIEq rfl rfl (fun z => absurd ((i32_eq (a := kA ts (x.1 + 2)) (b := 41) (by omega) (by omega)).mp z) c3) (fun _ => ?_)
    refine eS rfl rfl ?_
    refine eS rfl rfl ?_
    refine I_sum hF h5 rfl rfl ⟨catOk rfl, catOk rfl⟩ rfl (fun y S6 e h6 => ?_) (fun e o h' he hc => kx _ _ _ (by unfold argsA; rw [if_pos c]; dsimp only; rw [ea, argA_ct, he]) hc)
    refine eS rfl rfl ?_
    refine eS rfl rfl ?_
    refine I_put rfl rfl rfl rfl rfl hF h6 hq hq2 u3 (Or.inl nk) (fun U7 S7 h7 u7 v7 => ?_)
    exact c_argLoop hF hq hq2 nk 2 1 y U7 S7 rfl (Nat.le_refl _) h7 u7 (fun z m U8 S8 e8 h8 u8 v8 => f123 (z, m) U8 S8 (by rw [ea, argA_ct, e]; exact e8) c h8 u8 (fun p hp => ((v8 p hp).trans (v7 p hp)).trans (v3' p hp))) (fun e8 o h' he hc => kx _ _ _ (by unfold argsA; rw [if_pos c]; dsimp only; rw [ea, argA_ct, e]; dsimp only; rw [he]) hc)
theorem c_callS {g : Nat} (hF : cF ts L n0 S0 pa ps rp) (hf : ps ≠ [] → f = true) (h : cI0 ts L n0 kd0 U0 S0 pa ps rp x K D kd n U S) (hb : n ≤ n0 + x.1) (hk : kA ts x.1 = 30) : aE aM71 (d + 20) 0 [(0, .ref 22), (1, .int dp)] [] (gH scr kd n S) (stO scr (fun x => x) (cIb ts L n0 kd0 U0 S0 pa ps rp D) (cEr scr n0 kd0 U0 S0 pa) (stP f g) kd n U x K D a (callA ts L ps a x)) := by
  have hn := hF.1
  have hnn := h.2.1
  have hx := h.1
  refine c_stBegin hF h hb (fun kd1 U1 S1 h1 u1 v1 => ?_)
  have nk : (∀ p ∈ K, p.1 ≠ n + 20) ∧ ∀ p ∈ D, p.1 ≠ n + 20 := ⟨fun p hp => by have := (h.2.2.2.2.2.1 p hp).2.1; omega, fun p hp => by have := (h.2.2.2.2.2.2 p hp).2.1; omega⟩
  have hl : ∀ p ∈ K, p.1 < n + 20 := fun p hp => (h.2.2.2.2.2.1 p hp).2.1
  rw [hk]
  refine eB (pc' := 168) (st' := []) rfl rfl rfl rfl ?_
  refine eS rfl rfl ?_
  refine eS rfl rfl ?_
  refine gVq (by omega) rfl rfl rfl rfl rfl ⟨catOk rfl, catOk rfl⟩ rfl (c_call (a := a) hF h1 (by omega) (by omega) nk hl u1 hk (fun y U2 S2 e1 h2 u2 v2 => Or.inl ⟨rfl, ?_⟩) (fun e o h' e1 z => ?_))
  · have ec : callA ts L ps a x = .ok (y.1, 0 :: (nwW x y.1 ++ [16, 0, y.2]), [(nmA ts x.1, y.2, a + 1 + (nwW x y.1).length + 1, x.1)]) := by unfold callA; rw [e1]
    rw [ec]
    have o1 := xTick hx hk (by decide)
    obtain ⟨r1, r2, r3, ⟨l, r4⟩, r5, r6⟩ := argsA_rd hF.2.2.2.1 _ y o1 e1
    have r2 : x.1 + 1 + 2 ≤ y.1.1 := r2
    have r4 : y.1.2.2 = x.2.2 ++ l := r4
    obtain ⟨l', t1, t2⟩ := argsA_hg (f := f) hF.2.2.2.1 hF.2.2.2.2.2.2.2.2.2 hF.2.2.2.2.2.2.1 hf _ y o1 e1
    have t1 : y.1.2.2 = x.2.2 ++ l' := t1
    refine eS rfl rfl ?_
    refine c_fin (R := uBk f g U y.1.2.2) (K' := [(n + 20, (nmA ts x.1, y.2, a + 1 + (nwW x y.1).length + 1, x.1))]) (M := [(n + 20, a + 1 + (nwW x y.1).length + 1)]) hF hnn h2 u2 (by omega) (by omega) (by omega) (by omega) rfl ⟨fun p hp => by rw [List.mem_singleton.mp hp]; exact List.mem_singleton.mpr rfl, fun e he => Or.inl ⟨_, List.mem_singleton.mpr rfl, by rw [List.mem_singleton.mp he]⟩⟩ (by omega) ⟨l, r4⟩ (fun p hp => ⟨(v1 p hp).1, by rw [← (v1 p hp).2]; exact v2 p (by omega)⟩) (fun U' u' => ?_)
    refine ⟨16, y.2, x.2.2.length, y.1.2.2.length, .null, 0, .null, _, _, ⟨_, _, _, _, u'⟩, by rw [r4, List.length_append]; omega, Nat.le_refl _, ?_⟩
    rw [tk_all]
    refine Or.inr (Or.inr (Or.inl ⟨rfl, r6, ?_, rfl, rfl⟩))
    rw [t1, List.drop_left]
    exact t2
  · obtain ⟨q, rfl⟩ := cEr_inr z
    have ec : callA ts L ps a x = .error e := by unfold callA; rw [e1]
    rw [ec]
    exact Or.inr ⟨q, rfl, z⟩
end SCM
