/-! what was read and written is a program's tree -/
section TRG
variable {K : List (Nat × cAl)} {D : List (Nat × dEf)} {M : List (Nat × Nat)} {k L0 : Nat} {ws ws' : List Nat} {U : Nat → List Value} {tm : List (Nat × Nat × Nat)} {n0 n : Nat} {ts : List aTk} {fs fc : Value} {ds : List dEf}
theorem mOrd {a b lo hi : Nat} : ∀ {M : List (Nat × Nat)}, M.Pairwise (fun p q => p.1 < q.1 ∧ p.2 < q.2) → ∀ p ∈ M, ∀ q ∈ M, p = q ∨ (p.1 < q.1 ∧ p.2 < q.2) ∨ (q.1 < p.1 ∧ q.2 < p.2)
  | [], _, p, hp => by cases hp
  | x :: r, h, p, hp => fun q hq => by
    obtain ⟨h1, h2⟩ := List.pairwise_cons.mp h
    rcases List.mem_cons.mp hp with ep | hp
    · rcases List.mem_cons.mp hq with eq | hq
      · exact Or.inl (ep.trans eq.symm)
      · rw [ep]; exact Or.inr (Or.inl (h1 q hq))
    · rcases List.mem_cons.mp hq with eq | hq
      · rw [eq]; exact Or.inr (Or.inr (h1 p hp))
      · exact mOrd (a := a) (b := b) (lo := lo) (hi := hi) h2 p hp q hq
theorem lnkA_no : ∀ (cs : List cAl) (ws ws' : List Nat), lnkA ts L0 ds cs ws = .ok ws' → ∀ i, (∀ c ∈ cs, c.2.2.1 ≠ i) → ws'[i]? = ws[i]?
  | [], ws, ws', h, i, hi => by cases h; rfl
  | c :: cs, ws, ws', h, i, hi => by
    rw [lnkA] at h
    cases e : ds.find? (fun d => d.1 == c.1) with
    | none => rw [e] at h; cases h
    | some d =>
      rw [e] at h
      dsimp only at h
      by_cases e2 : d.2.1 = c.2.1
      · rw [if_pos e2] at h
        rw [lnkA_no cs _ _ h i (fun c hc => hi c (List.mem_cons_of_mem _ hc)), List.getElem?_set_ne (hi c (List.mem_cons_self ..))]
      · rw [if_neg e2] at h; cases h
theorem lnkA_at : ∀ (cs : List cAl) (ws ws' : List Nat), lnkA ts L0 ds cs ws = .ok ws' → cs.Pairwise (fun a b => a.2.2.1 ≠ b.2.2.1) → (∀ c ∈ cs, c.2.2.1 < ws.length) → ∀ c ∈ cs, ∃ d, ds.find? (fun d => d.1 == c.1) = some d ∧ ws'[c.2.2.1]? = some d.2.2
  | [], ws, ws', h, hd, hl, c, hc => by cases hc
  | b :: cs, ws, ws', h, hd, hl, c, hc => by
    obtain ⟨h1, h2⟩ := List.pairwise_cons.mp hd
    rw [lnkA] at h
    cases e : ds.find? (fun d => d.1 == b.1) with
    | none => rw [e] at h; cases h
    | some d =>
      rw [e] at h
      dsimp only at h
      by_cases e2 : d.2.1 = b.2.1
      · rw [if_pos e2] at h
        rcases List.mem_cons.mp hc with ec | hc
        · rw [ec]
          refine ⟨d, e, ?_⟩
          rw [lnkA_no cs _ _ h b.2.2.1 (fun c hc => (h1 c hc).symm), List.getElem?_set_self (hl b (List.mem_cons_self ..))]
        · exact lnkA_at cs _ _ h h2 (fun c hc => by rw [List.length_set]; exact hl c (List.mem_cons_of_mem _ hc)) c hc
      · rw [if_neg e2] at h; cases h
/-- the objects in the end -/
def fnU (K : List (Nat × cAl)) (D : List (Nat × dEf)) (M : List (Nat × Nat)) (U : Nat → List Value) : Nat → List Value := cpU M (lkU D K U)
theorem lkU_frA (q : Nat) : frA (U q) (lkU D K U q) := by
  rcases lkU_fr (D := D) (K := K) K U (fun p hp => hp) q with e | ⟨-, v, e⟩
  · exact Or.inl e
  · exact Or.inr (Or.inr (Or.inl ⟨v, e⟩))
theorem tpP_fr {U U' : Nat → List Value} (h : ∀ q, frA (U q) (U' q)) {v : Value} (hT : hLs U (tpP U tm) k v 0 ws M (n0 + 20) (n + 20)) : hLs U' (tpP U' tm) k v 0 ws M (n0 + 20) (n + 20) := hLs_mono 0 (n + 20) (fun q a ws M lo hi q1 q2 q3 q4 z => tpP_okA U U' tm q a ws M lo hi q3 q4 z (fun p _ _ => h p)) (fun q _ _ => frA_at (h q) (by decide)) (Nat.zero_le _) (Nat.le_refl _) hT
/-- all that the coder, the walker want -/
theorem rTree (hn0 : 67 ≤ n0) (hU : ∀ p, n0 + 20 ≤ p → p < n + 20 → (U p).length = 13) (hm1 : ∀ p ∈ K, (p.1, p.2.2.2.1) ∈ M) (hm2 : ∀ p ∈ D, (p.1, p.2.2.2) ∈ M) (hcv : mCv K D M) (hT : hLs U (tpP U tm) k fs 0 ws M (n0 + 20) (n + 20)) (hch : chF U fc (K.map (fun p => p.1))) (hk : ∀ p ∈ K, n0 + 20 ≤ p.1 ∧ p.1 < n + 20 ∧ kI ts L0 U p) (hd : ∀ p ∈ D, n0 + 20 ≤ p.1 ∧ p.1 < n + 20 ∧ dI U p) (hl : lnkA ts L0 (D.map (fun p => p.2)) (K.map (fun p => p.2)) (ws ++ [27]) = .ok ws') : hLs (lkU D K U) (tpP (lkU D K U) tm) k fs 0 ws M (n0 + 20) (n + 20) ∧ chF (lkU D K U) fc (K.map (fun p => p.1)) ∧ (∀ p ∈ K, (lkU D K U p.1)[11]? = some (fndD D p.2.1)) ∧ ∀ (L : Nat → Option aO) (T : Nat → Nat × Nat × Nat), (∀ q, n0 + 20 ≤ q → q < n + 20 → L q = some (30, fnU K D M U q)) → (∀ (j : Nat) (x : Nat × Nat × Nat), tm[j]? = some x → T j = x) → tPrg (fun j => ws'.getD j 27) (ws.length + 1) T tm.length L fs := by
  have hM := tpP_M hT
  have pk : (K.map (fun p => p.1)).Pairwise (· < ·) := chF_pw hch
  have a11 := lkU_at (D := D) K U pk (fun p hp => hU _ (hk p hp).1 (hk p hp).2.1)
  have f1 : ∀ q, frA (U q) (lkU D K U q) := lkU_frA
  have f2 : ∀ q, frA (lkU D K U q) (fnU K D M U q) := fun q => cpU_frA M _ q
  have c9 : ∀ p : Nat, (lkU D K U p)[9]? = (U p)[9]? := fun p => by
    rcases lkU_fr (D := D) (K := K) K U (fun p hp => hp) p with e | ⟨-, v, e⟩
    · rw [e]
    · rw [e, List.getElem?_set_ne (by decide)]
  have t1 := tpP_fr f1 hT
  have t2 := tpP_fr f2 t1
  refine ⟨t1, chF_tr (fun p _ => c9 p) hch, a11, fun L T hL hTm => ?_⟩
  have v0 : ∀ q, (fnU K D M U q)[0]? = (U q)[0]? := fun q => (frA_at (f2 q) (by decide)).trans (frA_at (f1 q) (by decide))
  have v11 : ∀ q, (fnU K D M U q)[11]? = (lkU D K U q)[11]? := fun q => by
    rcases cpU_fr M (lkU D K U) q with e | ⟨i, e⟩
    · show (cpU M (lkU D K U) q)[11]? = _
      rw [e]
    · show (cpU M (lkU D K U) q)[11]? = _
      rw [e, List.getElem?_set_ne (by decide)]
  have hp : (K.map (fun p => p.2)).Pairwise (fun a b => a.2.2.1 ≠ b.2.2.1) := by
    refine List.pairwise_map.mpr (List.Pairwise.imp_of_mem (fun {a b} ha hb hab => ?_) (List.pairwise_map.mp pk))
    rcases mOrd (a := 0) (b := 0) (lo := 0) (hi := 0) hM.2 _ (hm1 a ha) _ (hm1 b hb) with e | ⟨-, e⟩ | ⟨e, -⟩
    · have e : a.1 = b.1 := congrArg (fun z : Nat × Nat => z.1) e
      omega
    · have e : a.2.2.2.1 < b.2.2.2.1 := e
      omega
    · have e : b.1 < a.1 := e
      omega
  have lt : ∀ c ∈ K.map (fun p => p.2), c.2.2.1 < (ws ++ [27]).length := fun c hc => by
    obtain ⟨p, hp', rfl⟩ := List.mem_map.mp hc
    have : p.2.2.2.1 < 0 + ws.length := (hM.1 _ (hm1 p hp')).2.2.2
    rw [List.length_append, List.length_singleton]
    show p.2.2.2.1 < _
    omega
  have at1 := lnkA_at _ _ _ hl hp lt
  refine tPrg_of (K := K) (Dr := fun q s => ∃ z ∈ D, z.1 = q ∧ z.2.2.2 = s) (V := fnU K D M U) (Mg := M) (n0 := n0) (n := n) ⟨hn0, hL, hTm, fun e he h16 => ?_, fun p hp => ?_⟩ t2 (fun i x hi hk' => ?_) hm1 (fun q s ⟨z, hz, z1, z2⟩ => ?_)
  · rw [v0] at h16
    rcases hcv e he with ⟨p, hp', z⟩ | ⟨p, hp', z⟩
    · obtain ⟨d, d1, d2⟩ := at1 p.2 (List.mem_map.mpr ⟨p, hp', rfl⟩)
      rw [fnd_map] at d1
      obtain ⟨z0, z1, z2⟩ := Option.map_eq_some_iff.mp d1
      have e2 : e.2 = p.2.2.2.1 := by
        rcases mOrd (a := 0) (b := 0) (lo := 0) (hi := 0) hM.2 _ he _ (hm1 p hp') with y | ⟨y, -⟩ | ⟨y, -⟩
        · rw [y]
        · have y : e.1 < p.1 := y
          omega
        · have y : p.1 < e.1 := y
          omega
      refine ⟨z0.1, ?_, z0, List.mem_of_find?_eq_some z1, rfl, ?_⟩
      · rw [v11, ← z, a11 p hp']
        unfold fndD
        rw [z1]
      · show z0.2.2.2 = ws'.getD e.2 27
        rw [e2, List.getD_eq_getElem?_getD, d2, ← z2]
        rfl
    · rw [← z, (hd p hp').2.2.2.1] at h16
      exact absurd h16 (by decide)
  · rw [v0]
    exact (hk p hp).2.2.2.1
  · show ws'.getD (0 + i) 27 = x
    rw [Nat.zero_add] at hk' ⊢
    rw [List.getD_eq_getElem?_getD, lnkA_no _ _ _ hl i (fun c hc => ?_), hi]
    · rfl
    · obtain ⟨p, hp', rfl⟩ := List.mem_map.mp hc
      exact hk' p hp'
  · rw [← z1, ← z2]
    exact ⟨hm2 z hz, by rw [v0]; exact (hd z hz).2.2.2.1⟩
end TRG
