/-- a call, a definition, as they are linked -/
def kI (ts : List aTk) (L : Nat) (U : Nat → List Value) (p : Nat × cAl) : Prop := nmOk p.2.1 ∧ (U p.1)[0]? = some (.int (Int32.ofNat 16)) ∧ (U p.1)[1]? = some (.int (Int32.ofNat p.2.2.1)) ∧ (U p.1)[8]? = some (.long (Int64.ofNat (pk 32 p.2.1))) ∧ (U p.1)[10]? = some (.int (Int32.ofNat (plA ts L p.2.2.2.2)))
def dI (U : Nat → List Value) (p : Nat × dEf) : Prop := nmOk p.2.1 ∧ (U p.1)[0]? = some (.int (Int32.ofNat 31)) ∧ (U p.1)[1]? = some (.int (Int32.ofNat p.2.2.1)) ∧ (U p.1)[8]? = some (.long (Int64.ofNat (pk 32 p.2.1)))
/-- what was there before stays; what is new is a statement -/
def bI (n0 : Nat) (kd0 : Nat → Nat) (U0 : Nat → List Value) (kd : Nat → Nat) (n : Nat) (U : Nat → List Value) : Prop := (∀ p, p < n0 + 20 → kd p = kd0 p ∧ U p = U0 p) ∧ ∀ p, n0 + 20 ≤ p → p < n + 20 → kd p = 30 ∧ (U p).length = 13
def cI0 (ts : List aTk) (L n0 : Nat) (kd0 : Nat → Nat) (U0 S0 : Nat → List Value) (pa : Nat) (ps : List (List Nat)) (rp : List Value) (x : xSt) (K : List (Nat × cAl)) (D : List (Nat × dEf)) (kd : Nat → Nat) (n : Nat) (U S : Nat → List Value) : Prop := xOk ts x ∧ n0 ≤ n ∧ n ≤ n0 + x.1 + 1 ∧ bI n0 kd0 U0 kd n U ∧
  (∃ fd fc, cX S0 U pa fd (lstV (D.map (fun p => p.1))) (lstV (K.map (fun p => p.1))) (-1) ps.length rp .null fc 0 x S ∧ chF U fc (K.map (fun p => p.1)) ∧ chF U fd (D.map (fun p => p.1))) ∧ (∀ p ∈ K, n0 + 20 ≤ p.1 ∧ p.1 < n + 20 ∧ kI ts L U p) ∧ ∀ p ∈ D, n0 + 20 ≤ p.1 ∧ p.1 < n + 20 ∧ dI U p
/-- what does not change while a text is read -/
def cF (ts : List aTk) (L n0 : Nat) (S0 : Nat → List Value) (pa : Nat) (ps : List (List Nat)) (rp : List Value) : Prop := 67 ≤ n0 ∧ (pa = 46 ∨ pa = 51) ∧ tcS S0 ts L ∧ tsN ts ∧ (∀ t, kA ts t < 2 ^ 20) ∧ nmF 32 ps rp ∧ ps.length ≤ 3 ∧ (∀ y ∈ ps, nmOk y) ∧ rp.length = 3 ∧ ∀ t, kA ts t = 1 → dgA ts t ≤ 2 ^ 20 ∧ bhA ts t ≤ 2
/-- what an error leaves -/
def cEr (scr : List Value) (n0 : Nat) (kd0 : Nat → Nat) (U0 S0 : Nat → List Value) (pa e : Nat) (o : aOut) (h : aH) : Prop := ∃ (kd : Nat → Nat) (n : Nat) (U : Nat → List Value) (fd ld lc : Value) (t cv : Nat) (rv : List Value) (cp : Nat) (rp : List Value) (fc : Value) (tc : Nat) (t1 t2 t3 : List Value), (rv.length = 8 ∧ rp.length = 3 ∧ t1.length = 160 ∧ t2.length = 160 ∧ t3.length = 160) ∧ n0 ≤ n ∧ n ≤ n0 + 161 ∧ bI n0 kd0 U0 kd n U ∧ thr (gH scr kd n (rS S0 U pa fd ld lc t (Int32.ofNat e) cv rv cp rp .null fc tc 0 t1 t2 t3)) o h
section CIV
variable {scr : List Value} {n0 d L pa n : Nat} {kd0 kd : Nat → Nat} {U0 S0 U S : Nat → List Value} {ts : List aTk} {ps : List (List Nat)} {rp : List Value} {x : xSt} {K : List (Nat × cAl)} {D : List (Nat × dEf)}
theorem cEr_no {e : Nat} {v : Option Value} {h : aH} : ¬ cEr scr n0 kd0 U0 S0 pa e (.inl v) h := by
  rintro ⟨kd, n, U, fd, ld, lc, t, cv, rv, cp, rp, fc, tc, t1, t2, t3, z1, z2, z3, z4, z5⟩
  cases z5.1
theorem cX_87 {fd ld lc fs fc : Value} {ep wc : Int32} {cp p : Nat} (h : cX S0 U pa fd ld lc ep cp rp fs fc wc x S) (hp : 87 ≤ p) : S p = U p := by
  obtain ⟨rv, t1, t2, t3, rfl, -⟩ := h
  unfold rS
  rw [if_pos (Nat.ble_eq.mpr hp)]
theorem cX_U {fd ld lc fs fc : Value} {ep wc : Int32} {cp p : Nat} {b : List Value} (h : cX S0 U pa fd ld lc ep cp rp fs fc wc x S) (hp : 87 ≤ p) : cX S0 (aUp U p b) pa fd ld lc ep cp rp fs fc wc x (aUp S p b) := by
  obtain ⟨rv, t1, t2, t3, rfl, h⟩ := h
  exact ⟨rv, t1, t2, t3, rS_U hp, h⟩
theorem bI_up {q : Nat} {b : List Value} (h : bI n0 kd0 U0 kd n U) (hq : n0 + 20 ≤ q) (hb : b.length = 13) : bI n0 kd0 U0 kd n (aUp U q b) := by
  refine ⟨fun p hp => ⟨(h.1 p hp).1, by rw [aUp_ne (by omega)]; exact (h.1 p hp).2⟩, fun p p1 p2 => ⟨(h.2 p p1 p2).1, ?_⟩⟩
  by_cases e : p = q
  · subst e; rw [aUp_same]; exact hb
  · rw [aUp_ne e]; exact (h.2 p p1 p2).2
/-- an object's new contents, where the links and the names stay -/
theorem I_row {q : Nat} {b : List Value} (hn0 : 67 ≤ n0) (h : cI0 ts L n0 kd0 U0 S0 pa ps rp x K D kd n U S) (hq : n0 + 20 ≤ q) (hb : b.length = 13) (h1 : ((∀ p ∈ K, p.1 ≠ q) ∧ ∀ p ∈ D, p.1 ≠ q) ∨ ∀ j, (j = 0 ∨ j = 1 ∨ j = 8 ∨ j = 9 ∨ j = 10) → b[j]? = (U q)[j]?) : cI0 ts L n0 kd0 U0 S0 pa ps rp x K D kd n (aUp U q b) (aUp S q b) := by
  obtain ⟨a1, a2, a3, a4, ⟨fd, fc, a5, a6, a7⟩, a8, a9⟩ := h
  have kj : ∀ p ∈ K, ∀ j, (j = 0 ∨ j = 1 ∨ j = 8 ∨ j = 9 ∨ j = 10) → (aUp U q b p.1)[j]? = (U p.1)[j]? := fun p hp j hj => by
    by_cases e : p.1 = q
    · rcases h1 with h1 | h1
      · exact absurd e (h1.1 p hp)
      · rw [e, aUp_same]; exact h1 j hj
    · rw [aUp_ne e]
  have dj : ∀ p ∈ D, ∀ j, (j = 0 ∨ j = 1 ∨ j = 8 ∨ j = 9 ∨ j = 10) → (aUp U q b p.1)[j]? = (U p.1)[j]? := fun p hp j hj => by
    by_cases e : p.1 = q
    · rcases h1 with h1 | h1
      · exact absurd e (h1.2 p hp)
      · rw [e, aUp_same]; exact h1 j hj
    · rw [aUp_ne e]
  refine ⟨a1, a2, a3, bI_up a4 hq hb, ⟨fd, fc, cX_U a5 (by omega), chF_tr (fun p hp => ?_) a6, chF_tr (fun p hp => ?_) a7⟩, fun p hp => ?_, fun p hp => ?_⟩
  · obtain ⟨z, hz, rfl⟩ := List.mem_map.mp hp
    exact kj z hz 9 (by decide)
  · obtain ⟨z, hz, rfl⟩ := List.mem_map.mp hp
    exact dj z hz 9 (by decide)
  · obtain ⟨b1, b2, b0, b3, b4, b5, b6⟩ := a8 p hp
    exact ⟨b1, b2, b0, (kj p hp 0 (by decide)).trans b3, (kj p hp 1 (by decide)).trans b4, (kj p hp 8 (by decide)).trans b5, (kj p hp 10 (by decide)).trans b6⟩
  · obtain ⟨b1, b2, b0, b3, b4, b5⟩ := a9 p hp
    exact ⟨b1, b2, b0, (dj p hp 0 (by decide)).trans b3, (dj p hp 1 (by decide)).trans b4, (dj p hp 8 (by decide)).trans b5⟩
theorem I_set {q j : Nat} {v : Value} (hn0 : 67 ≤ n0) (h : cI0 ts L n0 kd0 U0 S0 pa ps rp x K D kd n U S) (hq : n0 + 20 ≤ q) (hq2 : q < n + 20) (hj : (j == 0 || j == 1 || j == 8 || j == 9 || j == 10) = false) : cI0 ts L n0 kd0 U0 S0 pa ps rp x K D kd n (aUp U q ((U q).set j v)) (aUp S q ((S q).set j v)) := by
  have e : S q = U q := by
    obtain ⟨-, -, -, -, ⟨fd, fc, a5, -⟩, -⟩ := h
    exact cX_87 a5 (by omega)
  rw [e]
  simp only [Bool.or_eq_false_iff, beq_eq_false_iff_ne] at hj
  exact I_row hn0 h hq (by rw [List.length_set]; exact (h.2.2.2.1.2 q hq hq2).2) (Or.inr (fun i hi => List.getElem?_set_ne (by omega)))
/-- a new object -/
theorem I_push {b : List Value} (hn0 : 67 ≤ n0) (h : cI0 ts L n0 kd0 U0 S0 pa ps rp x K D kd n U S) (hb : n ≤ n0 + x.1) (hl : b.length = 13) : cI0 ts L n0 kd0 U0 S0 pa ps rp x K D (kUp kd (n + 20) 30) (n + 1) (aUp U (n + 20) b) (aUp S (n + 20) b) := by
  obtain ⟨a1, a2, a3, a4, ⟨fd, fc, a5, a6, a7⟩, a8, a9⟩ := h
  have kj : ∀ p ∈ K, aUp U (n + 20) b p.1 = U p.1 := fun p hp => aUp_ne (by have := (a8 p hp).2.1; omega)
  have dj : ∀ p ∈ D, aUp U (n + 20) b p.1 = U p.1 := fun p hp => aUp_ne (by have := (a9 p hp).2.1; omega)
  refine ⟨a1, by omega, by omega, ⟨fun p hp => ⟨?_, ?_⟩, fun p p1 p2 => ?_⟩, ⟨fd, fc, cX_U a5 (by omega), chF_tr (fun p hp => ?_) a6, chF_tr (fun p hp => ?_) a7⟩, fun p hp => ?_, fun p hp => ?_⟩
  · unfold kUp
    rw [if_neg (by omega)]
    exact (a4.1 p hp).1
  · rw [aUp_ne (by omega)]; exact (a4.1 p hp).2
  · unfold kUp
    by_cases e : p = n + 20
    · subst e
      rw [if_pos rfl, aUp_same]
      exact ⟨rfl, hl⟩
    · rw [if_neg e, aUp_ne e]
      exact a4.2 p p1 (by omega)
  · obtain ⟨z, hz, rfl⟩ := List.mem_map.mp hp
    rw [kj z hz]
  · obtain ⟨z, hz, rfl⟩ := List.mem_map.mp hp
    rw [dj z hz]
  · obtain ⟨b1, b2, b3⟩ := a8 p hp
    refine ⟨b1, by omega, ?_⟩
    unfold kI
    rw [kj p hp]
    exact b3
  · obtain ⟨b1, b2, b3⟩ := a9 p hp
    refine ⟨b1, by omega, ?_⟩
    unfold dI
    rw [dj p hp]
    exact b3
/-- entries of the reader and the program -/
theorem I_22 (hF : cF ts L n0 S0 pa ps rp) (h : cI0 ts L n0 kd0 U0 S0 pa ps rp x K D kd n U S) : (S 22)[0]? = some (.ref 23) ∧ (S 22)[2]? = some (.ref 32) ∧ (S 22)[3]? = some (.ref pa) ∧ (S 22)[5]? = some (lstV (D.map (fun p => p.1))) ∧ (S 22)[6]? = some (lstV (K.map (fun p => p.1))) ∧ (S 22)[7]? = some (.int (Int32.ofNat x.1)) ∧ (S pa)[5]? = some (.int (Int32.ofNat x.2.2.length)) := by
  obtain ⟨a1, a2, a3, a4, ⟨fd, fc, ⟨rv, t1, t2, t3, rfl, -⟩, -⟩, -⟩ := h
  refine ⟨rfl, rfl, rfl, rfl, rfl, rfl, ?_⟩
  rw [rS_p0 hF.2.1]
  rfl
theorem I_87 (hn0 : 67 ≤ n0) (h : cI0 ts L n0 kd0 U0 S0 pa ps rp x K D kd n U S) : ∀ p, 87 ≤ p → S p = U p := by
  obtain ⟨a1, a2, a3, a4, ⟨fd, fc, a5, -⟩, -⟩ := h
  exact fun p hp => cX_87 a5 hp
theorem I_here (hF : cF ts L n0 S0 pa ps rp) (h : cI0 ts L n0 kd0 U0 S0 pa ps rp x K D kd n U S) : aE aM69 (d + 1) 0 [(0, .ref 22)] [] (gH scr kd n S) (aIs (some (.int (Int32.ofNat (kA ts x.1)))) (gH scr kd n S)) := by
  obtain ⟨a1, a2, a3, a4, ⟨fd, fc, ⟨rv, t1, t2, t3, rfl, -⟩, -⟩, -⟩ := h
  have := a1.1
  have := hF.2.2.1.2.2.1
  exact c_here (by have := hF.1; omega) hF.2.2.1 (by omega)
/-- the next token is taken -/
theorem I_tick0 (h : cI0 ts L n0 kd0 U0 S0 pa ps rp x K D kd n U S) (hk : x.1 < ts.length) : cI0 ts L n0 kd0 U0 S0 pa ps rp (x.1 + 1, x.2) K D kd n U (aUp S 22 ((S 22).set 7 (.int (Int32.ofNat (x.1 + 1))))) ∧ (S 22).length = 9 := by
  obtain ⟨⟨x1, x2, x3, x4⟩, a2, a3, a4, ⟨fd, fc, ⟨rv, t1, t2, t3, rfl, a5⟩, a6, a7⟩, a8, a9⟩ := h
  exact ⟨⟨⟨by show x.1 + 1 ≤ _; omega, by show x.2.2.length ≤ x.1 + 1; omega, x3, x4⟩, a2, by show n ≤ n0 + (x.1 + 1) + 1; omega, a4, ⟨fd, fc, ⟨rv, t1, t2, t3, rS_t, a5⟩, a6, a7⟩, a8, a9⟩, rfl⟩
theorem I_tick {M : aMt} {pc i1 i2 : Nat} {ls : aLc} {st : List Value} {res : aOut → aH → Prop} {k0 k1 k3 k4 : aLk} (hn : 67 ≤ n) (f0 : aFind M.cd pc = some (.aload_n 0, k0)) (f1 : aFind M.cd (pc + 1) = some (.dup, k1)) (f2 : aFind M.cd (pc + 2) = some (.getfield i1, (1, 7, 0, .null))) (f3 : aFind M.cd (pc + 5) = some (.iconst 1, k3)) (f4 : aFind M.cd (pc + 6) = some (.iadd, k4)) (f5 : aFind M.cd (pc + 7) = some (.putfield i2, (1, 7, 0, .null))) (hl : aGet ls 0 = some (.ref 22))
    (h : cI0 ts L n0 kd0 U0 S0 pa ps rp x K D kd n U S) (hk : x.1 < ts.length) (k : ∀ S', cI0 ts L n0 kd0 U0 S0 pa ps rp (x.1 + 1, x.2) K D kd n U S' → aE M d (pc + 10) ls st (gH scr kd n S') res) : aE M d pc ls st (gH scr kd n S) res := by
  obtain ⟨h2, hl9⟩ := I_tick0 h hk
  have e7 : (S 22)[7]? = some (.int (Int32.ofNat x.1)) := by
    obtain ⟨-, -, -, -, ⟨fd, fc, ⟨rv, t1, t2, t3, rfl, -⟩, -⟩, -⟩ := h
    rfl
  refine eS (ls' := ls) (st' := .ref 22 :: st) (h' := gH scr kd n S) (pc' := pc + 1) f0 ?_ ?_
  · show (match aPure (.aload_n 0) k0.2.2.2 st with
    | some st' => some (Sum.inl (pc + 1, ls, st', gH scr kd n S))
    | none => match (aLdA 0 ls st).map (fun t => (ls, t)) with
      | some (ls', st') => some (Sum.inl (pc + 1, ls', st', gH scr kd n S))
      | none => _) = _
    unfold aLdA
    rw [hl]
    rfl
  refine eS f1 rfl ?_
  refine gGet hn f2 rfl rfl e7 ?_
  refine eS f3 rfl ?_
  refine eS f4 rfl ?_
  rw [i32_succ]
  refine gPut hn f5 rfl rfl rfl (by rw [hl9]; rfl) rfl rfl rfl ?_
  exact k _ h2
end CIV
