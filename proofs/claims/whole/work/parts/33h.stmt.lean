/-! a statement begins, and ends -/
/-- .. where the definitions stay what they are -/
def cIb (ts : List aTk) (L n0 : Nat) (kd0 : Nat → Nat) (U0 S0 : Nat → List Value) (pa : Nat) (ps : List (List Nat)) (rp : List Value) (Dc : List (Nat × dEf)) (x : xSt) (K : List (Nat × cAl)) (D : List (Nat × dEf)) (kd : Nat → Nat) (n : Nat) (U S : Nat → List Value) : Prop := D = Dc ∧ cI0 ts L n0 kd0 U0 S0 pa ps rp x K D kd n U S
section SBE
variable {scr : List Value} {n0 d L pa n q pc i j : Nat} {kd0 kd : Nat → Nat} {U0 S0 U S : Nat → List Value} {ts : List aTk} {ps : List (List Nat)} {rp : List Value} {x y : xSt} {K : List (Nat × cAl)} {D : List (Nat × dEf)} {dp : Int32} {res : aOut → aH → Prop} {f : Bool}
theorem gPutC {M : aMt} {p pc : Nat} {T : Nat → List Value} {c r : List Value} {ls : aLc} {v : Value} {c1 : vw_C × List FieldType} {ty : FieldType} (hf : aFind M.cd pc = some (.putfield i, (11, j, 0, .null))) (hp : 87 ≤ p) (hp2 : p < n + 20) (hk : kd p = 30) (hc1 : aCls[11]? = some c1) (hj : Nat.blt j c.length = true) (ht : c1.2[j]? = some ty) (hv : aFit ty v = true) (k : aE M d (pc + 3) ls r (gH scr kd n (aUp T p (c.set j v))) res) : aE M d pc ls (v :: .ref p :: r) (gH scr kd n (aUp T p c)) res := by
  have e : aUp (aUp T p c) p (c.set j v) = aUp T p (c.set j v) := by
    funext z
    unfold aUp
    by_cases hz : z = p
    · rw [if_pos hz, if_pos hz]
    · rw [if_neg hz, if_neg hz, if_neg hz]
  refine ePut hf (gH_at (by omega) hp2) hc1 (by unfold gK; rw [if_neg (by omega)]; exact hk) (by omega) (by rw [aUp_same]; exact Nat.blt_eq.mp hj) ht hv ?_
  rw [gH_set (by omega) hp2, aUp_same, e]
  exact k
theorem c_init {k : Nat} {T : Nat → List Value} (hq : 87 ≤ q) (hq2 : q < n + 20) (hk : kd q = 30) : aE aM72 d 0 [(0, .ref q), (1, .int (Int32.ofNat k))] [] (gH scr kd n (aUp T q (stV 0 0 0 0 .null 0 .null .null 0 .null 0 .null 0))) (aIs none (gH scr kd n (aUp T q (stV k 0 0 0 .null 0 .null .null 0 .null 0 .null 0)))) := by
  refine eS rfl rfl ?_
  refine eS rfl rfl ?_
  refine eS rfl rfl ?_
  refine eS rfl rfl ?_
  refine gPutC rfl hq hq2 hk rfl rfl rfl rfl ?_
  refine eS rfl rfl ?_
  refine eS rfl rfl ?_
  refine gPutC rfl hq hq2 hk rfl rfl rfl rfl ?_
  refine eS rfl rfl ?_
  refine eS rfl rfl ?_
  refine gPutC rfl hq hq2 hk rfl rfl rfl rfl ?_
  refine eS rfl rfl ?_
  refine eS rfl rfl ?_
  refine gPutC rfl hq hq2 hk rfl rfl rfl rfl ?_
  refine eS rfl rfl ?_
  refine eS rfl rfl ?_
  refine gPutC rfl hq hq2 hk rfl rfl rfl rfl ?_
  refine eS rfl rfl ?_
  refine eS rfl rfl ?_
  refine gPutC rfl hq hq2 hk rfl rfl rfl rfl ?_
  refine eS rfl rfl ?_
  refine eS rfl rfl ?_
  refine gPutC rfl hq hq2 hk rfl rfl rfl rfl ?_
  refine eS rfl rfl ?_
  refine eS rfl rfl ?_
  refine gPutC rfl hq hq2 hk rfl rfl rfl rfl ?_
  refine eS rfl rfl ?_
  refine eS rfl rfl ?_
  refine gPutC rfl hq hq2 hk rfl rfl rfl rfl ?_
  refine eS rfl rfl ?_
  refine eS rfl rfl ?_
  refine gPutC rfl hq hq2 hk rfl rfl rfl rfl ?_
  refine eS rfl rfl ?_
  refine eS rfl rfl ?_
  refine gPutC rfl hq hq2 hk rfl rfl rfl rfl ?_
  exact eR rfl rfl ⟨rfl, rfl⟩
theorem c_stBegin (hF : cF ts L n0 S0 pa ps rp) (h : cI0 ts L n0 kd0 U0 S0 pa ps rp x K D kd n U S) (hb : n ≤ n0 + x.1) (k : ∀ kd1 U1 S1, cI0 ts L n0 kd0 U0 S0 pa ps rp x K D kd1 (n + 1) U1 S1 → U1 (n + 20) = stV (kA ts x.1) 0 x.2.2.length 0 .null 0 .null .null 0 .null 0 .null 0 → (∀ p, p < n + 20 → kd1 p = kd p ∧ U1 p = U p) → aE aM71 (d + 2) 27 [(2, .ref (n + 20)), (0, .ref 22), (1, .int dp)] [.int (Int32.ofNat (kA ts x.1))] (gH scr kd1 (n + 1) S1) res) : aE aM71 (d + 2) 0 [(0, .ref 22), (1, .int dp)] [] (gH scr kd n S) res := by
  have hn0 := hF.1
  have hn : 67 ≤ n := by have := h.2.1; omega
  have hnn := h.2.1
  have hn1 : 67 ≤ n + 1 := by omega
  have P0 := I_push (b := stV 0 0 0 0 .null 0 .null .null 0 .null 0 .null 0) hn0 h hb rfl
  have P1 := I_push (b := stV (kA ts x.1) 0 0 0 .null 0 .null .null 0 .null 0 .null 0) hn0 h hb rfl
  have nk : (∀ p ∈ K, p.1 ≠ n + 20) ∧ ∀ p ∈ D, p.1 ≠ n + 20 := ⟨fun p hp => by have := (h.2.2.2.2.2.1 p hp).2.1; omega, fun p hp => by have := (h.2.2.2.2.2.2 p hp).2.1; omega⟩
  have kq : kUp kd (n + 20) 30 (n + 20) = 30 := if_pos rfl
  refine eS rfl rfl ?_
  show aE aM71 (d + 2) 3 _ [.ref (gH scr kd n S).length] (gH scr kd n S ++ [(30, stV 0 0 0 0 .null 0 .null .null 0 .null 0 .null 0)]) res
  rw [gH_len, gH_push hn]
  refine eS rfl rfl ?_
  refine eS rfl rfl ?_
  refine gV1 hn1 rfl rfl rfl rfl rfl ⟨catOk rfl, catOk rfl⟩ (I_here hF P0) ?_
  refine eC1 rfl rfl rfl ⟨catOk rfl, catOk rfl⟩ (c_init (by omega) (by omega) kq) ?_
  refine eS rfl rfl ?_
  refine eS rfl rfl ?_
  refine eS rfl rfl ?_
  refine I_g22 rfl hF P1 (I_22 hF P1).2.2.1 ?_
  refine I_gtc rfl hF P1 ?_
  refine I_put rfl rfl rfl rfl rfl hF P1 (by omega) (by omega) aUp_same (Or.inl nk) (fun U2 S2 P2 u2 v2 => ?_)
  refine eS rfl rfl ?_
  refine I_get (v := .int (Int32.ofNat (kA ts x.1))) rfl hF P2 (by omega) (by omega) u2 rfl ?_
  refine eLoc (l' := [(2, .ref (n + 20)), (0, .ref 22), (1, .int dp)]) rfl ⟨rfl, rfl, rfl, trivial⟩ ?_
  refine k _ U2 S2 P2 u2 (fun p hp => ⟨if_neg (by omega), ?_⟩)
  rw [v2 p (by omega), aUp_ne (by omega)]
/-- behind what was read: where its terms end -/
theorem c_tail {kind num frm : Nat} {body els nxt nos dfn : Value} {he tp cp : Int32} {nm : Int64} (hF : cF ts L n0 S0 pa ps rp) (h : cI0 ts L n0 kd0 U0 S0 pa ps rp x K D kd n U S) (hq : n0 + 20 ≤ q) (hq2 : q < n + 20) (hU : U q = stV kind num frm 0 body he els nxt nm nos tp dfn cp) (k : ∀ U' S', cI0 ts L n0 kd0 U0 S0 pa ps rp x K D kd n U' S' → U' q = stV kind num frm x.2.2.length body he els nxt nm nos tp dfn cp → (∀ p, p ≠ q → U' p = U p) → aE aM71 (d + 2) 207 [(2, .ref q), (0, .ref 22), (1, .int dp)] [] (gH scr kd n S') res) : aE aM71 (d + 2) 196 [(2, .ref q), (0, .ref 22), (1, .int dp)] [] (gH scr kd n S) res := by
  refine eS rfl rfl ?_
  refine eS rfl rfl ?_
  refine I_g22 rfl hF h (I_22 hF h).2.2.1 ?_
  refine I_gtc rfl hF h ?_
  refine I_put rfl rfl rfl rfl rfl hF h hq hq2 hU (Or.inr rfl) (fun U' S' h' u' v' => ?_)
  exact k U' S' h' u' v'
/-- a statement without blocks ends -/
theorem c_leaf {kind num frm to : Nat} {body els nxt nos dfn : Value} {he tp cp : Int32} {nm : Int64} (hF : cF ts L n0 S0 pa ps rp) (h : cI0 ts L n0 kd0 U0 S0 pa ps rp x K D kd n U S) (hq : n0 + 20 ≤ q) (hq2 : q < n + 20) (hU : U q = stV kind num frm to body he els nxt nm nos tp dfn cp) (hk : kind < 2 ^ 20) (h28 : kind ≠ 28) (h29 : kind ≠ 29) (h15 : kind ≠ 15) (hr : res (.inl (some (.ref q))) (gH scr kd n S)) : aE aM71 (d + 2) 207 [(2, .ref q), (0, .ref 22), (1, .int dp)] [] (gH scr kd n S) res := by
  refine eS rfl rfl ?_
  refine I_get (v := .int (Int32.ofNat kind)) rfl hF h hq hq2 hU rfl ?_
  refine eS rfl rfl ?_
  refine eIEq rfl rfl (fun z => absurd ((i32_eq (b := 28) (by omega) (by omega)).mp z) h28) (fun _ => ?_)
  refine eS rfl rfl ?_
  refine I_get (v := .int (Int32.ofNat kind)) rfl hF h hq hq2 hU rfl ?_
  refine eS rfl rfl ?_
  refine eIEq rfl rfl (fun z => absurd ((i32_eq (b := 29) (by omega) (by omega)).mp z) h29) (fun _ => ?_)
  refine eS rfl rfl ?_
  refine I_get (v := .int (Int32.ofNat kind)) rfl hF h hq hq2 hU rfl ?_
  refine eS rfl rfl ?_
  refine eINe rfl rfl (fun _ => ?_) (fun z => absurd ((i32_eq (b := 15) (by omega) (by omega)).mp z) h15)
  refine eS rfl rfl ?_
  refine I_get (v := .int (Int32.ofNat kind)) rfl hF h hq hq2 hU rfl ?_
  refine eS rfl rfl ?_
  refine eINe rfl rfl (fun _ => ?_) (fun z => absurd ((i32_eq (b := 15) (by omega) (by omega)).mp z) h15)
  refine eS rfl rfl ?_
  exact eR rfl rfl hr
/-- a statement without blocks, whole -/
theorem c_fin {kind num a : Nat} {R : cBk} {nos dfn : Value} {tp cp : Int32} {nm : Int64} {kd1 : Nat → Nat} {U1 S1 : Nat → List Value} {K' : List (Nat × cAl)} {ws : List Nat} {cs : List cAl} {M : List (Nat × Nat)} {P : cPst} (hF : cF ts L n0 S0 pa ps rp) (h0 : n0 ≤ n) (h : cI0 ts L n0 kd0 U0 S0 pa ps rp y (K ++ K') D kd1 (n + 1) U1 S1) (hU : U1 (n + 20) = stV kind num x.2.2.length 0 .null 0 .null .null nm nos tp dfn cp) (hk : kind < 2 ^ 20) (h28 : kind ≠ 28) (h29 : kind ≠ 29) (h15 : kind ≠ 15) (hK : K'.map (fun p => p.2) = cs) (hM : (∀ p ∈ K', (p.1, p.2.2.2.1) ∈ M) ∧ mCv K' [] M) (hxy : x.1 < y.1) (hl : ∃ l, y.2.2 = x.2.2 ++ l) (hfr : ∀ p, p < n + 20 → kd1 p = kd p ∧ fr9 (U p) (U1 p))
    (hP : ∀ (U' : Nat → List Value), U' (n + 20) = stV kind num x.2.2.length y.2.2.length .null 0 .null .null nm nos tp dfn cp → P U' y.2.2 (n + 20) a ws M (n + 20 + 1) (n + 20 + 1)) : aE aM71 (d + 2) 196 [(2, .ref (n + 20)), (0, .ref 22), (1, .int dp)] [] (gH scr kd1 (n + 1) S1) (stO scr (fun x => x) (cIb ts L n0 kd0 U0 S0 pa ps rp D) (cEr scr n0 kd0 U0 S0 pa) P kd n U x K D a (.ok (y, ws, cs))) := by
  have hn0 := hF.1
  refine c_tail hF h (by omega) (by omega) hU (fun U' S' h' u' v' => ?_)
  refine c_leaf hF h' (by omega) (by omega) u' hk h28 h29 h15 ?_
  refine ⟨kd1, n + 1, U', S', K', [], M, rfl, rfl, ⟨List.append_nil _, by rw [List.append_nil]; exact h'⟩, hK, hM.1, ⟨fun p hp => (by cases hp), hM.2⟩, Nat.lt_succ_self _, by show n + 1 + x.1 ≤ n + y.1; omega, hl, by rw [u']; rfl, ?_, fun p hp => ⟨(hfr p hp).1, by rw [v' p (by omega)]; exact (hfr p hp).2⟩⟩
  rw [show n + 1 + 20 = n + 20 + 1 by omega]
  exact hP U' u'
end SBE
