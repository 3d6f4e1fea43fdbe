/-! calls begin and end, on the class's side -/
def entA : Nat → Nat → List UInt32 → List UInt32 → List UInt32 × List UInt32
  | 0, _, stk, par => (stk, par)
  | _ + 1, _, [], par => ([], par)
  | c + 1, b, f :: r, par => entA c b r (par.set (b + c) f)
theorem entA_len : ∀ {c b : Nat} {stk par : List UInt32}, c ≤ stk.length → (entA c b stk par).1.length = stk.length - c ∧ (entA c b stk par).2.length = par.length
  | 0, _, _, _, _ => ⟨rfl, rfl⟩
  | c + 1, _, [], _, h => by simp at h
  | c + 1, b, f :: r, par, h => by
    have := entA_len (c := c) (b := b) (stk := r) (par := par.set (b + c) f) (by simp at h; omega)
    unfold entA
    rw [List.length_set] at this
    exact ⟨by rw [this.1]; simp, this.2⟩
theorem iA_set2 {a k : Nat} {l : List Nat} {v : Value} {g : List Value} (h : l.length = k) : (iA l (v :: g)).set k (.int (Int32.ofNat a)) = iA (a :: l) g := by
  subst h
  exact iA_set
section CENT
variable {scr : List Value} {kd : Nat → Nat} {n : Nat} {S0 : Nat → List Value} {a35 a36 a37 a38 a39 a40 a41 a42 a43 a44 : List Value} {d cl : Nat} {pc an : Int32} {M : aMt} {x1 x2 : Int32} 
theorem c_enter_loop (hn : 67 ≤ n) (hc : cl ≤ 2) : ∀ (c : Nat) (stk : List UInt32) (g : List Value) (par : List UInt32), c ≤ 3 → c ≤ stk.length → stk.length + g.length = 24 → par.length = 9 → ∃ g', (entA c (3 * cl) stk par).1.length + g'.length = 24 ∧
    ∀ Q : aOut → aH → Prop, (aE aM127 (d + 1) 51 [(3, .int (Int32.ofInt (-1))), (0, .ref 35), (1, .int x1), (2, .int x2)] [] (gH scr kd n (cS S0 (kM (Int32.ofNat (entA c (3 * cl) stk par).1.length) (Int32.ofNat cl) pc an) (fA (entA c (3 * cl) stk par).1 g') a37 ((entA c (3 * cl) stk par).2.map Value.float) a39 a40 a41 a42 a43 a44)) Q → aE aM127 (d + 1) 24 [(3, .int (Int32.ofInt ((c : Int) - 1))), (0, .ref 35), (1, .int x1), (2, .int x2)] [] (gH scr kd n (cS S0 (kM (Int32.ofNat stk.length) (Int32.ofNat cl) pc an) (fA stk g) a37 (par.map Value.float) a39 a40 a41 a42 a43 a44)) Q)
  | 0, stk, g, par, h3, hs, hg, hp => by
    refine ⟨g, hg, fun Q k => ?_⟩
    refine eS rfl rfl ?_
    refine eLt rfl rfl (fun _ => ?_) (fun z => absurd (by decide) z)
    exact k
  | c + 1, [], g, par, h3, hs, hg, hp => by simp at hs
  | c + 1, f :: r, g, par, h3, hs, hg, hp => by
    have hl : r.length < 24 := by simp at hg; omega
    obtain ⟨g', l, e⟩ := c_enter_loop hn hc c r (.float f :: g) (par.set (3 * cl + c) f) (by omega) (by simp at hs; omega) (by simp at hg ⊢; omega) (by rw [List.length_set]; exact hp)
    refine ⟨g', l, fun Q k => ?_⟩
    have ei : Int32.ofNat cl * Int32.ofInt 3 + Int32.ofInt (((c + 1 : Nat) : Int) - 1) = Int32.ofNat (3 * cl + c) := by
      rw [show ((c + 1 : Nat) : Int) - 1 = (c : Int) by omega, show Int32.ofInt (c : Int) = Int32.ofNat c from rfl, show Int32.ofInt 3 = Int32.ofNat 3 from rfl, ← Int32.ofNat_mul, ← Int32.ofNat_add, Nat.mul_comm]
    have ej : Int32.ofInt (((c + 1 : Nat) : Int) - 1) + Int32.ofInt (-1) = Int32.ofInt ((c : Int) - 1) := by rw [zi_add]; congr 1; omega
    refine eS rfl rfl ?_
    refine eLt rfl rfl (fun z => absurd ((zi_lt (b := 0) (by omega) (by decide)).mp z) (by omega)) (fun _ => ?_)
    refine eS rfl rfl ?_
    refine gGet hn rfl rfl rfl rfl ?_
    refine eS rfl rfl ?_
    refine gGet hn rfl rfl rfl rfl ?_
    refine eS rfl rfl ?_
    refine eS rfl rfl ?_
    refine eS rfl rfl ?_
    refine eS rfl rfl ?_
    rw [ei]
    refine eS rfl rfl ?_
    refine gV1 hn rfl rfl rfl rfl rfl ⟨catOk rfl, catOk rfl⟩ (c_take hn hl) ?_
    refine gWr3 hn rfl rfl rfl (3 * cl + c) (by omega) (by show 3 * cl + c < (par.map Value.float).length; rw [List.length_map]; omega) (cS_38.trans (congrArg (fun z => cS S0 _ _ _ z _ _ _ _ _ _) fl_set)) ?_
    refine eS rfl rfl ?_
    rw [ej]
    refine eS rfl rfl ?_
    exact e Q k
theorem c_enter {c pb : Nat} {pbs hbs : List Nat} {gp gh g : List Value} {stk par : List UInt32} (hn : 67 ≤ n) (hc : cl ≤ 2) (h3 : c ≤ 3) (hs : c ≤ stk.length) (hg : stk.length + g.length = 24) (hp : par.length = 9) (l1 : pbs.length = cl) (l2 : hbs.length = cl) (l3 : cl + gp.length = 3) (l4 : cl + gh.length = 3) : ∃ g' gp' gh', (entA c (3 * cl) stk par).1.length + g'.length = 24 ∧ cl + 1 + gp'.length = 3 ∧ cl + 1 + gh'.length = 3 ∧
    aE aM127 (d + 1) 0 [(0, .ref 35), (1, .int (Int32.ofNat c)), (2, .int (Int32.ofNat pb))] [] (gH scr kd n (cS S0 (kM (Int32.ofNat stk.length) (Int32.ofNat cl) pc an) (fA stk g) a37 (par.map Value.float) (iA pbs gp) (iA hbs gh) a41 a42 a43 a44)) (aIs (some (.int 1)) (gH scr kd n (cS S0 (kM (Int32.ofNat (entA c (3 * cl) stk par).1.length) (Int32.ofNat (cl + 1)) pc an) (fA (entA c (3 * cl) stk par).1 g') a37 ((entA c (3 * cl) stk par).2.map Value.float) (iA (pb :: pbs) gp') (iA ((entA c (3 * cl) stk par).1.length :: hbs) gh') a41 a42 a43 a44))) := by
  subst l1
  obtain ⟨v1, gp', rfl⟩ : ∃ v g', gp = v :: g' := by
    cases gp with
    | nil => simp at l3; omega
    | cons v g' => exact ⟨v, g', rfl⟩
  obtain ⟨v2, gh', rfl⟩ : ∃ v g', gh = v :: g' := by
    cases gh with
    | nil => simp at l4; omega
    | cons v g' => exact ⟨v, g', rfl⟩
  obtain ⟨g', l, e⟩ := c_enter_loop (d := d) (scr := scr) (kd := kd) (S0 := S0) (a37 := a37) (a39 := iA pbs (v1 :: gp')) (a40 := iA hbs (v2 :: gh')) (a41 := a41) (a42 := a42) (a43 := a43) (a44 := a44) (pc := pc) (an := an) (x1 := Int32.ofNat c) (x2 := Int32.ofNat pb) hn hc c stk g par h3 hs hg hp
  refine ⟨g', gp', gh', l, by simp at l3 ⊢; omega, by simp at l4 ⊢; omega, ?_⟩
  have em : (if (Int32.ofInt 3 : Int32) < Int32.ofNat c then Int32.ofInt 3 else Int32.ofNat c) = Int32.ofNat c := if_neg (fun z => absurd ((i32_lt (a := 3) (b := c) (by decide) (by omega)).mp z) (by omega))
  have e1 : Int32.ofNat c - Int32.ofInt 1 = Int32.ofInt ((c : Int) - 1) := zi_sub (a := (c : Int)) (b := 1)
  refine eS rfl rfl ?_
  refine gGet hn rfl rfl rfl rfl ?_
  refine eS rfl rfl ?_
  refine eILt rfl rfl (fun _ => ?_) (fun z => absurd ((i32_lt (a := pbs.length) (b := 3) (by omega) (by decide)).mpr (by omega)) z)
  refine eS rfl rfl ?_
  refine eS rfl rfl ?_
  refine eC1 rfl rfl rfl ⟨catOk rfl, catOk rfl⟩ (s_min) ?_
  rw [em]
  refine eS rfl rfl ?_
  refine eS rfl rfl ?_
  rw [e1]
  refine eS rfl rfl ?_
  refine e _ ?_
  refine eS rfl rfl ?_
  refine gGet hn rfl rfl rfl rfl ?_
  refine eS rfl rfl ?_
  refine gGet hn rfl rfl rfl rfl ?_
  refine eS rfl rfl ?_
  refine gWr0 hn rfl rfl rfl pbs.length (by omega) (by show pbs.length < (iA pbs (v1 :: gp')).length; rw [iA_len]; simp only [List.length_cons]; omega) (cS_39.trans (congrArg (fun z => cS S0 _ _ _ _ z _ _ _ _ _) iA_set)) ?_
  refine eS rfl rfl ?_
  refine gGet hn rfl rfl rfl rfl ?_
  refine eS rfl rfl ?_
  refine gGet hn rfl rfl rfl rfl ?_
  refine eS rfl rfl ?_
  refine gGet hn rfl rfl rfl rfl ?_
  refine gWr0 hn rfl rfl rfl pbs.length (by omega) (by show pbs.length < (iA hbs (v2 :: gh')).length; rw [iA_len, l2]; simp only [List.length_cons]; omega) (cS_40.trans (congrArg (fun z => cS S0 _ _ _ _ _ z _ _ _ _) (iA_set2 l2))) ?_
  refine eS rfl rfl ?_
  refine eS rfl rfl ?_
  refine gGet hn rfl rfl rfl rfl ?_
  refine eS rfl rfl ?_
  refine eS rfl rfl ?_
  refine gPut hn rfl rfl rfl rfl rfl rfl rfl cS_35 ?_
  refine eS rfl rfl ?_
  exact eR rfl rfl ⟨rfl, by rw [← i32_succ]; rfl⟩
theorem c_enter_no {c pb : Int32} {ht : Int32} (hn : 67 ≤ n) : aE aM127 (d + 1) 0 [(0, .ref 35), (1, .int c), (2, .int pb)] [] (gH scr kd n (cS S0 (kM ht (Int32.ofNat 3) pc an) a36 a37 a38 a39 a40 a41 a42 a43 a44)) (aIs (some (.int 0)) (gH scr kd n (cS S0 (kM ht (Int32.ofNat 3) pc 14) a36 a37 a38 a39 a40 a41 a42 a43 a44))) := by
  refine eS rfl rfl ?_
  refine gGet hn rfl rfl rfl rfl ?_
  refine eS rfl rfl ?_
  refine eILt rfl rfl (fun z => absurd z (by decide)) (fun _ => ?_)
  refine eS rfl rfl ?_
  refine eS rfl rfl ?_
  refine gPut hn rfl rfl rfl rfl rfl rfl rfl cS_35 ?_
  refine eS rfl rfl ?_
  exact eR rfl rfl ⟨rfl, rfl⟩
theorem c_leave_0 {ht : Int32} (hn : 67 ≤ n) : aE aM128 d 0 [(0, .ref 35)] [] (gH scr kd n (cS S0 (kM ht (Int32.ofNat 0) pc an) a36 a37 a38 a39 a40 a41 a42 a43 a44)) (aIs (some (.int pc)) (gH scr kd n (cS S0 (kM ht (Int32.ofNat 0) pc 1) a36 a37 a38 a39 a40 a41 a42 a43 a44))) := by
  refine eS rfl rfl ?_
  refine gGet hn rfl rfl rfl rfl ?_
  refine eNe rfl rfl (fun z => absurd rfl z) (fun _ => ?_)
  refine eS rfl rfl ?_
  refine eS rfl rfl ?_
  refine gPut hn rfl rfl rfl rfl rfl rfl rfl cS_35 ?_
  refine eS rfl rfl ?_
  refine gGet hn rfl rfl rfl rfl ?_
  exact eR rfl rfl ⟨rfl, rfl⟩
theorem c_leave {pb hb : Nat} {pbs hbs : List Nat} {gp gh : List Value} {ht : Int32} (hn : 67 ≤ n) (l1 : pbs.length < 3) (l2 : hbs.length = pbs.length) : aE aM128 d 0 [(0, .ref 35)] [] (gH scr kd n (cS S0 (kM ht (Int32.ofNat (pbs.length + 1)) pc an) a36 a37 a38 (iA (pb :: pbs) gp) (iA (hb :: hbs) gh) a41 a42 a43 a44)) (aIs (some (.int (Int32.ofNat pb))) (gH scr kd n (cS S0 (kM (Int32.ofNat hb) (Int32.ofNat pbs.length) pc an) a36 a37 a38 (iA (pb :: pbs) gp) (iA (hb :: hbs) gh) a41 a42 a43 a44))) := by
  rw [iA_cons, iA_cons]
  refine eS rfl rfl ?_
  refine gGet hn rfl rfl rfl rfl ?_
  refine eNe rfl rfl (fun _ => ?_) (fun z => absurd z (i32_ne0 (by omega) (by omega)))
  refine eS rfl rfl ?_
  refine eS rfl rfl ?_
  refine gGet hn rfl rfl rfl rfl ?_
  refine eS rfl rfl ?_
  refine eS rfl rfl ?_
  rw [i32_pre]
  refine gPut hn rfl rfl rfl rfl rfl rfl rfl cS_35 ?_
  refine eS rfl rfl ?_
  refine eS rfl rfl ?_
  refine gGet hn rfl rfl rfl rfl ?_
  refine eS rfl rfl ?_
  refine gGet hn rfl rfl rfl rfl ?_
  refine gRd0 hn rfl rfl rfl pbs.length (by omega) (by rw [← l2]; exact iA_get) ?_
  refine gPut hn rfl rfl rfl rfl rfl rfl rfl cS_35 ?_
  refine eS rfl rfl ?_
  refine gGet hn rfl rfl rfl rfl ?_
  refine eS rfl rfl ?_
  refine gGet hn rfl rfl rfl rfl ?_
  refine gRd0 hn rfl rfl rfl pbs.length (by omega) iA_get ?_
  exact eR rfl rfl ⟨rfl, rfl⟩
end CENT
