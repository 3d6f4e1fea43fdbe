/-! the reader refuses; names are numbered -/
section RFS
variable {scr : List Value} {kd : Nat → Nat} {n d L pa t cv cp tc : Nat} {S0 U : Nat → List Value} {fd ld lc fs fc : Value} {ep wc : Int32} {rv rp t1 t2 t3 : List Value} {ts : List aTk} {vs ps : List (List Nat)} {tm : List (Nat × Nat × Nat)}
theorem gVo {M : aMt} {pc i : Nat} {ls : aLc} {lk : aLk} {st : List Value} {S : Nat → List Value} {Q' res : aOut → aH → Prop} {q : Nat} {as rest : List Value} {M' : aMt} (hn : 67 ≤ n) (hf : aFind M.cd pc = some (.invokevirtual i, lk)) (ha : aArgs lk.2.1 st = some (.ref q :: as, rest)) (hp : (Nat.ble 20 q && Nat.blt q 87) = true) (hk : gK kd q = 2 * lk.2.2.1 + 8) (hM : aP[lk.1]? = some M')
    (hc : aCat rest + M'.nl ≤ 80 ∧ aCat (.ref q :: as) ≤ M'.nl) (hh : M.hd = []) (hb : aE M' d 0 (lv_args 0 (.ref q :: as)) [] (gH scr kd n S) Q') (kk : ∀ v h', Q' (.inl v) h' → aE M (d + 1) (pc + 3) ls (v.toList ++ rest) h' res) (kx : ∀ q h', Q' (.inr q) h' → res (.inr q) h') : aE M (d + 1) pc ls st (gH scr kd n S) res := by
  simp only [Bool.and_eq_true, Nat.ble_eq, Nat.blt_eq] at hp
  exact eC hf (aStep_v ha (gH_at hp.1 (by omega)) hk) hM hc hh hb kk kx
/-- what is thrown: the heap before it, and the new exception -/
def thr (h0 : aH) : aOut → aH → Prop := fun o h => o = .inr h0.length ∧ h = h0 ++ [(28, [])]
theorem c_refuseHere (hn : 67 ≤ n) (hT : tcS S0 ts L) (ht : t < 2 ^ 20) : aE aM84 (d + 1) 0 [(0, .ref 22)] [] (gH scr kd n (rS S0 U pa fd ld lc t ep cv rv cp rp fs fc tc wc t1 t2 t3)) (thr (gH scr kd n (rS S0 U pa fd ld lc t (Int32.ofNat (plA ts L t)) cv rv cp rp fs fc tc wc t1 t2 t3))) := by
  refine eS rfl rfl ?_
  refine eS rfl rfl ?_
  refine gGet hn rfl rfl rfl rfl ?_
  refine eS rfl rfl ?_
  refine gGet hn rfl rfl rfl rfl ?_
  refine gV1 hn rfl rfl rfl rfl rfl ⟨catOk rfl, catOk rfl⟩ (c_placeAt hn (rS_tk hT) ht) ?_
  refine gPut hn rfl rfl rfl rfl rfl rfl rfl rS_ep ?_
  exact eThrow (c := 10) rfl rfl (by rw [gH_len]; omega) rfl rfl rfl rfl rfl
theorem c_refuse {e : Nat} (hn : 67 ≤ n) : aE aM67 (d + 1) 0 [(0, .ref 22), (1, .int (Int32.ofNat e))] [] (gH scr kd n (rS S0 U pa fd ld lc t ep cv rv cp rp fs fc tc wc t1 t2 t3)) (thr (gH scr kd n (rS S0 U pa fd ld lc t (Int32.ofNat e) cv rv cp rp fs fc tc wc t1 t2 t3))) := by
  refine eS rfl rfl ?_
  refine eS rfl rfl ?_
  refine gPut hn rfl rfl rfl rfl rfl rfl rfl rS_ep ?_
  exact eThrow (c := 10) rfl rfl (by rw [gH_len]; omega) rfl rfl rfl rfl rfl
theorem c_expect {k : Nat} (hn : 67 ≤ n) (hT : tcS S0 ts L) (ht : t < 2 ^ 20) (hk : k < 2 ^ 20) (hka : kA ts t < 2 ^ 20) : aE aM86 (d + 2) 0 [(0, .ref 22), (1, .int (Int32.ofNat k))] [] (gH scr kd n (rS S0 U pa fd ld lc t ep cv rv cp rp fs fc tc wc t1 t2 t3)) (fun o h => if kA ts t = k then aIs none (gH scr kd n (rS S0 U pa fd ld lc (t + 1) ep cv rv cp rp fs fc tc wc t1 t2 t3)) o h else thr (gH scr kd n (rS S0 U pa fd ld lc t (Int32.ofNat (plA ts L t)) cv rv cp rp fs fc tc wc t1 t2 t3)) o h) := by
  by_cases e : kA ts t = k
  · simp only [if_pos e]
    refine eS rfl rfl ?_
    refine gV1 hn rfl rfl rfl rfl rfl ⟨catOk rfl, catOk rfl⟩ (c_here hn hT ht) ?_
    refine eS rfl rfl ?_
    refine eIEq rfl rfl (fun _ => ?_) (fun z => absurd ((i32_eq (by omega) (by omega)).mpr e) z)
    refine eS rfl rfl ?_
    refine eS rfl rfl ?_
    refine gGet hn rfl rfl rfl rfl ?_
    refine eS rfl rfl ?_
    refine eS rfl rfl ?_
    rw [i32_succ]
    refine gPut hn rfl rfl rfl rfl rfl rfl rfl rS_t ?_
    exact eR rfl rfl ⟨rfl, rfl⟩
  · simp only [if_neg e]
    refine eS rfl rfl ?_
    refine gV1 hn rfl rfl rfl rfl rfl ⟨catOk rfl, catOk rfl⟩ (c_here hn hT ht) ?_
    refine eS rfl rfl ?_
    refine eIEq rfl rfl (fun z => absurd ((i32_eq (by omega) (by omega)).mp z) e) (fun _ => ?_)
    refine eS rfl rfl ?_
    refine gVo hn rfl rfl rfl rfl rfl ⟨catOk rfl, catOk rfl⟩ rfl (c_refuseHere hn hT ht) (fun v h' z => by cases z.1) (fun q h' z => z)
theorem c_nadd {x : Int64} (hn : 67 ≤ n) (hrv : rv.length = 8) (hcv : cv ≤ 8) : aE aM83 d 0 [(0, .ref 30), (1, .long x)] [] (gH scr kd n (rS S0 U pa fd ld lc t ep cv rv cp rp fs fc tc wc t1 t2 t3)) (aIs (some (.int (if cv < 8 then Int32.ofNat cv else -1))) (if cv < 8 then (gH scr kd n (rS S0 U pa fd ld lc t ep (cv + 1) (rv.set cv (.long x)) cp rp fs fc tc wc t1 t2 t3)) else (gH scr kd n (rS S0 U pa fd ld lc t ep cv rv cp rp fs fc tc wc t1 t2 t3)))) := by
  by_cases h8 : cv < 8
  · rw [if_pos h8, if_pos h8]
    refine eS rfl rfl ?_
    refine gGet hn rfl rfl rfl rfl ?_
    refine eS rfl rfl ?_
    refine gGet hn rfl rfl rfl rfl ?_
    refine gLen hn rfl rfl rfl ?_
    rw [show ((rS S0 U pa fd ld lc t ep cv rv cp rp fs fc tc wc t1 t2 t3) 31).length = 8 from hrv]
    refine eILt rfl rfl (fun _ => ?_) (fun z => absurd ((i32_lt (a := cv) (b := 8) (by omega) (by omega)).mpr h8) z)
    refine eS rfl rfl ?_
    refine gGet hn rfl rfl rfl rfl ?_
    refine eS rfl rfl ?_
    refine gGet hn rfl rfl rfl rfl ?_
    refine eS rfl rfl ?_
    refine gWr2 hn rfl rfl rfl cv (by omega) (by show cv < rv.length; omega) rS_rv ?_
    refine eS rfl rfl ?_
    refine eS rfl rfl ?_
    refine gGet hn rfl rfl rfl rfl ?_
    refine eS rfl rfl ?_
    refine eS rfl rfl ?_
    rw [i32_succ]
    refine gPut hn rfl rfl rfl rfl rfl rfl rfl rS_cv ?_
    refine eS rfl rfl ?_
    refine gGet hn rfl rfl rfl rfl ?_
    refine eS rfl rfl ?_
    refine eS rfl rfl ?_
    rw [show Int32.ofNat (cv + 1) - Int32.ofInt 1 = Int32.ofNat cv from i32_pre]
    exact eR rfl rfl ⟨rfl, rfl⟩
  · rw [if_neg h8, if_neg h8]
    refine eS rfl rfl ?_
    refine gGet hn rfl rfl rfl rfl ?_
    refine eS rfl rfl ?_
    refine gGet hn rfl rfl rfl rfl ?_
    refine gLen hn rfl rfl rfl ?_
    rw [show ((rS S0 U pa fd ld lc t ep cv rv cp rp fs fc tc wc t1 t2 t3) 31).length = 8 from hrv]
    refine eILt rfl rfl (fun z => absurd ((i32_lt (a := cv) (b := 8) (by omega) (by omega)).mp z) h8) (fun _ => ?_)
    refine eS rfl rfl ?_
    exact eR rfl rfl ⟨rfl, rfl⟩
/-- the number of a name, and the variables then; none: there is no room -/
def slA (ps vs : List (List Nat)) (x : List Nat) : Option (Nat × Nat × List (List Nat)) :=
  match ps.findIdx? (fun y => y == x) with
  | some k => some (3, k, vs)
  | none => match vs.findIdx? (fun y => y == x) with
    | some k => some (2, k, vs)
    | none => if vs.length < 8 then some (2, vs.length, vs ++ [x]) else none
theorem fnd_lt {vs : List (List Nat)} {x : List Nat} {k : Nat} (h : vs.findIdx? (fun y => y == x) = some k) : k < vs.length := by
  have := List.findIdx?_eq_some_iff_getElem.mp h
  exact this.1
theorem fndV_some {vs : List (List Nat)} {x : List Nat} {k : Nat} (h : vs.findIdx? (fun y => y == x) = some k) : fndV 0 vs x = Int32.ofNat k := by
  unfold fndV
  rw [h]
  show Int32.ofNat (0 + k) = _
  rw [Nat.zero_add]
theorem fndV_none {vs : List (List Nat)} {x : List Nat} (h : vs.findIdx? (fun y => y == x) = none) : fndV 0 vs x = -1 := by
  unfold fndV
  rw [h]
theorem nmF_snoc {b : Nat} {x : List Nat} {a : List Value} (h : nmF b vs a) (hl : vs.length < a.length) : nmF b (vs ++ [x]) (a.set vs.length (.long (Int64.ofNat (pk b x)))) := by
  intro i y hy
  rcases at_snoc hy with ⟨hi, hy⟩ | ⟨rfl, rfl⟩
  · rw [List.getElem?_set_ne (by omega)]
    exact h i y hy
  · exact List.getElem?_set_self hl
theorem c_number2 {x : List Nat} (hn : 67 ≤ n) (hT : tcS S0 ts L) (ht : t < 2 ^ 20) (hk : kA ts t = 30) (hps : nmF 32 ps rp) (h3 : ps.length ≤ 3) (hpo : ∀ y ∈ ps, nmOk y) (hvs : nmF 32 vs rv) (h8 : vs.length ≤ 8) (hvo : ∀ y ∈ vs, nmOk y) (hx : nmOk x) (hxn : nmA ts t = x) (hrv : rv.length = 8) :
    (∀ p k vs', slA ps vs x = some (p, k, vs') → ∃ rv', nmF 32 vs' rv' ∧ rv'.length = 8 ∧ aE aM82 (d + 2) 0 [(0, .ref 22)] [] (gH scr kd n (rS S0 U pa fd ld lc t ep vs.length rv ps.length rp fs fc tc wc t1 t2 t3)) (aIs (some (.int (Int32.ofNat k))) (gH scr kd n (rS S0 U pa fd ld lc t ep vs'.length rv' ps.length rp fs fc tc wc t1 t2 t3)))) ∧
    (slA ps vs x = none → aE aM82 (d + 2) 0 [(0, .ref 22)] [] (gH scr kd n (rS S0 U pa fd ld lc t ep vs.length rv ps.length rp fs fc tc wc t1 t2 t3)) (thr (gH scr kd n (rS S0 U pa fd ld lc t (Int32.ofNat (plA ts L t)) vs.length rv ps.length rp fs fc tc wc t1 t2 t3)))) := by
  obtain ⟨w, w1, w2⟩ := c_nameAt (scr := scr) (kd := kd) (n := n) (d := d + 1) (t := t) (S := (rS S0 U pa fd ld lc t ep vs.length rv ps.length rp fs fc tc wc t1 t2 t3)) hn (rS_tk hT) ht
  rw [w1 hk, hxn] at w2
  have f1 := c_fnd (scr := scr) (kd := kd) (d := d + 1) (S := (rS S0 U pa fd ld lc t ep vs.length rv ps.length rp fs fc tc wc t1 t2 t3)) (p := 32) hn (Or.inr rfl) rfl hps (by omega) hpo hx
  have f2 := c_fnd (scr := scr) (kd := kd) (d := d + 1) (S := (rS S0 U pa fd ld lc t ep vs.length rv ps.length rp fs fc tc wc t1 t2 t3)) (p := 30) hn (Or.inl rfl) rfl hvs (by omega) hvo hx
  unfold slA
  cases e1 : ps.findIdx? (fun y => y == x) with
  | some k =>
    have v1 : fndV 0 ps x = Int32.ofNat k := fndV_some e1
    have l1 := fnd_lt e1
    rw [v1] at f1
    refine ⟨fun p' k' vs' h => ?_, fun h => by cases h⟩
    cases h
    refine ⟨rv, hvs, hrv, ?_⟩
    refine eS rfl rfl ?_
    refine gGet hn rfl rfl rfl rfl ?_
    refine eS rfl rfl ?_
    refine gGet hn rfl rfl rfl rfl ?_
    refine gV1 hn rfl rfl rfl rfl rfl ⟨catOk rfl, catOk rfl⟩ (w2) ?_
    refine eS rfl rfl ?_
    refine eS rfl rfl ?_
    refine gGet hn rfl rfl rfl rfl ?_
    refine eS rfl rfl ?_
    refine gV1 hn rfl rfl rfl rfl rfl ⟨catOk rfl, catOk rfl⟩ (f1) ?_
    refine eS rfl rfl ?_
    refine eS rfl rfl ?_
    refine eS rfl rfl ?_
    refine eINe rfl rfl (fun _ => ?_) (fun z => absurd z (neg1_ne (e := k) (by omega)))
    refine eS rfl rfl ?_
    refine eS rfl rfl ?_
    refine eINe rfl rfl (fun _ => ?_) (fun z => absurd z (neg1_ne (e := k) (by omega)))
    refine eS rfl rfl ?_
    refine eS rfl rfl ?_
    refine eINe rfl rfl (fun _ => ?_) (fun z => absurd z (neg1_ne (e := k) (by omega)))
    refine eS rfl rfl ?_
    exact eR rfl rfl ⟨rfl, rfl⟩
  | none =>
    have v1 : fndV 0 ps x = -1 := fndV_none e1
    rw [v1] at f1
    cases e2 : vs.findIdx? (fun y => y == x) with
    | some k =>
      have v2 : fndV 0 vs x = Int32.ofNat k := fndV_some e2
      have l2 := fnd_lt e2
      rw [v2] at f2
      refine ⟨fun p' k' vs' h => ?_, fun h => by cases h⟩
      cases h
      refine ⟨rv, hvs, hrv, ?_⟩
      refine eS rfl rfl ?_
      refine gGet hn rfl rfl rfl rfl ?_
      refine eS rfl rfl ?_
      refine gGet hn rfl rfl rfl rfl ?_
      refine gV1 hn rfl rfl rfl rfl rfl ⟨catOk rfl, catOk rfl⟩ (w2) ?_
      refine eS rfl rfl ?_
      refine eS rfl rfl ?_
      refine gGet hn rfl rfl rfl rfl ?_
      refine eS rfl rfl ?_
      refine gV1 hn rfl rfl rfl rfl rfl ⟨catOk rfl, catOk rfl⟩ (f1) ?_
      refine eS rfl rfl ?_
      refine eS rfl rfl ?_
      refine eS rfl rfl ?_
      refine eINe rfl rfl (fun z => absurd rfl z) (fun _ => ?_)
      refine eS rfl rfl ?_
      refine gGet hn rfl rfl rfl rfl ?_
      refine eS rfl rfl ?_
      refine gV1 hn rfl rfl rfl rfl rfl ⟨catOk rfl, catOk rfl⟩ (f2) ?_
      refine eS rfl rfl ?_
      refine eS rfl rfl ?_
      refine eS rfl rfl ?_
      refine eINe rfl rfl (fun _ => ?_) (fun z => absurd z (neg1_ne (e := k) (by omega)))
      refine eS rfl rfl ?_
      refine eS rfl rfl ?_
      refine eINe rfl rfl (fun _ => ?_) (fun z => absurd z (neg1_ne (e := k) (by omega)))
      refine eS rfl rfl ?_
      exact eR rfl rfl ⟨rfl, rfl⟩
    | none =>
      have v2 : fndV 0 vs x = -1 := fndV_none e2
      rw [v2] at f2
      have f3 := c_nadd (scr := scr) (kd := kd) (d := d + 1) (S0 := S0) (U := U) (pa := pa) (fd := fd) (ld := ld) (lc := lc) (t := t) (ep := ep) (cp := ps.length) (rp := rp) (fs := fs) (fc := fc) (tc := tc) (wc := wc) (t1 := t1) (t2 := t2) (t3 := t3) (x := Int64.ofNat (pk 32 x)) hn hrv h8
      by_cases lt : vs.length < 8
      · dsimp only
        rw [if_pos lt, if_pos lt] at f3
        rw [if_pos lt]
        refine ⟨fun p' k' vs' h => ?_, fun h => by cases h⟩
        cases h
        refine ⟨rv.set vs.length (.long (Int64.ofNat (pk 32 x))), nmF_snoc hvs (by omega), by rw [List.length_set]; exact hrv, ?_⟩
        rw [List.length_append, List.length_singleton]
        refine eS rfl rfl ?_
        refine gGet hn rfl rfl rfl rfl ?_
        refine eS rfl rfl ?_
        refine gGet hn rfl rfl rfl rfl ?_
        refine gV1 hn rfl rfl rfl rfl rfl ⟨catOk rfl, catOk rfl⟩ (w2) ?_
        refine eS rfl rfl ?_
        refine eS rfl rfl ?_
        refine gGet hn rfl rfl rfl rfl ?_
        refine eS rfl rfl ?_
        refine gV1 hn rfl rfl rfl rfl rfl ⟨catOk rfl, catOk rfl⟩ (f1) ?_
        refine eS rfl rfl ?_
        refine eS rfl rfl ?_
        refine eS rfl rfl ?_
        refine eINe rfl rfl (fun z => absurd rfl z) (fun _ => ?_)
        refine eS rfl rfl ?_
        refine gGet hn rfl rfl rfl rfl ?_
        refine eS rfl rfl ?_
        refine gV1 hn rfl rfl rfl rfl rfl ⟨catOk rfl, catOk rfl⟩ (f2) ?_
        refine eS rfl rfl ?_
        refine eS rfl rfl ?_
        refine eS rfl rfl ?_
        refine eINe rfl rfl (fun z => absurd rfl z) (fun _ => ?_)
        refine eS rfl rfl ?_
        refine gGet hn rfl rfl rfl rfl ?_
        refine eS rfl rfl ?_
        refine gV1 hn rfl rfl rfl rfl rfl ⟨catOk rfl, catOk rfl⟩ (f3) ?_
        refine eS rfl rfl ?_
        refine eS rfl rfl ?_
        refine eS rfl rfl ?_
        refine eINe rfl rfl (fun _ => ?_) (fun z => absurd z (neg1_ne (e := vs.length) (by omega)))
        refine eS rfl rfl ?_
        exact eR rfl rfl ⟨rfl, rfl⟩
      · dsimp only
        rw [if_neg lt, if_neg lt] at f3
        rw [if_neg lt]
        refine ⟨fun p' k' vs' h => (by cases h), fun _ => ?_⟩
        refine eS rfl rfl ?_
        refine gGet hn rfl rfl rfl rfl ?_
        refine eS rfl rfl ?_
        refine gGet hn rfl rfl rfl rfl ?_
        refine gV1 hn rfl rfl rfl rfl rfl ⟨catOk rfl, catOk rfl⟩ (w2) ?_
        refine eS rfl rfl ?_
        refine eS rfl rfl ?_
        refine gGet hn rfl rfl rfl rfl ?_
        refine eS rfl rfl ?_
        refine gV1 hn rfl rfl rfl rfl rfl ⟨catOk rfl, catOk rfl⟩ (f1) ?_
        refine eS rfl rfl ?_
        refine eS rfl rfl ?_
        refine eS rfl rfl ?_
        refine eINe rfl rfl (fun z => absurd rfl z) (fun _ => ?_)
        refine eS rfl rfl ?_
        refine gGet hn rfl rfl rfl rfl ?_
        refine eS rfl rfl ?_
        refine gV1 hn rfl rfl rfl rfl rfl ⟨catOk rfl, catOk rfl⟩ (f2) ?_
        refine eS rfl rfl ?_
        refine eS rfl rfl ?_
        refine eS rfl rfl ?_
        refine eINe rfl rfl (fun z => absurd rfl z) (fun _ => ?_)
        refine eS rfl rfl ?_
        refine gGet hn rfl rfl rfl rfl ?_
        refine eS rfl rfl ?_
        refine gV1 hn rfl rfl rfl rfl rfl ⟨catOk rfl, catOk rfl⟩ (f3) ?_
        refine eS rfl rfl ?_
        refine eS rfl rfl ?_
        refine eS rfl rfl ?_
        refine eINe rfl rfl (fun z => absurd rfl z) (fun _ => ?_)
        refine eS rfl rfl ?_
        exact gVo hn rfl rfl rfl rfl rfl ⟨catOk rfl, catOk rfl⟩ rfl (c_refuseHere hn hT ht) (fun v h' z => by cases z.1) (fun q h' z => z)
end RFS
