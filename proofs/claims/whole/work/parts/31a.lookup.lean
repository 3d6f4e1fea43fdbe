/-! the reader's own pieces: tokens by number, names -/
def kA (ts : List aTk) (t : Nat) : Nat := match ts[t]? with | some tk => tk.1 | none => 34
def plA (ts : List aTk) (L t : Nat) : Nat := match ts[t]? with | some tk => tk.2.1 | none => L
def nmA (ts : List aTk) (t : Nat) : List Nat := match ts[t]? with | some tk => tk.2.2.1 | none => []
def dgA (ts : List aTk) (t : Nat) : Nat := match ts[t]? with | some tk => tk.2.2.2.1 | none => 0
def bhA (ts : List aTk) (t : Nat) : Nat := match ts[t]? with | some tk => tk.2.2.2.2 | none => 0
/-- the class's tokens in the heap -/
def tcS (S : Nat → List Value) (ts : List aTk) (L : Nat) : Prop := S 23 = [.ref 24, .ref 25, .ref 26, .ref 27, .ref 28, .ref 29, .int (Int32.ofNat ts.length), .int (Int32.ofNat L)] ∧ tkF ts (S 24) (S 25) (S 26) (S 27) (S 28) ∧ ts.length ≤ 160 ∧ L ≤ 160 ∧ ∀ j, j < 160 → ∃ x : Int64, (S 26)[j]? = some (.long x)
section TKA
variable {scr : List Value} {kd : Nat → Nat} {n d L t : Nat} {S : Nat → List Value} {ts : List aTk}
theorem kA_in {k : Nat} (h : kA ts t = k) (hk : k ≠ 34) : ∃ tk, ts[t]? = some tk ∧ tk.1 = k := by
  unfold kA at h
  cases e : ts[t]? with
  | none => rw [e] at h; exact absurd h.symm hk
  | some tk => rw [e] at h; exact ⟨tk, rfl, h⟩
theorem ts_lt {tk : aTk} (h : ts[t]? = some tk) : t < ts.length := (List.getElem?_eq_some_iff.mp h).1
theorem c_kindAt (hn : 67 ≤ n) (hS : tcS S ts L) (ht : t < 2 ^ 20) : aE aM70 d 0 [(0, .ref 23), (1, .int (Int32.ofNat t))] [] (gH scr kd n S) (aIs (some (.int (Int32.ofNat (kA ts t)))) (gH scr kd n S)) := by
  obtain ⟨h23, hF, h160, hL, ty⟩ := hS
  have f6 : (S 23)[6]? = some (.int (Int32.ofNat ts.length)) := by rw [h23]; rfl
  have f7 : (S 23)[7]? = some (.int (Int32.ofNat L)) := by rw [h23]; rfl
  have fr : (S 23)[0]? = some (.ref 24) := by rw [h23]; rfl
  have p0 : ¬ Int32.ofNat t < 0 := fun z => by
    have := (i32_lt (a := t) (b := 0) (by omega) (by omega)).mp z
    omega
  cases e : ts[t]? with
  | none =>
    have hge : ts.length ≤ t := by
      apply Nat.le_of_not_lt
      intro y
      rw [List.getElem?_eq_getElem y] at e
      cases e
    rw [show kA ts t = 34 by unfold kA; rw [e]]
    refine eS rfl rfl ?_
    refine eLt rfl rfl (fun z => absurd z p0) (fun _ => ?_)
    refine eS rfl rfl ?_
    refine eS rfl rfl ?_
    refine gGet hn rfl rfl rfl f6 ?_
    refine eIGe rfl rfl (fun _ => ?_) (fun z => absurd ((i32_le (a := ts.length) (b := t) (by omega) (by omega)).mpr hge) z)
    refine eS rfl rfl ?_
    exact eR rfl rfl ⟨rfl, rfl⟩
  | some tk =>
    have hlt := ts_lt e
    have f := hF t tk e
    rw [show kA ts t = tk.1 by unfold kA; rw [e]]
    refine eS rfl rfl ?_
    refine eLt rfl rfl (fun z => absurd z p0) (fun _ => ?_)
    refine eS rfl rfl ?_
    refine eS rfl rfl ?_
    refine gGet hn rfl rfl rfl f6 ?_
    refine eIGe rfl rfl (fun z => absurd ((i32_le (a := ts.length) (b := t) (by omega) (by omega)).mp z) (by omega)) (fun _ => ?_)
    refine eS rfl rfl ?_
    refine gGet hn rfl rfl rfl fr ?_
    refine eS rfl rfl ?_
    refine gRd0 hn rfl rfl rfl t (by omega) f.1 ?_
    refine eS rfl rfl ?_
    exact eR rfl rfl ⟨rfl, rfl⟩
theorem c_placeAt (hn : 67 ≤ n) (hS : tcS S ts L) (ht : t < 2 ^ 20) : aE aM85 d 0 [(0, .ref 23), (1, .int (Int32.ofNat t))] [] (gH scr kd n S) (aIs (some (.int (Int32.ofNat (plA ts L t)))) (gH scr kd n S)) := by
  obtain ⟨h23, hF, h160, hL, ty⟩ := hS
  have f6 : (S 23)[6]? = some (.int (Int32.ofNat ts.length)) := by rw [h23]; rfl
  have f7 : (S 23)[7]? = some (.int (Int32.ofNat L)) := by rw [h23]; rfl
  have fr : (S 23)[1]? = some (.ref 25) := by rw [h23]; rfl
  have p0 : ¬ Int32.ofNat t < 0 := fun z => by
    have := (i32_lt (a := t) (b := 0) (by omega) (by omega)).mp z
    omega
  cases e : ts[t]? with
  | none =>
    have hge : ts.length ≤ t := by
      apply Nat.le_of_not_lt
      intro y
      rw [List.getElem?_eq_getElem y] at e
      cases e
    rw [show plA ts L t = L by unfold plA; rw [e]]
    refine eS rfl rfl ?_
    refine eLt rfl rfl (fun z => absurd z p0) (fun _ => ?_)
    refine eS rfl rfl ?_
    refine eS rfl rfl ?_
    refine gGet hn rfl rfl rfl f6 ?_
    refine eIGe rfl rfl (fun _ => ?_) (fun z => absurd ((i32_le (a := ts.length) (b := t) (by omega) (by omega)).mpr hge) z)
    refine eS rfl rfl ?_
    refine gGet hn rfl rfl rfl f7 ?_
    exact eR rfl rfl ⟨rfl, rfl⟩
  | some tk =>
    have hlt := ts_lt e
    have f := hF t tk e
    rw [show plA ts L t = tk.2.1 by unfold plA; rw [e]]
    refine eS rfl rfl ?_
    refine eLt rfl rfl (fun z => absurd z p0) (fun _ => ?_)
    refine eS rfl rfl ?_
    refine eS rfl rfl ?_
    refine gGet hn rfl rfl rfl f6 ?_
    refine eIGe rfl rfl (fun z => absurd ((i32_le (a := ts.length) (b := t) (by omega) (by omega)).mp z) (by omega)) (fun _ => ?_)
    refine eS rfl rfl ?_
    refine gGet hn rfl rfl rfl fr ?_
    refine eS rfl rfl ?_
    refine gRd0 hn rfl rfl rfl t (by omega) f.2.1 ?_
    refine eS rfl rfl ?_
    exact eR rfl rfl ⟨rfl, rfl⟩
theorem c_digitsAt (hn : 67 ≤ n) (hS : tcS S ts L) (ht : t < 2 ^ 20) (hk : kA ts t = 1) : aE aM76 d 0 [(0, .ref 23), (1, .int (Int32.ofNat t))] [] (gH scr kd n S) (aIs (some (.int (Int32.ofNat (dgA ts t)))) (gH scr kd n S)) := by
  obtain ⟨h23, hF, h160, hL, ty⟩ := hS
  have f6 : (S 23)[6]? = some (.int (Int32.ofNat ts.length)) := by rw [h23]; rfl
  have f7 : (S 23)[7]? = some (.int (Int32.ofNat L)) := by rw [h23]; rfl
  have fr : (S 23)[3]? = some (.ref 27) := by rw [h23]; rfl
  have p0 : ¬ Int32.ofNat t < 0 := fun z => by
    have := (i32_lt (a := t) (b := 0) (by omega) (by omega)).mp z
    omega
  cases e : ts[t]? with
  | none =>
    have hge : ts.length ≤ t := by
      apply Nat.le_of_not_lt
      intro y
      rw [List.getElem?_eq_getElem y] at e
      cases e
    rw [kA, e] at hk
    cases hk
  | some tk =>
    have hlt := ts_lt e
    have f := hF t tk e
    have k1 : tk.1 = 1 := by rw [kA, e] at hk; exact hk
    rw [show dgA ts t = tk.2.2.2.1 by unfold dgA; rw [e]]
    refine eS rfl rfl ?_
    refine eLt rfl rfl (fun z => absurd z p0) (fun _ => ?_)
    refine eS rfl rfl ?_
    refine eS rfl rfl ?_
    refine gGet hn rfl rfl rfl f6 ?_
    refine eIGe rfl rfl (fun z => absurd ((i32_le (a := ts.length) (b := t) (by omega) (by omega)).mp z) (by omega)) (fun _ => ?_)
    refine eS rfl rfl ?_
    refine gGet hn rfl rfl rfl fr ?_
    refine eS rfl rfl ?_
    refine gRd0 hn rfl rfl rfl t (by omega) (f.2.2.2 k1).1 ?_
    refine eS rfl rfl ?_
    exact eR rfl rfl ⟨rfl, rfl⟩
theorem c_behindAt (hn : 67 ≤ n) (hS : tcS S ts L) (ht : t < 2 ^ 20) (hk : kA ts t = 1) : aE aM77 d 0 [(0, .ref 23), (1, .int (Int32.ofNat t))] [] (gH scr kd n S) (aIs (some (.int (Int32.ofNat (bhA ts t)))) (gH scr kd n S)) := by
  obtain ⟨h23, hF, h160, hL, ty⟩ := hS
  have f6 : (S 23)[6]? = some (.int (Int32.ofNat ts.length)) := by rw [h23]; rfl
  have f7 : (S 23)[7]? = some (.int (Int32.ofNat L)) := by rw [h23]; rfl
  have fr : (S 23)[4]? = some (.ref 28) := by rw [h23]; rfl
  have p0 : ¬ Int32.ofNat t < 0 := fun z => by
    have := (i32_lt (a := t) (b := 0) (by omega) (by omega)).mp z
    omega
  cases e : ts[t]? with
  | none =>
    have hge : ts.length ≤ t := by
      apply Nat.le_of_not_lt
      intro y
      rw [List.getElem?_eq_getElem y] at e
      cases e
    rw [kA, e] at hk
    cases hk
  | some tk =>
    have hlt := ts_lt e
    have f := hF t tk e
    have k1 : tk.1 = 1 := by rw [kA, e] at hk; exact hk
    rw [show bhA ts t = tk.2.2.2.2 by unfold bhA; rw [e]]
    refine eS rfl rfl ?_
    refine eLt rfl rfl (fun z => absurd z p0) (fun _ => ?_)
    refine eS rfl rfl ?_
    refine eS rfl rfl ?_
    refine gGet hn rfl rfl rfl f6 ?_
    refine eIGe rfl rfl (fun z => absurd ((i32_le (a := ts.length) (b := t) (by omega) (by omega)).mp z) (by omega)) (fun _ => ?_)
    refine eS rfl rfl ?_
    refine gGet hn rfl rfl rfl fr ?_
    refine eS rfl rfl ?_
    refine gRd0 hn rfl rfl rfl t (by omega) (f.2.2.2 k1).2 ?_
    refine eS rfl rfl ?_
    exact eR rfl rfl ⟨rfl, rfl⟩
theorem c_nameAt (hn : 67 ≤ n) (hS : tcS S ts L) (ht : t < 2 ^ 20) : ∃ x : Int64, (kA ts t = 30 → x = Int64.ofNat (pk 32 (nmA ts t))) ∧ aE aM80 d 0 [(0, .ref 23), (1, .int (Int32.ofNat t))] [] (gH scr kd n S) (aIs (some (.long x)) (gH scr kd n S)) := by
  obtain ⟨h23, hF, h160, hL, ty⟩ := hS
  have f6 : (S 23)[6]? = some (.int (Int32.ofNat ts.length)) := by rw [h23]; rfl
  have fr : (S 23)[2]? = some (.ref 26) := by rw [h23]; rfl
  have p0 : ¬ Int32.ofNat t < 0 := fun z => by
    have := (i32_lt (a := t) (b := 0) (by omega) (by omega)).mp z
    omega
  cases e : ts[t]? with
  | none =>
    have hge : ts.length ≤ t := by
      apply Nat.le_of_not_lt
      intro y
      rw [List.getElem?_eq_getElem y] at e
      cases e
    refine ⟨0, fun z => (by rw [kA, e] at z; cases z), ?_⟩
    refine eS rfl rfl ?_
    refine eLt rfl rfl (fun z => absurd z p0) (fun _ => ?_)
    refine eS rfl rfl ?_
    refine eS rfl rfl ?_
    refine gGet hn rfl rfl rfl f6 ?_
    refine eIGe rfl rfl (fun _ => ?_) (fun z => absurd ((i32_le (a := ts.length) (b := t) (by omega) (by omega)).mpr hge) z)
    refine eS rfl rfl ?_
    exact eR rfl rfl ⟨rfl, rfl⟩
  | some tk =>
    have hlt := ts_lt e
    have f := hF t tk e
    obtain ⟨x, hx⟩ := ty t (by omega)
    refine ⟨x, fun z => ?_, ?_⟩
    · have k30 : tk.1 = 30 := by rw [kA, e] at z; exact z
      have := f.2.2.1 (by omega) (by omega)
      rw [hx] at this
      cases this
      rw [show nmA ts t = tk.2.2.1 by unfold nmA; rw [e]]
    · skip
      refine eS rfl rfl ?_
      refine eLt rfl rfl (fun z => absurd z p0) (fun _ => ?_)
      refine eS rfl rfl ?_
      refine eS rfl rfl ?_
      refine gGet hn rfl rfl rfl f6 ?_
      refine eIGe rfl rfl (fun z => absurd ((i32_le (a := ts.length) (b := t) (by omega) (by omega)).mp z) (by omega)) (fun _ => ?_)
      refine eS rfl rfl ?_
      refine gGet hn rfl rfl rfl fr ?_
      refine eS rfl rfl ?_
      refine gRd2 hn rfl rfl rfl t (by omega) hx ?_
      refine eS rfl rfl ?_
      exact eR rfl rfl ⟨rfl, rfl⟩
end TKA
/-! names -/
def nmOk (x : List Nat) : Prop := x.length ≤ 8 ∧ ∀ y ∈ x, 1 ≤ y ∧ y ≤ 26
def nmF (b : Nat) (vs : List (List Nat)) (a : List Value) : Prop := ∀ (i : Nat) (x : List Nat), vs[i]? = some x → a[i]? = some (.long (Int64.ofNat (pk b x)))
def fndV (i : Nat) (vs : List (List Nat)) (x : List Nat) : Int32 := match vs.findIdx? (fun y => y == x) with | some k => Int32.ofNat (i + k) | none => -1
section NMS
variable {scr : List Value} {kd : Nat → Nat} {n d p : Nat} {S : Nat → List Value} {vs : List (List Nat)} {x : List Nat}
theorem nm_eq {b : Nat} (hb : b = 27 ∨ b = 32) {x y : List Nat} (hx : nmOk x) (hy : nmOk y) : Int64.ofNat (pk b x) = Int64.ofNat (pk b y) ↔ x = y := by
  have h1 := pk_lt8 hb hx.2 hx.1
  have h2 := pk_lt8 hb hy.2 hy.1
  rw [i64_eq (by omega) (by omega)]
  exact ⟨fun e => pk_inj (by omega) hx.2 hy.2 e, fun e => by rw [e]⟩
theorem fndV_cons {i : Nat} {y : List Nat} : fndV i (y :: vs) x = if y = x then Int32.ofNat i else fndV (i + 1) vs x := by
  unfold fndV
  rw [List.findIdx?_cons]
  by_cases e : y = x
  · subst e
    rw [if_pos rfl]
    simp
  · rw [if_neg e]
    have : (y == x) = false := by rw [beq_eq_false_iff_ne]; exact e
    rw [this]
    cases vs.findIdx? (fun y => y == x) with
    | none => rfl
    | some k =>
      show Int32.ofNat (i + (k + 1)) = Int32.ofNat (i + 1 + k)
      congr 1
      omega
theorem c_find (hn : 67 ≤ n) (hp : p = 30 ∨ p = 32) (h30 : S p = [.ref (p + 1), .int (Int32.ofNat vs.length)]) (hF : nmF 32 vs (S (p + 1))) (h8 : vs.length ≤ 8) (hv : ∀ y ∈ vs, nmOk y) (hx : nmOk x) : ∀ (k i : Nat), i + k = vs.length → aE aM81 d 2 [(3, .int (Int32.ofNat i)), (0, .ref p), (1, .long (Int64.ofNat (pk 32 x)))] [] (gH scr kd n S) (aIs (some (.int (fndV i (vs.drop i) x))) (gH scr kd n S))
  | k, i, hk => by
    have hp1 : (Nat.ble 20 p && Nat.blt p 87) = true := by rcases hp with rfl | rfl <;> rfl
    have hp2 : (Nat.ble 20 (p + 1) && Nat.blt (p + 1) 87) = true := by rcases hp with rfl | rfl <;> rfl
    have hk1 : gK kd p = 14 := by rcases hp with rfl | rfl <;> rfl
    have hk2 : gK kd (p + 1) = 2 := by rcases hp with rfl | rfl <;> rfl
    have f0 : (S p)[0]? = some (.ref (p + 1)) := by rw [h30]; rfl
    have f1 : (S p)[1]? = some (.int (Int32.ofNat vs.length)) := by rw [h30]; rfl
    match k, hk with
    | 0, hk =>
      obtain rfl : i = vs.length := by omega
      rw [List.drop_length]
      refine eS rfl rfl ?_
      refine eS rfl rfl ?_
      refine gGet hn rfl hp1 hk1 f1 ?_
      refine eIGe rfl rfl (fun _ => ?_) (fun z => absurd ((i32_le (a := vs.length) (b := vs.length) (by omega) (by omega)).mpr (Nat.le_refl _)) z)
      refine eS rfl rfl ?_
      exact eR rfl rfl ⟨rfl, rfl⟩
    | k + 1, hk =>
      have hi : i < vs.length := by omega
      rw [List.drop_eq_getElem_cons hi, fndV_cons]
      have hr := hF i _ (List.getElem?_eq_getElem hi)
      have hy := hv _ (List.getElem_mem hi)
      refine eS rfl rfl ?_
      refine eS rfl rfl ?_
      refine gGet hn rfl hp1 hk1 f1 ?_
      refine eIGe rfl rfl (fun z => absurd ((i32_le (a := vs.length) (b := i) (by omega) (by omega)).mp z) (by omega)) (fun _ => ?_)
      refine eS rfl rfl ?_
      refine gGet hn rfl hp1 hk1 f0 ?_
      refine eS rfl rfl ?_
      refine gRd2 hn rfl hp2 hk2 i (by omega) hr ?_
      refine eS rfl rfl ?_
      refine eS rfl rfl ?_
      by_cases e : vs[i] = x
      · rw [if_pos e]
        refine eNe rfl rfl (fun z => absurd (lg_eq.mpr ((nm_eq (Or.inr rfl) hy hx).mpr e)) z) (fun _ => ?_)
        refine eS rfl rfl ?_
        exact eR rfl rfl ⟨rfl, rfl⟩
      · rw [if_neg e]
        refine eNe rfl rfl (fun _ => ?_) (fun z => absurd ((nm_eq (Or.inr rfl) hy hx).mp (lg_eq.mp z)) e)
        refine eS rfl rfl ?_
        refine eS rfl rfl ?_
        rw [i32_succ]
        exact c_find hn hp h30 hF h8 hv hx k (i + 1) (by omega)
end NMS
