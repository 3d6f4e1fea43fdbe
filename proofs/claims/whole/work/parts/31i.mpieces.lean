/-! the model's pieces of make -/
def mE (w0 : Value) (L : Nat) (wr tk : Int32) (md t vr pr lv df cl : Nat) (rest : List Value) : List Value := [w0, .ref 57, .int (Int32.ofNat L), .int wr, .int tk, .ref 58, .ref 59, .ref 60, .ref 61, .int (Int32.ofNat md), .ref 62, .int (Int32.ofNat t), .int (Int32.ofNat vr), .ref 63, .int (Int32.ofNat pr), .ref 64, .ref 65, .int (Int32.ofNat lv), .ref 66, .ref 67, .ref 68, .int (Int32.ofNat df), .ref 69, .ref 70, .ref 71, .int (Int32.ofNat cl), .ref 72, .ref 73, .ref 74, .ref 75] ++ rest
def mkA (ts : List aTk) (t : Nat) : Nat := match ts[t]? with | some tk => mkd tk.1 | none => 0
/-- the model's tokens in the heap -/
def mTok (ts : List aTk) (L : Nat) (A : Nat → List Value) : Prop := mkF ts A ∧ (A 58)[ts.length]? = some (.int 0) ∧ (A 59)[ts.length]? = some (.int (Int32.ofNat L)) ∧ mkL A ∧ ts.length ≤ 160 ∧ L ≤ 160 ∧ ∀ (i : Nat) (tk : aTk), ts[i]? = some tk → tkW L tk
section MPC
variable {scr : List Value} {kd : Nat → Nat} {n d L md t vr pr lv df cl : Nat} {S0 A : Nat → List Value} {w0 : Value} {wr tk : Int32} {rest : List Value} {ts : List aTk} {vs ps : List (List Nat)} {Q : aOut → aH → Prop}
theorem me_wr {u : Int32} : aUp (mtS S0 (mE w0 L wr tk md t vr pr lv df cl rest) A) 56 ((mE w0 L wr tk md t vr pr lv df cl rest).set 3 (.int u)) = (mtS S0 (mE w0 L u tk md t vr pr lv df cl rest) A) := mt_56
theorem me_md {u : Nat} : aUp (mtS S0 (mE w0 L wr tk md t vr pr lv df cl rest) A) 56 ((mE w0 L wr tk md t vr pr lv df cl rest).set 9 (.int (Int32.ofNat u))) = (mtS S0 (mE w0 L wr tk u t vr pr lv df cl rest) A) := mt_56
theorem me_t {u : Nat} : aUp (mtS S0 (mE w0 L wr tk md t vr pr lv df cl rest) A) 56 ((mE w0 L wr tk md t vr pr lv df cl rest).set 11 (.int (Int32.ofNat u))) = (mtS S0 (mE w0 L wr tk md u vr pr lv df cl rest) A) := mt_56
theorem me_vr {u : Nat} : aUp (mtS S0 (mE w0 L wr tk md t vr pr lv df cl rest) A) 56 ((mE w0 L wr tk md t vr pr lv df cl rest).set 12 (.int (Int32.ofNat u))) = (mtS S0 (mE w0 L wr tk md t u pr lv df cl rest) A) := mt_56
theorem me_pr {u : Nat} : aUp (mtS S0 (mE w0 L wr tk md t vr pr lv df cl rest) A) 56 ((mE w0 L wr tk md t vr pr lv df cl rest).set 14 (.int (Int32.ofNat u))) = (mtS S0 (mE w0 L wr tk md t vr u lv df cl rest) A) := mt_56
theorem me_lv {u : Nat} : aUp (mtS S0 (mE w0 L wr tk md t vr pr lv df cl rest) A) 56 ((mE w0 L wr tk md t vr pr lv df cl rest).set 17 (.int (Int32.ofNat u))) = (mtS S0 (mE w0 L wr tk md t vr pr u df cl rest) A) := mt_56
theorem me_df {u : Nat} : aUp (mtS S0 (mE w0 L wr tk md t vr pr lv df cl rest) A) 56 ((mE w0 L wr tk md t vr pr lv df cl rest).set 21 (.int (Int32.ofNat u))) = (mtS S0 (mE w0 L wr tk md t vr pr lv u cl rest) A) := mt_56
theorem me_cl {u : Nat} : aUp (mtS S0 (mE w0 L wr tk md t vr pr lv df cl rest) A) 56 ((mE w0 L wr tk md t vr pr lv df cl rest).set 25 (.int (Int32.ofNat u))) = (mtS S0 (mE w0 L wr tk md t vr pr lv df u rest) A) := mt_56
theorem kA_kind (hW : ∀ (i : Nat) (tk : aTk), ts[i]? = some tk → tkW L tk) {tk : aTk} (h : ts[t]? = some tk) : tk.1 = 1 ∨ (isS tk.1 = true ∧ 40 ≤ tk.1) ∨ (tk.1 = kwd tk.2.2.1 ∧ nmOk tk.2.2.1 ∧ tk.1 ≠ 1 ∧ tk.1 < 40) := by
  obtain ⟨-, c⟩ := hW t tk h
  rcases c with c | c | c
  · exact Or.inl c.1
  · exact Or.inr (Or.inl ⟨c, Nat.le_of_not_lt (fun z => absurd ((show ∀ z, z < 40 → ¬ isS z = true by decide) _ z) (fun w => w c))⟩)
  · have := kwd_rng tk.2.2.1
    exact Or.inr (Or.inr ⟨c.1, ⟨c.2.2.1, c.2.2.2⟩, by rw [c.1]; exact this.1, by rw [c.1]; exact this.2⟩)
theorem mkA_sg {c : Nat} (hc : 40 ≤ c) : mkA ts t = c ↔ kA ts t = c := by
  unfold mkA kA mkd
  cases ts[t]? with
  | none => exact ⟨fun z => by have z : 0 = c := z; omega, fun z => by have z : 34 = c := z; omega⟩
  | some tk =>
    dsimp only
    by_cases h1 : tk.1 = 1
    · rw [if_pos h1]; omega
    · rw [if_neg h1]
      by_cases h2 : tk.1 < 40
      · rw [if_pos h2]; omega
      · rw [if_neg h2]
theorem mkA_2 : mkA ts t = 2 ↔ kA ts t = 1 := by
  unfold mkA kA mkd
  cases ts[t]? with
  | none => exact ⟨fun z => (by cases z), fun z => (by cases z)⟩
  | some tk =>
    dsimp only
    by_cases h1 : tk.1 = 1
    · rw [if_pos h1]; omega
    · rw [if_neg h1]
      by_cases h2 : tk.1 < 40
      · rw [if_pos h2]; omega
      · rw [if_neg h2]; omega
theorem mkA_0 (hW : ∀ (i : Nat) (tk : aTk), ts[i]? = some tk → tkW L tk) : mkA ts t = 0 ↔ ts.length ≤ t := by
  unfold mkA
  cases e : ts[t]? with
  | none => exact ⟨fun _ => Nat.le_of_not_lt (fun y => by rw [List.getElem?_eq_getElem y] at e; cases e), fun _ => rfl⟩
  | some tk =>
    have := ts_lt e
    refine ⟨fun z => ?_, fun z => by omega⟩
    have z : mkd tk.1 = 0 := z
    unfold mkd at z
    rcases kA_kind hW e with c | c | c
    · rw [if_pos c] at z; cases z
    · rw [if_neg (by omega), if_neg (by omega)] at z; omega
    · rw [if_neg c.2.2.1, if_pos c.2.2.2] at z; cases z
theorem mkA_at (hT : mTok ts L A) (ht : t ≤ ts.length) : (A 58)[t]? = some (.int (Int32.ofNat (mkA ts t))) := by
  unfold mkA
  cases e : ts[t]? with
  | some tk => exact (hT.1 t tk e).1
  | none =>
    have : t = ts.length := Nat.le_antisymm ht (Nat.le_of_not_lt (fun y => by rw [List.getElem?_eq_getElem y] at e; cases e))
    rw [this]
    exact hT.2.1
theorem plA_at (hT : mTok ts L A) (ht : t ≤ ts.length) : (A 59)[t]? = some (.int (Int32.ofNat (plA ts L t))) := by
  unfold plA
  cases e : ts[t]? with
  | some tk => exact (hT.1 t tk e).2.1
  | none =>
    have : t = ts.length := Nat.le_antisymm ht (Nat.le_of_not_lt (fun y => by rw [List.getElem?_eq_getElem y] at e; cases e))
    rw [this]
    exact hT.2.2.1
theorem mkA_lt (hW : ∀ (i : Nat) (tk : aTk), ts[i]? = some tk → tkW L tk) : mkA ts t < 2 ^ 20 := by
  unfold mkA
  cases e : ts[t]? with
  | none => decide
  | some tk =>
    show mkd tk.1 < 2 ^ 20
    unfold mkd
    rcases kA_kind hW e with c | c | c
    · rw [if_pos c]; decide
    · have : ∀ z, z < 300 ∨ ¬ isS z = true := fun z => by
        by_cases y : z < 300
        · exact Or.inl y
        · refine Or.inr ?_
          unfold isS sgnL
          simp
          omega
      have := (this tk.1).resolve_right (fun y => y c.1)
      split
      · decide
      · split
        · decide
        · omega
    · rw [if_neg c.2.2.1, if_pos c.2.2.2]; decide
theorem m_isx {k v : Int32} (hn : 67 ≤ n) (ht : t < 2 ^ 20) (hv : (A 58)[t]? = some (.int v)) : aE aM178 d 0 [(0, .ref 56), (1, .int k)] [] (gH scr kd n (mtS S0 (mE w0 L wr tk md t vr pr lv df cl rest) A)) (aIs (some (.int (if v = k then 1 else 0))) (gH scr kd n (mtS S0 (mE w0 L wr tk md t vr pr lv df cl rest) A))) := by
  by_cases e : v = k
  · rw [if_pos e]
    refine eS rfl rfl ?_
    refine gGet hn rfl rfl rfl rfl ?_
    refine eS rfl rfl ?_
    refine gGet hn rfl rfl rfl rfl ?_
    refine gRd0 hn rfl rfl rfl t (by omega) hv ?_
    refine eS rfl rfl ?_
    refine eINe rfl rfl (fun z => absurd e z) (fun _ => ?_)
    refine eS rfl rfl ?_
    refine eS rfl rfl ?_
    exact eR rfl rfl ⟨rfl, rfl⟩
  · rw [if_neg e]
    refine eS rfl rfl ?_
    refine gGet hn rfl rfl rfl rfl ?_
    refine eS rfl rfl ?_
    refine gGet hn rfl rfl rfl rfl ?_
    refine gRd0 hn rfl rfl rfl t (by omega) hv ?_
    refine eS rfl rfl ?_
    refine eINe rfl rfl (fun _ => ?_) (fun z => absurd z e)
    refine eS rfl rfl ?_
    exact eR rfl rfl ⟨rfl, rfl⟩
theorem m_is {k : Nat} (hn : 67 ≤ n) (hT : mTok ts L A) (ht : t ≤ ts.length) (hk : k < 2 ^ 20) : aE aM178 d 0 [(0, .ref 56), (1, .int (Int32.ofNat k))] [] (gH scr kd n (mtS S0 (mE w0 L wr tk md t vr pr lv df cl rest) A)) (aIs (some (.int (if mkA ts t = k then 1 else 0))) (gH scr kd n (mtS S0 (mE w0 L wr tk md t vr pr lv df cl rest) A))) := by
  have h := m_isx (d := d) (scr := scr) (kd := kd) (md := md) (vr := vr) (pr := pr) (lv := lv) (df := df) (cl := cl) (S0 := S0) (w0 := w0) (wr := wr) (tk := tk) (L := L) (rest := rest) (k := Int32.ofNat k) hn (by have := hT.2.2.2.2.1; omega) (mkA_at hT ht)
  have e := i32_eq (a := mkA ts t) (b := k) (Nat.lt_trans (mkA_lt hT.2.2.2.2.2.2) (by decide)) (by omega)
  by_cases c : mkA ts t = k
  · rw [if_pos (e.mpr c)] at h
    rw [if_pos c]
    exact h
  · rw [if_neg (fun z => c (e.mp z))] at h
    rw [if_neg c]
    exact h
theorem m_fail (hn : 67 ≤ n) (hT : mTok ts L A) {u : Nat} (ht : u ≤ ts.length) : aE aM186 d 0 [(0, .ref 56), (1, .int (Int32.ofNat u))] [] (gH scr kd n (mtS S0 (mE w0 L (-1) tk md t vr pr lv df cl rest) A)) (aIs none (gH scr kd n (mtS S0 (mE w0 L (Int32.ofNat (plA ts L u)) tk md t vr pr lv df cl rest) A))) := by
  have h160 := hT.2.2.2.2.1
  refine eS rfl rfl ?_
  refine gGet hn rfl rfl rfl rfl ?_
  refine eS rfl rfl ?_
  refine eINe rfl rfl (fun z => absurd rfl z) (fun _ => ?_)
  refine eS rfl rfl ?_
  refine eS rfl rfl ?_
  refine gGet hn rfl rfl rfl rfl ?_
  refine eS rfl rfl ?_
  refine gRd0 hn rfl rfl rfl u (by omega) (plA_at hT ht) ?_
  refine gPut hn rfl rfl rfl rfl rfl rfl rfl me_wr ?_
  exact eR rfl rfl ⟨rfl, rfl⟩
theorem m_fail2 (hn : 67 ≤ n) (hw : wr ≠ -1) {u : Int32} : aE aM186 d 0 [(0, .ref 56), (1, .int u)] [] (gH scr kd n (mtS S0 (mE w0 L wr tk md t vr pr lv df cl rest) A)) (aIs none (gH scr kd n (mtS S0 (mE w0 L wr tk md t vr pr lv df cl rest) A))) := by
  refine eS rfl rfl ?_
  refine gGet hn rfl rfl rfl rfl ?_
  refine eS rfl rfl ?_
  refine eINe rfl rfl (fun _ => ?_) (fun z => absurd z hw)
  exact eR rfl rfl ⟨rfl, rfl⟩
theorem m_emit {v : Int32} (hn : 67 ≤ n) (h62 : (A 62).length = 800) (hm : md < 800) : aE aM180 d 0 [(0, .ref 56), (1, .int v)] [] (gH scr kd n (mtS S0 (mE w0 L wr tk md t vr pr lv df cl rest) A)) (aIs none (gH scr kd n (mtS S0 (mE w0 L wr tk (md + 1) t vr pr lv df cl rest) (aUp A 62 ((A 62).set md (.int v)))))) := by
  refine eS rfl rfl ?_
  refine gGet hn rfl rfl rfl rfl ?_
  refine eS rfl rfl ?_
  refine gGet hn rfl rfl rfl rfl ?_
  refine eS rfl rfl ?_
  refine gWr0 hn rfl rfl rfl md (by omega) (by show md < (A 62).length; omega) (mt_up rfl) ?_
  refine eS rfl rfl ?_
  refine eS rfl rfl ?_
  refine gGet hn rfl rfl rfl rfl ?_
  refine eS rfl rfl ?_
  refine eS rfl rfl ?_
  rw [i32_succ]
  refine gPut hn rfl rfl rfl rfl rfl rfl rfl me_md ?_
  exact eR rfl rfl ⟨rfl, rfl⟩
end MPC
