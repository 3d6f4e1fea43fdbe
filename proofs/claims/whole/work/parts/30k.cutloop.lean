/-! the loop of cut -/
def mkd (k : Nat) : Nat := if k = 1 then 2 else if k < 40 then 1 else k
def mwd (tk : aTk) : Nat := if tk.1 = 1 then tk.2.2.2.1 else pk 27 tk.2.2.1
def mk1 (tk : aTk) (i : Nat) (A : Nat → List Value) : Prop := (A 58)[i]? = some (.int (Int32.ofNat (mkd tk.1))) ∧ (A 59)[i]? = some (.int (Int32.ofNat tk.2.1)) ∧ (A 60)[i]? = some (.long (Int64.ofNat (mwd tk))) ∧ (tk.1 = 1 → (A 61)[i]? = some (.int (Int32.ofNat tk.2.2.2.2)))
def mkF (ts : List aTk) (A : Nat → List Value) : Prop := ∀ i tk, ts[i]? = some tk → mk1 tk i A
def mkL (A : Nat → List Value) : Prop := (A 58).length = 162 ∧ (A 59).length = 162 ∧ (A 60).length = 162 ∧ (A 61).length = 162 ∧ ∀ j, j < 162 → ∃ x : Int32, (A 58)[j]? = some (.int x)
def cxA (m : Nat) (A A' : Nat → List Value) : Prop := (∀ r, (A' r).length = (A r).length) ∧ (∀ r i, i ≠ m → (A' r)[i]? = (A r)[i]?) ∧ ∀ r, r < 58 ∨ 61 < r → A' r = A r
section MCL
variable {scr : List Value} {kd : Nat → Nat} {n d L p : Nat} {S0 A A1 A2 : Nat → List Value} {w : Nat → Value} {wr tk v : Int32} {rest l x y : List Value} {c : Nat → Nat} {Q : aOut → aH → Prop} {ts : List aTk} {t : aTk} {m : Nat}
theorem nx_up {v : Value} {r0 : Nat} (h : 58 ≤ r0 ∧ r0 ≤ 61) : cxA m A (aUp A r0 ((A r0).set m v)) := by
  refine ⟨fun r => mNb_len r, fun r i hi => ?_, fun r hr => aUp_ne (by omega)⟩
  by_cases e : r = r0
  · subst e
    rw [aUp_same, List.getElem?_set_ne (fun z => hi z.symm)]
  · rw [aUp_ne e]
theorem cxA.trans (h1 : cxA m A A1) (h2 : cxA m A1 A2) : cxA m A A2 := ⟨fun r => (h2.1 r).trans (h1.1 r), fun r i hi => (h2.2.1 r i hi).trans (h1.2.1 r i hi), fun r hr => (h2.2.2 r hr).trans (h1.2.2 r hr)⟩
theorem nx_L {v : Int32} (h : cxA m A A1) (hL : mkL A) (hv : (A1 58)[m]? = some (.int v)) : mkL A1 := by
  obtain ⟨l1, l2, l3, l4, l5⟩ := hL
  refine ⟨(h.1 _).trans l1, (h.1 _).trans l2, (h.1 _).trans l3, (h.1 _).trans l4, fun j hj => ?_⟩
  by_cases e : j = m
  · subst e; exact ⟨v, hv⟩
  · obtain ⟨x, hx⟩ := l5 j hj
    exact ⟨x, (h.2.1 _ _ e).trans hx⟩
theorem nx_F (h : cxA ts.length A A1) (hF : mkF ts A) (h1 : mk1 t ts.length A1) : mkF (ts ++ [t]) A1 := by
  intro i u hu
  by_cases e : i = ts.length
  · subst e
    rw [List.getElem?_append_right (Nat.le_refl _), Nat.sub_self] at hu
    cases hu
    exact h1
  · have hi : i < ts.length := by
      have := (List.getElem?_eq_some_iff.mp hu).1
      rw [List.length_append, List.length_singleton] at this
      omega
    rw [List.getElem?_append_left hi] at hu
    unfold mk1
    rw [h.2.1 _ _ e, h.2.1 _ _ e, h.2.1 _ _ e, h.2.1 _ _ e]
    exact hF i u hu
/-- a token begun: place, word and behind none, kind -/
def tkB (m p k : Nat) (A : Nat → List Value) : Nat → List Value := aUp (aUp (aUp (aUp A 59 ((A 59).set m (.int (Int32.ofNat p)))) 60 ((A 60).set m (.long 0))) 61 ((A 61).set m (.int 0))) 58 ((A 58).set m (.int (Int32.ofNat k)))
theorem tkB_nx {k : Nat} : cxA m A (tkB m p k A) := cxA.trans (cxA.trans (cxA.trans (nx_up (by decide)) (nx_up (A := aUp A 59 _) (r0 := 60) (by decide))) (nx_up (A := aUp (aUp A 59 _) 60 _) (r0 := 61) (by decide))) (nx_up (A := aUp (aUp (aUp A 59 _) 60 _) 61 _) (r0 := 58) (by decide))
/-- what the loop of cut leaves -/
def cutR (A A' : Nat → List Value) (n' : Nat) (wr' : Int32) (r : Except Nat (List aTk)) : Prop := mkL A' ∧ n' ≤ 160 ∧ (∀ q, q < 58 ∨ 61 < q → A' q = A q) ∧ (∀ e, r = .error e → wr' = Int32.ofNat e ∧ e < 2 ^ 20) ∧ ∀ t2, r = .ok t2 → wr' = -1 ∧ mkF t2 A' ∧ n' = t2.length
theorem neg1_ne {e : Nat} (h : e < 2 ^ 20) : Int32.ofNat e ≠ -1 := by
  intro z
  have h1 : (Int32.ofNat e).toInt = e := Int32.toInt_ofNat_of_lt (by omega)
  rw [z] at h1
  have : (-1 : Int32).toInt = -1 := rfl
  omega
theorem m_cut_exit {q' : Nat} (hn : 67 ≤ n) (hL : L ≤ 160) (hq : q' < 2 ^ 20) (hw : L ≤ q' ∨ wr ≠ -1) (kk : ∀ v : Int32, aE aM169 d 184 [(1, .int v), (0, .ref 56)] [] (gH scr kd n (mtS S0 (mK w L wr tk rest) A)) Q) : aE aM169 d 7 [(1, .int (Int32.ofNat q')), (0, .ref 56)] [] (gH scr kd n (mtS S0 (mK w L wr tk rest) A)) Q := by
  by_cases hge : L ≤ q'
  · skip
    refine eS rfl rfl ?_
    refine eS rfl rfl ?_
    refine gGet hn rfl rfl rfl rfl ?_
    refine eIGe rfl rfl (fun _ => ?_) (fun z => absurd ((i32_le (a := L) (b := q') (by omega) (by omega)).mpr hge) z)
    exact kk _
  · skip
    refine eS rfl rfl ?_
    refine eS rfl rfl ?_
    refine gGet hn rfl rfl rfl rfl ?_
    refine eIGe rfl rfl (fun z => absurd ((i32_le (a := L) (b := q') (by omega) (by omega)).mp z) hge) (fun _ => ?_)
    refine eS rfl rfl ?_
    refine gGet hn rfl rfl rfl rfl ?_
    refine eS rfl rfl ?_
    refine eINe rfl rfl (fun _ => ?_) (fun z => absurd z (hw.resolve_left hge))
    exact kk _
theorem m_cut_begin {k : Nat} (hn : 67 ≤ n) (hT : txOk (S0 57) L c) (hm : m < 160) (hL : mkL A) (hk : k = if isL (c p) = true then 1 else if isD (c p) = true then 2 else if isS (c p) = true then c p else 0)
    (kk : aE aM169 (d + 3) 120 [(2, .int (Int32.ofNat (c p))), (1, .int (Int32.ofNat p)), (0, .ref 56)] [] (gH scr kd n (mtS S0 (mK w L wr (Int32.ofNat m) rest) (tkB m p k A))) Q) : aE aM169 (d + 3) 47 [(2, .int (Int32.ofNat (c p))), (1, .int (Int32.ofNat p)), (0, .ref 56)] [] (gH scr kd n (mtS S0 (mK w L wr (Int32.ofNat m) rest) A)) Q := by
  obtain ⟨l1, l2, l3, l4, l5⟩ := hL
  have cz : c p < 2 ^ 31 := Nat.lt_trans (hT.2.2.1 p) (by decide)
  have e8 : aUp (aUp (aUp (aUp A 59 ((A 59).set m (.int (Int32.ofNat p)))) 60 ((A 60).set m (.long 0))) 61 ((A 61).set m (.int 0))) 58 ((A 58).set m (.int (Int32.ofNat k))) = tkB m p k A := rfl
  by_cases l : isL (c p) = true
  · rw [if_pos l] at hk
    subst hk
    refine eS rfl rfl ?_
    refine gGet hn rfl rfl rfl rfl ?_
    refine eS rfl rfl ?_
    refine gGet hn rfl rfl rfl rfl ?_
    refine eS rfl rfl ?_
    refine gWr0 hn rfl rfl rfl m (by omega) (by show m < (A 59).length; omega) (mt_up rfl) ?_
    refine eS rfl rfl ?_
    refine gGet hn rfl rfl rfl rfl ?_
    refine eS rfl rfl ?_
    refine gGet hn rfl rfl rfl rfl ?_
    refine eS rfl rfl ?_
    refine gWr2 hn rfl rfl rfl m (by omega) (by show m < (A 60).length; omega) (mt_up rfl) ?_
    refine eS rfl rfl ?_
    refine gGet hn rfl rfl rfl rfl ?_
    refine eS rfl rfl ?_
    refine gGet hn rfl rfl rfl rfl ?_
    refine eS rfl rfl ?_
    refine gWr0 hn rfl rfl rfl m (by omega) (by show m < (A 61).length; omega) (mt_up rfl) ?_
    refine eS rfl rfl ?_
    refine gGet hn rfl rfl rfl rfl ?_
    refine eS rfl rfl ?_
    refine gGet hn rfl rfl rfl rfl ?_
    refine eS rfl rfl ?_
    refine eC1 rfl rfl rfl ⟨catOk rfl, catOk rfl⟩ (m_isL cz) ?_
    rw [if_pos l]
    refine eEq rfl rfl (fun z => absurd z (by decide)) (fun _ => ?_)
    refine eS rfl rfl ?_
    refine eS rfl rfl ?_
    refine gWr0 hn rfl rfl rfl m (by omega) (by show m < (A 58).length; omega) (mt_up rfl) ?_
    exact kk
  · rw [if_neg l] at hk
    by_cases g : isD (c p) = true
    · rw [if_pos g] at hk
      subst hk
      refine eS rfl rfl ?_
      refine gGet hn rfl rfl rfl rfl ?_
      refine eS rfl rfl ?_
      refine gGet hn rfl rfl rfl rfl ?_
      refine eS rfl rfl ?_
      refine gWr0 hn rfl rfl rfl m (by omega) (by show m < (A 59).length; omega) (mt_up rfl) ?_
      refine eS rfl rfl ?_
      refine gGet hn rfl rfl rfl rfl ?_
      refine eS rfl rfl ?_
      refine gGet hn rfl rfl rfl rfl ?_
      refine eS rfl rfl ?_
      refine gWr2 hn rfl rfl rfl m (by omega) (by show m < (A 60).length; omega) (mt_up rfl) ?_
      refine eS rfl rfl ?_
      refine gGet hn rfl rfl rfl rfl ?_
      refine eS rfl rfl ?_
      refine gGet hn rfl rfl rfl rfl ?_
      refine eS rfl rfl ?_
      refine gWr0 hn rfl rfl rfl m (by omega) (by show m < (A 61).length; omega) (mt_up rfl) ?_
      refine eS rfl rfl ?_
      refine gGet hn rfl rfl rfl rfl ?_
      refine eS rfl rfl ?_
      refine gGet hn rfl rfl rfl rfl ?_
      refine eS rfl rfl ?_
      refine eC1 rfl rfl rfl ⟨catOk rfl, catOk rfl⟩ (m_isL cz) ?_
      rw [if_neg l]
      refine eEq rfl rfl (fun _ => ?_) (fun z => (z rfl).elim)
      refine eS rfl rfl ?_
      refine eC1 rfl rfl rfl ⟨catOk rfl, catOk rfl⟩ (m_isD cz) ?_
      rw [if_pos g]
      refine eEq rfl rfl (fun z => absurd z (by decide)) (fun _ => ?_)
      refine eS rfl rfl ?_
      refine eS rfl rfl ?_
      refine gWr0 hn rfl rfl rfl m (by omega) (by show m < (A 58).length; omega) (mt_up rfl) ?_
      exact kk
    · rw [if_neg g] at hk
      by_cases s : isS (c p) = true
      · rw [if_pos s] at hk
        subst hk
        refine eS rfl rfl ?_
        refine gGet hn rfl rfl rfl rfl ?_
        refine eS rfl rfl ?_
        refine gGet hn rfl rfl rfl rfl ?_
        refine eS rfl rfl ?_
        refine gWr0 hn rfl rfl rfl m (by omega) (by show m < (A 59).length; omega) (mt_up rfl) ?_
        refine eS rfl rfl ?_
        refine gGet hn rfl rfl rfl rfl ?_
        refine eS rfl rfl ?_
        refine gGet hn rfl rfl rfl rfl ?_
        refine eS rfl rfl ?_
        refine gWr2 hn rfl rfl rfl m (by omega) (by show m < (A 60).length; omega) (mt_up rfl) ?_
        refine eS rfl rfl ?_
        refine gGet hn rfl rfl rfl rfl ?_
        refine eS rfl rfl ?_
        refine gGet hn rfl rfl rfl rfl ?_
        refine eS rfl rfl ?_
        refine gWr0 hn rfl rfl rfl m (by omega) (by show m < (A 61).length; omega) (mt_up rfl) ?_
        refine eS rfl rfl ?_
        refine gGet hn rfl rfl rfl rfl ?_
        refine eS rfl rfl ?_
        refine gGet hn rfl rfl rfl rfl ?_
        refine eS rfl rfl ?_
        refine eC1 rfl rfl rfl ⟨catOk rfl, catOk rfl⟩ (m_isL cz) ?_
        rw [if_neg l]
        refine eEq rfl rfl (fun _ => ?_) (fun z => (z rfl).elim)
        refine eS rfl rfl ?_
        refine eC1 rfl rfl rfl ⟨catOk rfl, catOk rfl⟩ (m_isD cz) ?_
        rw [if_neg g]
        refine eEq rfl rfl (fun _ => ?_) (fun z => (z rfl).elim)
        refine eS rfl rfl ?_
        refine eC1 rfl rfl rfl ⟨catOk rfl, catOk rfl⟩ (m_isS cz) ?_
        rw [if_pos s]
        refine eEq rfl rfl (fun z => absurd z (by decide)) (fun _ => ?_)
        refine eS rfl rfl ?_
        refine eS rfl rfl ?_
        refine gWr0 hn rfl rfl rfl m (by omega) (by show m < (A 58).length; omega) (mt_up rfl) ?_
        exact kk
      · rw [if_neg s] at hk
        subst hk
        refine eS rfl rfl ?_
        refine gGet hn rfl rfl rfl rfl ?_
        refine eS rfl rfl ?_
        refine gGet hn rfl rfl rfl rfl ?_
        refine eS rfl rfl ?_
        refine gWr0 hn rfl rfl rfl m (by omega) (by show m < (A 59).length; omega) (mt_up rfl) ?_
        refine eS rfl rfl ?_
        refine gGet hn rfl rfl rfl rfl ?_
        refine eS rfl rfl ?_
        refine gGet hn rfl rfl rfl rfl ?_
        refine eS rfl rfl ?_
        refine gWr2 hn rfl rfl rfl m (by omega) (by show m < (A 60).length; omega) (mt_up rfl) ?_
        refine eS rfl rfl ?_
        refine gGet hn rfl rfl rfl rfl ?_
        refine eS rfl rfl ?_
        refine gGet hn rfl rfl rfl rfl ?_
        refine eS rfl rfl ?_
        refine gWr0 hn rfl rfl rfl m (by omega) (by show m < (A 61).length; omega) (mt_up rfl) ?_
        refine eS rfl rfl ?_
        refine gGet hn rfl rfl rfl rfl ?_
        refine eS rfl rfl ?_
        refine gGet hn rfl rfl rfl rfl ?_
        refine eS rfl rfl ?_
        refine eC1 rfl rfl rfl ⟨catOk rfl, catOk rfl⟩ (m_isL cz) ?_
        rw [if_neg l]
        refine eEq rfl rfl (fun _ => ?_) (fun z => (z rfl).elim)
        refine eS rfl rfl ?_
        refine eC1 rfl rfl rfl ⟨catOk rfl, catOk rfl⟩ (m_isD cz) ?_
        rw [if_neg g]
        refine eEq rfl rfl (fun _ => ?_) (fun z => (z rfl).elim)
        refine eS rfl rfl ?_
        refine eC1 rfl rfl rfl ⟨catOk rfl, catOk rfl⟩ (m_isS cz) ?_
        rw [if_neg s]
        refine eEq rfl rfl (fun _ => ?_) (fun z => (z rfl).elim)
        refine eS rfl rfl ?_
        refine gWr0 hn rfl rfl rfl m (by omega) (by show m < (A 58).length; omega) (mt_up rfl) ?_
        exact kk
theorem cutR.of {r : Except Nat (List aTk)} {A' : Nat → List Value} {n' : Nat} {wr' : Int32} (h : cutR A1 A' n' wr' r) (hx : ∀ q, q < 58 ∨ 61 < q → A1 q = A q) : cutR A A' n' wr' r := ⟨h.1, h.2.1, fun q hq => (h.2.2.1 q hq).trans (hx q hq), h.2.2.2⟩
theorem nbrA_le {e : Nat} (h : nbrA c p = .error e) : e ≤ p + 7 := by
  have s1 := spn_le (c := c) (f := isD) 4 p
  have s2 := spn_le (c := c) (f := isD) 2 (spn c isD 4 p + 1)
  unfold nbrA at h
  by_cases c1 : isD (c (spn c isD 4 p)) = true
  · rw [if_pos c1] at h; cases h; omega
  · rw [if_neg c1] at h
    by_cases c2 : c (spn c isD 4 p) = 46
    · rw [if_pos c2] at h
      by_cases c3 : isD (c (spn c isD 4 p + 1)) = true
      · rw [if_pos c3] at h
        by_cases c4 : isD (c (spn c isD 2 (spn c isD 4 p + 1))) = true
        · rw [if_pos c4] at h; cases h; omega
        · rw [if_neg c4] at h; cases h
      · rw [if_neg c3] at h; cases h; omega
    · rw [if_neg c2] at h; cases h
theorem nbr_ok {x' : Nat × Nat × Nat} (h0 : ∀ q, L ≤ q → c q = 0) (hp : p < L) (g : isD (c p) = true) (h : nbrA c p = .ok x') : p < x'.1 ∧ x'.1 ≤ L := by
  have s0 : p + 1 ≤ spn c isD 4 p := spn_pos (k := 3) g
  have s1 := spn_lt (c := c) (f := isD) (k := 4) (p := p) h0 rfl (Nat.le_of_lt hp)
  have s2 := spn_le (c := c) (f := isD) 2 (spn c isD 4 p + 1)
  unfold nbrA at h
  by_cases c1 : isD (c (spn c isD 4 p)) = true
  · rw [if_pos c1] at h; cases h
  · rw [if_neg c1] at h
    by_cases c2 : c (spn c isD 4 p) = 46
    · rw [if_pos c2] at h
      by_cases c3 : isD (c (spn c isD 4 p + 1)) = true
      · rw [if_pos c3] at h
        by_cases c4 : isD (c (spn c isD 2 (spn c isD 4 p + 1))) = true
        · rw [if_pos c4] at h; cases h
        · rw [if_neg c4] at h
          cases h
          refine ⟨by show p < spn c isD 2 (spn c isD 4 p + 1); omega, spn_lt h0 rfl ?_⟩
          apply Nat.le_of_not_lt
          intro y
          rw [h0 _ (by omega)] at c2
          cases c2
      · rw [if_neg c3] at h; cases h
    · rw [if_neg c2] at h
      cases h
      exact ⟨s0, s1⟩
theorem m_cut_loop (hn : 67 ≤ n) (hT : txOk (S0 57) L c) : ∀ (k p : Nat) (ts : List aTk) (A : Nat → List Value), L ≤ p + k → p ≤ L → ts.length ≤ p → mkL A → mkF ts A → (∀ (A' : Nat → List Value) (n' : Nat) (wr' v : Int32), cutR A A' n' wr' (tokA c L k p ts) → aE aM169 (d + 3) 184 [(1, .int v), (0, .ref 56)] [] (gH scr kd n (mtS S0 (mK w L wr' (Int32.ofNat n') rest) A')) Q) → aE aM169 (d + 3) 7 [(1, .int (Int32.ofNat p)), (0, .ref 56)] [] (gH scr kd n (mtS S0 (mK w L (-1) (Int32.ofNat ts.length) rest) A)) Q
  | k, p, ts, A, hk, hp, hl, hL, hF, kk => by
    have t1 := hT.1
    by_cases hge : L ≤ p
    · refine m_cut_exit hn t1 (by omega) (Or.inl hge) (fun v => kk A ts.length (-1) v ?_)
      rw [tokA_L hge]
      exact ⟨hL, by omega, fun _ _ => rfl, fun e he => (by cases he), fun t2 he => by cases he; exact ⟨rfl, hF, rfl⟩⟩
    · obtain ⟨k, rfl⟩ : ∃ m, k = m + 1 := ⟨k - 1, by omega⟩
      have c256 := hT.2.2.1 p
      have cz : c p < 2 ^ 31 := Nat.lt_trans c256 (by decide)
      have hm : ts.length < 160 := by omega
      obtain ⟨l1, l2, l3, l4, l5⟩ := hL
      have tyk : ∀ kk : Nat, (tkB ts.length p kk A 58)[ts.length]? = some (.int (Int32.ofNat kk)) := fun kk => st_at (by omega)
      by_cases sp : c p = 32 ∨ c p = 10
      · have e : tokA c L (k + 1) p ts = tokA c L k (p + 1) ts := by
          have nl : ¬ isL (c p) = true := fun y => by rcases sp with z | z <;> rw [z] at y <;> cases y
          have nd : ¬ isD (c p) = true := fun y => by rcases sp with z | z <;> rw [z] at y <;> cases y
          have ns : ¬ isS (c p) = true := fun y => by rcases sp with z | z <;> rw [z] at y <;> cases y
          rw [tokA, if_neg hge, if_neg nl, if_neg nd, if_neg ns, if_pos sp]
        rw [e] at kk
        have nx := m_cut_loop hn hT k (p + 1) ts A (by omega) (by omega) (by omega) ⟨l1, l2, l3, l4, l5⟩ hF kk
        have f41 : aE aM169 (d + 3) 41 [(2, .int (Int32.ofNat (c p))), (1, .int (Int32.ofNat p)), (0, .ref 56)] [] (gH scr kd n (mtS S0 (mK w L (-1) (Int32.ofNat ts.length) rest) A)) Q := by
          refine eS rfl rfl ?_
          refine eS rfl rfl ?_
          refine eS rfl rfl ?_
          rw [i32_succ]
          exact eLoc (l' := [(1, .int (Int32.ofNat (p + 1))), (0, .ref 56)]) rfl ⟨rfl, rfl, trivial⟩ nx
        refine eS rfl rfl ?_
        refine eS rfl rfl ?_
        refine gGet hn rfl rfl rfl rfl ?_
        refine eIGe rfl rfl (fun z => absurd ((i32_le (a := L) (b := p) (by omega) (by omega)).mp z) hge) (fun _ => ?_)
        refine eS rfl rfl ?_
        refine gGet hn rfl rfl rfl rfl ?_
        refine eS rfl rfl ?_
        refine eINe rfl rfl (fun z => absurd rfl z) (fun _ => ?_)
        refine eS rfl rfl ?_
        refine eS rfl rfl ?_
        refine gV1 hn rfl rfl rfl rfl rfl ⟨catOk rfl, catOk rfl⟩ (m_look hn hT (by omega)) ?_
        refine eS rfl rfl ?_
        refine eS rfl rfl ?_
        refine eS rfl rfl ?_
        refine eIEq rfl rfl (fun z32 => ?_) (fun z32 => ?_)
        · refine eLoc (l' := [(2, .int (Int32.ofNat (c p))), (1, .int (Int32.ofNat p)), (0, .ref 56)]) rfl ⟨rfl, rfl, rfl, trivial⟩ ?_
          exact f41
        · refine eS rfl rfl ?_
          refine eS rfl rfl ?_
          refine eINe rfl rfl (fun z => absurd (sp.elim (fun y => absurd ((i32_eq (a := c p) (b := 32) (by omega) (by omega)).mpr y) z32) (fun y => (i32_eq (a := c p) (b := 10) (by omega) (by omega)).mpr y)) z) (fun _ => ?_)
          refine eLoc (l' := [(2, .int (Int32.ofNat (c p))), (1, .int (Int32.ofNat p)), (0, .ref 56)]) rfl ⟨rfl, rfl, rfl, trivial⟩ ?_
          exact f41
      · suffices body : aE aM169 (d + 3) 47 [(2, .int (Int32.ofNat (c p))), (1, .int (Int32.ofNat p)), (0, .ref 56)] [] (gH scr kd n (mtS S0 (mK w L (-1) (Int32.ofNat ts.length) rest) A)) Q by
          refine eS rfl rfl ?_
          refine eS rfl rfl ?_
          refine gGet hn rfl rfl rfl rfl ?_
          refine eIGe rfl rfl (fun z => absurd ((i32_le (a := L) (b := p) (by omega) (by omega)).mp z) hge) (fun _ => ?_)
          refine eS rfl rfl ?_
          refine gGet hn rfl rfl rfl rfl ?_
          refine eS rfl rfl ?_
          refine eINe rfl rfl (fun z => absurd rfl z) (fun _ => ?_)
          refine eS rfl rfl ?_
          refine eS rfl rfl ?_
          refine gV1 hn rfl rfl rfl rfl rfl ⟨catOk rfl, catOk rfl⟩ (m_look hn hT (by omega)) ?_
          refine eS rfl rfl ?_
          refine eS rfl rfl ?_
          refine eS rfl rfl ?_
          refine eIEq rfl rfl (fun z => absurd (Or.inl ((i32_eq (a := c p) (b := 32) (by omega) (by omega)).mp z)) sp) (fun _ => ?_)
          refine eS rfl rfl ?_
          refine eS rfl rfl ?_
          refine eINe rfl rfl (fun _ => ?_) (fun z => absurd (Or.inr ((i32_eq (a := c p) (b := 10) (by omega) (by omega)).mp z)) sp)
          refine eLoc (l' := [(2, .int (Int32.ofNat (c p))), (1, .int (Int32.ofNat p)), (0, .ref 56)]) rfl ⟨rfl, rfl, rfl, trivial⟩ ?_
          exact body
        have tail : ∀ (q' : Nat) (wr' : Int32) (A3 : Nat → List Value), (aE aM169 (d + 3) 7 [(1, .int (Int32.ofNat q')), (0, .ref 56)] [] (gH scr kd n (mtS S0 (mK w L wr' (Int32.ofNat (ts.length + 1)) rest) A3)) Q) → aE aM169 (d + 3) 170 [(2, .int (Int32.ofNat (c p))), (1, .int (Int32.ofNat p)), (0, .ref 56)] [.int (Int32.ofNat q')] (gH scr kd n (mtS S0 (mK w L wr' (Int32.ofNat ts.length) rest) A3)) Q := by
          intro q' wr' A3 hq
          refine eS rfl rfl ?_
          refine eS rfl rfl ?_
          refine eS rfl rfl ?_
          refine gGet hn rfl rfl rfl rfl ?_
          refine eS rfl rfl ?_
          refine eS rfl rfl ?_
          refine gPut hn rfl rfl rfl rfl rfl rfl rfl mt_tk ?_
          refine eS rfl rfl ?_
          rw [i32_succ]
          exact eLoc (l' := [(1, .int (Int32.ofNat q')), (0, .ref 56)]) rfl ⟨rfl, rfl, trivial⟩ hq
        have err : ∀ (q' e : Nat) (A3 : Nat → List Value), tokA c L (k + 1) p ts = .error e → e < 2 ^ 20 → q' < 2 ^ 20 → mkL A3 → (∀ q, q < 58 ∨ 61 < q → A3 q = A q) → aE aM169 (d + 3) 170 [(2, .int (Int32.ofNat (c p))), (1, .int (Int32.ofNat p)), (0, .ref 56)] [.int (Int32.ofNat q')] (gH scr kd n (mtS S0 (mK w L (Int32.ofNat e) (Int32.ofNat ts.length) rest) A3)) Q := fun q' e A3 h1 h2 h3 h4 h5 =>
          tail _ _ _ (m_cut_exit hn t1 h3 (Or.inr (neg1_ne h2)) (fun v => kk A3 (ts.length + 1) (Int32.ofNat e) v ⟨h4, by omega, h5, fun e' he => by rw [h1] at he; cases he; exact ⟨rfl, h2⟩, fun t2 he => by rw [h1] at he; cases he⟩))
        by_cases l : isL (c p) = true
        · have bx := tkB_nx (m := ts.length) (p := p) (k := 1) (A := A)
          have bL := nx_L bx ⟨l1, l2, l3, l4, l5⟩ (tyk 1)
          have s1 : p + 1 ≤ spn c isL 8 p := spn_pos (k := 7) l
          have s2 := spn_lt (c := c) (f := isL) (k := 8) (p := p) hT.2.2.2 rfl hp
          have s3 := spn_le (c := c) (f := isL) 8 p
          have ml := m_letters (d := d + 1) (scr := scr) (kd := kd) (w := w) (wr := -1) (rest := rest) (A := tkB ts.length p 1 A) hn hT (show ts.length < 162 by omega) bL.2.2.1 (show ((A 60).set ts.length (.long 0))[ts.length]? = _ from st_at (by omega)) (show p < 2 ^ 10 by omega)
          have ux := nx_up (m := ts.length) (A := tkB ts.length p 1 A) (v := .long (Int64.ofNat (pk 27 (ltr c p (spn c isL 8 p - p))))) (r0 := 60) (by decide)
          have uL := nx_L (v := Int32.ofNat 1) ux bL (by rw [aUp_ne (by decide)]; exact tyk 1)
          refine m_cut_begin hn hT hm ⟨l1, l2, l3, l4, l5⟩ (if_pos l).symm ?_
          refine eS rfl rfl ?_
          refine gGet hn rfl rfl rfl rfl ?_
          refine eS rfl rfl ?_
          refine gGet hn rfl rfl rfl rfl ?_
          refine gRd0 hn rfl rfl rfl ts.length (by omega) (tyk 1) ?_
          refine eNe rfl rfl (fun _ => ?_) (fun z => absurd (show (Int32.ofNat 1) = 0 from z) (by decide))
          refine eS rfl rfl ?_
          refine eC1 rfl rfl rfl ⟨catOk rfl, catOk rfl⟩ (m_isL cz) ?_
          rw [if_pos l]
          refine eEq rfl rfl (fun z => absurd z (by decide)) (fun _ => ?_)
          refine eS rfl rfl ?_
          refine eS rfl rfl ?_
          refine gV1 hn rfl rfl rfl rfl rfl ⟨catOk rfl, catOk rfl⟩ (ml) ?_
          refine eS rfl rfl ?_
          by_cases f : isL (c (spn c isL 8 p)) = true
          · rw [if_pos f]
            exact err _ _ _ (by rw [tokA, if_neg hge, if_pos l, if_pos f]) (by omega) (by omega) uL (fun q hq => (ux.2.2 q hq).trans (bx.2.2 q hq))
          · rw [if_neg f]
            refine tail _ _ _ ?_
            have e : tokA c L (k + 1) p ts = tokA c L k (spn c isL 8 p) (ts ++ [(kwd (ltr c p (spn c isL 8 p - p)), p, ltr c p (spn c isL 8 p - p), 0, 0)]) := by rw [tokA, if_neg hge, if_pos l, if_neg f]
            rw [e] at kk
            have kr := kwd_rng (ltr c p (spn c isL 8 p - p))
            have nx := m_cut_loop hn hT k (spn c isL 8 p) _ _ (by omega) s2 (by rw [List.length_append, List.length_singleton]; omega) uL (nx_F (bx.trans ux) hF (t := (kwd (ltr c p (spn c isL 8 p - p)), p, ltr c p (spn c isL 8 p - p), 0, 0)) ⟨?_, ?_, ?_, fun z => absurd z kr.1⟩) (fun A' n' wr' v h => kk A' n' wr' v (h.of (fun q hq => (ux.2.2 q hq).trans (bx.2.2 q hq))))
            · rw [List.length_append, List.length_singleton] at nx
              exact nx
            · rw [show mkd (kwd (ltr c p (spn c isL 8 p - p))) = 1 by unfold mkd; rw [if_neg kr.1, if_pos kr.2], aUp_ne (by decide)]
              exact tyk 1
            · exact st_at (a := A 59) (by omega)
            · rw [show mwd (kwd (ltr c p (spn c isL 8 p - p)), p, ltr c p (spn c isL 8 p - p), 0, 0) = pk 27 (ltr c p (spn c isL 8 p - p)) from if_neg kr.1, aUp_same]
              exact st_at (by rw [bL.2.2.1]; omega)
        · by_cases g : isD (c p) = true
          · have bx := tkB_nx (m := ts.length) (p := p) (k := 2) (A := A)
            have bL := nx_L bx ⟨l1, l2, l3, l4, l5⟩ (tyk 2)
            obtain ⟨A2, q', wr', ⟨n1, n2, n3, n4, n5⟩, ml⟩ := m_number (d := d) (scr := scr) (kd := kd) (w := w) (rest := rest) (A := tkB ts.length p 2 A) hn hT (show ts.length < 162 by omega) bL.2.2.1 bL.2.2.2.1 (show ((A 60).set ts.length (.long 0))[ts.length]? = _ from st_at (by omega)) (show ((A 61).set ts.length (.int 0))[ts.length]? = _ from st_at (by omega)) (show p < 2 ^ 10 - 10 by omega)
            have uL : mkL A2 := ⟨(n1 _).trans bL.1, (n1 _).trans bL.2.1, (n1 _).trans bL.2.2.1, (n1 _).trans bL.2.2.2.1, by rw [n2 58 (by decide) (by decide)]; exact bL.2.2.2.2⟩
            have uo : ∀ q, q < 58 ∨ 61 < q → A2 q = A q := fun q hq => (n2 q (by omega) (by omega)).trans (bx.2.2 q hq)
            refine m_cut_begin hn hT hm ⟨l1, l2, l3, l4, l5⟩ (by rw [if_neg l, if_pos g]) ?_
            refine eS rfl rfl ?_
            refine gGet hn rfl rfl rfl rfl ?_
            refine eS rfl rfl ?_
            refine gGet hn rfl rfl rfl rfl ?_
            refine gRd0 hn rfl rfl rfl ts.length (by omega) (tyk 2) ?_
            refine eNe rfl rfl (fun _ => ?_) (fun z => absurd (show (Int32.ofNat 2) = 0 from z) (by decide))
            refine eS rfl rfl ?_
            refine eC1 rfl rfl rfl ⟨catOk rfl, catOk rfl⟩ (m_isL cz) ?_
            rw [if_neg l]
            refine eEq rfl rfl (fun _ => ?_) (fun z => (z rfl).elim)
            refine eS rfl rfl ?_
            refine eC1 rfl rfl rfl ⟨catOk rfl, catOk rfl⟩ (m_isD cz) ?_
            rw [if_pos g]
            refine eEq rfl rfl (fun z => absurd z (by decide)) (fun _ => ?_)
            refine eS rfl rfl ?_
            refine eS rfl rfl ?_
            refine gV1 hn rfl rfl rfl rfl rfl ⟨catOk rfl, catOk rfl⟩ (ml) ?_
            refine eS rfl rfl ?_
            cases hb : nbrA c p with
            | error e =>
              rw [(n3 e hb)]
              have hle := nbrA_le hb
              have hq : q' < 2 ^ 20 := by omega
              exact err _ _ _ (by rw [tokA, if_neg hge, if_neg l, if_pos g, hb]) (by omega) hq uL uo
            | ok x =>
              obtain ⟨m1, m2, m3, m4⟩ := n4 x hb
              obtain ⟨q', v, b⟩ := x
              subst m1
              have m2 : _ = q' := m2
              subst m2
              refine tail _ _ _ ?_
              have nb := nbr_ok hT.2.2.2 (Nat.lt_of_not_le hge) g hb
              have e : tokA c L (k + 1) p ts = tokA c L k q' (ts ++ [(1, p, [], v, b)]) := by rw [tokA, if_neg hge, if_neg l, if_pos g, hb]
              rw [e] at kk
              have bx2 : cxA ts.length A A2 := by
                refine ⟨fun r => (n1 r).trans (bx.1 r), fun r i hi => ?_, uo⟩
                by_cases e60 : r = 60
                · subst e60
                  rw [m3, List.getElem?_set_ne (fun z => hi z.symm)]
                  exact bx.2.1 60 i hi
                · by_cases e61 : r = 61
                  · subst e61
                    rw [m4, List.getElem?_set_ne (fun z => hi z.symm)]
                    exact bx.2.1 61 i hi
                  · rw [n2 r e60 e61]
                    exact bx.2.1 r i hi
              have nx := m_cut_loop hn hT k q' _ _ (by omega) nb.2 (by rw [List.length_append, List.length_singleton]; omega) uL (nx_F bx2 hF (t := (1, p, [], v, b)) ⟨?_, ?_, ?_, fun _ => ?_⟩) (fun A' n' wr' v h => kk A' n' wr' v (h.of uo))
              · rw [List.length_append, List.length_singleton] at nx
                exact nx
              · rw [n2 58 (by decide) (by decide)]; exact tyk 2
              · rw [n2 59 (by decide) (by decide)]; exact st_at (a := A 59) (by omega)
              · rw [m3]; exact st_at (by rw [bL.2.2.1]; omega)
              · rw [m4]; exact st_at (by rw [bL.2.2.2.1]; omega)
          · by_cases s : isS (c p) = true
            · have ne0 : c p ≠ 0 := fun z => by rw [z] at s; cases s
              have ne1 : c p ≠ 1 := fun z => by rw [z] at s; cases s
              have ge40 : ¬ c p < 40 := fun z => absurd ((show ∀ z, z < 40 → ¬ isS z = true by decide) (c p) z) (fun w => w s)
              have bx := tkB_nx (m := ts.length) (p := p) (k := c p) (A := A)
              have bL := nx_L bx ⟨l1, l2, l3, l4, l5⟩ (tyk (c p))
              refine m_cut_begin hn hT hm ⟨l1, l2, l3, l4, l5⟩ (by rw [if_neg l, if_neg g, if_pos s]) ?_
              have e : tokA c L (k + 1) p ts = tokA c L k (p + 1) (ts ++ [(c p, p, [], 0, 0)]) := by rw [tokA, if_neg hge, if_neg l, if_neg g, if_pos s]
              rw [e] at kk
              have nx := m_cut_loop hn hT k (p + 1) _ _ (by omega) (by omega) (by rw [List.length_append, List.length_singleton]; omega) bL (nx_F bx hF (t := (c p, p, [], 0, 0)) ⟨?_, st_at (a := A 59) (by omega), ?_, fun z => absurd z ne1⟩) (fun A' n' wr' v h => kk A' n' wr' v (h.of bx.2.2))
              · rw [List.length_append, List.length_singleton] at nx
                refine eS rfl rfl ?_
                refine gGet hn rfl rfl rfl rfl ?_
                refine eS rfl rfl ?_
                refine gGet hn rfl rfl rfl rfl ?_
                refine gRd0 hn rfl rfl rfl ts.length (by omega) (tyk (c p)) ?_
                refine eNe rfl rfl (fun _ => ?_) (fun z => absurd ((i32_eq (a := c p) (b := 0) cz (by decide)).mp z) ne0)
                refine eS rfl rfl ?_
                refine eC1 rfl rfl rfl ⟨catOk rfl, catOk rfl⟩ (m_isL cz) ?_
                rw [if_neg l]
                refine eEq rfl rfl (fun _ => ?_) (fun z => (z rfl).elim)
                refine eS rfl rfl ?_
                refine eC1 rfl rfl rfl ⟨catOk rfl, catOk rfl⟩ (m_isD cz) ?_
                rw [if_neg g]
                refine eEq rfl rfl (fun _ => ?_) (fun z => (z rfl).elim)
                refine eS rfl rfl ?_
                refine eS rfl rfl ?_
                refine eS rfl rfl ?_
                rw [i32_succ]
                exact tail _ _ _ nx
              · rw [show mkd (c p) = c p by unfold mkd; rw [if_neg ne1, if_neg ge40]]
                exact tyk (c p)
              · rw [show mwd (c p, p, [], 0, 0) = 0 from if_neg ne1]
                exact st_at (a := A 60) (by omega)
            · have bx := tkB_nx (m := ts.length) (p := p) (k := 0) (A := A)
              have bL := nx_L bx ⟨l1, l2, l3, l4, l5⟩ (tyk 0)
              refine m_cut_begin hn hT hm ⟨l1, l2, l3, l4, l5⟩ (by rw [if_neg l, if_neg g, if_neg s]) ?_
              refine eS rfl rfl ?_
              refine gGet hn rfl rfl rfl rfl ?_
              refine eS rfl rfl ?_
              refine gGet hn rfl rfl rfl rfl ?_
              refine gRd0 hn rfl rfl rfl ts.length (by omega) (tyk 0) ?_
              refine eNe rfl rfl (fun z => absurd rfl z) (fun _ => ?_)
              refine eS rfl rfl ?_
              refine eS rfl rfl ?_
              refine gPut hn rfl rfl rfl rfl rfl rfl rfl mt_wr ?_
              refine eS rfl rfl ?_
              refine eC1 rfl rfl rfl ⟨catOk rfl, catOk rfl⟩ (m_isL cz) ?_
              rw [if_neg l]
              refine eEq rfl rfl (fun _ => ?_) (fun z => (z rfl).elim)
              refine eS rfl rfl ?_
              refine eC1 rfl rfl rfl ⟨catOk rfl, catOk rfl⟩ (m_isD cz) ?_
              rw [if_neg g]
              refine eEq rfl rfl (fun _ => ?_) (fun z => (z rfl).elim)
              refine eS rfl rfl ?_
              refine eS rfl rfl ?_
              refine eS rfl rfl ?_
              rw [i32_succ]
              exact err _ _ _ (by rw [tokA, if_neg hge, if_neg l, if_neg g, if_neg s, if_neg sp]) (by omega) (by omega) bL bx.2.2
end MCL
