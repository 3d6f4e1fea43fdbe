/-! the model's compile -/
def mEw (w0 : Value) (md t vr pr lv df cl : Nat) : Nat → Value := fun i => if i = 0 then w0 else if i = 9 then .int (Int32.ofNat md) else if i = 11 then .int (Int32.ofNat t) else if i = 12 then .int (Int32.ofNat vr) else if i = 14 then .int (Int32.ofNat pr) else if i = 17 then .int (Int32.ofNat lv) else if i = 21 then .int (Int32.ofNat df) else .int (Int32.ofNat cl)
/-- what is left when compile has ended -/
def mDn (S0 : Nat → List Value) (v0 : Value) (L : Nat) (wr : Int32) (rest : List Value) (S : Nat → List Value) : Prop := ∃ (w : Nat → Value) (tk : Int32) (A : Nat → List Value), S = mtS S0 (mK w L wr tk rest) A ∧ w 0 = v0 ∧ mkL A ∧ (A 62).length = 800 ∧ (A 63).length = 8 ∧ (A 65).length = 400 ∧ rLn A
theorem lnkA_len {ts : List aTk} {L : Nat} {ds : List dEf} : ∀ (cs : List cAl) (ws ws' : List Nat), lnkA ts L ds cs ws = .ok ws' → ws'.length = ws.length
  | [], ws, ws', h => by cases h; rfl
  | c :: cs, ws, ws', h => by
    rw [lnkA] at h
    cases e : ds.find? (fun d => d.1 == c.1) with
    | none => rw [e] at h; cases h
    | some d =>
      rw [e] at h
      dsimp only at h
      by_cases e2 : d.2.1 = c.2.1
      · rw [if_pos e2] at h
        rw [lnkA_len cs _ _ h, List.length_set]
      · rw [if_neg e2] at h; cases h
theorem cplA_in {ts : List aTk} {L : Nat} {r : gSt × List Nat × List cAl × List Nat} (h : cplA ts L = .ok r) : tpA ts L = .ok (r.1, r.2.1, r.2.2.1) ∧ lnkA ts L r.1.2 r.2.2.1 (r.2.1 ++ [27]) = .ok r.2.2.2 := by
  unfold cplA at h
  cases e : tpA ts L with
  | error z => rw [e] at h; cases h
  | ok y =>
    rw [e] at h
    dsimp only at h
    cases e2 : lnkA ts L y.1.2 y.2.2 (y.2.1 ++ [27]) with
    | error z => rw [e2] at h; cases h
    | ok z =>
      rw [e2] at h
      cases h
      exact ⟨rfl, e2⟩
theorem cplA_len {ts : List aTk} {L : Nat} {r : gSt × List Nat × List cAl × List Nat} (h : cplA ts L = .ok r) (hN : tsN ts) (hP : plO ts L) (h160 : ∀ t, plA ts L t ≤ 160) : r.2.2.2.length = r.2.1.length + 1 ∧ r.2.1.length ≤ 3 * ts.length := by
  obtain ⟨h1, h2⟩ := cplA_in h
  obtain ⟨r1, r2, -⟩ := tpA_rd hN hP h1
  have r1 : r.1.1.1 ≤ ts.length := r1.1
  have r2 : r.2.1.length ≤ 3 * r.1.1.1 := r2
  exact ⟨by rw [lnkA_len _ _ _ h2, List.length_append]; rfl, by omega⟩
section MSS
variable {scr : List Value} {kd : Nat → Nat} {n d L t lv df cl : Nat} {fr : List (Nat × Nat × Nat)} {ds : List dEf} {cs : List cAl} {S0 A A0 S : Nat → List Value} {w0 v0 v4 v30 : Value} {w : Nat → Value} {c : Nat → Nat} {wr0 : Int32} {rest2 ww : List Value} {ws : List Nat} {wr tk : Int32} {rest : List Value} {ts : List aTk} {vs ps : List (List Nat)} {dr st : List Nat} {s : Nat} {x : xSt} {Q : aOut → aH → Prop}

theorem mE_mK {md t vr pr lv df cl : Nat} : mE w0 L wr tk md t vr pr lv df cl rest = mK (mEw w0 md t vr pr lv df cl) L wr tk rest := rfl
theorem mt_76 {l b b' : List Value} : aUp (mtS (aUp S0 76 b) l A) 76 b' = mtS (aUp S0 76 b') l A := by
  funext q
  by_cases e : q = 76
  · subst e
    rfl
  · rw [aUp_ne e]
    unfold mtS
    split
    · rfl
    · split
      · rfl
      · rw [aUp_ne e, aUp_ne e]
theorem mDn_En {e : Nat} (h : mEn S0 w0 L tk rest e S) : mDn S0 w0 L (Int32.ofNat e) rest S := by
  obtain ⟨A, md, t, vr, pr, lv, df, cl, h0, h1, h62, h63, h65, hR⟩ := h
  exact ⟨mEw w0 md t vr pr lv df cl, tk, A, h0, rfl, h1, h62, h63, h65, hR⟩
theorem m_refuse {th : Int32} (hn : 67 ≤ n) (h : mDn S0 v0 L wr rest S) : ∃ S', mDn S0 (.int th) L wr rest S' ∧ aE aM200 d 0 [(0, .ref 56), (1, .int th)] [] (gH scr kd n S) (aIs (some (.int 0)) (gH scr kd n S')) := by
  obtain ⟨w, tk, A, rfl, h1, h2⟩ := h
  refine ⟨mtS S0 (mK (fun i => if i = 0 then .int th else w i) L wr tk rest) A, ⟨_, _, A, rfl, rfl, h2⟩, ?_⟩
  refine eS rfl rfl ?_
  refine eS rfl rfl ?_
  refine gPut hn rfl rfl rfl rfl rfl rfl rfl mt_56 ?_
  refine eS rfl rfl ?_
  exact eR rfl rfl ⟨rfl, rfl⟩
theorem mDn_f (h : mDn S0 v0 L wr rest S) : (S 56)[3]? = some (.int wr) := by
  obtain ⟨w, tk, A, rfl, -⟩ := h
  rfl
theorem m_cp21E {e : Nat} (hn : 67 ≤ n) (he : e < 2 ^ 20) (h : mDn S0 v0 L (Int32.ofNat e) rest S) (kk : ∀ S', mDn S0 (.int 1) L (Int32.ofNat e) rest S' → Q (.inl (some (.int 0))) (gH scr kd n S')) : aE aM168 (d + 1) 21 [(0, .ref 56)] [] (gH scr kd n S) Q := by
  have hw := neg1_ne he
  obtain ⟨S2, X2, a2⟩ := m_refuse (d := d) (scr := scr) (kd := kd) (th := 1) hn h
  refine eS rfl rfl ?_
  refine gGet hn rfl rfl rfl (mDn_f h) ?_
  refine eS rfl rfl ?_
  refine eIEq rfl rfl (fun z => absurd z hw) (fun _ => ?_)
  refine eS rfl rfl ?_
  refine eS rfl rfl ?_
  refine gV1 hn rfl rfl rfl rfl rfl ⟨catOk rfl, catOk rfl⟩ (a2) ?_
  exact eR rfl rfl (kk S2 X2)
/-- the words are copied -/
theorem m_copyL (hn : 67 ≤ n) (hwl : ws.length ≤ 240) (h62 : (A 62).length = 800) (hD : drF ws (A 62)) (hw9 : w 9 = .int (Int32.ofNat ws.length)) (kk : ∀ b : List Value, b.length = 240 → (∀ (j x : Nat), ws[j]? = some x → b[j]? = some (.int (Int32.ofNat x))) → aE aM168 d 92 [(1, .int (Int32.ofNat ws.length)), (0, .ref 56)] [] (gH scr kd n (mtS (aUp S0 76 b) (mK w L wr tk (v30 :: .ref 76 :: rest2)) A)) Q) : ∀ (k i : Nat) (b : List Value), i + k = ws.length → b.length = 240 → (∀ (j x : Nat), j < i → ws[j]? = some x → b[j]? = some (.int (Int32.ofNat x))) → aE aM168 d 66 [(1, .int (Int32.ofNat i)), (0, .ref 56)] [] (gH scr kd n (mtS (aUp S0 76 b) (mK w L wr tk (v30 :: .ref 76 :: rest2)) A)) Q
  | 0, i, b, hi, hb, hB => by
    obtain rfl : i = ws.length := by omega
    have F := kk b hb (fun j x hj => hB j x (List.getElem?_eq_some_iff.mp hj).1 hj)
    have b1 := i32_le (a := ws.length) (b := ws.length) (by omega) (by omega)
    refine eS rfl rfl ?_
    refine eS rfl rfl ?_
    refine gGet hn rfl rfl rfl (show (_ : List Value)[9]? = some (.int (Int32.ofNat ws.length)) by rw [← hw9]; rfl) ?_
    refine eIGe rfl rfl (fun _ => ?_) (fun z => absurd (b1.mpr (Nat.le_refl _)) z)
    exact F
  | k + 1, i, b, hi, hb, hB => by
    have hil : i < ws.length := by omega
    have b1 := i32_le (a := ws.length) (b := i) (by omega) (by omega)
    have r := hD i _ (List.getElem?_eq_getElem hil)
    have IH := m_copyL hn hwl h62 hD hw9 kk k (i + 1) (b.set i (.int (Int32.ofNat ws[i]))) (by omega) (by rw [List.length_set]; exact hb) (fun j x hj hx => by
      by_cases e : j = i
      · subst e
        rw [List.getElem?_eq_getElem hil] at hx
        cases hx
        exact List.getElem?_set_self (by omega)
      · rw [List.getElem?_set_ne (fun z => e z.symm)]
        exact hB j x (by omega) hx)
    refine eS rfl rfl ?_
    refine eS rfl rfl ?_
    refine gGet hn rfl rfl rfl (show (_ : List Value)[9]? = some (.int (Int32.ofNat ws.length)) by rw [← hw9]; rfl) ?_
    refine eIGe rfl rfl (fun z => absurd (b1.mp z) (by omega)) (fun _ => ?_)
    refine eS rfl rfl ?_
    refine gGet hn rfl rfl rfl rfl ?_
    refine eS rfl rfl ?_
    refine eS rfl rfl ?_
    refine gGet hn rfl rfl rfl rfl ?_
    refine eS rfl rfl ?_
    refine gRd0 hn rfl rfl rfl i (by omega) r ?_
    refine gWr0 hn rfl rfl rfl i (by omega) (by show i < b.length; omega) mt_76 ?_
    refine eS rfl rfl ?_
    rw [i32_succ]
    refine eS rfl rfl ?_
    exact eLoc (l' := [(1, .int (Int32.ofNat (i + 1))), (0, .ref 56)]) rfl ⟨rfl, rfl, trivial⟩ IH
/-- the model's cut, whatever its fourth entry held -/
theorem m_cut2 (hn : 67 ≤ n) (hT : txOk (S0 57) L c) (hL : mkL A) : ∃ x : (Nat → List Value) × Nat × Int32, cutF A x.1 x.2.1 x.2.2 L (tokA c L L 0 []) ∧ aE aM169 (d + 3) 0 [(0, .ref 56)] [] (gH scr kd n (mtS S0 ((mK w L (-1) 0 rest).set 4 v4) A)) (aIs none (gH scr kd n (mtS S0 (mK w L x.2.2 (Int32.ofNat x.2.1) rest) x.1))) := by
  refine aE_ex (P := fun x : (Nat → List Value) × Nat × Int32 => cutF A x.1 x.2.1 x.2.2 L (tokA c L L 0 [])) (R := fun x => aIs none (gH scr kd n (mtS S0 (mK w L x.2.2 (Int32.ofNat x.2.1) rest) x.1))) ?_
  refine eS rfl rfl ?_
  refine eS rfl rfl ?_
  refine gPut hn rfl rfl rfl rfl rfl rfl rfl (show _ = mtS S0 (mK w L (-1) (Int32.ofNat 0) rest) A from mt_56) ?_
  refine eS rfl rfl ?_
  refine eS rfl rfl ?_
  refine eLoc (l' := [(1, .int (Int32.ofNat 0)), (0, .ref 56)]) rfl ⟨rfl, rfl, trivial⟩ ?_
  refine m_cut_loop hn hT L 0 [] A (by omega) (Nat.zero_le _) (Nat.le_refl _) hL (fun i tk e => by cases e) (fun A' n' wr' v hR => ?_)
  obtain ⟨⟨l1, l2, l3, l4, l5⟩, r2, r3, r4, r5⟩ := hR
  have bx := nxA2 (m := n') (A := A') (v := .int 0) (u := .int (Int32.ofNat L))
  refine eS rfl rfl ?_
  refine gGet hn rfl rfl rfl rfl ?_
  refine eS rfl rfl ?_
  refine gGet hn rfl rfl rfl rfl ?_
  refine eS rfl rfl ?_
  refine gWr0 hn rfl rfl rfl n' (by omega) (by show n' < (A' 58).length; omega) (mt_up rfl) ?_
  refine eS rfl rfl ?_
  refine gGet hn rfl rfl rfl rfl ?_
  refine eS rfl rfl ?_
  refine gGet hn rfl rfl rfl rfl ?_
  refine eS rfl rfl ?_
  refine gGet hn rfl rfl rfl rfl ?_
  refine gWr0 hn rfl rfl rfl n' (by omega) (by show n' < (A' 59).length; omega) (mt_up rfl) ?_
  refine eR rfl rfl ⟨⟨(aUp (aUp A' 58 ((A' 58).set n' (.int 0))) 59 ((A' 59).set n' (.int (Int32.ofNat L)))), n', wr'⟩, ⟨nx_L bx ⟨l1, l2, l3, l4, l5⟩ (v := 0) (st_at (a := A' 58) (by omega)), r2, fun q hq => (bx.2.2 q hq).trans (r3 q hq), r4, fun t2 e => ?_⟩, rfl, rfl⟩
  obtain ⟨g1, g2, g3⟩ := r5 t2 e
  refine ⟨g1, g3, fun i tk hi => ?_, st_at (a := A' 58) (by omega), st_at (a := A' 59) (by omega)⟩
  have hne : i ≠ n' := by
    have := (List.getElem?_eq_some_iff.mp hi).1
    omega
  have := g2 i tk hi
  show mk1 tk i (aUp (aUp A' 58 ((A' 58).set n' (.int 0))) 59 ((A' 59).set n' (.int (Int32.ofNat L))))
  unfold mk1
  rw [bx.2.1 _ _ hne, bx.2.1 _ _ hne, bx.2.1 _ _ hne, bx.2.1 _ _ hne]
  exact this
theorem m_compile (hn : 67 ≤ n) (hT : txOk (S0 57) L c) (h76 : (S0 76).length = 240) (hL : mkL A) (h62 : (A 62).length = 800) (h63 : (A 63).length = 8) (h65 : (A 65).length = 400) (hR : rLn A)
    (kA : ∀ e S', (tokA c L L 0 [] = .error e ∨ ∃ ts, tokA c L L 0 [] = .ok ts ∧ cplA ts L = .error e) → mDn S0 (.int 1) L (Int32.ofNat e) (v30 :: .ref 76 :: rest2) S' → Q (.inl (some (.int 0))) (gH scr kd n S'))
    (kB : ∀ ts r S', tokA c L L 0 [] = .ok ts → cplA ts L = .ok r → 240 < r.2.2.2.length → mDn S0 (.int 2) L (-1) (v30 :: .ref 76 :: rest2) S' → Q (.inl (some (.int 0))) (gH scr kd n S'))
    (kC : ∀ (ts : List aTk) (r : gSt × List Nat × List cAl × List Nat) (b : List Value) (S' : Nat → List Value), tokA c L L 0 [] = .ok ts → cplA ts L = .ok r → r.2.2.2.length ≤ 240 → b.length = 240 → (∀ (j x : Nat), r.2.2.2[j]? = some x → b[j]? = some (.int (Int32.ofNat x))) → mDn (aUp S0 76 b) (.int 0) L (-1) (.int (Int32.ofNat r.2.2.2.length) :: .ref 76 :: rest2) S' → ∃ S3 : Nat → List Value, (S3 56)[30]? = some (.int (Int32.ofNat r.2.2.2.length)) ∧ aE aM163 (d + 8) 0 [(0, .ref 56)] [] (gH scr kd n S') (aIs none (gH scr kd n S3)) ∧ Q (.inl (some (.int (Int32.ofNat r.2.2.2.length)))) (gH scr kd n S3)) : aE aM168 (d + 9) 0 [(0, .ref 56)] [] (gH scr kd n (mtS S0 ((mK w L wr0 0 (v30 :: .ref 76 :: rest2)).set 4 v4) A)) Q := by
  obtain ⟨⟨A1, n1, wr1⟩, hF, ac⟩ := m_cut2 (scr := scr) (kd := kd) (d := d + 5) (w := w) (v4 := v4) (rest := v30 :: .ref 76 :: rest2) hn hT hL
  dsimp only at hF ac
  obtain ⟨q1, q2, q3, q4, q5⟩ := hF
  have l62 : (A1 62).length = 800 := by rw [q3 62 (by decide)]; exact h62
  have l63 : (A1 63).length = 8 := by rw [q3 63 (by decide)]; exact h63
  have l65 : (A1 65).length = 400 := by rw [q3 65 (by decide)]; exact h65
  have lR : rLn A1 := by
    unfold rLn at hR ⊢
    rw [q3 64 (by decide), q3 66 (by decide), q3 67 (by decide), q3 68 (by decide), q3 69 (by decide), q3 70 (by decide), q3 71 (by decide), q3 72 (by decide), q3 73 (by decide), q3 74 (by decide), q3 75 (by decide)]
    exact hR
  cases e : tokA c L L 0 [] with
  | error e1 =>
    obtain ⟨rfl, he⟩ := q4 e1 e
    have F := m_cp21E (d := d + 8) (scr := scr) (kd := kd) (Q := Q) hn he ⟨w, Int32.ofNat n1, A1, rfl, rfl, q1, l62, l63, l65, lR⟩ (fun S' z => kA e1 S' (Or.inl e) z)
    have hw := neg1_ne he
    refine eS rfl rfl ?_
    refine eS rfl rfl ?_
    refine gPut hn rfl rfl rfl rfl rfl rfl rfl (show _ = mtS S0 ((mK w L (-1) 0 (v30 :: .ref 76 :: rest2)).set 4 v4) A from mt_56) ?_
    refine eS rfl rfl ?_
    refine gV1 hn rfl rfl rfl rfl rfl ⟨catOk rfl, catOk rfl⟩ (ac) ?_
    refine eS rfl rfl ?_
    refine gGet hn rfl rfl rfl rfl ?_
    refine eS rfl rfl ?_
    refine eINe rfl rfl (fun _ => ?_) (fun z => absurd z hw)
    exact F
  | ok ts =>
    obtain ⟨rfl, rfl, g1, g2, g3⟩ := q5 ts e
    obtain ⟨p', p1, p2, p3⟩ := tokA_ok hT.2.2.2 L 0 [] ts (Nat.zero_le _) (Nat.le_refl _) tsW_0 e
    obtain ⟨t1, t2, t3, t4, t5⟩ := tsW_ts p3
    have hL160 := hT.1
    have tW : ∀ (i : Nat) (tk : aTk), ts[i]? = some tk → tkW L tk := fun i tk e => (p3.1 i tk e).1
    have h160 : ∀ t, plA ts L t ≤ 160 := fun t => by
      unfold plA
      cases e : ts[t]? with
      | none => exact hL160
      | some tk => have := (tW t tk e).1; show tk.2.1 ≤ _; omega
    have mk := m_make (d := d + 1) (scr := scr) (kd := kd) (w := w) (S0 := S0) (rest := v30 :: .ref 76 :: rest2) (tk := Int32.ofNat ts.length) (Q := fun o h' => o = .inl none ∧ aE aM168 (d + 9) 21 [(0, .ref 56)] [] h' Q) hn (by omega) t1 (t4 hL160) h160 t5 ⟨g1, g2, g3, q1, by omega, hL160, tW⟩ l62 l63 l65 lR (fun r S' e2 h2 => ⟨rfl, ?_⟩) (fun e2 S' he z => ⟨rfl, m_cp21E (d := d + 8) hn (cplA_er (t4 hL160) he) (mDn_En z) (fun S' z => kA e2 S' (Or.inr ⟨ts, e, he⟩) z)⟩)
    refine eS rfl rfl ?_
    refine eS rfl rfl ?_
    refine gPut hn rfl rfl rfl rfl rfl rfl rfl (show _ = mtS S0 ((mK w L (-1) 0 (v30 :: .ref 76 :: rest2)).set 4 v4) A from mt_56) ?_
    refine eS rfl rfl ?_
    refine gV1 hn rfl rfl rfl rfl rfl ⟨catOk rfl, catOk rfl⟩ (ac) ?_
    refine eS rfl rfl ?_
    refine gGet hn rfl rfl rfl rfl ?_
    refine eS rfl rfl ?_
    refine eINe rfl rfl (fun z => absurd rfl z) (fun _ => ?_)
    refine eS rfl rfl ?_
    exact gVk hn rfl rfl rfl rfl rfl ⟨catOk rfl, catOk rfl⟩ rfl (aE.mono (fun o h' z => ⟨z.1, z.2⟩) mk)
    · obtain ⟨A0, ⟨A2, rfl, hT2, m62, hD, m63, hV, m65, hW, hR2⟩, hRw⟩ := h2
      have mR := mRw_ln hRw
      have lR2 : rLn A2 := by
        unfold rLn at mR ⊢
        rw [hR2 64 (by decide) (by decide) (by decide), hR2 66 (by decide) (by decide) (by decide), hR2 67 (by decide) (by decide) (by decide), hR2 68 (by decide) (by decide) (by decide), hR2 69 (by decide) (by decide) (by decide), hR2 70 (by decide) (by decide) (by decide), hR2 71 (by decide) (by decide) (by decide), hR2 72 (by decide) (by decide) (by decide), hR2 73 (by decide) (by decide) (by decide), hR2 74 (by decide) (by decide) (by decide), hR2 75 (by decide) (by decide) (by decide)]
        exact mR
      have b1 := i32_le (a := r.2.2.2.length) (b := 240) (by
        have := cplA_len e2 t1 t5 h160
        omega) (by decide)
      by_cases c240 : r.2.2.2.length ≤ 240
      · have cp := m_copyL (d := d + 9) (scr := scr) (kd := kd) (S0 := S0) (w := fun i => if i = 0 then .int 0 else mEw (w 0) r.2.2.2.length r.1.1.1 r.1.1.2.1.length 0 0 r.1.2.length r.2.2.1.length i) (L := L) (wr := -1) (tk := Int32.ofNat ts.length) (v30 := .int (Int32.ofNat r.2.2.2.length)) (rest2 := rest2) (Q := Q) hn c240 m62 hD rfl (fun b hb hB => ?_) r.2.2.2.length 0 (S0 76) (Nat.zero_add _) h76 (fun j x hj => absurd hj (Nat.not_lt_zero _))
        refine eS rfl rfl ?_
        refine gGet hn rfl rfl rfl rfl ?_
        refine eS rfl rfl ?_
        refine eIEq rfl rfl (fun _ => ?_) (fun z => absurd rfl z)
        refine eS rfl rfl ?_
        refine gGet hn rfl rfl rfl rfl ?_
        refine eS rfl rfl ?_
        refine eILe rfl rfl (fun _ => ?_) (fun z => absurd (b1.mpr c240) z)
        refine eS rfl rfl ?_
        refine eS rfl rfl ?_
        refine gPut hn rfl rfl rfl rfl rfl rfl rfl mt_56 ?_
        refine eS rfl rfl ?_
        refine eS rfl rfl ?_
        refine gGet hn rfl rfl rfl rfl ?_
        refine gPut hn rfl rfl rfl rfl rfl rfl rfl mt_56 ?_
        refine eS rfl rfl ?_
        refine eS rfl rfl ?_
        rw [show aUp S0 76 (S0 76) = S0 from aUp_id rfl] at cp
        exact eLoc (l' := [(1, .int (Int32.ofNat 0)), (0, .ref 56)]) rfl ⟨rfl, rfl, trivial⟩ cp
        · obtain ⟨S3, s30, a3, F⟩ := kC ts r b (mtS (aUp S0 76 b) (mK (fun i => if i = 0 then .int 0 else mEw (w 0) r.2.2.2.length r.1.1.1 r.1.1.2.1.length 0 0 r.1.2.length r.2.2.1.length i) L (-1) (Int32.ofNat ts.length) (.int (Int32.ofNat r.2.2.2.length) :: .ref 76 :: rest2)) A2) e e2 c240 hb hB ⟨(fun i => if i = 0 then .int 0 else mEw (w 0) r.2.2.2.length r.1.1.1 r.1.1.2.1.length 0 0 r.1.2.length r.2.2.1.length i), Int32.ofNat ts.length, A2, rfl, rfl, hT2.2.2.2.1, m62, m63, m65, lR2⟩
          refine eS rfl rfl ?_
          refine gV1 hn rfl rfl rfl rfl rfl ⟨catOk rfl, catOk rfl⟩ (a3) ?_
          refine eS rfl rfl ?_
          refine gGet hn rfl rfl rfl s30 ?_
          exact eR rfl rfl F
      · obtain ⟨S2, X2, a2⟩ := m_refuse (d := d + 8) (scr := scr) (kd := kd) (th := 2) (S0 := S0) (v0 := w 0) (L := L) (wr := -1) (rest := v30 :: .ref 76 :: rest2) (S := mtS S0 (mE (w 0) L (-1) (Int32.ofNat ts.length) r.2.2.2.length r.1.1.1 r.1.1.2.1.length 0 0 r.1.2.length r.2.2.1.length (v30 :: .ref 76 :: rest2)) A2) hn ⟨mEw (w 0) r.2.2.2.length r.1.1.1 r.1.1.2.1.length 0 0 r.1.2.length r.2.2.1.length, Int32.ofNat ts.length, A2, rfl, rfl, hT2.2.2.2.1, m62, m63, m65, lR2⟩
        refine eS rfl rfl ?_
        refine gGet hn rfl rfl rfl rfl ?_
        refine eS rfl rfl ?_
        refine eIEq rfl rfl (fun _ => ?_) (fun z => absurd rfl z)
        refine eS rfl rfl ?_
        refine gGet hn rfl rfl rfl rfl ?_
        refine eS rfl rfl ?_
        refine eILe rfl rfl (fun z => absurd (b1.mp z) c240) (fun _ => ?_)
        refine eS rfl rfl ?_
        refine eS rfl rfl ?_
        refine gV1 hn rfl rfl rfl rfl rfl ⟨catOk rfl, catOk rfl⟩ (a2) ?_
        exact eR rfl rfl (kB ts r S2 e e2 (by omega) X2)
end MSS
