/-! statements, lists of them, and blocks, walked -/
section WLST
variable {scr : List Value} {kd : Nat → Nat} {n pa N d tc q cc : Nat} {S S0 : Nat → List Value} {W : Nat → Nat} {P : Nat → Nat → Bool → Prop} {T : Nat → Nat × Nat × Nat} {D : Nat → Nat → Prop} {R : Value → Nat → Nat → Nat → Prop} {st : Int32} {f : Bool} {kind num frm to : Nat} {body : Value} {he : Int32} {els nxt : Value} {nm : Int64} {nos : Value} {tp : Int32} {dfn : Value} {cp : Int32} {a e m k k' : Nat} {x : aSx}
theorem tLst_cat {L : Nat → Option aO} : ∀ {nn : Nat} {v : Value} {k a b : Nat}, tLst W T tc D L f R nn v k a b → v = .null ∨ ∃ q, v = .ref q
  | 0, _, _, _, _, h => h.elim
  | nn + 1, v, k, a, b, h => by
    rcases h with ⟨rfl, -⟩ | ⟨q, kind, num, frm, to, body, he, els, nxt, nm, nos, tp, dfn, cp, k', e, m, rfl, -⟩
    · exact Or.inl rfl
    · exact Or.inr ⟨q, rfl⟩
theorem tBlk_cat {L : Nat → Option aO} : ∀ {dp : Nat} {v : Value} {k a b : Nat}, tBlk W T tc D L f dp v k a b → v.category = 1
  | 0, _, _, _, _, h => h.elim
  | dp + 1, v, k, a, b, h => by
    obtain ⟨nn, h⟩ := h
    rcases tLst_cat h with rfl | ⟨q, rfl⟩ <;> rfl
/-- what is the same for all statements of a program -/
def wCx (scr : List Value) (kd : Nat → Nat) (n : Nat) (W : Nat → Nat) (N : Nat) (P : Nat → Nat → Bool → Prop) (T : Nat → Nat × Nat × Nat) (tc : Nat) (D : Nat → Nat → Prop) (S0 : Nat → List Value) (pa : Nat) : Prop := 67 ≤ n ∧ cOk W N P ∧ N ≤ 240 ∧ (∀ j, N ≤ j → W j = 27) ∧ (pa = 46 ∨ pa = 51) ∧ trmS S0 pa tc T ∧ ∀ q c, D q c → tDef W T tc D (fun q => (gH scr kd n S0)[q]?) q c
theorem st_any (hX : wCx scr kd n W N P T tc D S0 pa) (h87 : 87 ≤ q) (hq : (gH scr kd n S0)[q]? = some (30, stV kind num frm to body he els nxt nm nos tp dfn cp)) (hft : frm ≤ to) (hto : to ≤ tc) (ht : tTm W T f (to - frm) frm (a + 1) e k k') (hs : tSt W D f R kind num body els dfn k k' a e m) (hB : blkOk scr kd n W P S0 pa R cc (d + 4)) (hR1 : ∀ v k a b, R v k a b → v.category = 1) (hcc3 : cc ≤ 3) (hCl : cc ≤ 2 → blkOk scr kd n W P S0 pa (tBlk W T tc D (fun q => (gH scr kd n S0)[q]?) true 3) (cc + 1) (d + 4))
    (hok : okX P x) (h0 : x.2.1 = 0) (hpc : x.2.2.1 = a + 1) (hcc : x.2.2.2.2.1.length = cc) (hfu : x.1 ≤ 2000) (hR : wRep S0 pa cc x 0 S) : wRes W S0 pa cc x m 248 (fun S' => aE aM155 (d + 7) 0 [(0, .ref 45), (1, .ref q)] [] (gH scr kd n S) (aIs none (gH scr kd n S'))) := by
  obtain ⟨hn, hC, hN, hW, hpp, hT, hD⟩ := hX
  rcases hs with ⟨rfl, rfl, w1, w2, j, r, w3, w4, rfl⟩ | ⟨rfl, rfl, w1, w2, j, r, w3, w4, rfl⟩ | ⟨rfl, rfl, w1, hr⟩ | ⟨rfl, hnn, rfl, w1, w2, w3, qd, hdf, hd⟩ | ⟨hk, -, he, w1, -⟩ | ⟨hk, -, w1, w2, w3⟩ | ⟨hk, -, w1, w2⟩ | ⟨hk, -, w1, w2⟩
  · exact st_repeat hn hC hN hW hpp hT h87 hq hft hto ht hok h0 hpc hcc hfu hR hB hR1 w1 w2 r w3 w4
  · exact st_while hn hC hN hW hpp hT h87 hq hft hto ht hok h0 hpc hcc hfu hR hB hR1 w1 w2 r w3 w4
  · exact st_if hn hC hN hW hpp hT h87 hq hft hto ht hok h0 hpc hcc hfu hR hB hR1 w1 hr
  · exact st_call (c := 0) hn hC hN hW hpp hT h87 hq hft hto ht hok h0 hpc hcc hfu hR hcc3 w1 w2 hnn w3 hdf (hD _ _ hd) hCl (fun _ _ _ _ h => tBlk_cat h)
  · subst he
    exact st_stop hn h87 hq hk hpc w1 hR
  · exact st_let hn hC hN hW hpp hT h87 hq hft hto ht hok h0 hpc hR (by omega) w1 w2 w3
  · exact st_move hn hC hN hW hpp hT h87 hq hft hto ht hok h0 hpc hR (by omega) w1 w2
  · exact st_move hn hC hN hW hpp hT h87 hq hft hto ht hok h0 hpc hR (by omega) w1 w2
theorem all_exit {v : Value} (hn : 67 ≤ n) (hv : v = .null ∨ ∃ q, v = .ref q) (hst : st = 0 ∨ st = 1) (h : x.2.1 ≠ 0 ∨ st = 1) (hR : wRep S0 pa cc x st S) : aE aM152 (d + 8) 2 [(2, v), (0, .ref 45)] [] (gH scr kd n S) (aIs none (gH scr kd n S)) := by
  have hg := w_goesOn (d := d + 6) (scr := scr) (kd := kd) hn hR hst
  rw [if_neg (fun z => h.elim (fun y => y z.1) (fun y => absurd (y.symm.trans z.2) (by decide)))] at hg
  rcases hv with rfl | ⟨q, rfl⟩
  · refine eS rfl rfl ?_
    refine eS rfl rfl ?_
    exact eR rfl rfl ⟨rfl, rfl⟩
  · refine eS rfl rfl ?_
    refine eS rfl rfl ?_
    refine eS rfl rfl ?_
    refine gV1 hn rfl rfl rfl rfl rfl ⟨catOk rfl, catOk rfl⟩ (hg) ?_
    refine eEq rfl rfl (fun _ => ?_) (fun z => absurd rfl z)
    exact eR rfl rfl ⟨rfl, rfl⟩
theorem w_lst_null {h : aH} : aE aM152 (d + 8) 2 [(2, .null), (0, .ref 45)] [] h (aIs none h) := by
  refine eS rfl rfl ?_
  refine eS rfl rfl ?_
  exact eR rfl rfl ⟨rfl, rfl⟩
theorem w_all_in {v : Value} {h : aH} {Q : aOut → aH → Prop} (hv : v = .null ∨ ∃ q, v = .ref q) (k : aE aM152 (d + 8) 2 [(2, v), (0, .ref 45)] [] h Q) : aE aM152 (d + 8) 0 [(0, .ref 45), (1, v)] [] h Q := by
  rcases hv with rfl | ⟨q, rfl⟩
  · refine eS rfl rfl ?_
    refine eS rfl rfl ?_
    exact eLoc (l' := [(2, .null), (0, .ref 45)]) rfl ⟨rfl, rfl, trivial⟩ k
  · refine eS rfl rfl ?_
    refine eS rfl rfl ?_
    exact eLoc (l' := [(2, .ref q), (0, .ref 45)]) rfl ⟨rfl, rfl, trivial⟩ k
/-- word 0 takes fuel -/
theorem tk_st {l : Nat} {s : aSt} (h0 : s.1 = 0) (hw : W s.2.1 = 0) : itA W (l + 1, s) = (l, 0, s.2.1 + 1, s.2.2) ∧ itA W (0, s) = (0, 2, s.2) := by
  have ht : tkA W s = true := by
    unfold tkA
    simp [hw]
  obtain ⟨an, pc, stk, fr, par, vrs, t⟩ := s
  dsimp only at h0 hw
  subst h0
  refine ⟨?_, tk_0 ht⟩
  unfold itA
  rw [if_pos ht]
  dsimp only
  rw [oneA_st hw]
/-- a statement in its list, and what comes behind it -/
theorem lst_one {b : Nat} (hX : wCx scr kd n W N P T tc D S0 pa) (h87 : 87 ≤ q) (hq : (gH scr kd n S0)[q]? = some (30, stV kind num frm to body he els nxt nm nos tp dfn cp)) (hk31 : kind ≠ 31) (hk32 : kind < 2 ^ 31) (hnx : nxt = .null ∨ ∃ q, nxt = .ref q) (w0 : W a = 0) {own : Nat} (hok : okX P x) (h0 : x.2.1 = 0) (hpc : x.2.2.1 = a) (hcc : x.2.2.2.2.1.length = cc) (hfu : x.1 ≤ 2000) (hR : wRep S0 pa cc x 0 S)
    (hst : ∀ (x' : aSx) (S' : Nat → List Value), okX P x' → x'.2.1 = 0 → x'.2.2.1 = a + 1 → x'.2.2.2.2.1.length = cc → x'.1 ≤ 2000 → wRep S0 pa cc x' 0 S' → wRes W S0 pa cc x' m 248 (fun S'' => aE aM155 (d + 7) 0 [(0, .ref 45), (1, .ref q)] [] (gH scr kd n S') (aIs none (gH scr kd n S''))))
    (hnext : ∀ (x' : aSx) (S' : Nat → List Value), okX P x' → x'.2.1 = 0 → x'.2.2.1 = m → x'.2.2.2.2.1.length = cc → x'.1 ≤ 2000 → wRep S0 pa cc x' 0 S' → wRes W S0 pa cc x' b own (fun S'' => aE aM152 (d + 8) 2 [(2, nxt), (0, .ref 45)] [] (gH scr kd n S') (aIs none (gH scr kd n S'')))) :
    wRes W S0 pa cc x b own (fun S'' => aE aM152 (d + 8) 2 [(2, .ref q), (0, .ref 45)] [] (gH scr kd n S) (aIs none (gH scr kd n S''))) := by
  obtain ⟨hn, hC, hN, hW, hpp, hT, hD⟩ := hX
  have hg := w_goesOn (d := d + 6) (scr := scr) (kd := kd) hn hR (Or.inl rfl)
  rw [if_pos ⟨h0, rfl⟩] at hg
  obtain ⟨l, s⟩ := x
  dsimp only at h0 hpc hcc hfu hg
  have hws : W s.2.1 = 0 := by rw [hpc]; exact w0
  have kne : ¬ Int32.ofNat kind = (Int8.ofInt 31).toInt32 := fun z => hk31 ((i32_eq (b := 31) hk32 (by decide)).mp z)
  cases l with
  | zero =>
    obtain ⟨S1, R1, e1⟩ := w_takesFuel_0 (d := d + 7) (scr := scr) (kd := kd) hn hR
    refine ⟨1, (0, 2, s.2), 0, S1, (itN_1 h0).trans (tk_st (l := 0) h0 hws).2, Nat.le_refl _, ?_, Or.inl (show (2 : Int32) ≠ 0 by decide), Or.inl rfl, R1, ?_⟩
    · rw [if_neg (show ¬ (2 : Int32) = 0 by decide)]
      omega
    · have hx := all_exit (d := d) (scr := scr) (kd := kd) hn hnx (Or.inl rfl) (Or.inl (show (2 : Int32) ≠ 0 by decide)) R1
      rcases hnx with rfl | ⟨q', rfl⟩
      · refine eS rfl rfl ?_
        refine eS rfl rfl ?_
        refine eS rfl rfl ?_
        refine gV1 hn rfl rfl rfl rfl rfl ⟨catOk rfl, catOk rfl⟩ (hg) ?_
        refine eEq rfl rfl (fun z => absurd z (by decide)) (fun _ => ?_)
        refine eS rfl rfl ?_
        refine eGet rfl (hR.hq h87 hq) rfl rfl ?_
        refine eS rfl rfl ?_
        refine eIEq rfl rfl (fun z => absurd z kne) (fun _ => ?_)
        refine eS rfl rfl ?_
        refine gV1 hn rfl rfl rfl rfl rfl ⟨catOk rfl, catOk rfl⟩ (e1) ?_
        refine eEq rfl rfl (fun _ => ?_) (fun z => absurd rfl z)
        refine eS rfl rfl ?_
        refine eGet rfl (R1.hq h87 hq) rfl rfl ?_
        refine eS rfl rfl ?_
        refine eS rfl rfl ?_
        refine eLoc (l' := [(2, .null), (0, .ref 45)]) rfl ⟨rfl, rfl, trivial⟩ ?_
        exact hx
      · refine eS rfl rfl ?_
        refine eS rfl rfl ?_
        refine eS rfl rfl ?_
        refine gV1 hn rfl rfl rfl rfl rfl ⟨catOk rfl, catOk rfl⟩ (hg) ?_
        refine eEq rfl rfl (fun z => absurd z (by decide)) (fun _ => ?_)
        refine eS rfl rfl ?_
        refine eGet rfl (hR.hq h87 hq) rfl rfl ?_
        refine eS rfl rfl ?_
        refine eIEq rfl rfl (fun z => absurd z kne) (fun _ => ?_)
        refine eS rfl rfl ?_
        refine gV1 hn rfl rfl rfl rfl rfl ⟨catOk rfl, catOk rfl⟩ (e1) ?_
        refine eEq rfl rfl (fun _ => ?_) (fun z => absurd rfl z)
        refine eS rfl rfl ?_
        refine eGet rfl (R1.hq h87 hq) rfl rfl ?_
        refine eS rfl rfl ?_
        refine eS rfl rfl ?_
        refine eLoc (l' := [(2, .ref q'), (0, .ref 45)]) rfl ⟨rfl, rfl, trivial⟩ ?_
        exact hx
  | succ l =>
    obtain ⟨S1, R1, e1⟩ := w_takesFuel (d := d + 7) (scr := scr) (kd := kd) hn (by omega) hR
    have hi := itA_ok hC hok h0
    rw [(tk_st h0 hws).1] at hi
    have R1' : wRep S0 pa cc (l, 0, s.2.1 + 1, s.2.2) 0 S1 := by
      obtain ⟨an, pc, stk, fr, par, vrs, t⟩ := s
      dsimp only at h0
      subst h0
      exact R1
    have hs := hst _ S1 hi rfl (by rw [hpc]) hcc (by dsimp only; omega) R1'
    have step : ∀ S2 S3, aE aM155 (d + 7) 0 [(0, .ref 45), (1, .ref q)] [] (gH scr kd n S1) (aIs none (gH scr kd n S2)) → (gH scr kd n S2)[q]? = some (30, stV kind num frm to body he els nxt nm nos tp dfn cp) → aE aM152 (d + 8) 2 [(2, nxt), (0, .ref 45)] [] (gH scr kd n S2) (aIs none (gH scr kd n S3)) → aE aM152 (d + 8) 2 [(2, .ref q), (0, .ref 45)] [] (gH scr kd n S) (aIs none (gH scr kd n S3)) := by
      intro S2 S3 ez hq2 er
      rcases hnx with rfl | ⟨q', rfl⟩
      · refine eS rfl rfl ?_
        refine eS rfl rfl ?_
        refine eS rfl rfl ?_
        refine gV1 hn rfl rfl rfl rfl rfl ⟨catOk rfl, catOk rfl⟩ (hg) ?_
        refine eEq rfl rfl (fun z => absurd z (by decide)) (fun _ => ?_)
        refine eS rfl rfl ?_
        refine eGet rfl (hR.hq h87 hq) rfl rfl ?_
        refine eS rfl rfl ?_
        refine eIEq rfl rfl (fun z => absurd z kne) (fun _ => ?_)
        refine eS rfl rfl ?_
        refine gV1 hn rfl rfl rfl rfl rfl ⟨catOk rfl, catOk rfl⟩ (e1) ?_
        refine eEq rfl rfl (fun z => absurd z (by decide)) (fun _ => ?_)
        refine eS rfl rfl ?_
        refine eS rfl rfl ?_
        refine gV1 hn rfl rfl rfl rfl rfl ⟨catOk rfl, catOk rfl⟩ (ez) ?_
        refine eS rfl rfl ?_
        refine eGet rfl hq2 rfl rfl ?_
        refine eS rfl rfl ?_
        refine eS rfl rfl ?_
        refine eLoc (l' := [(2, .null), (0, .ref 45)]) rfl ⟨rfl, rfl, trivial⟩ ?_
        exact er
      · refine eS rfl rfl ?_
        refine eS rfl rfl ?_
        refine eS rfl rfl ?_
        refine gV1 hn rfl rfl rfl rfl rfl ⟨catOk rfl, catOk rfl⟩ (hg) ?_
        refine eEq rfl rfl (fun z => absurd z (by decide)) (fun _ => ?_)
        refine eS rfl rfl ?_
        refine eGet rfl (hR.hq h87 hq) rfl rfl ?_
        refine eS rfl rfl ?_
        refine eIEq rfl rfl (fun z => absurd z kne) (fun _ => ?_)
        refine eS rfl rfl ?_
        refine gV1 hn rfl rfl rfl rfl rfl ⟨catOk rfl, catOk rfl⟩ (e1) ?_
        refine eEq rfl rfl (fun z => absurd z (by decide)) (fun _ => ?_)
        refine eS rfl rfl ?_
        refine eS rfl rfl ?_
        refine gV1 hn rfl rfl rfl rfl rfl ⟨catOk rfl, catOk rfl⟩ (ez) ?_
        refine eS rfl rfl ?_
        refine eGet rfl hq2 rfl rfl ?_
        refine eS rfl rfl ?_
        refine eS rfl rfl ?_
        refine eLoc (l' := [(2, .ref q'), (0, .ref 45)]) rfl ⟨rfl, rfl, trivial⟩ ?_
        exact er
    refine (hs.bind (b2 := b) (own2 := own) (own' := 248 + own) (Z2 := fun S'' => aE aM152 (d + 8) 2 [(2, .ref q), (0, .ref 45)] [] (gH scr kd n S) (aIs none (gH scr kd n S''))) hC hi (fun x' S2 ok' h1 h2 h3 h4 R2 ez => ?_) (fun x' st' S2 h1 h2 R2 ez => ?_) (Nat.le_refl _)).pre (m0 := 1) ((itN_1 h0).trans (tk_st h0 hws).1) (Nat.le_succ _) rfl (by dsimp only; omega) (fun S' z => z)
    · exact (hnext x' S2 ok' h2 h3 (by rw [h4]; exact hcc) (by dsimp only at h1; omega) R2).mono (fun S3 er => step S2 S3 ez (R2.hq h87 hq) er)
    · exact step S2 S2 ez (R2.hq h87 hq) (all_exit hn hnx h2 h1 R2)
theorem tSt_kind {body els dfn : Value} (h : tSt W D f R kind num body els dfn k k' a e m) : kind ≠ 31 ∧ kind < 2 ^ 31 := by
  rcases h with ⟨rfl, -⟩ | ⟨rfl, -⟩ | ⟨rfl, -⟩ | ⟨rfl, -⟩ | ⟨rfl, -⟩ | ⟨hk, -⟩ | ⟨hk, -⟩ | ⟨hk, -⟩
  all_goals omega
theorem lst_ok (hX : wCx scr kd n W N P T tc D S0 pa) (hB : blkOk scr kd n W P S0 pa R cc (d + 4)) (hR1 : ∀ v k a b, R v k a b → v.category = 1) (hcc3 : cc ≤ 3) (hCl : cc ≤ 2 → blkOk scr kd n W P S0 pa (tBlk W T tc D (fun q => (gH scr kd n S0)[q]?) true 3) (cc + 1) (d + 4)) : ∀ (nn : Nat) (v : Value) (k a b : Nat), tLst W T tc D (fun q => (gH scr kd n S0)[q]?) f R nn v k a b → ∀ (x : aSx) (S : Nat → List Value), okX P x → x.2.1 = 0 → x.2.2.1 = a → x.2.2.2.2.1.length = cc → x.1 ≤ 2000 → wRep S0 pa cc x 0 S →
    wRes W S0 pa cc x b 0 (fun S' => aE aM152 (d + 8) 2 [(2, v), (0, .ref 45)] [] (gH scr kd n S) (aIs none (gH scr kd n S')))
  | 0, _, _, _, _, h, _, _, _, _, _, _, _, _ => h.elim
  | nn + 1, v, k, a, b, h, x, S, hok, h0, hpc, hcc, hfu, hR => by
    rcases h with ⟨rfl, rfl⟩ | ⟨q, kind, num, frm, to, body, he, els, nxt, nm, nos, tp, dfn, cp, k', e, m, rfl, h87, hq, w0, hft, hto, ht, hs, hn⟩
    · refine wRes.here (Or.inl rfl) (Or.inr (Or.inl ⟨rfl, hpc⟩)) hR ?_
      exact w_lst_null
    · have hk := tSt_kind hs
      exact lst_one hX h87 hq hk.1 hk.2 (tLst_cat hn) w0 hok h0 hpc hcc hfu hR (fun x' S' ok' h1 h2 h3 h4 R' => st_any hX h87 hq hft hto ht hs hB hR1 hcc3 hCl ok' h1 h2 h3 h4 R') (fun x' S' ok' h1 h2 h3 h4 R' => lst_ok hX hB hR1 hcc3 hCl nn nxt k m b hn x' S' ok' h1 h2 h3 h4 R')
theorem blk_0 {d : Nat} : blkOk scr kd n W P S0 pa (tBlk W T tc D (fun q => (gH scr kd n S0)[q]?) f 0) cc d := fun _ _ _ _ h => h.elim
theorem blkOk.deep {d d' : Nat} (h : blkOk scr kd n W P S0 pa R cc d) (hd : d ≤ d') : blkOk scr kd n W P S0 pa R cc d' := fun v k a b hr x S o h0 h1 h2 h3 h4 => (h v k a b hr x S o h0 h1 h2 h3 h4).mono (fun _ z => z.deep hd)
theorem blk_s {dp : Nat} (hX : wCx scr kd n W N P T tc D S0 pa) (hB : blkOk scr kd n W P S0 pa (tBlk W T tc D (fun q => (gH scr kd n S0)[q]?) f dp) cc (d + 4)) (hcc3 : cc ≤ 3) (hCl : cc ≤ 2 → blkOk scr kd n W P S0 pa (tBlk W T tc D (fun q => (gH scr kd n S0)[q]?) true 3) (cc + 1) (d + 4)) : blkOk scr kd n W P S0 pa (tBlk W T tc D (fun q => (gH scr kd n S0)[q]?) f (dp + 1)) cc (d + 8) := by
  intro v k a b hr x S hok h0 hpc hcc hfu hR
  obtain ⟨nn, hr⟩ := hr
  have hl := lst_ok (d := d) hX hB (fun _ _ _ _ h => tBlk_cat h) hcc3 hCl nn v k a b hr x S hok h0 hpc hcc hfu hR
  refine hl.mono (fun S' z => ?_)
  exact w_all_in (tLst_cat hr) z
/-- all blocks are walked soundly -/
theorem blk_all (hX : wCx scr kd n W N P T tc D S0 pa) : ∀ (r : Nat), r ≤ 3 → blkOk scr kd n W P S0 pa (tBlk W T tc D (fun q => (gH scr kd n S0)[q]?) true 3) (3 - r) (16 + 12 * r)
  | 0, _ => (blk_s (d := 8) hX (blk_s (d := 4) hX (blk_s (d := 0) hX blk_0 (by omega) (fun z => absurd z (by omega))) (by omega) (fun z => absurd z (by omega))) (by omega) (fun z => absurd z (by omega)))
  | r + 1, hr => by
    have h := blk_all hX r (by omega)
    have e : 3 - (r + 1) + 1 = 3 - r := by omega
    have h' : ∀ d', 16 + 12 * r ≤ d' → blkOk scr kd n W P S0 pa (tBlk W T tc D (fun q => (gH scr kd n S0)[q]?) true 3) (3 - (r + 1) + 1) d' := fun d' hd => by
      rw [e]
      exact h.deep hd
    have := blk_s (d := 12 + 12 * r + 8) hX (blk_s (d := 12 + 12 * r + 4) hX (blk_s (d := 12 + 12 * r) (f := true) (cc := 3 - (r + 1)) hX blk_0 (by omega) (fun _ => h' _ (by omega))) (by omega) (fun _ => h' _ (by omega))) (by omega) (fun _ => h' _ (by omega))
    rw [show 12 + 12 * r + 8 + 8 = 16 + 12 * (r + 1) by omega] at this
    exact this
end WLST
