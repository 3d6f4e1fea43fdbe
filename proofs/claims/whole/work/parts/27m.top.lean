/-! a text's statements and definitions, walked; and the whole walk -/
section WTOP
variable {scr : List Value} {kd : Nat → Nat} {n pa N d tc q cc : Nat} {S S0 : Nat → List Value} {W : Nat → Nat} {P : Nat → Nat → Bool → Prop} {T : Nat → Nat × Nat × Nat} {D : Nat → Nat → Prop} {st : Int32} {f : Bool} {kind num frm to : Nat} {body : Value} {he : Int32} {els nxt : Value} {nm : Int64} {nos : Value} {tp : Int32} {dfn : Value} {cp : Int32} {a e m k k' : Nat} {x : aSx}
theorem tTop_cat {L : Nat → Option aO} : ∀ {nn : Nat} {v : Value} {a b : Nat}, tTop W T tc D L nn v a b → v = .null ∨ ∃ q, v = .ref q
  | 0, _, _, _, h => h.elim
  | nn + 1, v, a, b, h => by
    rcases h with ⟨rfl, -⟩ | ⟨q, num, frm, to, body, he, els, nxt, nm, nos, tp, dfn, cp, j, rfl, -⟩ | ⟨q, kind, num, frm, to, body, he, els, nxt, nm, nos, tp, dfn, cp, k', e, m, rfl, -⟩
    · exact Or.inl rfl
    · exact Or.inr ⟨q, rfl⟩
    · exact Or.inr ⟨q, rfl⟩
theorem wRes.own {b own own' : Nat} {Z : (Nat → List Value) → Prop} (h : wRes W S0 pa cc x b own Z) (ho : own ≤ own') : wRes W S0 pa cc x b own' Z := h.pre (m0 := 0) rfl (Nat.le_refl _) rfl (by omega) (fun _ z => z)
theorem top_ok (hX : wCx scr kd n W N P T tc D S0 pa) : ∀ (nn : Nat) (v : Value) (a b : Nat), tTop W T tc D (fun q => (gH scr kd n S0)[q]?) nn v a b → ∀ (x : aSx) (S : Nat → List Value), okX P x → x.2.1 = 0 → x.2.2.1 = a → x.2.2.2.2.1.length = 0 → x.1 ≤ 2000 → wRep S0 pa 0 x 0 S →
    wRes W S0 pa 0 x b (b - a) (fun S' => aE aM152 (48 + 8) 2 [(2, v), (0, .ref 45)] [] (gH scr kd n S) (aIs none (gH scr kd n S')))
  | 0, _, _, _, h, _, _, _, _, _, _, _, _ => h.elim
  | nn + 1, v, a, b, h, x, S, hok, h0, hpc, hcc, hfu, hR => by
    have hBt : ∀ d', 40 ≤ d' → blkOk scr kd n W P S0 pa (tBlk W T tc D (fun q => (gH scr kd n S0)[q]?) true 3) 1 d' := fun d' hd => (blk_all hX 2 (by decide)).deep hd
    have hB : blkOk scr kd n W P S0 pa (tBlk W T tc D (fun q => (gH scr kd n S0)[q]?) false 3) 0 52 := blk_s (d := 44) hX (blk_s (d := 40) hX (blk_s (d := 36) hX blk_0 (by omega) (fun _ => hBt _ (by omega))) (by omega) (fun _ => hBt _ (by omega))) (by omega) (fun _ => hBt _ (by omega))
    rcases h with ⟨rfl, rfl⟩ | ⟨q, num, frm, to, body, he, els, nxt, nm, nos, tp, dfn, cp, j, rfl, h87, hq, w0, w1, hb, w2, htl⟩ | ⟨q, kind, num, frm, to, body, he, els, nxt, nm, nos, tp, dfn, cp, k', e, m, rfl, h87, hq, w0, hft, hto, ht, hs, hn⟩
    · refine wRes.here (Or.inl rfl) (Or.inr (Or.inl ⟨rfl, hpc⟩)) hR ?_
      exact w_lst_null
    · obtain ⟨Sx, lx, -⟩ := snd_all hb
      have hn := hX.1
      have hg := w_goesOn (d := 54) (scr := scr) (kd := kd) hn hR (Or.inl rfl)
      rw [if_pos ⟨h0, rfl⟩] at hg
      have hi := itA_ok hX.2.1 hok h0
      have ei := jmp_step h0 hpc w0
      rw [w1] at ei
      rw [ei] at hi
      obtain ⟨Sy, Sy', ly, -⟩ := snd_top htl
      have R1 : wRep S0 pa 0 (x.1, 0, j + 1, x.2.2.2) 0 S := by
        obtain ⟨l, an, pc, stk, fr, par, vrs, t⟩ := x
        dsimp only at h0
        subst h0
        exact hR
      refine (top_ok hX nn nxt (j + 1) b htl (x.1, 0, j + 1, x.2.2.2) S hi rfl rfl hcc hfu R1).pre (m0 := 1) ((itN_1 h0).trans ei) (Nat.le_refl _) rfl (by omega) (fun S' er => ?_)
      rcases tTop_cat htl with rfl | ⟨q', rfl⟩
      · refine eS rfl rfl ?_
        refine eS rfl rfl ?_
        refine eS rfl rfl ?_
        refine gV1 hn rfl rfl rfl rfl rfl ⟨catOk rfl, catOk rfl⟩ (hg) ?_
        refine eEq rfl rfl (fun z => absurd z (by decide)) (fun _ => ?_)
        refine eS rfl rfl ?_
        refine eGet rfl (hR.hq h87 hq) rfl rfl ?_
        refine eS rfl rfl ?_
        refine eIEq rfl rfl (fun _ => ?_) (fun z => absurd rfl z)
        refine eS rfl rfl ?_
        refine eGet rfl (hR.hq h87 hq) rfl rfl ?_
        refine eS rfl rfl ?_
        refine eS rfl rfl ?_
        refine eLoc (l' := [(2, .null), (0, .ref 45)]) rfl ⟨rfl, rfl, trivial⟩ ?_
        exact er
      · refine eS rfl rfl ?_
        refine eS rfl rfl ?_
        refine eS rfl rfl ?_
        refine gV1 hn rfl rfl rfl rfl rfl ⟨catOk rfl, catOk rfl⟩ (hg) ?_
        refine eEq rfl rfl (fun z => absurd z (by decide)) (fun _ => ?_)
        refine eS rfl rfl ?_
        refine eGet rfl (hR.hq h87 hq) rfl rfl ?_
        refine eS rfl rfl ?_
        refine eIEq rfl rfl (fun _ => ?_) (fun z => absurd rfl z)
        refine eS rfl rfl ?_
        refine eGet rfl (hR.hq h87 hq) rfl rfl ?_
        refine eS rfl rfl ?_
        refine eS rfl rfl ?_
        refine eLoc (l' := [(2, .ref q'), (0, .ref 45)]) rfl ⟨rfl, rfl, trivial⟩ ?_
        exact er
    · have hk := tSt_kind hs
      obtain ⟨Sx, lx, -⟩ := snd_st (fun v k a b h => snd_all h) w0 ht hs
      obtain ⟨Sy, Sy', ly, -⟩ := snd_top hn
      exact (lst_one hX h87 hq hk.1 hk.2 (tTop_cat hn) w0 hok h0 hpc hcc hfu hR (fun x' S' ok' h1 h2 h3 h4 R' => st_any hX h87 hq hft hto ht hs hB (fun _ _ _ _ h => tBlk_cat h) (by omega) (fun _ => hBt _ (by omega)) ok' h1 h2 h3 h4 R') (fun x' S' ok' h1 h2 h3 h4 R' => top_ok hX nn nxt m b hn x' S' ok' h1 h2 h3 h4 R')).own (by omega)
/-- how it all begins -/
def s0A (par : List UInt32) : aSt := (0, 0, [], [], par, List.replicate 8 0, 1098907648, 1094713344, 0, 1, 1, List.replicate 768 0)
theorem okX_0 {par : List UInt32} {l : Nat} (hC : cOk W N P) (h9 : par.length = 9) (hg : ∀ f ∈ par, gF f) : okX P (l, s0A par) := by
  refine ⟨⟨h9, hg, List.length_replicate, fun f hf => ?_, show gX 1098907648 by unfold gX; decide, show gX 1094713344 by unfold gX; decide, show 0 < 24 by decide, show (1 : Int32) ≠ -1 by decide, Or.inr rfl, List.length_replicate, fun c hc => ?_⟩, fun _ => ⟨Nat.zero_le _, (fun f hf => by cases hf), Nat.zero_le _, hC.1⟩⟩
  · rw [List.eq_of_mem_replicate hf]
    exact gF_0
  · rw [List.eq_of_mem_replicate hc]
    decide
theorem fin_halt {l pc : Nat} {stk par vrs : List UInt32} {t : aTu} (hw : W pc = 27 ∨ W pc = 17) : itA W (l, 0, pc, stk, [], par, vrs, t) = (l, 1, pc, stk, [], par, vrs, t) := by
  rw [tk_no (show W pc = 16 ∨ W pc = 17 ∨ W pc = 27 by omega)]
  rcases hw with hw | hw
  · rw [oneA_halt hw]
  · rw [oneA_ret0 hw]
/-- the class's machine as it stands between calls -/
def mRaw (S : Nat → List Value) (par : List UInt32) : Prop := (∃ ht cl pc an : Int32, S 35 = kM ht cl pc an) ∧ (S 36).length = 24 ∧ (S 37).length = 8 ∧ S 38 = par.map Value.float ∧ (S 39).length = 3 ∧ (S 40).length = 3 ∧ (∃ (x y : UInt32) (hd co dn : Int32), S 41 = kT x y hd co dn) ∧ (∃ rc : Int32, S 42 = kPi rc) ∧ (S 43).length = 768 ∧ (S 44).length = 768
theorem c_begin2 {par : List UInt32} {v45 : List Value} (hn : 67 ≤ n) (hM : mRaw S0 par) (l : Nat) (st : Int32) (h45 : v45 = kW pa l st) : ∃ S', wRep S0 pa 0 (l, s0A par) st S' ∧ aE aM104 (d + 3) 0 [(0, .ref 35)] [] (gH scr kd n (aUp S0 45 v45)) (aIs none (gH scr kd n S')) := by
  subst h45
  obtain ⟨⟨ht, cl, pc, an, e35⟩, l36, l37, e38, l39, l40, ⟨x, y, hd, co, dn, e41⟩, ⟨rc, e42⟩, l43, l44⟩ := hM
  have eS : aUp S0 45 (kW pa l st) = cS (aUp S0 45 (kW pa l st)) (kM ht cl pc an) (S0 36) (S0 37) (par.map Value.float) (S0 39) (S0 40) (kT x y hd co dn) (kPi rc) (S0 43) (S0 44) := by
    rw [← e35, ← e38, ← e41, ← e42]
    exact cS_id.symm
  have e := s_kbegin (d := d) (h := gH scr kd n (cS (aUp S0 45 (kW pa l st)) (kM ht cl pc an) (S0 36) (S0 37) (par.map Value.float) (S0 39) (S0 40) (kT x y hd co dn) (kPi rc) (S0 43) (S0 44))) (mc := kM ht cl pc an) (vl := S0 37) (tu := kT x y hd co dn) (pi := kPi rc) (pl := S0 43) (by rw [gH_len]; omega) (gH_at (p := 35) (by decide) (by omega)) rfl rfl rfl (gH_at (p := 37) (by decide) (by omega)) l37 (gH_at (p := 41) (by decide) (by omega)) rfl rfl (gH_at (p := 42) (by decide) (by omega)) rfl (gH_at (p := 43) (by decide) (by omega)) l43
  rw [show gH scr kd n (cS (aUp S0 45 (kW pa l st)) (kM ht cl pc an) (S0 36) (S0 37) (par.map Value.float) (S0 39) (S0 40) (kT x y hd co dn) (kPi rc) (S0 43) (S0 44)) = gH scr kd n (aUp S0 45 (kW pa l st)) by rw [← eS]] at e
  have q1 : ((((gH scr kd n (aUp S0 45 (kW pa l st))).set 35 (18, mcBeg (kM ht cl pc an))).set 37 (3, List.replicate 8 (.float 0))).set 41 (20, tuBeg (kT x y hd co dn))).set 43 (0, List.replicate 768 (.int 0)) = gH scr kd n (aUp (aUp (aUp (aUp (aUp S0 45 (kW pa l st)) 35 (mcBeg (kM ht cl pc an))) 37 (List.replicate 8 (.float 0))) 41 (tuBeg (kT x y hd co dn))) 43 (List.replicate 768 (.int 0))) := by
    rw [show (18, mcBeg (kM ht cl pc an)) = (gK kd 35, mcBeg (kM ht cl pc an)) from rfl, gH_set (by decide) (by omega), show ((3 : Nat), List.replicate 8 (Value.float 0)) = (gK kd 37, List.replicate 8 (.float 0)) from rfl, gH_set (by decide) (by omega), show (20, tuBeg (kT x y hd co dn)) = (gK kd 41, tuBeg (kT x y hd co dn)) from rfl, gH_set (by decide) (by omega), show ((0 : Nat), List.replicate 768 (Value.int 0)) = (gK kd 43, List.replicate 768 (.int 0)) from rfl, gH_set (by decide) (by omega)]
  rw [q1] at e
  refine ⟨_, ⟨0, 0, S0 36, S0 39, S0 40, S0 44, rc, ?_, l36, l39, l40, l44, fun j hj => absurd hj (by omega), fun _ => ⟨rfl, rfl, ⟨S0 36, rfl⟩, ⟨S0 40, rfl⟩⟩⟩, e⟩
  refine (congrArg (fun z => aUp (aUp (aUp (aUp z 35 (mcBeg (kM ht cl pc an))) 37 (List.replicate 8 (.float 0))) 41 (tuBeg (kT x y hd co dn))) 43 (List.replicate 768 (.int 0))) eS).trans ?_
  rw [cS_35, cS_37, cS_41, cS_43]
  simp only [s0A, List.map_replicate]
  rfl
theorem aUp_aUp {p : Nat} {b c : List Value} : aUp (aUp S0 p b) p c = aUp S0 p c := by
  funext q
  unfold aUp
  by_cases e : q = p
  · rw [if_pos e, if_pos e]
  · rw [if_neg e, if_neg e, if_neg e]
theorem aUp_id {p : Nat} {b : List Value} (h : S0 p = b) : aUp S0 p b = S0 := by
  funext q
  unfold aUp
  by_cases e : q = p
  · rw [if_pos e, e, h]
  · rw [if_neg e]
theorem w_walk {par : List UInt32} {fu : Nat} {first : Value} {v0 v1 v2 v3 : Value} (hn : 67 ≤ n) (hN : N ≤ 240) (hW : ∀ j, N ≤ j → W j = 27) (hpp : pa = 46 ∨ pa = 51) (hT : trmS S0 pa tc T) (hC : cOk W N P) (hf : (S0 pa)[0]? = some first) (hP : tPrg W N T tc (fun q => (gH scr kd n S0)[q]?) first) (hM : mRaw S0 par) (h9 : par.length = 9) (hg : ∀ f ∈ par, gF f) (h45 : S0 45 = [v0, v1, v2, v3]) (hfu : fu ≤ 2000) :
    ∃ (m : Nat) (x' : aSx) (S' : Nat → List Value), itN W m (fu, s0A par) = x' ∧ x'.2.1 ≠ 0 ∧ m ≤ 510000 ∧ okX P x' ∧ (∃ st, wRep S0 pa 0 x' st S') ∧ aE aM151 60 0 [(0, .ref 45), (1, .ref pa), (2, .ref 35), (3, .int (Int32.ofNat fu))] [] (gH scr kd n S0) (aIs (some (.int x'.2.1)) (gH scr kd n S')) := by
  have hp : (Nat.ble 20 pa && Nat.blt pa 87) = true := by rcases hpp with rfl | rfl <;> rfl
  have hk : gK kd pa = 26 := by rcases hpp with rfl | rfl <;> rfl
  have hpa : 45 < pa := by omega
  obtain ⟨nn, D, hT1, hT2, hT3, hT4⟩ := hP
  have hX : wCx scr kd n W N P T tc D S0 pa := ⟨hn, hC, hN, hW, hpp, hT, hT4⟩
  obtain ⟨S1, R1, e1⟩ := c_begin2 (d := 56) (scr := scr) (kd := kd) (n := n) (pa := pa) (S0 := S0) hn hM fu 0 rfl
  have ok1 : okX P (fu, s0A par) := okX_0 hC h9 hg
  obtain ⟨m1, x2, st2, S2, g1, g2, g3, g4, g5, R2, e20⟩ := top_ok hX nn first 0 (N - 1) hT1 (fu, s0A par) S1 ok1 rfl rfl rfl hfu R1
  have e2 := (w_all_in (d := 48) (tTop_cat hT1) e20).deep (d' := 59) (by omega)
  have hv1 : first.category = 1 := by rcases tTop_cat hT1 with rfl | ⟨q, rfl⟩ <;> rfl
  have ok2 : okX P x2 := by rw [← g1]; exact itN_ok hC ok1
  have e45 : aUp S0 45 [v0, v1, v2, v3] = S0 := aUp_id h45
  have main : ∀ (S3 : Nat → List Value) (y : Int32), aE aM151 60 35 [(0, .ref 45), (1, .ref pa), (2, .ref 35), (3, .int (Int32.ofNat fu))] [] (gH scr kd n S2) (aIs (some (.int y)) (gH scr kd n S3)) → aE aM151 60 0 [(0, .ref 45), (1, .ref pa), (2, .ref 35), (3, .int (Int32.ofNat fu))] [] (gH scr kd n S0) (aIs (some (.int y)) (gH scr kd n S3)) := by
    intro S3 y k
    rw [← e45]

    refine eS rfl rfl ?_
    refine eS rfl rfl ?_
    refine gPut hn rfl rfl rfl rfl rfl rfl rfl aUp_aUp ?_
    refine eS rfl rfl ?_
    refine eS rfl rfl ?_
    refine gPut hn rfl rfl rfl rfl rfl rfl rfl aUp_aUp ?_
    refine eS rfl rfl ?_
    refine eS rfl rfl ?_
    refine gPut hn rfl rfl rfl rfl rfl rfl rfl aUp_aUp ?_
    refine eS rfl rfl ?_
    refine eS rfl rfl ?_
    refine gPut hn rfl rfl rfl rfl rfl rfl rfl aUp_aUp ?_
    refine eS rfl rfl ?_
    refine gGet hn rfl rfl rfl rfl ?_
    refine gV1 hn rfl rfl rfl rfl rfl ⟨catOk rfl, catOk rfl⟩ (e1) ?_
    refine eS rfl rfl ?_
    refine eS rfl rfl ?_
    refine gGet hn rfl hp hk (by rw [R1.at hpa]; exact hf) ?_
    refine gV1 hn rfl rfl rfl rfl rfl ⟨catOk rfl, catOk (by show Nat.ble (1 + (first.category + 0)) 3 = true; rw [hv1]; rfl)⟩ e2 ?_
    exact k
  by_cases hz : x2.2.1 = 0
  · obtain ⟨hfr, hpc⟩ := g4.resolve_left (fun z => z hz)
    have hw : W x2.2.2.1 = 27 ∨ W x2.2.2.1 = 17 := by
      rcases hpc with ⟨-, z⟩ | ⟨-, z⟩
      · rw [z]; exact Or.inl hT3
      · exact Or.inr z
    have ei : itA W x2 = (x2.1, 1, x2.2.2) := by
      obtain ⟨l, an, pc, stk, fr, par', vrs, t⟩ := x2
      dsimp only at hz hfr hw
      have hfr : fr = [] := hfr
      subst hz hfr
      exact fin_halt hw
    have ok3 := itA_ok hC ok2 hz
    have hm := itN_more g1 hz
    rw [ei] at ok3 hm
    rw [if_pos hz] at g3
    obtain ⟨ht, pcv, a36, a39, a40, a44, rc, rfl, l1, l2, l3, l4, l5, -⟩ := R2
    refine ⟨m1 + 1, (x2.1, 1, x2.2.2), _, hm, show (1 : Int32) ≠ 0 by decide, by dsimp only at g3; omega, ok3, ⟨st2, ht, pcv, a36, a39, a40, a44, rc, rfl, l1, l2, l3, l4, l5, fun z => absurd (show (1 : Int32) = 0 from z) (by decide)⟩, main _ _ ?_⟩
    refine eS rfl rfl ?_
    refine gGet hn rfl rfl rfl rfl ?_
    refine gV1 hn rfl rfl rfl rfl rfl ⟨catOk rfl, catOk rfl⟩ (c_isGoing hn) ?_
    rw [if_pos hz]
    refine eEq rfl rfl (fun z => absurd z (by decide)) (fun _ => ?_)
    refine eS rfl rfl ?_
    refine gGet hn rfl rfl rfl rfl ?_
    refine eS rfl rfl ?_
    refine gPut hn rfl rfl rfl rfl rfl rfl rfl cS_35 ?_
    refine eS rfl rfl ?_
    refine gGet hn rfl rfl rfl rfl ?_
    refine gGet hn rfl rfl rfl rfl ?_
    exact eR rfl rfl ⟨rfl, rfl⟩
  · rw [if_neg hz] at g3
    obtain ⟨ht, pcv, a36, a39, a40, a44, rc, rfl, rest⟩ := R2
    refine ⟨m1, x2, _, g1, hz, by dsimp only at g3; omega, ok2, ⟨st2, ht, pcv, a36, a39, a40, a44, rc, rfl, rest⟩, main _ _ ?_⟩
    refine eS rfl rfl ?_
    refine gGet hn rfl rfl rfl rfl ?_
    refine gV1 hn rfl rfl rfl rfl rfl ⟨catOk rfl, catOk rfl⟩ (c_isGoing hn) ?_
    rw [if_neg hz]
    refine eEq rfl rfl (fun _ => ?_) (fun z => absurd rfl z)
    refine eS rfl rfl ?_
    refine gGet hn rfl rfl rfl rfl ?_
    refine gGet hn rfl rfl rfl rfl ?_
    exact eR rfl rfl ⟨rfl, rfl⟩
end WTOP
