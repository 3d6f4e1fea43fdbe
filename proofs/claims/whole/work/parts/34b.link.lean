/-! the calls get their definitions -/
/-- the calls' objects then -/
def lkU (D : List (Nat × dEf)) : List (Nat × cAl) → (Nat → List Value) → (Nat → List Value)
  | [], U => U
  | p :: r, U => lkU D r (aUp U p.1 ((U p.1).set 11 (fndD D p.2.1)))
def fr11 (K : List (Nat × cAl)) (U U' : Nat → List Value) : Prop := ∀ q, U' q = U q ∨ ((∃ p ∈ K, p.1 = q) ∧ ∃ v, U' q = (U q).set 11 v)
theorem fr11_id {K : List (Nat × cAl)} {U : Nat → List Value} : fr11 K U U := fun q => Or.inl rfl
theorem fr11_step {K : List (Nat × cAl)} {U U' : Nat → List Value} {p : Nat × cAl} {v : Value} (hp : p ∈ K) (h : fr11 K (aUp U p.1 ((U p.1).set 11 v)) U') : fr11 K U U' := fun q => by
  rcases h q with e | ⟨e1, w, e2⟩
  · by_cases eq : q = p.1
    · subst eq
      rw [aUp_same] at e
      exact Or.inr ⟨⟨p, hp, rfl⟩, v, e⟩
    · rw [aUp_ne eq] at e
      exact Or.inl e
  · by_cases eq : q = p.1
    · subst eq
      rw [aUp_same, List.set_set] at e2
      exact Or.inr ⟨⟨p, hp, rfl⟩, w, e2⟩
    · rw [aUp_ne eq] at e2
      exact Or.inr ⟨e1, w, e2⟩
theorem lkU_fr {D : List (Nat × dEf)} {K : List (Nat × cAl)} : ∀ (r : List (Nat × cAl)) (U : Nat → List Value), (∀ p ∈ r, p ∈ K) → fr11 K U (lkU D r U)
  | [], U, _ => fr11_id
  | p :: r, U, h => fr11_step (h p (List.mem_cons_self ..)) (lkU_fr r _ (fun z hz => h z (List.mem_cons_of_mem _ hz)))
/-- each call has its definition -/
theorem lkU_at {D : List (Nat × dEf)} : ∀ (r : List (Nat × cAl)) (U : Nat → List Value), (r.map (fun p => p.1)).Pairwise (· < ·) → (∀ p ∈ r, (U p.1).length = 13) → ∀ p ∈ r, (lkU D r U p.1)[11]? = some (fndD D p.2.1)
  | [], U, _, _, p, hp => by cases hp
  | a :: r, U, hd, hl, p, hp => by
    have hd' := List.pairwise_cons.mp hd
    rcases List.mem_cons.mp hp with e | hp
    · subst e
      have hn : ∀ (r : List (Nat × cAl)) (U : Nat → List Value) (q : Nat), (∀ z ∈ r, q < z.1) → lkU D r U q = U q := fun r => by
        induction r with
        | nil => exact fun U q _ => rfl
        | cons b r ih =>
          intro U q hq
          show lkU D r _ q = U q
          rw [ih _ q (fun z hz => hq z (List.mem_cons_of_mem _ hz)), aUp_ne (by have := hq b (List.mem_cons_self ..); omega)]
      show (lkU D r _ p.1)[11]? = _
      rw [hn r _ p.1 (fun z hz => hd'.1 z.1 (List.mem_map.mpr ⟨z, hz, rfl⟩)), aUp_same, List.getElem?_set_self (by rw [hl p (List.mem_cons_self ..)]; decide)]
    · refine lkU_at r _ hd'.2 (fun z hz => ?_) p hp
      by_cases e : z.1 = a.1
      · rw [e, aUp_same, List.length_set]; exact hl a (List.mem_cons_self ..)
      · rw [aUp_ne e]; exact hl z (List.mem_cons_of_mem _ hz)
theorem chF_pw {U : Nat → List Value} : ∀ {qs : List Nat} {v : Value}, chF U v qs → qs.Pairwise (· < ·)
  | [], _, _ => List.Pairwise.nil
  | q :: r, v, ⟨_, h2, w, _, h4⟩ => List.pairwise_cons.mpr ⟨h2, chF_pw h4⟩
theorem fnd_map {D : List (Nat × dEf)} {x : List Nat} : (D.map (fun p => p.2)).find? (fun d => d.1 == x) = (D.find? (fun p => p.2.1 == x)).map (fun p => p.2) := by
  rw [List.find?_map]
  rfl
section LNK
variable {scr : List Value} {kd : Nat → Nat} {n d L pa t cv cp tc : Nat} {S0 U : Nat → List Value} {fd ld lc fs fc : Value} {rv rp t1 t2 t3 : List Value} {ts : List aTk} {Q : aOut → aH → Prop}
theorem rS_87 {ep : Int32} {p : Nat} (hp : 87 ≤ p) : rS S0 U pa fd ld lc t ep cv rv cp rp fs fc tc 0 t1 t2 t3 p = U p := by
  unfold rS
  rw [if_pos (Nat.ble_eq.mpr hp)]
theorem c_defR {D : List (Nat × dEf)} {x : List Nat} {n0 : Nat} (hn0 : 67 ≤ n0) (hn1 : n0 ≤ n) (hx : nmOk x) (hc : chF U fd (D.map (fun p => p.1))) (hD : ∀ p ∈ D, n0 + 20 ≤ p.1 ∧ p.1 < n + 20 ∧ kd p.1 = 30 ∧ dI U p) : aE aM92 d 0 [(0, .ref 22), (1, .long (Int64.ofNat (pk 32 x)))] [] (gH scr kd n (rS S0 U pa fd ld lc t (-1) cv rv cp rp fs fc tc 0 t1 t2 t3)) (aIs (some (fndD D x)) (gH scr kd n (rS S0 U pa fd ld lc t (-1) cv rv cp rp fs fc tc 0 t1 t2 t3))) := by
  have hn : 67 ≤ n := by omega
  have IH := c_defLoop (scr := scr) (kd := kd) (n := n) (d := d) (S := (rS S0 U pa fd ld lc t (-1) cv rv cp rp fs fc tc 0 t1 t2 t3)) hn0 hx (fun p hp => rS_87 hp) D fd hc hD
  have hv : fd = .null ∨ ∃ q, fd = .ref q := by
    cases D with
    | nil => exact Or.inl hc
    | cons p2 r2 => exact Or.inr ⟨_, hc.1⟩
  refine eS rfl rfl ?_
  refine gGet hn rfl rfl rfl rfl ?_
  rcases hv with rfl | ⟨q, rfl⟩
  · refine eS rfl rfl ?_
    exact IH
  · refine eS rfl rfl ?_
    exact IH
theorem c_lnkLoop {D : List (Nat × dEf)} {K : List (Nat × cAl)} {n0 : Nat} (hn0 : 67 ≤ n0) (hn1 : n0 ≤ n) (hds : ∀ p ∈ D, p.2.2.1 < 2 ^ 20) : ∀ (r : List (Nat × cAl)) (v : Value) (U : Nat → List Value) (ws : List Nat), (∀ p ∈ r, p ∈ K) → chF U v (r.map (fun p => p.1)) → (∀ p ∈ r, n0 + 20 ≤ p.1 ∧ p.1 < n + 20 ∧ kd p.1 = 30 ∧ (U p.1).length = 13 ∧ p.2.2.1 < 2 ^ 20 ∧ kI ts L U p) → chF U fd (D.map (fun p => p.1)) → (∀ p ∈ D, n0 + 20 ≤ p.1 ∧ p.1 < n + 20 ∧ kd p.1 = 30 ∧ dI U p) →
    (∀ ws', lnkA ts L (D.map (fun p => p.2)) (r.map (fun p => p.2)) ws = .ok ws' → Q (.inl none) (gH scr kd n (rS S0 (lkU D r U) pa fd ld lc t (-1) cv rv cp rp fs fc tc 0 t1 t2 t3))) → (∀ e, lnkA ts L (D.map (fun p => p.2)) (r.map (fun p => p.2)) ws = .error e → ∀ U', fr11 K U U' → ∀ o h', thr (gH scr kd n (rS S0 U' pa fd ld lc t (Int32.ofNat e) cv rv cp rp fs fc tc 0 t1 t2 t3)) o h' → Q o h') → aE aM36 (d + 2) 45 [(5, v), (0, .ref 22), (3, .ref pa)] [] (gH scr kd n (rS S0 U pa fd ld lc t (-1) cv rv cp rp fs fc tc 0 t1 t2 t3)) Q
  | [], v, U, ws, hK, hc, hr, hcd, hD, kk, kx => by
    have hc : v = .null := hc
    subst hc
    refine eS rfl rfl ?_
    refine eS rfl rfl ?_
    exact eR rfl rfl (kk ws rfl)
  | p :: r, v, U, ws, hK, ⟨h1, h2, w, h3, h4⟩, hr, hcd, hD, kk, kx => by
    subst h1
    have hn : 67 ≤ n := by omega
    obtain ⟨p1, p2, p3, p4, p5, p6, p7, p8, p9, p10⟩ := hr p (List.mem_cons_self ..)
    have hw : w = .null ∨ ∃ q, w = .ref q := by
      cases r with
      | nil => exact Or.inl h4
      | cons p2 r2 => exact Or.inr ⟨_, h4.1⟩
    have ad := c_defR (scr := scr) (d := d + 1) (pa := pa) (ld := ld) (lc := lc) (t := t) (cv := cv) (rv := rv) (cp := cp) (rp := rp) (fs := fs) (fc := fc) (tc := tc) (t1 := t1) (t2 := t2) (t3 := t3) (S0 := S0) hn0 hn1 p6 hcd hD
    have fdv : fndD D p.2.1 = .null ∨ ∃ q, fndD D p.2.1 = .ref q := by
      unfold fndD
      cases D.find? (fun z => z.2.1 == p.2.1) with
      | none => exact Or.inl rfl
      | some z => exact Or.inr ⟨_, rfl⟩
    have frp : ∀ j, j ≠ 11 → ∀ q, (aUp U p.1 ((U p.1).set 11 (fndD D p.2.1)) q)[j]? = (U q)[j]? := fun j hj q => by
      by_cases e : q = p.1
      · rw [e, aUp_same, List.getElem?_set_ne (by omega)]
      · rw [aUp_ne e]
    have frl : ∀ q, (aUp U p.1 ((U p.1).set 11 (fndD D p.2.1)) q).length = (U q).length := fun q => by
      by_cases e : q = p.1
      · rw [e, aUp_same, List.length_set]
      · rw [aUp_ne e]
    have u11 : (aUp U p.1 ((U p.1).set 11 (fndD D p.2.1)) p.1)[11]? = some (fndD D p.2.1) := by rw [aUp_same, List.getElem?_set_self (by rw [p4]; decide)]
    have s1 : ∀ z, 87 ≤ z → rS S0 (aUp U p.1 ((U p.1).set 11 (fndD D p.2.1))) pa fd ld lc t (-1) cv rv cp rp fs fc tc 0 t1 t2 t3 z = aUp U p.1 ((U p.1).set 11 (fndD D p.2.1)) z := fun z hz => rS_87 hz
    have f97 : ∀ ws2, (∀ ws', lnkA ts L (D.map (fun p => p.2)) (r.map (fun p => p.2)) ws2 = .ok ws' → lnkA ts L (D.map (fun p => p.2)) ((p :: r).map (fun p => p.2)) ws = .ok ws') → (∀ e, lnkA ts L (D.map (fun p => p.2)) (r.map (fun p => p.2)) ws2 = .error e → lnkA ts L (D.map (fun p => p.2)) ((p :: r).map (fun p => p.2)) ws = .error e) → aE aM36 (d + 2) 97 [(5, .ref p.1), (0, .ref 22), (3, .ref pa)] [] (gH scr kd n (rS S0 (aUp U p.1 ((U p.1).set 11 (fndD D p.2.1))) pa fd ld lc t (-1) cv rv cp rp fs fc tc 0 t1 t2 t3)) Q := by
      intro ws2 g1 g2
      have IH := c_lnkLoop hn0 hn1 hds r w (aUp U p.1 ((U p.1).set 11 (fndD D p.2.1))) ws2 (fun z hz => hK z (List.mem_cons_of_mem _ hz)) (chF_tr (fun z _ => frp 9 (by decide) z) h4) (fun z hz => by
        obtain ⟨b1, b2, b3, b4, b5, b6, b7, b8, b9, b10⟩ := hr z (List.mem_cons_of_mem _ hz)
        exact ⟨b1, b2, b3, (frl _).trans b4, b5, b6, (frp _ (by decide) _).trans b7, (frp _ (by decide) _).trans b8, (frp _ (by decide) _).trans b9, (frp _ (by decide) _).trans b10⟩) (chF_tr (fun z _ => frp 9 (by decide) z) hcd) (fun z hz => by
        obtain ⟨b1, b2, b3, b6, b7, b8, b9⟩ := hD z hz
        exact ⟨b1, b2, b3, b6, (frp _ (by decide) _).trans b7, (frp _ (by decide) _).trans b8, (frp _ (by decide) _).trans b9⟩) (fun ws' e => kk ws' (g1 ws' e)) (fun e he U' hf => kx e (g2 e he) U' (fr11_step (hK p (List.mem_cons_self ..)) hf))
      refine eS rfl rfl ?_
      refine gGetO (p := p.1) (c := aUp U p.1 ((U p.1).set 11 (fndD D p.2.1)) p.1) rfl (by omega) p2 p3 (s1 _ (by omega)) ((frp 9 (by decide) _).trans h3) ?_
      rcases hw with rfl | ⟨q, rfl⟩
      · refine eS rfl rfl ?_
        refine eS rfl rfl ?_
        exact eLoc (l' := [(5, .null), (0, .ref 22), (3, .ref pa)]) rfl ⟨rfl, rfl, rfl, trivial⟩ IH
      · refine eS rfl rfl ?_
        refine eS rfl rfl ?_
        exact eLoc (l' := [(5, .ref q), (0, .ref 22), (3, .ref pa)]) rfl ⟨rfl, rfl, rfl, trivial⟩ IH
    have f88 : lnkA ts L (D.map (fun p => p.2)) ((p :: r).map (fun p => p.2)) ws = .error (plA ts L p.2.2.2.2) → aE aM36 (d + 2) 88 [(5, .ref p.1), (0, .ref 22), (3, .ref pa)] [] (gH scr kd n (rS S0 (aUp U p.1 ((U p.1).set 11 (fndD D p.2.1))) pa fd ld lc t (-1) cv rv cp rp fs fc tc 0 t1 t2 t3)) Q := by
      intro g1
      refine eS rfl rfl ?_
      refine eS rfl rfl ?_
      refine gGetO (p := p.1) (c := aUp U p.1 ((U p.1).set 11 (fndD D p.2.1)) p.1) rfl (by omega) p2 p3 (s1 _ (by omega)) ((frp 10 (by decide) _).trans p10) ?_
      exact gVo hn rfl rfl rfl rfl rfl ⟨catOk rfl, catOk rfl⟩ rfl (c_refuse (e := plA ts L p.2.2.2.2) hn) (fun v h' z => by cases z.1) (fun q h' z => kx _ g1 _ (fr11_step (hK p (List.mem_cons_self ..)) fr11_id) _ _ z)
    have e64 : aE aM36 (d + 2) 64 [(5, .ref p.1), (0, .ref 22), (3, .ref pa)] [] (gH scr kd n (rS S0 (aUp U p.1 ((U p.1).set 11 (fndD D p.2.1))) pa fd ld lc t (-1) cv rv cp rp fs fc tc 0 t1 t2 t3)) Q := by
      refine eS rfl rfl ?_
      refine gGetO (p := p.1) (c := aUp U p.1 ((U p.1).set 11 (fndD D p.2.1)) p.1) rfl (by omega) p2 p3 (s1 _ (by omega)) u11 ?_
      cases ef : D.find? (fun z => z.2.1 == p.2.1) with
      | none =>
        have ev : fndD D p.2.1 = .null := by unfold fndD; rw [ef]
        rw [ev] at f88 ⊢
        refine eS rfl rfl ?_
        exact f88 (by rw [List.map_cons, lnkA, fnd_map, ef]; rfl)
      | some z =>
        have ev : fndD D p.2.1 = .ref z.1 := by unfold fndD; rw [ef]
        have zD := List.mem_of_find?_eq_some ef
        obtain ⟨b1, b2, b3, b6, b7, b8, b9⟩ := hD z zD
        have hz := hds z zD
        rw [ev] at f88 f97 u11 s1 frp ⊢
        refine eS rfl rfl ?_
        refine eS rfl rfl ?_
        refine gGetO (p := p.1) (c := aUp U p.1 ((U p.1).set 11 (.ref z.1)) p.1) rfl (by omega) p2 p3 (s1 _ (by omega)) u11 ?_
        refine gGetO (p := z.1) (c := aUp U p.1 ((U p.1).set 11 (.ref z.1)) z.1) rfl (by omega) b2 b3 (s1 _ (by omega)) ((frp 1 (by decide) _).trans b8) ?_
        refine eS rfl rfl ?_
        refine gGetO (p := p.1) (c := aUp U p.1 ((U p.1).set 11 (.ref z.1)) p.1) rfl (by omega) p2 p3 (s1 _ (by omega)) ((frp 1 (by decide) _).trans p8) ?_
        by_cases ec : z.2.2.1 = p.2.2.1
        · refine eIEq rfl rfl (fun _ => ?_) (fun y => absurd ((i32_eq (by omega) (by omega)).mpr ec) y)
          exact f97 (ws.set p.2.2.2.1 z.2.2.2) (fun ws' e => by rw [List.map_cons, lnkA, fnd_map, ef]; show (if z.2.2.1 = p.2.2.1 then _ else _) = _; rw [if_pos ec]; exact e) (fun w e => by rw [List.map_cons, lnkA, fnd_map, ef]; show (if z.2.2.1 = p.2.2.1 then _ else _) = _; rw [if_pos ec]; exact e)
        · refine eIEq rfl rfl (fun y => absurd ((i32_eq (by omega) (by omega)).mp y) ec) (fun _ => ?_)
          exact f88 (by rw [List.map_cons, lnkA, fnd_map, ef]; show (if z.2.2.1 = p.2.2.1 then _ else _) = _; rw [if_neg ec])
    refine eS rfl rfl ?_
    refine eS rfl rfl ?_
    refine eS rfl rfl ?_
    refine eS rfl rfl ?_
    refine eS rfl rfl ?_
    refine gGetO (p := p.1) (c := U p.1) rfl (by omega) p2 p3 (rS_87 (by omega)) p9 ?_
    refine gV1 hn rfl rfl rfl rfl rfl ⟨catOk rfl, catOk rfl⟩ ad ?_
    refine gPutO (p := p.1) rfl (by omega) p2 rfl p3 (by rw [rS_87 (by omega)]; exact p4) rfl rfl (aFit_v fdv) ?_
    show aE aM36 (d + 2) 64 _ _ (gH scr kd n (aUp (rS S0 U pa fd ld lc t (-1) cv rv cp rp fs fc tc 0 t1 t2 t3) p.1 (((rS S0 U pa fd ld lc t (-1) cv rv cp rp fs fc tc 0 t1 t2 t3) p.1).set 11 (fndD D p.2.1)))) Q
    rw [rS_87 (by omega), rS_U (by omega)]
    exact e64
end LNK
