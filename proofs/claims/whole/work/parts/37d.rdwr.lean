/-! the class's compile -/
def kFr (kd0 : Nat → Nat) (n0 : Nat) (S : Nat → List Value) (pb : Nat) (ep : Int32) (kd : Nat → Nat) (n : Nat) (S' : Nat → List Value) : Prop :=
  (n0 ≤ n ∧ n ≤ n0 + 161) ∧ (∀ q, 20 ≤ q → q < 87 → (q < 22 ∨ q = 29 ∨ (34 < q ∧ q < 46) ∨ 55 < q ∨ ((46 ≤ q ∧ q ≤ 55) ∧ (q < pb ∨ pb + 4 < q))) → S' q = S q) ∧ (∃ x3 x4 x5 x6 x7, S' 22 = [.ref 23, .ref 30, .ref 32, x3, x4, x5, x6, x7, .int ep]) ∧ (∃ c1 c2, S' 23 = [.ref 24, .ref 25, .ref 26, .ref 27, .ref 28, .ref 29, c1, c2]) ∧ tkL (S' 24) (S' 25) (S' 26) (S' 27) (S' 28) ∧ (∃ b, S' 30 = [.ref 31, b]) ∧ (∃ b, S' 32 = [.ref 33, b]) ∧ ((S' 31).length = 8 ∧ (S' 33).length = 3 ∧ (S' 34).length = 1) ∧
  (∃ c0 c1 c5 c7, S' pb = [c0, c1, .ref (pb + 1), .ref (pb + 2), .ref (pb + 3), c5, .ref (pb + 4), c7]) ∧ ((S' (pb + 1)).length = 160 ∧ (S' (pb + 2)).length = 160 ∧ (S' (pb + 3)).length = 160 ∧ (S' (pb + 4)).length = 240) ∧ (∀ p, 87 ≤ p → p < n0 + 20 → kd p = kd0 p ∧ S' p = S p) ∧ ∀ p, n0 + 20 ≤ p → p < n + 20 → kd p = 30 ∧ (S' p).length = 13
theorem cpU_out : ∀ (M : List (Nat × Nat)) (U : Nat → List Value) (q : Nat), (∀ e ∈ M, e.1 ≠ q) → cpU M U q = U q
  | [], U, q, h => rfl
  | p :: r, U, q, h => by
    show cpU r _ q = U q
    rw [cpU_out r _ q (fun e he => h e (List.mem_cons_of_mem _ he)), aUp_ne (fun z => h p (List.mem_cons_self ..) z.symm)]
section CCP
variable {scr : List Value} {kd0 kd : Nat → Nat} {n0 n d L pb : Nat} {S S1 T U V : Nat → List Value} {ep : Int32} {c : Nat → Nat} {Q : aOut → aH → Prop}
theorem kFr_rS (hn0 : 67 ≤ n0) (hpb : pb = 46 ∨ pb = 51) {fd ld lc fs fc : Value} {t cv cp tc : Nat} {wc : Int32} {rv rp t1 t2 t3 : List Value} (h34 : (S 34).length = 1) (h4 : (S (pb + 4)).length = 240) (hT : tkOf S L T) (hl : rv.length = 8 ∧ rp.length = 3 ∧ t1.length = 160 ∧ t2.length = 160 ∧ t3.length = 160) (hn : n0 ≤ n ∧ n ≤ n0 + 161) (hb : bI n0 kd0 S kd n U) : kFr kd0 n0 S pb ep kd n (rS T U pb fd ld lc t ep cv rv cp rp fs fc tc wc t1 t2 t3) := by
  obtain ⟨a24, a25, a26, a27, a28, cn, rfl, hk⟩ := hT
  refine ⟨hn, fun q q1 q2 q3 => ?_, ⟨_, _, _, _, _, rfl⟩, ⟨_, _, rfl⟩, hk, ⟨_, rfl⟩, ⟨_, rfl⟩, ⟨hl.1, hl.2.1, h34⟩, ?_, ?_, fun p p1 p2 => ?_, fun p p1 p2 => ?_⟩
  · have et : tkS S a24 a25 a26 a27 a28 cn (Int32.ofNat L) q = S q := by
      unfold tkS
      rw [if_neg (by omega), if_neg (by omega), if_neg (by omega), if_neg (by omega), if_neg (by omega), if_neg (by omega)]
    unfold rS
    rw [if_neg (by rw [Nat.ble_eq]; omega), if_neg (by omega), if_neg (by omega), if_neg (by omega), if_neg (by omega), if_neg (by omega)]
    split
    · rw [if_neg (by omega), if_neg (by omega), if_neg (by omega), if_neg (by omega)]; exact et
    · exact et
  · rcases hpb with rfl | rfl <;> exact ⟨_, _, _, _, rfl⟩
  · rcases hpb with rfl | rfl
    · exact ⟨hl.2.2.1, hl.2.2.2.1, hl.2.2.2.2, h4⟩
    · exact ⟨hl.2.2.1, hl.2.2.2.1, hl.2.2.2.2, h4⟩
  · unfold rS
    rw [if_pos (Nat.ble_eq.mpr p1)]
    exact hb.1 p p2
  · unfold rS
    rw [if_pos (Nat.ble_eq.mpr (by omega))]
    exact hb.2 p p1 p2
theorem kFr_cd (hn0 : 67 ≤ n0) (hpb : pb = 46 ∨ pb = 51) {fs fc : Value} {tc wc : Nat} {wr : List Value} (h : kFr kd0 n0 S pb ep kd n S1) (hw : wr.length = 240) (hV : (∀ p, 87 ≤ p → p < n0 + 20 → V p = S p) ∧ ∀ p, n0 + 20 ≤ p → p < n + 20 → (V p).length = 13) : kFr kd0 n0 S pb ep kd n (cdS S1 V pb fs fc tc wc wr) := by
  obtain ⟨k1, k2, k3, k4, k5, k6, k7, k8, k9, k10, k11, k12⟩ := h
  refine ⟨k1, fun q q1 q2 q3 => ?_, k3, k4, k5, k6, k7, ⟨k8.1, k8.2.1, rfl⟩, ?_, ?_, fun p p1 p2 => ?_, fun p p1 p2 => ?_⟩
  · rw [← k2 q q1 q2 q3]
    unfold cdS
    rw [if_neg (by rw [Nat.ble_eq]; omega), if_neg (by omega)]
    split
    · rw [if_neg (by omega), if_neg (by omega)]
    · rfl
  · rcases hpb with rfl | rfl <;> exact ⟨_, _, _, _, rfl⟩
  · rcases hpb with rfl | rfl
    · exact ⟨k10.1, k10.2.1, k10.2.2.1, hw⟩
    · exact ⟨k10.1, k10.2.1, k10.2.2.1, hw⟩
  · unfold cdS
    rw [if_pos (Nat.ble_eq.mpr p1)]
    exact ⟨(k11 p p1 p2).1, hV.1 p p1 p2⟩
  · unfold cdS
    rw [if_pos (Nat.ble_eq.mpr (by omega))]
    exact ⟨(k12 p p1 p2).1, hV.2 p p1 p2⟩
/-- a program that was read, written -/
def kPr (n0 n pb : Nat) (kd : Nat → Nat) (r : gSt × List Nat × List cAl × List Nat) (S' : Nat → List Value) : Prop := ∃ (fs fc : Value), S' pb = [fs, fc, .ref (pb + 1), .ref (pb + 2), .ref (pb + 3), .int (Int32.ofNat r.1.1.2.2.length), .ref (pb + 4), .int (Int32.ofNat r.2.2.2.length)] ∧ tmF r.1.1.2.2 (S' (pb + 1)) (S' (pb + 2)) (S' (pb + 3)) ∧ wdK r.2.2.2 (S' (pb + 4)) ∧ r.1.1.2.2.length ≤ 160 ∧ ∀ (L : Nat → Option aO) (T : Nat → Nat × Nat × Nat), (∀ q, n0 + 20 ≤ q → q < n + 20 → L q = some (30, S' q)) → (∀ (j : Nat) (x : Nat × Nat × Nat), r.1.1.2.2[j]? = some x → T j = x) → tPrg (fun j => r.2.2.2.getD j 27) r.2.2.2.length T r.1.1.2.2.length L fs
/-- read and written, or refused -/
theorem c_rdwr (hn0 : 67 ≤ n0) (hpb : pb = 46 ∨ pb = 51) {a3 a4 a5 a6 a7 a8 b1 b2 c0 c1 c5 c7 v6 v7 : Value} (h22 : S 22 = [.ref 23, .ref 30, .ref 32, a3, a4, a5, a6, a7, a8]) (h30 : S 30 = [.ref 31, b1]) (h32 : S 32 = [.ref 33, b2]) (hp : S pb = [c0, c1, .ref (pb + 1), .ref (pb + 2), .ref (pb + 3), c5, .ref (pb + 4), c7]) (hT : txOk (S 21) L c) (h29 : S 29 = aS0 29) (h23 : S 23 = [.ref 24, .ref 25, .ref 26, .ref 27, .ref 28, .ref 29, v6, v7]) (hl : tkL (S 24) (S 25) (S 26) (S 27) (S 28)) (h31 : (S 31).length = 8) (h33 : (S 33).length = 3) (hm1 : (S (pb + 1)).length = 160) (hm2 : (S (pb + 2)).length = 160) (hm3 : (S (pb + 3)).length = 160) (h4 : (S (pb + 4)).length = 240) (h34 : (S 34).length = 1) (hte : ∀ e, tokA c L L 0 [] = .error e → e < 2 ^ 20)
    (kk : ∀ ts r kd n S1 S2, tokA c L L 0 [] = .ok ts → cplA ts L = .ok r → (∀ q, 20 ≤ q → q < 22 → S1 q = S q) → 67 ≤ n → aE aM94 (d + 23) 0 [(0, .ref 34), (1, .ref pb)] [] (gH scr kd n S1) (aIs none (gH scr kd n S2)) → kFr kd0 n0 S pb (-1) kd n S2 → S1 34 = S 34 → kPr n0 n pb kd r S2 → Q (.inl none) (gH scr kd n S1))
    (kx : ∀ e, (tokA c L L 0 [] = .error e ∨ ∃ ts, tokA c L L 0 [] = .ok ts ∧ cplA ts L = .error e) → ∀ kd n S2 o h', kFr kd0 n0 S pb (Int32.ofNat e) kd n S2 → thr (gH scr kd n S2) o h' → Q o h') : aE aM36 (d + 33) 0 [(0, .ref 22), (1, .ref 21), (2, .int (Int32.ofNat L)), (3, .ref pb)] [] (gH scr kd0 n0 S) Q := by
  refine c_readT hn0 hpb h22 h30 h32 hp hT h29 h23 hl h31 h33 hm1 hm2 hm3 hte (fun ts r ws kd n S1 e1 e2 e3 hO => ?_) (fun e he o h' hE => ?_)
  · obtain ⟨T, hT0, U, K, D, M, k, fs, fd, ld, lc, t, cv, rv, cp, rp, fc, t1, t2, t3, rfl, ⟨y1, y2⟩, y3, y4, y5, y6, y7, y8, y9, ⟨y10, y10'⟩, y11, y12, y13, y14⟩ := hO
    have ec : cplA ts L = .ok (r.1, r.2.1, r.2.2, ws) := by
      unfold cplA
      rw [e2]
      dsimp only
      rw [e3]
    obtain ⟨p', p1, p2, p3⟩ := tokA_ok hT.2.2.2 L 0 [] ts (Nat.zero_le _) (Nat.le_refl _) tsW_0 e1
    obtain ⟨s1, s2, s3, s4, s5⟩ := tsW_ts p3
    have hL160 := hT.1
    obtain ⟨r1, r2, r3, r4, -⟩ := tpA_rd s1 s5 e2
    have rt : r.1.1.2.2.length ≤ 160 := by
      have := r1.1
      have := r1.2.1
      omega
    have e3' := e3
    rw [← y7, ← y8] at e3'
    have len13 : ∀ p, n0 + 20 ≤ p → p < n + 20 → (U p).length = 13 := fun p q1 q2 => (y6.2 p q1 q2).2
    obtain ⟨t1', t2', t3', t4'⟩ := rTree hn0 len13 y9 y10 y10' y11 y12 y13 y14 e3'
    have f11 := lkU_fr (D := D) (K := K) K U (fun p hp => hp)
    have b2 : bI n0 kd0 S kd n (lkU D K U) := bI_fr y6 (fun p hp => (y13 p hp).1) f11
    have oo : oOk n0 n kd (lkU D K U) := fun p q1 q2 => b2.2 p q1 q2
    have wl := lnkA_len _ _ _ e3
    rw [List.length_append, List.length_singleton] at wl
    have F1 : kFr kd0 n0 S pb (-1) kd n (rS T (lkU D K U) pb fd ld lc t (-1) cv rv cp rp fs fc r.1.1.2.2.length 0 t1 t2 t3) := kFr_rS hn0 hpb h34 h4 hT0 ⟨y1, y2, y3.1, y3.2.1, y3.2.2.1⟩ ⟨y4, y5⟩ b2
    have hp0 := rS_p0 (S0 := T) (U := lkU D K U) (fd := fd) (ld := ld) (lc := lc) (t := t) (ep := -1) (cv := cv) (rv := rv) (cp := cp) (rp := rp) (fs := fs) (fc := fc) (tc := r.1.1.2.2.length) (wc := 0) (t1 := t1) (t2 := t2) (t3 := t3) hpb
    generalize hS1 : rS T (lkU D K U) pb fd ld lc t (-1) cv rv cp rp fs fc r.1.1.2.2.length 0 t1 t2 t3 = S1 at F1 hp0
    have tmf : tmF r.1.1.2.2 (S1 (pb + 1)) (S1 (pb + 2)) (S1 (pb + 3)) := by
      rw [← hS1]
      rcases hpb with rfl | rfl <;> exact y3
    have h87 : ∀ p, 87 ≤ p → S1 p = lkU D K U p := fun p hp => by
      rw [← hS1]
      unfold rS
      rw [if_pos (Nat.ble_eq.mpr hp)]
    obtain ⟨S2, ⟨wr, rfl, hw1, hw2⟩, aw⟩ := c_writeT (d := d) (scr := scr) (kd := kd) (D := D) (K := K) (ts := ts) (L := L) (tm := r.1.1.2.2) hn0 y4 hpb tmf rfl rt F1.2.2.2.2.2.2.2.1.2.2 hp0 F1.2.2.2.2.2.2.2.2.2.1.2.2.2 h87 oo t1' (by have := r1.1; omega) t2' (fun p hp => ⟨(y13 p hp).1, (y13 p hp).2.1, by
      have : p.2 ∈ r.2.2 := by rw [← y7]; exact List.mem_map.mpr ⟨p, hp, rfl⟩
      have := (r4 _ this).2.2.2.2
      have := r1.1
      omega, t3' p hp, y9 p hp⟩) (fun z hz => ⟨(y14 z hz).1, (y14 z hz).2.1, y10 z hz⟩) e3'
    have V1 : (∀ p, 87 ≤ p → p < n0 + 20 → cpU M (lkU D K U) p = S p) ∧ ∀ p, n0 + 20 ≤ p → p < n + 20 → (cpU M (lkU D K U) p).length = 13 := by
      refine ⟨fun p q1 q2 => ?_, fun p q1 q2 => (oOk_cp (M := M) oo p q1 q2).2⟩
      have hM := tpP_M t1'
      rw [← (b2.1 p q2).2]
      exact cpU_out M (lkU D K U) p (fun e he => by have := hM.1 e he; omega)
    have F2 := kFr_cd (fs := fs) (fc := fc) (tc := r.1.1.2.2.length) (wc := ws.length) hn0 hpb F1 hw1 V1
    refine kk ts (r.1, r.2.1, r.2.2, ws) kd n S1 _ e1 ec (fun q q1 q2 => F1.2.1 q q1 (by omega) (Or.inl q2)) (by omega) aw F2 (by rw [← hS1]; obtain ⟨a24, a25, a26, a27, a28, cn, rfl, -⟩ := hT0; rfl) ⟨fs, fc, cdS_p0 hpb, by rw [cdS_p1 hpb, cdS_p2 hpb, cdS_p3 hpb]; exact tmf, by rw [cdS_p4 hpb]; exact ⟨hw1, hw2⟩, rt, fun L T hL hTm => ?_⟩
    show tPrg (fun j => ws.getD j 27) ws.length T r.1.1.2.2.length L fs
    rw [wl]
    refine t4' L T (fun q q1 q2 => ?_) hTm
    rw [hL q q1 q2]
    unfold cdS
    rw [if_pos (Nat.ble_eq.mpr (by omega))]
    rfl
  · obtain ⟨T, hT0, kd, n, U, fd, ld, lc, t, cv, rv, cp, rp, fs, fc, tc, t1, t2, t3, y1, y2, y3, y4, y5⟩ := hE
    exact kx e he kd n _ o h' (kFr_rS hn0 hpb h34 h4 hT0 y1 ⟨y2, y3⟩ y4) y5
end CCP
