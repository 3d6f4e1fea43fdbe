/-! the law on a script of at most three ints: one call on a fresh object -/
theorem aSzs_app (cl : aCl) (a b : aH) : aSzs cl (a ++ b) = aSzs cl a + aSzs cl b := by
  simp [aSzs, List.map_append, List.sum_append]
theorem sz_set {h : aH} {p kd : Nat} {a b : List Value} (h0 : h[p]? = some (kd, a)) (hl : b.length = a.length) : aSzs aCls (h.set p (kd, b)) = aSzs aCls h :=
  aSzs_set aCls h p (kd, a) (kd, b) h0 (by
    unfold aSz
    dsimp only
    rw [hl])
theorem hX_sz : aSzs aCls hX ≤ aSzs aCls aH0t + 9000 ∧ hX.length = 86 ∧ aSzs aCls hX4 = aSzs aCls hX ∧ aSzs aCls hX6 = aSzs aCls hX ∧ hX4.length = 86 ∧ hX6.length = 86 := by decide +kernel
section ONE
variable {scr : List Value} {Q : aOut → aH → Prop} {a b w : Int32}
abbrev hA (scr : List Value) : aH := (0, scr) :: hX
abbrev k20A : List Value := [.ref 21, .int 0, .ref 22, .ref 34, .ref 35, .ref 45, .ref 46, .ref 51]
abbrev mcA : List Value := [.ref 36, .int 0, .ref 37, .int 0, .ref 38, .ref 39, .ref 40, .ref 41, .int 0, .int 0]
abbrev tuA : List Value := [.ref 42, .float 1098907648, .float 1094713344, .int 0, .int 1, .int 1]
theorem hA_20 : (hA scr)[20]? = some (8, k20A) := rfl
theorem hA_21 : (hA scr)[21]? = some (1, List.replicate 160 (.int 0)) := rfl
theorem hA_22 : (hA scr)[22]? = some (10, [.ref 23, .ref 30, .ref 32, .null, .null, .null, .null, .int 0, .int (-1)]) := rfl
theorem hA_35 : (hA scr)[35]? = some (18, mcA) := rfl
theorem hA_37 : (hA scr)[37]? = some (3, List.replicate 8 (.float 0)) := rfl
theorem hA_41 : (hA scr)[41]? = some (20, tuA) := rfl
theorem hA_42 : (hA scr)[42]? = some (22, [.ref 43, .ref 44, .int 0]) := rfl
theorem hA_43 : (hA scr)[43]? = some (0, List.replicate 768 (.int 0)) := rfl
theorem hA_46 : (hA scr)[46]? = some (26, [.null, .null, .ref 47, .ref 48, .ref 49, .int 0, .ref 50, .int 0]) := rfl
theorem hA_56 : (hA scr)[56]? = some (36, vs0) := rfl
theorem hA_57 : (hA scr)[57]? = some (1, List.replicate 160 (.int 0)) := rfl
theorem hA_81 : (hA scr)[81]? = some (3, List.replicate 8 (.float 0)) := rfl
theorem hA_82 : (hA scr)[82]? = some (0, List.replicate 768 (.int 0)) := rfl
theorem hA_86 : (hA scr)[86]? = some (4, [.double 0]) := rfl
theorem hA_len : (hA scr).length = 87 := rfl
theorem vs0_len : vs0.length = 49 := rfl
theorem wipe_ints : aInts (List.replicate 768 (.int 0)) := fun j v h => by
  rw [List.getElem?_replicate] at h
  split at h
  · cases h; exact ⟨0, rfl⟩
  · cases h
/-- the end, out of the last heap -/
def aFin (scr : List Value) (Q : aOut → aH → Prop) : Prop := ∀ h2 : aH, h2[0]? = some (0, scr) → h2.length ≤ 90 → aSzs aCls h2 ≤ aSzs aCls (hA scr) + 100 → aE aMlaw 800 28 (aL0 (Int32.ofNat (0 + 3))) [] h2 Q
theorem mT_fin {h : aH} {vs : List Value} {t : Int32} (h56 : h[56]? = some (36, vs)) (fin : aFin scr Q) (h0 : h[0]? = some (0, scr)) (hl : h.length ≤ 90) (hs : aSzs aCls h ≤ aSzs aCls (hA scr) + 100) : aE aMlaw 800 28 (aL0 (Int32.ofNat (0 + 3))) [] (mT h vs t) Q :=
  fin _ ((gN (by decide)).trans h0) (by rw [List.length_set]; exact hl) (by rw [sz_set h56 (List.length_set)]; exact hs)
theorem push_at {h : aH} {o x : aO} {p : Nat} (hp : h[p]? = some x) : (h ++ [o])[p]? = some x := by
  rw [List.getElem?_append_left (List.getElem?_eq_some_iff.mp hp).1]
  exact hp
theorem push_sz {h : aH} {o : aO} (ho : aSz aCls o ≤ 13) : aSzs aCls (h ++ [o]) ≤ aSzs aCls h + 13 := by
  rw [aSzs_push]
  omega
/-- a refused call: an exception is new, the model's thrown is set -/
theorem ref_fin {o : aO} {t : Int32} (ho : aSz aCls o ≤ 13) (fin : aFin scr Q) : aE aMlaw 800 28 (aL0 (Int32.ofNat (0 + 3))) [] (mT (hA scr ++ [o]) vs0 t) Q :=
  mT_fin (push_at hA_56) fin (push_at rfl) (by rw [List.length_append, hA_len]; show 87 + 1 ≤ 90; decide) (by have := push_sz (h := hA scr) ho; omega)
theorem f16_ok : aN64 (FP.f2d 1098907648) = true ∧ Op.cmpValue (FP.dcmp (FP.f2d 1098907648) (FP.f2d 1098907648)) .l = 0 ∧ aN64 (FP.f2d 1094713344) = true ∧ Op.cmpValue (FP.dcmp (FP.f2d 1094713344) (FP.f2d 1094713344)) .l = 0 ∧ aN64 (FP.f2d 0) = true ∧ Op.cmpValue (FP.dcmp (FP.f2d 0) (FP.f2d 0)) .l = 0 := by decide +kernel
theorem one_put (hL : scr.length = 3) (hw : w &&& 15 = Int32.ofNat 0) (ha : scr[0 + 1]? = some (.int a)) (hb : scr[0 + 2]? = some (.int b)) (fin : aFin scr Q) : aE aMlaw 800 44 (aL0 (Int32.ofNat 0)) [.int (w &&& 15)] (hA scr) Q := by
  have s1 := s_put (d := 798) (h := hA scr) (w := a) (n := b) (tl := 0) (catOk rfl) hA_20 rfl rfl rfl hA_21 (List.length_replicate ..) (by decide)
  cases hp : putOk a b 0 with
  | false =>
    rw [hp] at s1
    have s2 := s_mput (d := 798) (h := hA scr) (w := a) (n := b) (tl := 0) (catOk rfl) hA_56 vs0_len rfl rfl hA_57 (List.length_replicate ..) (by decide)
    rw [hp] at s2
    exact law_put rfl rfl (by rw [hL]; decide) (by rw [hL]; decide) hw ha hb hA_20 hA_56 s1 s2 (mT_fin hA_56 fin rfl (by rw [hA_len]; decide) (by omega))
  | true =>
    rw [hp] at s1
    have e56 : (((hA scr).set 20 (8, k20A.set 1 (.int (Int32.ofNat (0 + b.toNatClampNeg))))).set 21 (1, putTx a b.toNatClampNeg (List.replicate 160 (.int 0)) 0))[56]? = some (36, vs0) := ((gN (by decide)).trans (gN (by decide))).trans hA_56
    have e57 : (((hA scr).set 20 (8, k20A.set 1 (.int (Int32.ofNat (0 + b.toNatClampNeg))))).set 21 (1, putTx a b.toNatClampNeg (List.replicate 160 (.int 0)) 0))[57]? = some (1, List.replicate 160 (.int 0)) := ((gN (by decide)).trans (gN (by decide))).trans hA_57
    have s2 := s_mput (d := 798) (w := a) (n := b) (tl := 0) (by simp only [List.length_set]; exact catOk rfl) e56 vs0_len rfl rfl e57 (List.length_replicate ..) (by decide)
    rw [hp] at s2
    refine law_put rfl (((gN (by decide)).trans (gN (by decide))).trans rfl) (by rw [hL]; decide) (by rw [hL]; decide) hw ha hb hA_20 e56 s1 s2 ?_
    refine fin _ ?_ ?_ ?_
    · exact ((gN (by decide)).trans ((gN (by decide)).trans ((gN (by decide)).trans (gN (by decide))))).trans rfl
    · simp only [if_true, List.length_set]
      show (hA scr).length ≤ 90
      rw [hA_len]; decide
    · simp only [if_true]
      rw [sz_set ((gN (by decide)).trans e57) (putTx_len ..), sz_set e56 (by simp only [List.length_set]), sz_set ((gN (by decide)).trans hA_21) (putTx_len ..), sz_set hA_20 (List.length_set)]
      omega
theorem one_clear (hw : w &&& 15 = Int32.ofNat 1) (fin : aFin scr Q) : aE aMlaw 800 44 (aL0 (Int32.ofNat 0)) [.int (w &&& 15)] (hA scr) Q := by
  refine law_clear hw hA_20 ((gN (by decide)).trans hA_56) (s_clear (catOk rfl) hA_20 rfl) (s_mclear (by rw [List.length_set]; exact catOk rfl) ((gN (by decide)).trans hA_56) vs0_len) ?_
  refine fin _ (((gN (by decide)).trans (gN (by decide))).trans rfl) ?_ ?_
  · simp only [List.length_set]
    show (hA scr).length ≤ 90
    rw [hA_len]; decide
  · rw [sz_set ((gN (by decide)).trans hA_56) (by simp only [List.length_set]), sz_set hA_20 (List.length_set)]
    omega
theorem fin0 {t : Int32} (fin : aFin scr Q) : aE aMlaw 800 28 (aL0 (Int32.ofNat (0 + 3))) [] (mT (hA scr) vs0 t) Q := mT_fin hA_56 fin rfl (by rw [hA_len]; decide) (by omega)
theorem one_error (hw : w &&& 15 = Int32.ofNat 3) (fin : aFin scr Q) : aE aMlaw 800 44 (aL0 (Int32.ofNat 0)) [.int (w &&& 15)] (hA scr) Q :=
  law_error hw hA_20 hA_56 (s_error hA_20 rfl hA_22 rfl) (s_merror (catOk rfl) hA_56 vs0_len rfl) (fin0 fin)
theorem one_size (hw : w &&& 15 = Int32.ofNat 4) (fin : aFin scr Q) : aE aMlaw 800 44 (aL0 (Int32.ofNat 0)) [.int (w &&& 15)] (hA scr) Q :=
  law_size hw hA_20 hA_56 (s_size hA_20 rfl hA_46 rfl) (s_msize (catOk rfl) hA_56 vs0_len rfl) (fin0 fin)
theorem one_heading (hw : w &&& 15 = Int32.ofNat 12) (fin : aFin scr Q) : aE aMlaw 800 44 (aL0 (Int32.ofNat 0)) [.int (w &&& 15)] (hA scr) Q :=
  law_heading hw hA_20 hA_56 (s_heading hA_20 rfl hA_35 rfl hA_41 rfl) (s_mheading (catOk rfl) hA_56 vs0_len rfl) (fin0 fin)
theorem one_x (hw : w &&& 15 = Int32.ofNat 10) (fin : aFin scr Q) : aE aMlaw 800 44 (aL0 (Int32.ofNat 0)) [.int (w &&& 15)] (hA scr) Q :=
  law_x hw hA_20 hA_56 f16_ok.1 f16_ok.2.1 (s_x hA_20 rfl hA_35 rfl hA_41 rfl) (s_mx (catOk rfl) hA_56 vs0_len rfl) (fin0 fin)
theorem one_y (hw : w &&& 15 = Int32.ofNat 11) (fin : aFin scr Q) : aE aMlaw 800 44 (aL0 (Int32.ofNat 0)) [.int (w &&& 15)] (hA scr) Q :=
  law_y hw hA_20 hA_56 f16_ok.2.2.1 f16_ok.2.2.2.1 (s_y hA_20 rfl hA_35 rfl hA_41 rfl) (s_my (catOk rfl) hA_56 vs0_len rfl) (fin0 fin)
theorem one_pixel (hL : scr.length = 3) (hw : w &&& 15 = Int32.ofNat 9) (ha : scr[0 + 1]? = some (.int a)) (hb : scr[0 + 2]? = some (.int b)) (fin : aFin scr Q) : aE aMlaw 800 44 (aL0 (Int32.ofNat 0)) [.int (w &&& 15)] (hA scr) Q :=
  law_pixel rfl rfl (by rw [hL]; decide) (by rw [hL]; decide) hw ha hb hA_20 hA_56 (s_pixel (d := 797) hA_20 rfl hA_35 rfl hA_41 rfl hA_42 rfl hA_43 (List.length_replicate ..) wipe_ints) (s_mpixel (d := 797) (catOk rfl) hA_56 vs0_len rfl hA_82 (List.length_replicate ..) wipe_ints) (fin0 fin)
end ONE
