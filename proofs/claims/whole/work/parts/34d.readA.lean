/-! a text is read -/
def tkOf (S : Nat → List Value) (L : Nat) (T : Nat → List Value) : Prop := ∃ (a24 a25 a26 a27 a28 : List Value) (cn : Int32), T = tkS S a24 a25 a26 a27 a28 cn (Int32.ofNat L) ∧ tkL a24 a25 a26 a27 a28
/-- what an error leaves -/
def rEr (scr : List Value) (kd0 : Nat → Nat) (n0 : Nat) (S : Nat → List Value) (pa L e : Nat) (o : aOut) (h : aH) : Prop := ∃ T, tkOf S L T ∧ ∃ (kd : Nat → Nat) (n : Nat) (U : Nat → List Value) (fd ld lc : Value) (t cv : Nat) (rv : List Value) (cp : Nat) (rp : List Value) (fs fc : Value) (tc : Nat) (t1 t2 t3 : List Value), (rv.length = 8 ∧ rp.length = 3 ∧ t1.length = 160 ∧ t2.length = 160 ∧ t3.length = 160) ∧ n0 ≤ n ∧ n ≤ n0 + 161 ∧ bI n0 kd0 S kd n U ∧ thr (gH scr kd n (rS T U pa fd ld lc t (Int32.ofNat e) cv rv cp rp fs fc tc 0 t1 t2 t3)) o h
/-- what a text that is read leaves -/
def rOk (kd0 : Nat → Nat) (n0 : Nat) (S : Nat → List Value) (pa L : Nat) (ts : List aTk) (r : gSt × List Nat × List cAl) (kd : Nat → Nat) (n : Nat) (S' : Nat → List Value) : Prop := ∃ T, tkOf S L T ∧ ∃ (U : Nat → List Value) (K : List (Nat × cAl)) (D : List (Nat × dEf)) (M : List (Nat × Nat)) (k : Nat) (fs fd ld lc : Value) (t cv : Nat) (rv : List Value) (cp : Nat) (rp : List Value) (fc : Value) (t1 t2 t3 : List Value),
  S' = rS T (lkU D K U) pa fd ld lc t (-1) cv rv cp rp fs fc r.1.1.2.2.length 0 t1 t2 t3 ∧ (rv.length = 8 ∧ rp.length = 3) ∧ tmF r.1.1.2.2 t1 t2 t3 ∧ n0 ≤ n ∧ n ≤ n0 + 161 ∧ bI n0 kd0 S kd n U ∧ K.map (fun p => p.2) = r.2.2 ∧ D.map (fun p => p.2) = r.1.2 ∧ (∀ p ∈ K, (p.1, p.2.2.2.1) ∈ M) ∧ ((∀ p ∈ D, (p.1, p.2.2.2) ∈ M) ∧ mCv K D M) ∧ hLs U (tpP U r.1.1.2.2) k fs 0 r.2.1 M (n0 + 20) (n + 20) ∧ chF U fc (K.map (fun p => p.1)) ∧ (∀ p ∈ K, n0 + 20 ≤ p.1 ∧ p.1 < n + 20 ∧ kI ts L U p) ∧ ∀ p ∈ D, n0 + 20 ≤ p.1 ∧ p.1 < n + 20 ∧ dI U p
section RDA
variable {scr : List Value} {kd : Nat → Nat} {n d L pa : Nat} {S S0 U : Nat → List Value} {c : Nat → Nat} {ts : List aTk} {Q : aOut → aH → Prop}
theorem rS_tkS {fd ld lc fs fc : Value} {t cv cp tc : Nat} {ep wc : Int32} {rv rp t1 t2 t3 : List Value} (a24 a25 a26 a27 a28 : List Value) (cn en : Int32) : tkS (rS S0 U pa fd ld lc t ep cv rv cp rp fs fc tc wc t1 t2 t3) a24 a25 a26 a27 a28 cn en = rS (tkS S0 a24 a25 a26 a27 a28 cn en) U pa fd ld lc t ep cv rv cp rp fs fc tc wc t1 t2 t3 := by
  funext q
  by_cases e : 23 ≤ q ∧ q ≤ 28
  · have : q = 23 ∨ q = 24 ∨ q = 25 ∨ q = 26 ∨ q = 27 ∨ q = 28 := by omega
    rcases this with rfl | rfl | rfl | rfl | rfl | rfl <;> rfl
  · have h : ∀ T : Nat → List Value, tkS T a24 a25 a26 a27 a28 cn en q = T q := fun T => by
      unfold tkS
      rw [if_neg (by omega), if_neg (by omega), if_neg (by omega), if_neg (by omega), if_neg (by omega), if_neg (by omega)]
    rw [h]
    unfold rS
    rw [h]
theorem bI_fr {kd0 : Nat → Nat} {n0 : Nat} {U0 U' : Nat → List Value} {K : List (Nat × cAl)} (h : bI n0 kd0 U0 kd n U) (hK : ∀ p ∈ K, n0 + 20 ≤ p.1) (hf : fr11 K U U') : bI n0 kd0 U0 kd n U' := by
  refine ⟨fun p hp => ⟨(h.1 p hp).1, ?_⟩, fun p p1 p2 => ⟨(h.2 p p1 p2).1, ?_⟩⟩
  · rcases hf p with e | ⟨⟨z, z1, z2⟩, -⟩
    · rw [e]; exact (h.1 p hp).2
    · have := hK z z1
      omega
  · rcases hf p with e | ⟨-, v, e⟩
    · rw [e]; exact (h.2 p p1 p2).2
    · rw [e, List.length_set]; exact (h.2 p p1 p2).2
theorem tsW_ts {p : Nat} (h : tsW c L p ts) : tsN ts ∧ (∀ t, kA ts t < 2 ^ 20) ∧ (∀ t, kA ts t = 1 → dgA ts t ≤ 2 ^ 20 ∧ bhA ts t ≤ 2) ∧ (L ≤ 160 → ∀ t, plA ts L t < 2 ^ 20) ∧ plO ts L := by
  have hk : ∀ (i : Nat) (tk : aTk), ts[i]? = some tk → tkW L tk := fun i tk e => (h.1 i tk e).1
  refine ⟨fun i tk e e30 => ?_, fun t => ?_, fun t ht => ?_, fun hL t => ?_, fun t ht => ?_, fun t t1 t2 => ?_⟩
  · rcases kA_kind hk e with g | ⟨g1, g2⟩ | ⟨g1, g2, g3, g4⟩
    · omega
    · omega
    · exact g2
  · unfold kA
    cases e : ts[t]? with
    | none => exact (by decide : 34 < 2 ^ 20)
    | some tk =>
      rcases kA_kind hk e with g | ⟨g1, g2⟩ | ⟨g1, g2, g3, g4⟩
      · show tk.1 < _; omega
      · show tk.1 < _
        unfold isS at g1
        have := List.contains_iff_mem.mp g1
        exact (show ∀ x ∈ sgnL, x < 2 ^ 20 by decide) _ this
      · show tk.1 < _; omega
  · obtain ⟨tk, e, e1⟩ := kA_in ht (by decide)
    rw [show dgA ts t = tk.2.2.2.1 by unfold dgA; rw [e], show bhA ts t = tk.2.2.2.2 by unfold bhA; rw [e]]
    rcases (hk t tk e).2 with g | g | g
    · exact ⟨g.2.1, g.2.2⟩
    · rw [e1] at g
      exact absurd g (by decide)
    · have := kA_kind hk e
      rcases this with g' | ⟨g1, g2⟩ | ⟨g1, g2, g3, g4⟩
      · have : kwd tk.2.2.1 = 1 := by rw [← g.1]; exact e1
        exact absurd this (by
          have := kwd_tab (l := tk.2.2.1)
          intro z
          rcases this with ⟨q, hq, hq2⟩ | ⟨g5, -⟩
          · rw [← hq2] at z
            exact (show ∀ q ∈ kwds, kwd q.1 ≠ 1 by decide) q hq z
          · rw [g5] at z; cases z)
      · omega
      · omega
  · unfold plA
    cases e : ts[t]? with
    | none => show L < _; omega
    | some tk => have := (hk t tk e).1; show tk.2.1 < _; omega
  · have e := List.getElem?_eq_getElem ht
    have l := (hk t _ e).1
    have e1 : plA ts L t = (ts[t]).2.1 := by unfold plA; rw [e]
    rw [e1]
    by_cases h2 : t + 1 < ts.length
    · have e2 := List.getElem?_eq_getElem h2
      have e3 : plA ts L (t + 1) = (ts[t + 1]).2.1 := by unfold plA; rw [e2]
      rw [e3]
      exact (h.2.1 t _ _ e e2).1
    · have e3 : plA ts L (t + 1) = L := by unfold plA; rw [List.getElem?_eq_none (by omega)]
      rw [e3]
      omega
  · obtain ⟨a, ea, ha⟩ := kA_in t1 (by decide)
    obtain ⟨b, eb, hb⟩ := kA_in t2 (by decide)
    have e1 : plA ts L t = a.2.1 := by unfold plA; rw [ea]
    have e3 : plA ts L (t + 1) = b.2.1 := by unfold plA; rw [eb]
    rw [e1, e3]
    exact (h.2.1 t a b ea eb).2 ha hb
end RDA
