/-! the model's words -/
def sp1 (v : Int64) (b : Int32) : Int64 := if b ≤ 0 then v else 27 * v + b.toInt64 - 96
section RSV
variable {d : Nat} {h : aH}
theorem m_spell {a b c e f g : Int32} : aE aM183 d 0 [(0, .int a), (1, .int b), (2, .int c), (3, .int e), (4, .int f), (5, .int g)] [] h (aIs (some (.long (sp1 (sp1 (sp1 (sp1 (sp1 ((a - 96).toInt64) b) c) e) f) g))) h) := by
  have k5 : ∀ u v : Int64, aE aM183 d 129 [(6, .long u), (0, .int a), (1, .int b), (2, .int c), (3, .int e), (4, .int f), (5, .int g)] [.long v] h (aIs (some (.long v)) h) := fun u v => eR rfl rfl ⟨rfl, rfl⟩
  have s4 : ∀ u : Int64, aE aM183 d 105 [(6, .long u), (0, .int a), (1, .int b), (2, .int c), (3, .int e), (4, .int f), (5, .int g)] [] h (aIs (some (.long (sp1 u g))) h) := by
    intro u
    by_cases z : g ≤ 0
    · rw [show sp1 u g = u from if_pos z]
      refine eS rfl rfl ?_
      refine eLe rfl rfl (fun _ => ?_) (fun z' => absurd z z')
      refine eS rfl rfl ?_
      exact k5 u _
    · rw [show sp1 u g = 27 * u + g.toInt64 - 96 from if_neg z]
      refine eS rfl rfl ?_
      refine eLe rfl rfl (fun z' => absurd z' z) (fun _ => ?_)
      refine eS rfl rfl ?_
      refine eS rfl rfl ?_
      refine eS rfl rfl ?_
      refine eS rfl rfl ?_
      refine eS rfl rfl ?_
      refine eS rfl rfl ?_
      refine eS rfl rfl ?_
      refine eS rfl rfl ?_
      refine eS rfl rfl ?_
      exact k5 u _
  have k4 : ∀ u v : Int64, aE aM183 d 103 [(6, .long u), (0, .int a), (1, .int b), (2, .int c), (3, .int e), (4, .int f), (5, .int g)] [.long v] h (aIs (some (.long (sp1 v g))) h) := by
    intro u v
    refine eS rfl rfl ?_
    exact eLoc (l' := [(6, .long v), (0, .int a), (1, .int b), (2, .int c), (3, .int e), (4, .int f), (5, .int g)]) rfl ⟨rfl, rfl, rfl, rfl, rfl, rfl, rfl, trivial⟩ (s4 v)
  have s3 : ∀ u : Int64, aE aM183 d 79 [(6, .long u), (0, .int a), (1, .int b), (2, .int c), (3, .int e), (4, .int f), (5, .int g)] [] h (aIs (some (.long (sp1 (sp1 u f) g))) h) := by
    intro u
    by_cases z : f ≤ 0
    · rw [show sp1 u f = u from if_pos z]
      refine eS rfl rfl ?_
      refine eLe rfl rfl (fun _ => ?_) (fun z' => absurd z z')
      refine eS rfl rfl ?_
      exact k4 u _
    · rw [show sp1 u f = 27 * u + f.toInt64 - 96 from if_neg z]
      refine eS rfl rfl ?_
      refine eLe rfl rfl (fun z' => absurd z' z) (fun _ => ?_)
      refine eS rfl rfl ?_
      refine eS rfl rfl ?_
      refine eS rfl rfl ?_
      refine eS rfl rfl ?_
      refine eS rfl rfl ?_
      refine eS rfl rfl ?_
      refine eS rfl rfl ?_
      refine eS rfl rfl ?_
      refine eS rfl rfl ?_
      exact k4 u _
  have k3 : ∀ u v : Int64, aE aM183 d 77 [(6, .long u), (0, .int a), (1, .int b), (2, .int c), (3, .int e), (4, .int f), (5, .int g)] [.long v] h (aIs (some (.long (sp1 (sp1 v f) g))) h) := by
    intro u v
    refine eS rfl rfl ?_
    exact eLoc (l' := [(6, .long v), (0, .int a), (1, .int b), (2, .int c), (3, .int e), (4, .int f), (5, .int g)]) rfl ⟨rfl, rfl, rfl, rfl, rfl, rfl, rfl, trivial⟩ (s3 v)
  have s2 : ∀ u : Int64, aE aM183 d 55 [(6, .long u), (0, .int a), (1, .int b), (2, .int c), (3, .int e), (4, .int f), (5, .int g)] [] h (aIs (some (.long (sp1 (sp1 (sp1 u e) f) g))) h) := by
    intro u
    by_cases z : e ≤ 0
    · rw [show sp1 u e = u from if_pos z]
      refine eS rfl rfl ?_
      refine eLe rfl rfl (fun _ => ?_) (fun z' => absurd z z')
      refine eS rfl rfl ?_
      exact k3 u _
    · rw [show sp1 u e = 27 * u + e.toInt64 - 96 from if_neg z]
      refine eS rfl rfl ?_
      refine eLe rfl rfl (fun z' => absurd z' z) (fun _ => ?_)
      refine eS rfl rfl ?_
      refine eS rfl rfl ?_
      refine eS rfl rfl ?_
      refine eS rfl rfl ?_
      refine eS rfl rfl ?_
      refine eS rfl rfl ?_
      refine eS rfl rfl ?_
      refine eS rfl rfl ?_
      refine eS rfl rfl ?_
      exact k3 u _
  have k2 : ∀ u v : Int64, aE aM183 d 53 [(6, .long u), (0, .int a), (1, .int b), (2, .int c), (3, .int e), (4, .int f), (5, .int g)] [.long v] h (aIs (some (.long (sp1 (sp1 (sp1 v e) f) g))) h) := by
    intro u v
    refine eS rfl rfl ?_
    exact eLoc (l' := [(6, .long v), (0, .int a), (1, .int b), (2, .int c), (3, .int e), (4, .int f), (5, .int g)]) rfl ⟨rfl, rfl, rfl, rfl, rfl, rfl, rfl, trivial⟩ (s2 v)
  have s1 : ∀ u : Int64, aE aM183 d 31 [(6, .long u), (0, .int a), (1, .int b), (2, .int c), (3, .int e), (4, .int f), (5, .int g)] [] h (aIs (some (.long (sp1 (sp1 (sp1 (sp1 u c) e) f) g))) h) := by
    intro u
    by_cases z : c ≤ 0
    · rw [show sp1 u c = u from if_pos z]
      refine eS rfl rfl ?_
      refine eLe rfl rfl (fun _ => ?_) (fun z' => absurd z z')
      refine eS rfl rfl ?_
      exact k2 u _
    · rw [show sp1 u c = 27 * u + c.toInt64 - 96 from if_neg z]
      refine eS rfl rfl ?_
      refine eLe rfl rfl (fun z' => absurd z' z) (fun _ => ?_)
      refine eS rfl rfl ?_
      refine eS rfl rfl ?_
      refine eS rfl rfl ?_
      refine eS rfl rfl ?_
      refine eS rfl rfl ?_
      refine eS rfl rfl ?_
      refine eS rfl rfl ?_
      refine eS rfl rfl ?_
      refine eS rfl rfl ?_
      exact k2 u _
  have k1 : ∀ u v : Int64, aE aM183 d 29 [(6, .long u), (0, .int a), (1, .int b), (2, .int c), (3, .int e), (4, .int f), (5, .int g)] [.long v] h (aIs (some (.long (sp1 (sp1 (sp1 (sp1 v c) e) f) g))) h) := by
    intro u v
    refine eS rfl rfl ?_
    exact eLoc (l' := [(6, .long v), (0, .int a), (1, .int b), (2, .int c), (3, .int e), (4, .int f), (5, .int g)]) rfl ⟨rfl, rfl, rfl, rfl, rfl, rfl, rfl, trivial⟩ (s1 v)
  have s0 : ∀ u : Int64, aE aM183 d 7 [(6, .long u), (0, .int a), (1, .int b), (2, .int c), (3, .int e), (4, .int f), (5, .int g)] [] h (aIs (some (.long (sp1 (sp1 (sp1 (sp1 (sp1 u b) c) e) f) g))) h) := by
    intro u
    by_cases z : b ≤ 0
    · rw [show sp1 u b = u from if_pos z]
      refine eS rfl rfl ?_
      refine eLe rfl rfl (fun _ => ?_) (fun z' => absurd z z')
      refine eS rfl rfl ?_
      exact k1 u _
    · rw [show sp1 u b = 27 * u + b.toInt64 - 96 from if_neg z]
      refine eS rfl rfl ?_
      refine eLe rfl rfl (fun z' => absurd z' z) (fun _ => ?_)
      refine eS rfl rfl ?_
      refine eS rfl rfl ?_
      refine eS rfl rfl ?_
      refine eS rfl rfl ?_
      refine eS rfl rfl ?_
      refine eS rfl rfl ?_
      refine eS rfl rfl ?_
      refine eS rfl rfl ?_
      refine eS rfl rfl ?_
      exact k1 u _
  refine eS rfl rfl ?_
  refine eS rfl rfl ?_
  refine eS rfl rfl ?_
  refine eS rfl rfl ?_
  refine eS rfl rfl ?_
  exact eLoc (l' := [(6, .long (a - 96).toInt64), (0, .int a), (1, .int b), (2, .int c), (3, .int e), (4, .int f), (5, .int g)]) rfl ⟨rfl, rfl, rfl, rfl, rfl, rfl, rfl, trivial⟩ (s0 (a - 96).toInt64)
def rsvV (l : List Nat) : Nat := match kwds.findIdx? (fun q => q.1 == l) with | some i => i + 1 | none => 0
set_option maxRecDepth 4000 in
theorem m_reserved {l : List Nat} (hl : nmOk l) : aE aM182 (d + 1) 0 [(0, .long (Int64.ofNat (pk 27 l)))] [] h (aIs (some (.int (Int32.ofNat (rsvV l)))) h) := by
  have v0 : (sp1 (sp1 (sp1 (sp1 (sp1 (((116 : Int32) - 96).toInt64) 111) 0) 0) 0) 0) = Int64.ofNat (pk 27 [20, 15]) := by decide +kernel
  have e0 := (nm_eq (Or.inl rfl) hl (show nmOk [20, 15] from ⟨by decide, by decide⟩)).symm
  have v1 : (sp1 (sp1 (sp1 (sp1 (sp1 (((102 : Int32) - 96).toInt64) 100) 0) 0) 0) 0) = Int64.ofNat (pk 27 [6, 4]) := by decide +kernel
  have e1 := (nm_eq (Or.inl rfl) hl (show nmOk [6, 4] from ⟨by decide, by decide⟩)).symm
  have v2 : (sp1 (sp1 (sp1 (sp1 (sp1 (((98 : Int32) - 96).toInt64) 107) 0) 0) 0) 0) = Int64.ofNat (pk 27 [2, 11]) := by decide +kernel
  have e2 := (nm_eq (Or.inl rfl) hl (show nmOk [2, 11] from ⟨by decide, by decide⟩)).symm
  have v3 : (sp1 (sp1 (sp1 (sp1 (sp1 (((114 : Int32) - 96).toInt64) 116) 0) 0) 0) 0) = Int64.ofNat (pk 27 [18, 20]) := by decide +kernel
  have e3 := (nm_eq (Or.inl rfl) hl (show nmOk [18, 20] from ⟨by decide, by decide⟩)).symm
  have v4 : (sp1 (sp1 (sp1 (sp1 (sp1 (((108 : Int32) - 96).toInt64) 116) 0) 0) 0) 0) = Int64.ofNat (pk 27 [12, 20]) := by decide +kernel
  have e4 := (nm_eq (Or.inl rfl) hl (show nmOk [12, 20] from ⟨by decide, by decide⟩)).symm
  have v5 : (sp1 (sp1 (sp1 (sp1 (sp1 (((112 : Int32) - 96).toInt64) 101) 110) 0) 0) 0) = Int64.ofNat (pk 27 [16, 5, 14]) := by decide +kernel
  have e5 := (nm_eq (Or.inl rfl) hl (show nmOk [16, 5, 14] from ⟨by decide, by decide⟩)).symm
  have v6 : (sp1 (sp1 (sp1 (sp1 (sp1 (((117 : Int32) - 96).toInt64) 112) 0) 0) 0) 0) = Int64.ofNat (pk 27 [21, 16]) := by decide +kernel
  have e6 := (nm_eq (Or.inl rfl) hl (show nmOk [21, 16] from ⟨by decide, by decide⟩)).symm
  have v7 : (sp1 (sp1 (sp1 (sp1 (sp1 (((100 : Int32) - 96).toInt64) 111) 119) 110) 0) 0) = Int64.ofNat (pk 27 [4, 15, 23, 14]) := by decide +kernel
  have e7 := (nm_eq (Or.inl rfl) hl (show nmOk [4, 15, 23, 14] from ⟨by decide, by decide⟩)).symm
  have v8 : (sp1 (sp1 (sp1 (sp1 (sp1 (((102 : Int32) - 96).toInt64) 105) 108) 108) 0) 0) = Int64.ofNat (pk 27 [6, 9, 12, 12]) := by decide +kernel
  have e8 := (nm_eq (Or.inl rfl) hl (show nmOk [6, 9, 12, 12] from ⟨by decide, by decide⟩)).symm
  have v9 : (sp1 (sp1 (sp1 (sp1 (sp1 (((104 : Int32) - 96).toInt64) 111) 109) 101) 0) 0) = Int64.ofNat (pk 27 [8, 15, 13, 5]) := by decide +kernel
  have e9 := (nm_eq (Or.inl rfl) hl (show nmOk [8, 15, 13, 5] from ⟨by decide, by decide⟩)).symm
  have v10 : (sp1 (sp1 (sp1 (sp1 (sp1 (((115 : Int32) - 96).toInt64) 116) 111) 112) 0) 0) = Int64.ofNat (pk 27 [19, 20, 15, 16]) := by decide +kernel
  have e10 := (nm_eq (Or.inl rfl) hl (show nmOk [19, 20, 15, 16] from ⟨by decide, by decide⟩)).symm
  have v11 : (sp1 (sp1 (sp1 (sp1 (sp1 (((108 : Int32) - 96).toInt64) 101) 116) 0) 0) 0) = Int64.ofNat (pk 27 [12, 5, 20]) := by decide +kernel
  have e11 := (nm_eq (Or.inl rfl) hl (show nmOk [12, 5, 20] from ⟨by decide, by decide⟩)).symm
  have v12 : (sp1 (sp1 (sp1 (sp1 (sp1 (((114 : Int32) - 96).toInt64) 101) 112) 101) 97) 116) = Int64.ofNat (pk 27 [18, 5, 16, 5, 1, 20]) := by decide +kernel
  have e12 := (nm_eq (Or.inl rfl) hl (show nmOk [18, 5, 16, 5, 1, 20] from ⟨by decide, by decide⟩)).symm
  have v13 : (sp1 (sp1 (sp1 (sp1 (sp1 (((119 : Int32) - 96).toInt64) 104) 105) 108) 101) 0) = Int64.ofNat (pk 27 [23, 8, 9, 12, 5]) := by decide +kernel
  have e13 := (nm_eq (Or.inl rfl) hl (show nmOk [23, 8, 9, 12, 5] from ⟨by decide, by decide⟩)).symm
  have v14 : (sp1 (sp1 (sp1 (sp1 (sp1 (((105 : Int32) - 96).toInt64) 102) 0) 0) 0) 0) = Int64.ofNat (pk 27 [9, 6]) := by decide +kernel
  have e14 := (nm_eq (Or.inl rfl) hl (show nmOk [9, 6] from ⟨by decide, by decide⟩)).symm
  have v15 : (sp1 (sp1 (sp1 (sp1 (sp1 (((101 : Int32) - 96).toInt64) 108) 115) 101) 0) 0) = Int64.ofNat (pk 27 [5, 12, 19, 5]) := by decide +kernel
  have e15 := (nm_eq (Or.inl rfl) hl (show nmOk [5, 12, 19, 5] from ⟨by decide, by decide⟩)).symm
  refine eS rfl rfl ?_
  refine eS rfl rfl ?_
  refine eS rfl rfl ?_
  refine eS rfl rfl ?_
  refine eS rfl rfl ?_
  refine eS rfl rfl ?_
  refine eS rfl rfl ?_
  refine eC1 rfl rfl rfl ⟨catOk rfl, catOk rfl⟩ (v := some (.long (Int64.ofNat (pk 27 [20, 15])))) (by have q := m_spell (d := d) (h := h) (a := 116) (b := 111) (c := 0) (e := 0) (f := 0) (g := 0); rw [v0] at q; exact q) ?_
  refine eS rfl rfl ?_
  by_cases c0 : l = [20, 15]
  · have z0 := lg_eq.mpr (e0.mp c0)
    refine eNe rfl rfl (fun z => absurd z0 z) (fun _ => ?_)
    refine eS rfl rfl ?_
    exact eR rfl rfl ⟨by subst c0; rfl, rfl⟩
  refine eNe rfl rfl (fun _ => ?_) (fun z => absurd (e0.mpr (lg_eq.mp z)) c0)
  refine eS rfl rfl ?_
  refine eS rfl rfl ?_
  refine eS rfl rfl ?_
  refine eS rfl rfl ?_
  refine eS rfl rfl ?_
  refine eS rfl rfl ?_
  refine eS rfl rfl ?_
  refine eC1 rfl rfl rfl ⟨catOk rfl, catOk rfl⟩ (v := some (.long (Int64.ofNat (pk 27 [6, 4])))) (by have q := m_spell (d := d) (h := h) (a := 102) (b := 100) (c := 0) (e := 0) (f := 0) (g := 0); rw [v1] at q; exact q) ?_
  refine eS rfl rfl ?_
  by_cases c1 : l = [6, 4]
  · have z0 := lg_eq.mpr (e1.mp c1)
    refine eNe rfl rfl (fun z => absurd z0 z) (fun _ => ?_)
    refine eS rfl rfl ?_
    exact eR rfl rfl ⟨by subst c1; rfl, rfl⟩
  refine eNe rfl rfl (fun _ => ?_) (fun z => absurd (e1.mpr (lg_eq.mp z)) c1)
  refine eS rfl rfl ?_
  refine eS rfl rfl ?_
  refine eS rfl rfl ?_
  refine eS rfl rfl ?_
  refine eS rfl rfl ?_
  refine eS rfl rfl ?_
  refine eS rfl rfl ?_
  refine eC1 rfl rfl rfl ⟨catOk rfl, catOk rfl⟩ (v := some (.long (Int64.ofNat (pk 27 [2, 11])))) (by have q := m_spell (d := d) (h := h) (a := 98) (b := 107) (c := 0) (e := 0) (f := 0) (g := 0); rw [v2] at q; exact q) ?_
  refine eS rfl rfl ?_
  by_cases c2 : l = [2, 11]
  · have z0 := lg_eq.mpr (e2.mp c2)
    refine eNe rfl rfl (fun z => absurd z0 z) (fun _ => ?_)
    refine eS rfl rfl ?_
    exact eR rfl rfl ⟨by subst c2; rfl, rfl⟩
  refine eNe rfl rfl (fun _ => ?_) (fun z => absurd (e2.mpr (lg_eq.mp z)) c2)
  refine eS rfl rfl ?_
  refine eS rfl rfl ?_
  refine eS rfl rfl ?_
  refine eS rfl rfl ?_
  refine eS rfl rfl ?_
  refine eS rfl rfl ?_
  refine eS rfl rfl ?_
  refine eC1 rfl rfl rfl ⟨catOk rfl, catOk rfl⟩ (v := some (.long (Int64.ofNat (pk 27 [18, 20])))) (by have q := m_spell (d := d) (h := h) (a := 114) (b := 116) (c := 0) (e := 0) (f := 0) (g := 0); rw [v3] at q; exact q) ?_
  refine eS rfl rfl ?_
  by_cases c3 : l = [18, 20]
  · have z0 := lg_eq.mpr (e3.mp c3)
    refine eNe rfl rfl (fun z => absurd z0 z) (fun _ => ?_)
    refine eS rfl rfl ?_
    exact eR rfl rfl ⟨by subst c3; rfl, rfl⟩
  refine eNe rfl rfl (fun _ => ?_) (fun z => absurd (e3.mpr (lg_eq.mp z)) c3)
  refine eS rfl rfl ?_
  refine eS rfl rfl ?_
  refine eS rfl rfl ?_
  refine eS rfl rfl ?_
  refine eS rfl rfl ?_
  refine eS rfl rfl ?_
  refine eS rfl rfl ?_
  refine eC1 rfl rfl rfl ⟨catOk rfl, catOk rfl⟩ (v := some (.long (Int64.ofNat (pk 27 [12, 20])))) (by have q := m_spell (d := d) (h := h) (a := 108) (b := 116) (c := 0) (e := 0) (f := 0) (g := 0); rw [v4] at q; exact q) ?_
  refine eS rfl rfl ?_
  by_cases c4 : l = [12, 20]
  · have z0 := lg_eq.mpr (e4.mp c4)
    refine eNe rfl rfl (fun z => absurd z0 z) (fun _ => ?_)
    refine eS rfl rfl ?_
    exact eR rfl rfl ⟨by subst c4; rfl, rfl⟩
  refine eNe rfl rfl (fun _ => ?_) (fun z => absurd (e4.mpr (lg_eq.mp z)) c4)
  refine eS rfl rfl ?_
  refine eS rfl rfl ?_
  refine eS rfl rfl ?_
  refine eS rfl rfl ?_
  refine eS rfl rfl ?_
  refine eS rfl rfl ?_
  refine eS rfl rfl ?_
  refine eC1 rfl rfl rfl ⟨catOk rfl, catOk rfl⟩ (v := some (.long (Int64.ofNat (pk 27 [16, 5, 14])))) (by have q := m_spell (d := d) (h := h) (a := 112) (b := 101) (c := 110) (e := 0) (f := 0) (g := 0); rw [v5] at q; exact q) ?_
  refine eS rfl rfl ?_
  by_cases c5 : l = [16, 5, 14]
  · have z0 := lg_eq.mpr (e5.mp c5)
    refine eNe rfl rfl (fun z => absurd z0 z) (fun _ => ?_)
    refine eS rfl rfl ?_
    exact eR rfl rfl ⟨by subst c5; rfl, rfl⟩
  refine eNe rfl rfl (fun _ => ?_) (fun z => absurd (e5.mpr (lg_eq.mp z)) c5)
  refine eS rfl rfl ?_
  refine eS rfl rfl ?_
  refine eS rfl rfl ?_
  refine eS rfl rfl ?_
  refine eS rfl rfl ?_
  refine eS rfl rfl ?_
  refine eS rfl rfl ?_
  refine eC1 rfl rfl rfl ⟨catOk rfl, catOk rfl⟩ (v := some (.long (Int64.ofNat (pk 27 [21, 16])))) (by have q := m_spell (d := d) (h := h) (a := 117) (b := 112) (c := 0) (e := 0) (f := 0) (g := 0); rw [v6] at q; exact q) ?_
  refine eS rfl rfl ?_
  by_cases c6 : l = [21, 16]
  · have z0 := lg_eq.mpr (e6.mp c6)
    refine eNe rfl rfl (fun z => absurd z0 z) (fun _ => ?_)
    refine eS rfl rfl ?_
    exact eR rfl rfl ⟨by subst c6; rfl, rfl⟩
  refine eNe rfl rfl (fun _ => ?_) (fun z => absurd (e6.mpr (lg_eq.mp z)) c6)
  refine eS rfl rfl ?_
  refine eS rfl rfl ?_
  refine eS rfl rfl ?_
  refine eS rfl rfl ?_
  refine eS rfl rfl ?_
  refine eS rfl rfl ?_
  refine eS rfl rfl ?_
  refine eC1 rfl rfl rfl ⟨catOk rfl, catOk rfl⟩ (v := some (.long (Int64.ofNat (pk 27 [4, 15, 23, 14])))) (by have q := m_spell (d := d) (h := h) (a := 100) (b := 111) (c := 119) (e := 110) (f := 0) (g := 0); rw [v7] at q; exact q) ?_
  refine eS rfl rfl ?_
  by_cases c7 : l = [4, 15, 23, 14]
  · have z0 := lg_eq.mpr (e7.mp c7)
    refine eNe rfl rfl (fun z => absurd z0 z) (fun _ => ?_)
    refine eS rfl rfl ?_
    exact eR rfl rfl ⟨by subst c7; rfl, rfl⟩
  refine eNe rfl rfl (fun _ => ?_) (fun z => absurd (e7.mpr (lg_eq.mp z)) c7)
  refine eS rfl rfl ?_
  refine eS rfl rfl ?_
  refine eS rfl rfl ?_
  refine eS rfl rfl ?_
  refine eS rfl rfl ?_
  refine eS rfl rfl ?_
  refine eS rfl rfl ?_
  refine eC1 rfl rfl rfl ⟨catOk rfl, catOk rfl⟩ (v := some (.long (Int64.ofNat (pk 27 [6, 9, 12, 12])))) (by have q := m_spell (d := d) (h := h) (a := 102) (b := 105) (c := 108) (e := 108) (f := 0) (g := 0); rw [v8] at q; exact q) ?_
  refine eS rfl rfl ?_
  by_cases c8 : l = [6, 9, 12, 12]
  · have z0 := lg_eq.mpr (e8.mp c8)
    refine eNe rfl rfl (fun z => absurd z0 z) (fun _ => ?_)
    refine eS rfl rfl ?_
    exact eR rfl rfl ⟨by subst c8; rfl, rfl⟩
  refine eNe rfl rfl (fun _ => ?_) (fun z => absurd (e8.mpr (lg_eq.mp z)) c8)
  refine eS rfl rfl ?_
  refine eS rfl rfl ?_
  refine eS rfl rfl ?_
  refine eS rfl rfl ?_
  refine eS rfl rfl ?_
  refine eS rfl rfl ?_
  refine eS rfl rfl ?_
  refine eC1 rfl rfl rfl ⟨catOk rfl, catOk rfl⟩ (v := some (.long (Int64.ofNat (pk 27 [8, 15, 13, 5])))) (by have q := m_spell (d := d) (h := h) (a := 104) (b := 111) (c := 109) (e := 101) (f := 0) (g := 0); rw [v9] at q; exact q) ?_
  refine eS rfl rfl ?_
  by_cases c9 : l = [8, 15, 13, 5]
  · have z0 := lg_eq.mpr (e9.mp c9)
    refine eNe rfl rfl (fun z => absurd z0 z) (fun _ => ?_)
    refine eS rfl rfl ?_
    exact eR rfl rfl ⟨by subst c9; rfl, rfl⟩
  refine eNe rfl rfl (fun _ => ?_) (fun z => absurd (e9.mpr (lg_eq.mp z)) c9)
  refine eS rfl rfl ?_
  refine eS rfl rfl ?_
  refine eS rfl rfl ?_
  refine eS rfl rfl ?_
  refine eS rfl rfl ?_
  refine eS rfl rfl ?_
  refine eS rfl rfl ?_
  refine eC1 rfl rfl rfl ⟨catOk rfl, catOk rfl⟩ (v := some (.long (Int64.ofNat (pk 27 [19, 20, 15, 16])))) (by have q := m_spell (d := d) (h := h) (a := 115) (b := 116) (c := 111) (e := 112) (f := 0) (g := 0); rw [v10] at q; exact q) ?_
  refine eS rfl rfl ?_
  by_cases c10 : l = [19, 20, 15, 16]
  · have z0 := lg_eq.mpr (e10.mp c10)
    refine eNe rfl rfl (fun z => absurd z0 z) (fun _ => ?_)
    refine eS rfl rfl ?_
    exact eR rfl rfl ⟨by subst c10; rfl, rfl⟩
  refine eNe rfl rfl (fun _ => ?_) (fun z => absurd (e10.mpr (lg_eq.mp z)) c10)
  refine eS rfl rfl ?_
  refine eS rfl rfl ?_
  refine eS rfl rfl ?_
  refine eS rfl rfl ?_
  refine eS rfl rfl ?_
  refine eS rfl rfl ?_
  refine eS rfl rfl ?_
  refine eC1 rfl rfl rfl ⟨catOk rfl, catOk rfl⟩ (v := some (.long (Int64.ofNat (pk 27 [12, 5, 20])))) (by have q := m_spell (d := d) (h := h) (a := 108) (b := 101) (c := 116) (e := 0) (f := 0) (g := 0); rw [v11] at q; exact q) ?_
  refine eS rfl rfl ?_
  by_cases c11 : l = [12, 5, 20]
  · have z0 := lg_eq.mpr (e11.mp c11)
    refine eNe rfl rfl (fun z => absurd z0 z) (fun _ => ?_)
    refine eS rfl rfl ?_
    exact eR rfl rfl ⟨by subst c11; rfl, rfl⟩
  refine eNe rfl rfl (fun _ => ?_) (fun z => absurd (e11.mpr (lg_eq.mp z)) c11)
  refine eS rfl rfl ?_
  refine eS rfl rfl ?_
  refine eS rfl rfl ?_
  refine eS rfl rfl ?_
  refine eS rfl rfl ?_
  refine eS rfl rfl ?_
  refine eS rfl rfl ?_
  refine eC1 rfl rfl rfl ⟨catOk rfl, catOk rfl⟩ (v := some (.long (Int64.ofNat (pk 27 [18, 5, 16, 5, 1, 20])))) (by have q := m_spell (d := d) (h := h) (a := 114) (b := 101) (c := 112) (e := 101) (f := 97) (g := 116); rw [v12] at q; exact q) ?_
  refine eS rfl rfl ?_
  by_cases c12 : l = [18, 5, 16, 5, 1, 20]
  · have z0 := lg_eq.mpr (e12.mp c12)
    refine eNe rfl rfl (fun z => absurd z0 z) (fun _ => ?_)
    refine eS rfl rfl ?_
    exact eR rfl rfl ⟨by subst c12; rfl, rfl⟩
  refine eNe rfl rfl (fun _ => ?_) (fun z => absurd (e12.mpr (lg_eq.mp z)) c12)
  refine eS rfl rfl ?_
  refine eS rfl rfl ?_
  refine eS rfl rfl ?_
  refine eS rfl rfl ?_
  refine eS rfl rfl ?_
  refine eS rfl rfl ?_
  refine eS rfl rfl ?_
  refine eC1 rfl rfl rfl ⟨catOk rfl, catOk rfl⟩ (v := some (.long (Int64.ofNat (pk 27 [23, 8, 9, 12, 5])))) (by have q := m_spell (d := d) (h := h) (a := 119) (b := 104) (c := 105) (e := 108) (f := 101) (g := 0); rw [v13] at q; exact q) ?_
  refine eS rfl rfl ?_
  by_cases c13 : l = [23, 8, 9, 12, 5]
  · have z0 := lg_eq.mpr (e13.mp c13)
    refine eNe rfl rfl (fun z => absurd z0 z) (fun _ => ?_)
    refine eS rfl rfl ?_
    exact eR rfl rfl ⟨by subst c13; rfl, rfl⟩
  refine eNe rfl rfl (fun _ => ?_) (fun z => absurd (e13.mpr (lg_eq.mp z)) c13)
  refine eS rfl rfl ?_
  refine eS rfl rfl ?_
  refine eS rfl rfl ?_
  refine eS rfl rfl ?_
  refine eS rfl rfl ?_
  refine eS rfl rfl ?_
  refine eS rfl rfl ?_
  refine eC1 rfl rfl rfl ⟨catOk rfl, catOk rfl⟩ (v := some (.long (Int64.ofNat (pk 27 [9, 6])))) (by have q := m_spell (d := d) (h := h) (a := 105) (b := 102) (c := 0) (e := 0) (f := 0) (g := 0); rw [v14] at q; exact q) ?_
  refine eS rfl rfl ?_
  by_cases c14 : l = [9, 6]
  · have z0 := lg_eq.mpr (e14.mp c14)
    refine eNe rfl rfl (fun z => absurd z0 z) (fun _ => ?_)
    refine eS rfl rfl ?_
    exact eR rfl rfl ⟨by subst c14; rfl, rfl⟩
  refine eNe rfl rfl (fun _ => ?_) (fun z => absurd (e14.mpr (lg_eq.mp z)) c14)
  refine eS rfl rfl ?_
  refine eS rfl rfl ?_
  refine eS rfl rfl ?_
  refine eS rfl rfl ?_
  refine eS rfl rfl ?_
  refine eS rfl rfl ?_
  refine eS rfl rfl ?_
  refine eC1 rfl rfl rfl ⟨catOk rfl, catOk rfl⟩ (v := some (.long (Int64.ofNat (pk 27 [5, 12, 19, 5])))) (by have q := m_spell (d := d) (h := h) (a := 101) (b := 108) (c := 115) (e := 101) (f := 0) (g := 0); rw [v15] at q; exact q) ?_
  refine eS rfl rfl ?_
  by_cases c15 : l = [5, 12, 19, 5]
  · have z0 := lg_eq.mpr (e15.mp c15)
    refine eNe rfl rfl (fun z => absurd z0 z) (fun _ => ?_)
    refine eS rfl rfl ?_
    refine eS rfl rfl ?_
    exact eR rfl rfl ⟨by subst c15; rfl, rfl⟩
  refine eNe rfl rfl (fun _ => ?_) (fun z => absurd (e15.mpr (lg_eq.mp z)) c15)
  refine eS rfl rfl ?_
  refine eR rfl rfl ⟨?_, rfl⟩
  have e : rsvV l = 0 := by
    unfold rsvV kwds
    simp [List.findIdx?_cons, Ne.symm c0, Ne.symm c1, Ne.symm c2, Ne.symm c3, Ne.symm c4, Ne.symm c5, Ne.symm c6, Ne.symm c7, Ne.symm c8, Ne.symm c9, Ne.symm c10, Ne.symm c11, Ne.symm c12, Ne.symm c13, Ne.symm c14, Ne.symm c15]
  rw [e]
  rfl
end RSV
