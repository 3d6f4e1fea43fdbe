/-! floats that the machine meets: all finite, within 2^21 -/
def gF (f : UInt32) : Prop := f.toNat % 2 ^ 31 < 148 * 2 ^ 23
def gX (f : UInt32) : Prop := f.toNat % 2 ^ 31 < 137 * 2 ^ 23
theorem gX.gF {f : UInt32} (h : gX f) : gF f := Nat.lt_of_lt_of_le h (by decide)
theorem gF.fin {f : UInt32} (h : gF f) : FP.Core.FFin f := FP.Core.fin_of_lt32 h (by decide)
theorem gF.nn {f : UInt32} (h : gF f) : FP.Core.val32 f ≠ .nan := h.fin.ne_nan
theorem n32_of {r : UInt32} (h : FP.Core.fIsNaN r = false) : aN32 r = true := by
  have h1 : r.toNat % 2 ^ 31 ≤ 2139095040 := (FP.Core.ne_nan32 r).mp ((FP.Core.notNaN_iff32 r).mp h)
  unfold aN32
  rw [decide_eq_true_eq, UInt32.le_iff_toNat_le, UInt32.toNat_and]
  show r.toNat &&& (2 ^ 31 - 1) ≤ 2139095040
  rw [Nat.and_two_pow_sub_one_eq_mod]
  exact h1
theorem n32_nn {r : UInt32} (h : aN32 r = true) : FP.Core.val32 r ≠ .nan := by
  unfold aN32 at h
  rw [decide_eq_true_eq, UInt32.le_iff_toNat_le, UInt32.toNat_and] at h
  change r.toNat &&& (2 ^ 31 - 1) ≤ 2139095040 at h
  rw [Nat.and_two_pow_sub_one_eq_mod] at h
  exact (FP.Core.ne_nan32 r).mpr h
theorem n32_add {a b : UInt32} (ha : aN32 a = true) (hb : FP.Core.FFin b) : aN32 (FP.fadd a b) = true := by
  refine n32_of (FP.Core.not_true32 (FP.Core.fadd_nan_iff a b) ?_)
  rintro (z | z | ⟨s, -, z⟩)
  · exact n32_nn ha z
  · exact hb.ne_nan z
  · exact hb.ne_inf _ z
theorem n32_sub {a b : UInt32} (ha : gF a) (hb : gF b) : aN32 (FP.fsub a b) = true := by
  refine n32_of (FP.Core.not_true32 (FP.Core.fsub_nan_iff a b) ?_)
  rintro (z | z | ⟨s, -, z⟩)
  · exact ha.nn z
  · exact hb.nn z
  · exact hb.fin.ne_inf _ z
theorem n32_mul {a b : UInt32} (ha : gF a) (hb : gF b) : aN32 (FP.fmul a b) = true := by
  refine n32_of (FP.Core.not_true32 (FP.Core.fmul_nan_iff a b) ?_)
  rintro (z | z | ⟨s, z, -⟩ | ⟨s, -, z⟩)
  · exact ha.nn z
  · exact hb.nn z
  · exact ha.fin.ne_inf _ z
  · exact hb.fin.ne_inf _ z
theorem fz_cmp {b : UInt32} (h : FP.Core.FZero b) : FP.fcmp b 0 = some .eq := by
  refine FP.Core.fcmp_eq.mpr ⟨h.fin.ne_nan, by decide +kernel, ?_⟩
  rw [h.zval]
  decide +kernel
theorem n32_div {a b : UInt32} (ha : gF a) (hb : gF b) (h0 : FP.fcmp b 0 ≠ some .eq) : aN32 (FP.fdiv a b) = true := by
  refine n32_of (FP.Core.not_true32 (FP.Core.fdiv_nan_iff a b) ?_)
  rintro (z | z | ⟨s, t, z, -⟩ | ⟨-, z⟩)
  · exact ha.nn z
  · exact hb.nn z
  · exact ha.fin.ne_inf _ z
  · exact h0 (fz_cmp z)
/-! comparisons as the code makes them -/
section CV
variable {a b : UInt32} {op : CmpOp}
theorem cv_some (ha : FP.Core.val32 a ≠ .nan) (hb : FP.Core.val32 b ≠ .nan) : ∃ o, FP.fcmp a b = some o := ⟨_, FP.Core.fcmp_key ha hb⟩
theorem cv_lt (ha : FP.Core.val32 a ≠ .nan) (hb : FP.Core.val32 b ≠ .nan) : Op.cmpValue (FP.fcmp a b) op < 0 ↔ FP.fcmp a b = some .lt := by
  obtain ⟨o, e⟩ := cv_some ha hb
  rw [e]
  cases o <;> simp [Op.cmpValue]
theorem cv_gt (ha : FP.Core.val32 a ≠ .nan) (hb : FP.Core.val32 b ≠ .nan) : 0 < Op.cmpValue (FP.fcmp a b) op ↔ FP.fcmp a b = some .gt := by
  obtain ⟨o, e⟩ := cv_some ha hb
  rw [e]
  cases o <;> simp [Op.cmpValue]
theorem cv_eq (ha : FP.Core.val32 a ≠ .nan) (hb : FP.Core.val32 b ≠ .nan) : Op.cmpValue (FP.fcmp a b) op = 0 ↔ FP.fcmp a b = some .eq := by
  obtain ⟨o, e⟩ := cv_some ha hb
  rw [e]
  cases o <;> simp [Op.cmpValue]
theorem cv_le (ha : FP.Core.val32 a ≠ .nan) (hb : FP.Core.val32 b ≠ .nan) : Op.cmpValue (FP.fcmp a b) op ≤ 0 ↔ ¬ FP.fcmp a b = some .gt := by
  obtain ⟨o, e⟩ := cv_some ha hb
  rw [e]
  cases o <;> simp [Op.cmpValue]
theorem cv_ge (ha : FP.Core.val32 a ≠ .nan) (hb : FP.Core.val32 b ≠ .nan) : 0 ≤ Op.cmpValue (FP.fcmp a b) op ↔ ¬ FP.fcmp a b = some .lt := by
  obtain ⟨o, e⟩ := cv_some ha hb
  rw [e]
  cases o <;> simp [Op.cmpValue]
end CV
theorem key_mag {f : UInt32} : (FP.Core.fkey f).natAbs = f.toNat % 2 ^ 31 ∨ (2 ^ 31 ≤ f.toNat) := by
  unfold FP.Core.fkey
  by_cases h : 2 ^ 31 ≤ f.toNat
  · exact Or.inr h
  · rw [if_neg h]
    refine Or.inl ?_
    rw [Int.natAbs_natCast]
    omega
theorem key_abs {f : UInt32} : (FP.Core.fkey f).natAbs = f.toNat % 2 ^ 31 := by
  have := f.toNat_lt
  unfold FP.Core.fkey
  split <;> omega
theorem mag_in {f hi lo : UInt32} {N : Nat} (hf : aN32 f = true) (hhi : FP.Core.val32 hi ≠ .nan) (hlo : FP.Core.val32 lo ≠ .nan) (h1 : ¬ FP.fcmp f hi = some .gt) (h2 : ¬ FP.fcmp f lo = some .lt) (k1 : FP.Core.fkey hi < N) (k2 : -(N : Int) < FP.Core.fkey lo) : f.toNat % 2 ^ 31 < N := by
  have n := n32_nn hf
  rw [FP.fcmp_core, FP.Core.fcmp_gt_key n hhi] at h1
  rw [FP.fcmp_core, FP.Core.fcmp_lt_key n hlo] at h2
  rw [← key_abs]
  omega
/-- 100000, -100000, 1000, -1000 -/
theorem gF_in {f : UInt32} (hf : aN32 f = true) (h1 : ¬ FP.fcmp f 1203982336 = some .gt) (h2 : ¬ FP.fcmp f 3351465984 = some .lt) : gF f := mag_in hf (by decide +kernel) (by decide +kernel) h1 h2 (by decide +kernel) (by decide +kernel)
theorem gX_in {f : UInt32} (hf : aN32 f = true) (h1 : ¬ FP.fcmp f 1148846080 = some .gt) (h2 : ¬ FP.fcmp f 3296329728 = some .lt) : gX f := mag_in hf (by decide +kernel) (by decide +kernel) h1 h2 (by decide +kernel) (by decide +kernel)
theorem gF_neg {f : UInt32} (h : gF f) : gF (FP.fneg f) := by
  unfold gF
  rw [FP.fneg_xor, UInt32.toNat_xor, Nat.xor_mod_two_pow]
  rw [show (2147483648 : UInt32).toNat % 2 ^ 31 = 0 by decide, Nat.xor_zero]
  exact h
theorem okF_of {f : UInt32} (h : gF f) : okF f := by
  have h1 : FP.dIsNaN (FP.f2d f) = false := (FP.f2d_nan f).trans ((FP.Core.notNaN_iff32 f).mpr h.nn)
  have h2 : FP.Core.val64 (FP.f2d f) ≠ .nan := (FP.Core.notNaN_iff _).mp h1
  refine ⟨?_, ?_⟩
  · have h3 := (FP.Core.ne_nan (FP.f2d f)).mp h2
    unfold aN64
    rw [decide_eq_true_eq, UInt64.le_iff_toNat_le, UInt64.toNat_and]
    show (FP.f2d f).toNat &&& (2 ^ 63 - 1) ≤ 9218868437227405312
    rw [Nat.and_two_pow_sub_one_eq_mod]
    exact h3
  · rw [FP.dcmp_core, FP.Core.dcmp_self h2]
    rfl
theorem gF_i2f {n : Int32} (h : n.toInt.natAbs ≤ 2 ^ 20) : (FP.i2f n).toNat % 2 ^ 31 ≤ 147 * 2 ^ 23 := FP.Core.fromInt_mag32 (FP.Core.toNat_i2f n) h (by decide) (by decide)
theorem gF_num {n : Int32} {d : UInt32} (h : n.toInt.natAbs ≤ 2 ^ 20) (hd : d = 1092616192 ∨ d = 1120403456) : gF (FP.fdiv (FP.i2f n) d) := by
  have := FP.Core.fdiv_mag (a := FP.i2f n) (b := d) (K := 148) (L := 130) (Nat.lt_of_le_of_lt (gF_i2f h) (by decide)) (by rcases hd with rfl | rfl <;> decide +kernel) (by rcases hd with rfl | rfl <;> decide +kernel) (by decide) (by decide)
  exact Nat.lt_of_lt_of_le this (by decide)
theorem fdiv_1 {n : Int32} (h : n.toInt.natAbs ≤ 2 ^ 20) : FP.fdiv (FP.i2f n) FP.fconst1 = FP.i2f n := FP.Core.fdiv_one (gF.nn (Nat.lt_of_le_of_lt (gF_i2f h) (by decide)))
/-- whole parts -/
theorem f2i_abs {f : UInt32} {K : Nat} (h : f.toNat % 2 ^ 31 < K * 2 ^ 23) (h1 : 127 ≤ K) (h2 : K ≤ 150) : (FP.f2i f).toInt.natAbs ≤ 2 ^ (K - 127) := by
  have hn : FP.Core.val32 f ≠ .nan := (FP.Core.fin_of_lt32 h (by omega)).ne_nan
  rw [FP.f2i_core, FP.Core.f2i_val hn, FP.Core.zmag_toNat32 hn]
  have hu := (FP.Core.units_lt_start (f := FP.Core.b32) (m := f.toNat % 2 ^ 31) (K := K) (by rw [FP.Core.tails_b32]; exact h)).2
  rw [FP.Core.tails_b32, ← Nat.pow_add] at hu
  have hd : FP.Core.unitsOf FP.Core.b32 (f.toNat % 2 ^ 31) / FP.Core.one32 < 2 ^ (K - 127) := by
    rw [Nat.div_lt_iff_lt_mul FP.Core.one32_pos]
    refine Nat.lt_of_lt_of_le hu ?_
    rw [show FP.Core.one32 = 2 ^ 149 by decide +kernel, ← Nat.pow_add]
    exact Nat.pow_le_pow_right (by decide) (by omega)
  generalize FP.Core.unitsOf FP.Core.b32 (f.toNat % 2 ^ 31) / FP.Core.one32 = m at hd
  have hp : 2 ^ (K - 127) ≤ 2 ^ 23 := Nat.pow_le_pow_right (by decide) (by omega)
  generalize 2 ^ (K - 127) = P at hd hp ⊢
  unfold FP.Core.signed
  split <;> omega
theorem gF_f2i {f : UInt32} (h : gF f) : (FP.f2i f).toInt.natAbs ≤ 2 ^ 21 := by
  have := f2i_abs (K := 148) h (by decide) (by decide)
  rw [show 148 - 127 = 21 from rfl] at this
  exact this
/-- half is added before a pixel is found -/
theorem gX_half {f : UInt32} (h : gX f) : (FP.fadd f 1056964608).toNat % 2 ^ 31 < 139 * 2 ^ 23 := FP.Core.fadd_mag (K := 137) h (by decide) (by decide)
/-- a turn of a loop is taken from its count -/
theorem gF_turn {f : UInt32} (h : gF f) (h1 : ¬ FP.fcmp f 1065353216 = some .lt) : gF (FP.fsub f 1065353216) := by
  have g1 : gF 1065353216 := by unfold gF; decide
  obtain ⟨s, c, q, e⟩ := h.fin
  obtain ⟨t, d, r, e1⟩ := g1.fin
  have n := h.nn
  have fx := FP.Core.val32_fits f
  have fy := FP.Core.negate_fits (FP.Core.val32_fits 1065353216)
  have v1 : FP.Core.zval FP.Core.b32 (FP.Core.val32 1065353216) ≤ FP.Core.zval FP.Core.b32 (FP.Core.val32 f) := by
    rw [FP.fcmp_core, FP.Core.fcmp_lt] at h1
    have : ¬ FP.Core.zval FP.Core.b32 (FP.Core.val32 f) < FP.Core.zval FP.Core.b32 (FP.Core.val32 1065353216) := fun z => h1 ⟨n, g1.nn, z⟩
    omega
  have v0 : 0 ≤ FP.Core.zval FP.Core.b32 (FP.Core.val32 1065353216) := by decide +kernel
  have vs : FP.Core.val32 (FP.fsub f 1065353216) = FP.Core.round FP.Core.b32 (FP.Core.exactSum (FP.Core.val32 f) (FP.Core.negate (FP.Core.val32 1065353216))) := FP.Core.val32_fsub _ _
  rw [e, e1] at vs
  rw [e] at fx
  rw [e1] at fy
  obtain ⟨sg, m, ee, u1, u2, u3⟩ := FP.Core.sum_units fx fy
  change FP.Core.val32 _ = FP.Core.round _ (FP.Core.exactSum (.fin s c q) (.fin (!t) d r)) at vs
  rw [u1] at vs
  have u4 : FP.Core.zval FP.Core.b32 (.fin (!t) d r) = - FP.Core.zval FP.Core.b32 (FP.Core.val32 1065353216) := by rw [e1]; exact FP.Core.zval_negate FP.Core.b32 (.fin t d r)
  rw [u4, ← e] at u3
  have le := FP.Core.zval_round_le FP.Core.good_b32 (V := FP.Core.val32 f) (s := sg) (c := m) (q := ee) (e0 := FP.Core.b32.qmin) (FP.Core.val32_fits f) n (Int.le_refl _) u2 (by rw [u3, Int.sub_self]; simp; omega)
  have ge := FP.Core.zval_round_ge FP.Core.good_b32 (V := FP.Core.val32 0) (s := sg) (c := m) (q := ee) (e0 := FP.Core.b32.qmin) (FP.Core.val32_fits 0) (by decide +kernel) (Int.le_refl _) u2 (by rw [u3, Int.sub_self, show FP.Core.zval FP.Core.b32 (FP.Core.val32 0) = 0 by decide +kernel]; simp; omega)
  rw [show FP.Core.zval FP.Core.b32 (FP.Core.val32 0) = 0 by decide +kernel] at ge
  rw [← vs] at le ge
  have nn := n32_nn (n32_sub h g1)
  have k1 := FP.Core.fcmp_zval nn n
  have k2 := FP.Core.fcmp_key nn n
  have k3 := FP.Core.fcmp_zval nn (b := 0) (by decide +kernel)
  have k4 := FP.Core.fcmp_key nn (b := 0) (by decide +kernel)
  have c1 : FP.Core.fkey (FP.fsub f 1065353216) ≤ FP.Core.fkey f := by
    rw [k1] at k2
    have : ¬ compare (FP.Core.fkey (FP.fsub f 1065353216)) (FP.Core.fkey f) = .gt := by
      rw [← Option.some.inj k2, FP.Core.compare_gt_iff]
      omega
    rw [FP.Core.compare_gt_iff] at this
    omega
  have c2 : 0 ≤ FP.Core.fkey (FP.fsub f 1065353216) := by
    rw [k3] at k4
    have : ¬ compare (FP.Core.fkey (FP.fsub f 1065353216)) (FP.Core.fkey 0) = .lt := by
      rw [← Option.some.inj k4, FP.Core.compare_lt_iff, show FP.Core.zval FP.Core.b32 (FP.Core.val32 0) = 0 by decide +kernel]
      omega
    rw [FP.Core.compare_lt_iff, show FP.Core.fkey 0 = 0 by decide +kernel] at this
    omega
  unfold gF at h ⊢
  rw [← key_abs] at h ⊢
  omega
