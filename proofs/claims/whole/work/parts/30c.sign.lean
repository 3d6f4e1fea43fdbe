section SGN
variable {d : Nat} {h : aH}
def sgnV : List Value := sgnL.map (fun s => .int (Int32.ofNat s))
theorem i2b_sgn : ∀ z, z < 256 → ∀ s ∈ sgnL, ((Int32.ofNat s = (Int32.ofNat z).toInt8.toInt32) ↔ s = z) := by decide +kernel
theorem c_isLat (h4 : h[4]? = some (38, [.ref 5, .int 0])) : aE aM6 d 0 [(0, .ref 4)] [] h (aIs (some (.int 1)) h) := by
  refine eS rfl rfl ?_
  refine eEq rfl rfl (fun z => absurd z (by decide)) (fun _ => ?_)
  refine eS rfl rfl ?_
  refine eGet rfl h4 rfl rfl ?_
  refine eNe rfl rfl (fun z => absurd rfl z) (fun _ => ?_)
  refine eS rfl rfl ?_
  refine eS rfl rfl ?_
  exact eR rfl rfl ⟨rfl, rfl⟩
theorem c_coder4 (h4 : h[4]? = some (38, [.ref 5, .int 0])) : aE aM4 d 0 [(0, .ref 4)] [] h (aIs (some (.int 0)) h) := by
  refine eS rfl rfl ?_
  refine eEq rfl rfl (fun z => absurd z (by decide)) (fun _ => ?_)
  refine eS rfl rfl ?_
  refine eGet rfl h4 rfl rfl ?_
  refine eS rfl rfl ?_
  exact eR rfl rfl ⟨rfl, rfl⟩
theorem c_len4 (h4 : h[4]? = some (38, [.ref 5, .int 0])) (h5 : h[5]? = some (5, sgnV)) : aE aM3 (d + 1) 0 [(0, .ref 4)] [] h (aIs (some (.int 12)) h) := by
  refine eS rfl rfl ?_
  refine eGet rfl h4 rfl rfl ?_
  refine eLen rfl h5 (by decide) ?_
  refine eS rfl rfl ?_
  refine eV1 rfl rfl h4 rfl rfl ⟨catOk rfl, catOk rfl⟩ (c_coder4 h4) ?_
  refine eS rfl rfl ?_
  exact eR rfl rfl ⟨rfl, rfl⟩
theorem c_ixc {z : Nat} (hz : z < 256) (h5 : h[5]? = some (5, sgnV)) : ∀ (k i : Nat), i + k = 12 → (∀ j, j < i → sgnL.getD j 0 ≠ z) → ∃ r : Int32, aE aM55 d 7 [(5, .int (Int32.ofNat i)), (4, .int ((Int32.ofNat z).toInt8.toInt32)), (0, .ref 5), (1, .int (Int32.ofNat z)), (2, .int 0), (3, .int 12)] [] h (aIs (some (.int r)) h) ∧ (r < 0 ↔ ¬ isS z = true)
  | 0, i, hk, hno => by
    refine ⟨-1, ?_, ⟨fun _ => ?_, fun _ => by decide⟩⟩
    refine eS rfl rfl ?_
    refine eS rfl rfl ?_
    refine eIGe rfl rfl (fun _ => ?_) (fun z => absurd ((i32_le (a := 12) (b := i) (by omega) (by omega)).mpr (by omega)) z)
    refine eS rfl rfl ?_
    exact eR rfl rfl ⟨rfl, rfl⟩
    · obtain rfl : i = 12 := by omega
      intro e
      unfold isS at e
      rw [List.contains_iff_mem] at e
      obtain ⟨j, hj, e⟩ := List.getElem_of_mem e
      exact hno j hj (by rw [List.getD_eq_getElem?_getD, List.getElem?_eq_getElem hj]; exact e)
  | k + 1, i, hk, hno => by
    have hi : i < sgnL.length := by show i < 12; omega
    have hv : sgnV[i]? = some (.int (Int32.ofNat (sgnL.getD i 0))) := by
      unfold sgnV
      rw [List.getElem?_map, List.getD_eq_getElem?_getD, List.getElem?_eq_getElem hi]
      rfl
    have hm : sgnL.getD i 0 ∈ sgnL := by
      rw [List.getD_eq_getElem?_getD, List.getElem?_eq_getElem hi]
      exact List.getElem_mem hi
    by_cases e : sgnL.getD i 0 = z
    · refine ⟨Int32.ofNat i, ?_, ⟨fun y => ?_, fun y => ?_⟩⟩
      · skip
        refine eS rfl rfl ?_
        refine eS rfl rfl ?_
        refine eIGe rfl rfl (fun z => absurd ((i32_le (a := 12) (b := i) (by omega) (by omega)).mp z) (by omega)) (fun _ => ?_)
        refine eS rfl rfl ?_
        refine eS rfl rfl ?_
        refine eH rfl rfl rfl rfl (aRd_at h5 rfl (by omega) hv) ?_
        refine eS rfl rfl ?_
        refine eINe rfl rfl (fun z' => absurd ((i2b_sgn z hz _ hm).mpr e) z') (fun _ => ?_)
        refine eS rfl rfl ?_
        exact eR rfl rfl ⟨rfl, rfl⟩
      · have := (i32_lt (a := i) (b := 0) (by omega) (by omega)).mp y
        omega
      · exact absurd (by unfold isS; rw [List.contains_iff_mem, ← e]; exact hm) y
    · obtain ⟨r, er, hr⟩ := c_ixc hz h5 k (i + 1) (by omega) (fun j hj => by
        by_cases ej : j = i
        · subst ej; exact e
        · exact hno j (by omega))
      refine ⟨r, ?_, hr⟩
      refine eS rfl rfl ?_
      refine eS rfl rfl ?_
      refine eIGe rfl rfl (fun z => absurd ((i32_le (a := 12) (b := i) (by omega) (by omega)).mp z) (by omega)) (fun _ => ?_)
      refine eS rfl rfl ?_
      refine eS rfl rfl ?_
      refine eH rfl rfl rfl rfl (aRd_at h5 rfl (by omega) hv) ?_
      refine eS rfl rfl ?_
      refine eINe rfl rfl (fun _ => ?_) (fun z' => absurd z' (fun w => e ((i2b_sgn z hz _ hm).mp w)))
      refine eS rfl rfl ?_
      refine eS rfl rfl ?_
      rw [i32_succ]
      exact er
theorem c_sign {z : Nat} (hz : z < 256) (h4 : h[4]? = some (38, [.ref 5, .int 0])) (h5 : h[5]? = some (5, sgnV)) : ∃ r : Int32, aE aM50 (d + 4) 0 [(0, .ref 4), (1, .int (Int32.ofNat z))] [] h (aIs (some (.int r)) h) ∧ (r < 0 ↔ ¬ isS z = true) := by
  obtain ⟨r, er, hr⟩ := c_ixc (d := d + 1) hz h5 12 0 rfl (fun j hj => absurd hj (Nat.not_lt_zero j))
  refine ⟨r, ?_, hr⟩
  have e55 : aE aM55 (d + 1) 0 [(0, .ref 5), (1, .int (Int32.ofNat z)), (2, .int 0), (3, .int 12)] [] h (aIs (some (.int r)) h) := by
    refine eS rfl rfl ?_
    refine eS rfl rfl ?_
    refine eS rfl rfl ?_
    refine eS rfl rfl ?_
    refine eS rfl rfl ?_
    exact er
  have e53 : aE aM53 (d + 1) 0 [(0, .int (Int32.ofNat z))] [] h (aIs (some (.int 1)) h) := by
    refine eS rfl rfl ?_
    refine eLt rfl rfl (fun y => absurd ((i32_lt (a := z) (b := 0) (by omega) (by omega)).mp y) (by omega)) (fun _ => ?_)
    refine eS rfl rfl ?_
    refine eS rfl rfl ?_
    refine eIGt rfl rfl (fun y => absurd ((i32_lt (a := 255) (b := z) (by omega) (by omega)).mp y) (by omega)) (fun _ => ?_)
    refine eS rfl rfl ?_
    refine eS rfl rfl ?_
    exact eR rfl rfl ⟨rfl, rfl⟩
  have e52 : aE aM52 (d + 2) 0 [(0, .ref 5), (1, .int (Int32.ofNat z)), (2, .int 0), (3, .int 12)] [] h (aIs (some (.int r)) h) := by
    refine eS rfl rfl ?_
    refine eC1 rfl rfl rfl ⟨catOk rfl, catOk rfl⟩ (e53) ?_
    refine eNe rfl rfl (fun _ => ?_) (fun z => absurd z (by decide))
    refine eS rfl rfl ?_
    refine eS rfl rfl ?_
    refine eC1 rfl rfl rfl ⟨catOk rfl, catOk rfl⟩ (s_max) ?_
    refine eS rfl rfl ?_
    refine eS rfl rfl ?_
    refine eS rfl rfl ?_
    refine eLen rfl h5 (by decide) ?_
    refine eC1 rfl rfl rfl ⟨catOk rfl, catOk rfl⟩ (s_min) ?_
    refine eS rfl rfl ?_
    refine eS rfl rfl ?_
    refine eS rfl rfl ?_
    refine eILt rfl rfl (fun _ => ?_) (fun z => (z (by decide)).elim)
    refine eS rfl rfl ?_
    refine eS rfl rfl ?_
    refine eS rfl rfl ?_
    refine eS rfl rfl ?_
    refine eC1 rfl rfl rfl ⟨catOk rfl, catOk rfl⟩ (e55) ?_
    exact eR rfl rfl ⟨rfl, rfl⟩
  have e51 : aE aM51 (d + 3) 0 [(0, .ref 4), (1, .int (Int32.ofNat z)), (2, .int 0)] [] h (aIs (some (.int r)) h) := by
    refine eS rfl rfl ?_
    refine eV1 rfl rfl h4 rfl rfl ⟨catOk rfl, catOk rfl⟩ (c_isLat h4) ?_
    refine eEq rfl rfl (fun z => absurd z (by decide)) (fun _ => ?_)
    refine eS rfl rfl ?_
    refine eGet rfl h4 rfl rfl ?_
    refine eS rfl rfl ?_
    refine eS rfl rfl ?_
    refine eS rfl rfl ?_
    refine eV1 rfl rfl h4 rfl rfl ⟨catOk rfl, catOk rfl⟩ (c_len4 h4 h5) ?_
    refine eC1 rfl rfl rfl ⟨catOk rfl, catOk rfl⟩ (e52) ?_
    refine eS rfl rfl ?_
    exact eR rfl rfl ⟨rfl, rfl⟩
  refine eS rfl rfl ?_
  refine eS rfl rfl ?_
  refine eS rfl rfl ?_
  refine eV1 rfl rfl h4 rfl rfl ⟨catOk rfl, catOk rfl⟩ (e51) ?_
  exact eR rfl rfl ⟨rfl, rfl⟩
end SGN
