
/-! how the small machine's state lies in the real one -/
/-- references are places: ad says where a place lies; unk: what is not known of a value but that it is a reference -/
def aV (ad : Nat → Nat) (unk : Nat → Value) : Value → Value
  | .ref p => .ref (ad p)
  | .retAddr i => unk i
  | v => v
abbrev aVs (ad : Nat → Nat) (unk : Nat → Value) (st : List Value) : List Value := st.map (aV ad unk)
def aLs (ad : Nat → Nat) (unk : Nat → Value) (ls : aLc) : List (Nat × Value) := ls.map (fun q => (q.1, aV ad unk q.2))
theorem aV_cat {ad : Nat → Nat} {unk : Nat → Value} (hu : ∀ i, (unk i).category = 1) (v : Value) : (aV ad unk v).category = v.category := by
  cases v <;> first | rfl | exact hu _
theorem aGet_at {ls : aLc} {i : Nat} {v : Value} (h : aGet ls i = some v) : (i, v) ∈ ls := by
  induction ls with
  | nil => cases h
  | cons q l ih =>
    unfold aGet at h
    split at h
    · rename_i e
      cases h
      subst e
      exact List.mem_cons_self
    · exact List.mem_cons_of_mem _ (ih h)
theorem aLs_at {ad : Nat → Nat} {unk : Nat → Value} {ls : aLc} {i nL : Nat} {v : Value} {lsR : Array Slot} (hl : lv_has lsR nL (aLs ad unk ls)) (h : aGet ls i = some v) : lsR[i]? = some (.val (aV ad unk v)) :=
  hl.2.2 (i, aV ad unk v) (List.mem_map.mpr ⟨_, aGet_at h, rfl⟩)
theorem aLs_f1 {ad : Nat → Nat} {unk : Nat → Value} (hu : ∀ i, (unk i).category = 1) (ls : aLc) (i : Nat) (v : Value) :
    (i, aV ad unk v) :: (aLs ad unk ls).filter (fun q => !(q.1 == i) && !(q.1 + 1 == i && q.2.category == 2)) = aLs ad unk (aSet1 ls i v) := by
  unfold aSet1 aLs
  rw [List.map_cons, List.filter_map]
  congr 3
  funext q
  simp only [Function.comp, aV_cat hu]
theorem aLs_f2 {ad : Nat → Nat} {unk : Nat → Value} (hu : ∀ i, (unk i).category = 1) (ls : aLc) (i : Nat) (v : Value) :
    (i, aV ad unk v) :: (aLs ad unk ls).filter (fun q => !(q.1 == i) && (!(q.1 == i + 1) && !(q.1 + 1 == i && q.2.category == 2))) = aLs ad unk (aSet2 ls i v) := by
  unfold aSet2 aLs
  rw [List.map_cons, List.filter_map]
  congr 3
  funext q
  simp only [Function.comp, aV_cat hu]
theorem aLs_args {ad : Nat → Nat} {unk : Nat → Value} (hu : ∀ i, (unk i).category = 1) (as : List Value) : ∀ i, lv_args i (aVs ad unk as) = aLs ad unk (lv_args i as) := by
  induction as with
  | nil => intro i; rfl
  | cons v l ih =>
    intro i
    simp only [aVs, List.map_cons, lv_args, aLs, aV_cat hu] at ih ⊢
    congr 1
    exact ih _
