/-! the model's begin -/
theorem gS {l : aH} {p : Nat} {o : aO} (h : p < l.length) : (l.set p o)[p]? = some o := List.getElem?_set_self h
theorem gN {l : aH} {p q : Nat} {o : aO} (h : p ≠ q) : (l.set p o)[q]? = l[q]? := List.getElem?_set_ne h
theorem uC {l : aH} {p q : Nat} {a b : aO} (h : p < q) : (l.set q b).set p a = (l.set p a).set q b := List.set_comm _ _ (by omega)
theorem uS {l : aH} {p : Nat} {a b : aO} : (l.set p a).set p b = l.set p b := List.set_set ..
theorem wipe_set {k : Nat} {pl : List Value} {v : Value} (hk : k < pl.length) : (List.replicate k v ++ pl.drop k).set k v = List.replicate (k + 1) v ++ pl.drop (k + 1) := by
  rw [List.set_append_right _ _ (by simp), List.length_replicate, Nat.sub_self, List.drop_eq_getElem_cons hk, List.set_cons_zero, List.replicate_succ', List.append_assoc]
  rfl
def mBeg (vs : List Value) : List Value := ((((((((vs.set 32 (.int 0)).set 33 (.int 0)).set 34 (.int 0)).set 36 (.int 0)).set 41 (.float 1098907648)).set 42 (.float 1094713344)).set 43 (.int 0)).set 44 (.int 1)).set 45 (.int 1)
theorem i32_succ {k : Nat} : Int32.ofNat k + Int32.ofInt 1 = Int32.ofNat (k + 1) := by
  rw [Int32.ofNat_add]; rfl
theorem i32_le {a b : Nat} (ha : a < 2 ^ 31) (hb : b < 2 ^ 31) : Int32.ofNat a ≤ Int32.ofNat b ↔ a ≤ b := by
  rw [Int32.le_iff_toInt_le, Int32.toInt_ofNat_small ha, Int32.toInt_ofNat_small hb]; omega
theorem i32_lt {a b : Nat} (ha : a < 2 ^ 31) (hb : b < 2 ^ 31) : Int32.ofNat a < Int32.ofNat b ↔ a < b := by
  rw [Int32.lt_iff_toInt_lt, Int32.toInt_ofNat_small ha, Int32.toInt_ofNat_small hb]; omega
theorem s_beg_value (d : Nat) {h : aH} {vs vl : List Value} {Q : aOut → aH → Prop} (hl : 83 ≤ h.length) (h56 : h[56]? = some (36, vs)) (hv : vs[40]? = some (.ref 81)) (hvl : vl.length = 8) : ∀ (m k : Nat), k + m = 8 → 
    aE aM163 d 41 [(1, .int (Int32.ofNat 8)), (0, .ref 56)] [] (h.set 81 (3, List.replicate 8 (.float 0))) Q →
    aE aM163 d 22 [(1, .int (Int32.ofNat k)), (0, .ref 56)] [] (h.set 81 (3, List.replicate k (.float 0) ++ vl.drop k)) Q
  | 0, k, hk, kk => by
    obtain rfl : k = 8 := by omega
    refine eS rfl rfl ?_
    refine eS rfl rfl ?_
    refine eIGe rfl rfl (fun _ => ?_) (fun h1 => absurd (show Int32.ofNat 8 ≤ Int32.ofNat 8 from by decide) h1)
    rw [List.drop_of_length_le (by omega), List.append_nil]
    exact kk
  | m + 1, k, hk, kk => by
    refine eS rfl rfl ?_
    refine eS rfl rfl ?_
    refine eIGe rfl rfl (fun h1 => absurd ((i32_le (by omega) (by omega)).mp (show Int32.ofNat 8 ≤ Int32.ofNat k from h1)) (by omega)) (fun _ => ?_)
    refine eS rfl rfl ?_
    refine eGet rfl ((gN (by decide)).trans h56) rfl hv ?_
    refine eS rfl rfl ?_
    refine eS rfl rfl ?_
    refine eH (I := .fastore) rfl rfl rfl rfl (aWr_at (gS (by omega)) (by decide) rfl (by omega) (by simp; omega)) ?_
    refine eS rfl rfl ?_
    refine eS rfl rfl ?_
    rw [uS, show (List.replicate k (Value.float 0) ++ vl.drop k).set k (.float FP.fconst0) = _ from wipe_set (by omega), i32_succ]
    exact s_beg_value d hl h56 hv hvl m (k + 1) (by omega) kk
theorem s_beg_pic (d : Nat) {h : aH} {vs pl : List Value} {Q : aOut → aH → Prop} (hl : 83 ≤ h.length) (h56 : h[56]? = some (36, vs)) (hv : vs[46]? = some (.ref 82)) (hpl : pl.length = 768) : ∀ (m k : Nat), k + m = 768 → 
    Q (.inl none) (h.set 82 (0, List.replicate 768 (.int 0))) →
    aE aM163 d 72 [(1, .int (Int32.ofNat k)), (0, .ref 56)] [] (h.set 82 (0, List.replicate k (.int 0) ++ pl.drop k)) Q
  | 0, k, hk, kk => by
    obtain rfl : k = 768 := by omega
    refine eS rfl rfl ?_
    refine eS rfl rfl ?_
    refine eIGe rfl rfl (fun _ => ?_) (fun h1 => absurd (show Int32.ofNat 768 ≤ Int32.ofNat 768 from by decide) h1)
    refine eR rfl rfl ?_
    rw [List.drop_of_length_le (by omega), List.append_nil]
    exact kk
  | m + 1, k, hk, kk => by
    refine eS rfl rfl ?_
    refine eS rfl rfl ?_
    refine eIGe rfl rfl (fun h1 => absurd ((i32_le (by omega) (by omega)).mp (show Int32.ofNat 768 ≤ Int32.ofNat k from h1)) (by omega)) (fun _ => ?_)
    refine eS rfl rfl ?_
    refine eGet rfl ((gN (by decide)).trans h56) rfl hv ?_
    refine eS rfl rfl ?_
    refine eS rfl rfl ?_
    refine eH (I := .iastore) rfl rfl rfl rfl (aWr_at (gS (by omega)) (by decide) rfl (by omega) (by simp; omega)) ?_
    refine eS rfl rfl ?_
    refine eS rfl rfl ?_
    rw [uS, show (List.replicate k (Value.int 0) ++ pl.drop k).set k (.int (Int32.ofInt 0)) = _ from wipe_set (by omega), i32_succ]
    exact s_beg_pic d hl h56 hv hpl m (k + 1) (by omega) kk
theorem set_id {l : List aO} {p : Nat} {o : aO} (h : l[p]? = some o) : l.set p o = l := by
  apply List.ext_getElem?
  intro q
  by_cases hq : p = q
  · subst hq
    rw [gS (List.getElem?_eq_some_iff.mp h).1, h]
  · rw [gN hq]
theorem s_begin (d : Nat) {h : aH} {vs vl pl : List Value} (hl : 83 ≤ h.length) (h56 : h[56]? = some (36, vs)) (hn : vs.length = 49) (hv : vs[40]? = some (.ref 81)) (hp : vs[46]? = some (.ref 82)) (h81 : h[81]? = some (3, vl)) (hvl : vl.length = 8) (h82 : h[82]? = some (0, pl)) (hpl : pl.length = 768) :
    aE aM163 d 0 [(0, .ref 56)] [] h (aIs none (((h.set 56 (36, mBeg vs)).set 81 (3, List.replicate 8 (.float 0))).set 82 (0, List.replicate 768 (.int 0)))) := by
  refine eS rfl rfl ?_
  refine eS rfl rfl ?_
  refine ePut rfl h56 rfl rfl (by decide) (by show 32 < vs.length; omega) rfl rfl ?_
  refine eS rfl rfl ?_
  refine eS rfl rfl ?_
  refine ePut rfl (gS (by omega)) rfl rfl (by decide) (by rw [List.length_set]; show 33 < vs.length; omega) rfl rfl ?_
  rw [uS]
  refine eS rfl rfl ?_
  refine eS rfl rfl ?_
  refine ePut rfl (gS (by omega)) rfl rfl (by decide) (by simp only [List.length_set]; show 34 < vs.length; omega) rfl rfl ?_
  rw [uS]
  refine eS rfl rfl ?_
  refine eS rfl rfl ?_
  refine ePut rfl (gS (by omega)) rfl rfl (by decide) (by simp only [List.length_set]; show 36 < vs.length; omega) rfl rfl ?_
  rw [uS]
  refine eS rfl rfl ?_
  refine eS rfl rfl ?_
  have e0 : ∀ o, (h.set 56 o) = (h.set 56 o).set 81 (3, List.replicate 0 (.float 0) ++ vl.drop 0) := fun o => (set_id ((gN (by decide)).trans h81)).symm
  rw [e0]
  refine s_beg_value d (h := h.set 56 _) (by rw [List.length_set]; exact hl) (gS (by omega)) ?_ hvl 8 0 rfl ?_
  · simp only [List.getElem?_set]
    simp
    exact hv
  refine eS rfl rfl ?_
  refine eS rfl rfl ?_
  refine ePut rfl ((gN (by decide)).trans (gS (by omega))) rfl rfl (by decide) (by simp only [List.length_set]; show 41 < vs.length; omega) rfl rfl ?_
  rw [uC (by decide), uS]
  refine eS rfl rfl ?_
  refine eS rfl rfl ?_
  refine ePut rfl ((gN (by decide)).trans (gS (by omega))) rfl rfl (by decide) (by simp only [List.length_set]; show 42 < vs.length; omega) rfl rfl ?_
  rw [uC (by decide), uS]
  refine eS rfl rfl ?_
  refine eS rfl rfl ?_
  refine ePut rfl ((gN (by decide)).trans (gS (by omega))) rfl rfl (by decide) (by simp only [List.length_set]; show 43 < vs.length; omega) rfl rfl ?_
  rw [uC (by decide), uS]
  refine eS rfl rfl ?_
  refine eS rfl rfl ?_
  refine ePut rfl ((gN (by decide)).trans (gS (by omega))) rfl rfl (by decide) (by simp only [List.length_set]; show 44 < vs.length; omega) rfl rfl ?_
  rw [uC (by decide), uS]
  refine eS rfl rfl ?_
  refine eS rfl rfl ?_
  refine ePut rfl ((gN (by decide)).trans (gS (by omega))) rfl rfl (by decide) (by simp only [List.length_set]; show 45 < vs.length; omega) rfl rfl ?_
  rw [uC (by decide), uS]
  refine eS rfl rfl ?_
  refine eS rfl rfl ?_
  have e1 : ∀ o o', ((h.set 56 o).set 81 o') = ((h.set 56 o).set 81 o').set 82 (0, List.replicate 0 (.int 0) ++ pl.drop 0) := fun o o' => (set_id (((gN (by decide)).trans (gN (by decide))).trans h82)).symm
  rw [e1]
  refine s_beg_pic d (h := (h.set 56 _).set 81 _) (by simp only [List.length_set]; exact hl) ((gN (by decide)).trans (gS (by omega))) ?_ hpl 768 0 rfl ⟨rfl, rfl⟩
  simp only [List.getElem?_set]
  simp
  exact hp
