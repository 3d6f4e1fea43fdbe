/-! the calls that are refused, and the law's own catches -/
section REF
variable {d pa : Nat} {h h' : aH} {vs rd pr mc tu pi pl vl : List Value} {a b n : Int32}
theorem s_word_bad (hl : 20 ≤ h.length) (h20 : h[20]? = some (8, vs)) (h6 : vs[6]? = some (.ref pa)) (hpa : h[pa]? = some (26, pr)) (h7 : pr[7]? = some (.int n)) (hb : a < 0 ∨ n ≤ a) : aE aM111 d 0 [(0, .ref 20), (1, .int a)] [] h (aTh 13 h) := by
  have th : aE aM111 d 15 [(0, .ref 20), (1, .int a)] [] h (aTh 13 h) := eThrow rfl rfl hl rfl rfl rfl rfl rfl
  refine eS rfl rfl ?_
  refine eLt rfl rfl (fun _ => th) (fun h1 => ?_)
  refine eS rfl rfl ?_
  refine eS rfl rfl ?_
  refine eGet rfl h20 rfl h6 ?_
  refine eGet rfl hpa rfl h7 ?_
  refine eILt rfl rfl (fun h2 => ?_) (fun _ => th)
  exact (hb.elim h1 (fun z => Int32.not_lt.mpr z h2)).elim
/-- a throw into the law's catch -/
theorem aTh_at {c : Nat} {q : Nat} {h0 h' : aH} (z : aTh c h0 (.inr q) h') : h'[q]? = some (2 * c + 8, []) := by
  obtain ⟨z1, rfl⟩ := z
  cases z1
  exact List.getElem?_concat_length
theorem s_lword_bad (h20 : h[20]? = some (8, vs)) (s : aE aM111 d 0 [(0, .ref 20), (1, .int a)] [] h (aTh 13 h)) : aE aM110 (d + 1) 0 [(0, .ref 20), (1, .int a), (2, .ref 85)] [] h (aIs (some (.int 1)) (h ++ [(34, [])])) := by
  refine eS rfl rfl ?_
  refine eS rfl rfl ?_
  refine eS rfl rfl ?_
  refine eS rfl rfl ?_
  refine eV rfl rfl h20 rfl rfl ⟨catOk rfl, catOk rfl⟩ s (fun v h' z => by cases z.1) (fun q h' z => ⟨_, _, 12, aTh_at z, rfl, ?_⟩)
  obtain ⟨z1, rfl⟩ := z
  refine eS rfl rfl ?_
  refine eS rfl rfl ?_
  exact eR rfl rfl ⟨rfl, rfl⟩
theorem s_lvalue_bad (h20 : h[20]? = some (8, vs)) (s : aE aM161 d 0 [(0, .ref 20), (1, .int a)] [] h (aTh 13 h)) : aE aM160 (d + 1) 0 [(0, .ref 20), (1, .int a), (2, .ref 86)] [] h (aIs (some (.int 1)) (h ++ [(34, [])])) := by
  refine eS rfl rfl ?_
  refine eS rfl rfl ?_
  refine eS rfl rfl ?_
  refine eS rfl rfl ?_
  refine eV rfl rfl h20 rfl rfl ⟨catOk rfl, catOk rfl⟩ s (fun v h' z => by cases z.1) (fun q h' z => ⟨_, _, 12, aTh_at z, rfl, ?_⟩)
  obtain ⟨z1, rfl⟩ := z
  refine eS rfl rfl ?_
  refine eS rfl rfl ?_
  exact eR rfl rfl ⟨rfl, rfl⟩
theorem s_lvalue_ok {f : UInt32} {v0 : Value} (h20 : h[20]? = some (8, vs)) (h86 : h[86]? = some (4, [v0])) (hf : aN64 (FP.f2d f) = true) (s : aE aM161 d 0 [(0, .ref 20), (1, .int a)] [] h (aIs (some (.float f)) h)) : aE aM160 (d + 1) 0 [(0, .ref 20), (1, .int a), (2, .ref 86)] [] h (aIs (some (.int 0)) (h.set 86 (4, [.double (FP.f2d f)]))) := by
  refine eS rfl rfl ?_
  refine eS rfl rfl ?_
  refine eS rfl rfl ?_
  refine eS rfl rfl ?_
  refine eV1 rfl rfl h20 rfl rfl ⟨catOk rfl, catOk rfl⟩ s ?_
  refine eP (I := .f2d) rfl (f2d_ok hf) ?_
  refine eH (I := .dastore) rfl rfl rfl rfl (aWr_at h86 (by decide) (j := 0) rfl (by decide) (by show 0 < 1; decide)) ?_
  refine eS rfl rfl ?_
  refine eS rfl rfl ?_
  exact eR rfl rfl ⟨rfl, rfl⟩
theorem s_lrestart_no (h20 : h[20]? = some (8, vs)) (s : aE aM115 d 0 [(0, .ref 20)] [] h (aTh 12 h)) : aE aM113 (d + 2) 0 [(0, .ref 20)] [] h (aIs (some (.int 1)) (h ++ [(32, [])])) := by
  have s2 : aE aM114 (d + 1) 0 [(0, .ref 20)] [] h (aTh 12 h) := by
    refine eS rfl rfl ?_
    refine eC rfl (aStep_v rfl h20 rfl) rfl ⟨catOk rfl, catOk rfl⟩ rfl s (fun v h' z => by cases z.1) (fun q h' z => z)
  refine eS rfl rfl ?_
  refine eV rfl rfl h20 rfl rfl ⟨catOk rfl, catOk rfl⟩ s2 (fun v h' z => by cases z.1) (fun q h' z => ⟨_, _, 7, aTh_at z, rfl, ?_⟩)
  obtain ⟨z1, rfl⟩ := z
  refine eS rfl rfl ?_
  refine eS rfl rfl ?_
  exact eR rfl rfl ⟨rfl, rfl⟩
theorem s_lrun_bad (hl : 20 ≤ h.length) (h20 : h[20]? = some (8, vs)) (hb : a < 1 ∨ 2000 < a) : aE aM116 (d + 2) 0 [(0, .ref 20), (1, .int a), (2, .ref 85)] [] h (aIs (some (.int 1)) (h ++ [(28, [])])) := by
  have s2 : aE aM117 (d + 1) 0 [(0, .ref 20), (1, .int a)] [] h (aTh 10 h) := by
    refine eS rfl rfl ?_
    exact eC rfl rfl rfl ⟨catOk rfl, catOk rfl⟩ rfl (s_needFuel_bad hl hb) (fun v h' z => by cases z.1) (fun q h' z => z)
  refine eS rfl rfl ?_
  refine eS rfl rfl ?_
  refine eS rfl rfl ?_
  refine eS rfl rfl ?_
  refine eV rfl rfl h20 rfl rfl ⟨catOk rfl, catOk rfl⟩ s2 (fun v h' z => by cases z.1) (fun q h' z => ⟨_, _, 12, aTh_at z, rfl, ?_⟩)
  obtain ⟨z1, rfl⟩ := z
  refine eS rfl rfl ?_
  refine eS rfl rfl ?_
  exact eR rfl rfl ⟨rfl, rfl⟩
theorem s_lrun_no (h20 : h[20]? = some (8, vs)) (h1 : ¬ a < 1) (h2 : ¬ 2000 < a) (s : aE aM115 d 0 [(0, .ref 20)] [] h (aTh 12 h)) : aE aM116 (d + 2) 0 [(0, .ref 20), (1, .int a), (2, .ref 85)] [] h (aIs (some (.int 2)) (h ++ [(32, [])])) := by
  have s2 : aE aM117 (d + 1) 0 [(0, .ref 20), (1, .int a)] [] h (aTh 12 h) := by
    refine eS rfl rfl ?_
    refine eC1 rfl rfl rfl ⟨catOk rfl, catOk rfl⟩ (s_needFuel_ok h1 h2) ?_
    refine eS rfl rfl ?_
    exact eC rfl (aStep_v rfl h20 rfl) rfl ⟨catOk rfl, catOk rfl⟩ rfl s (fun v h' z => by cases z.1) (fun q h' z => z)
  refine eS rfl rfl ?_
  refine eS rfl rfl ?_
  refine eS rfl rfl ?_
  refine eS rfl rfl ?_
  refine eV rfl rfl h20 rfl rfl ⟨catOk rfl, catOk rfl⟩ s2 (fun v h' z => by cases z.1) (fun q h' z => ⟨_, _, 15, aTh_at z, rfl, ?_⟩)
  obtain ⟨z1, rfl⟩ := z
  refine eS rfl rfl ?_
  refine eS rfl rfl ?_
  exact eR rfl rfl ⟨rfl, rfl⟩
theorem s_linterpret_bad (hl : 20 ≤ h.length) (h20 : h[20]? = some (8, vs)) (hb : a < 1 ∨ 2000 < a) : aE aM149 (d + 2) 0 [(0, .ref 20), (1, .int a), (2, .ref 85)] [] h (aIs (some (.int 1)) (h ++ [(28, [])])) := by
  have s2 : aE aM150 (d + 1) 0 [(0, .ref 20), (1, .int a)] [] h (aTh 10 h) := by
    refine eS rfl rfl ?_
    exact eC rfl rfl rfl ⟨catOk rfl, catOk rfl⟩ rfl (s_needFuel_bad hl hb) (fun v h' z => by cases z.1) (fun q h' z => z)
  refine eS rfl rfl ?_
  refine eS rfl rfl ?_
  refine eS rfl rfl ?_
  refine eS rfl rfl ?_
  refine eV rfl rfl h20 rfl rfl ⟨catOk rfl, catOk rfl⟩ s2 (fun v h' z => by cases z.1) (fun q h' z => ⟨_, _, 12, aTh_at z, rfl, ?_⟩)
  obtain ⟨z1, rfl⟩ := z
  refine eS rfl rfl ?_
  refine eS rfl rfl ?_
  exact eR rfl rfl ⟨rfl, rfl⟩
theorem s_linterpret_no (h20 : h[20]? = some (8, vs)) (h1 : ¬ a < 1) (h2 : ¬ 2000 < a) (s : aE aM115 d 0 [(0, .ref 20)] [] h (aTh 12 h)) : aE aM149 (d + 2) 0 [(0, .ref 20), (1, .int a), (2, .ref 85)] [] h (aIs (some (.int 2)) (h ++ [(32, [])])) := by
  have s2 : aE aM150 (d + 1) 0 [(0, .ref 20), (1, .int a)] [] h (aTh 12 h) := by
    refine eS rfl rfl ?_
    refine eC1 rfl rfl rfl ⟨catOk rfl, catOk rfl⟩ (s_needFuel_ok h1 h2) ?_
    refine eS rfl rfl ?_
    exact eC rfl (aStep_v rfl h20 rfl) rfl ⟨catOk rfl, catOk rfl⟩ rfl s (fun v h' z => by cases z.1) (fun q h' z => z)
  refine eS rfl rfl ?_
  refine eS rfl rfl ?_
  refine eS rfl rfl ?_
  refine eS rfl rfl ?_
  refine eV rfl rfl h20 rfl rfl ⟨catOk rfl, catOk rfl⟩ s2 (fun v h' z => by cases z.1) (fun q h' z => ⟨_, _, 15, aTh_at z, rfl, ?_⟩)
  obtain ⟨z1, rfl⟩ := z
  refine eS rfl rfl ?_
  refine eS rfl rfl ?_
  exact eR rfl rfl ⟨rfl, rfl⟩
/-- the model's -/
theorem s_mword_bad (hl : 57 ≤ h.length) (h56 : h[56]? = some (36, vs)) (hv : vs.length = 49) (h30 : vs[30]? = some (.int n)) (hb : a < 0 ∨ n - 1 < a) : aE aM203 (d + 1) 0 [(0, .ref 56), (1, .int a)] [] h (aIs (some (.int 0)) (mT h vs 1)) := by
  refine eS rfl rfl ?_
  refine eS rfl rfl ?_
  refine eS rfl rfl ?_
  refine eGet rfl h56 rfl h30 ?_
  refine eS rfl rfl ?_
  refine eS rfl rfl ?_
  refine eC1 rfl rfl rfl ⟨catOk rfl, catOk rfl⟩ (s_outside d a 0 (n - 1) h) ?_
  rw [outB_1 hb]
  refine eEq rfl rfl (fun z => absurd z (by decide)) (fun _ => ?_)
  refine eS rfl rfl ?_
  refine eS rfl rfl ?_
  refine eV1 rfl rfl h56 rfl rfl ⟨catOk rfl, catOk rfl⟩ (s_refuse hl h56 hv) ?_
  exact eR rfl rfl ⟨rfl, rfl⟩
theorem s_mrestart_no (hl : 57 ≤ h.length) (h56 : h[56]? = some (36, vs)) (hv : vs.length = 49) (h30 : vs[30]? = some (.int 0)) : aE aM204 (d + 1) 0 [(0, .ref 56)] [] h (aIs none (mT h vs 1)) := by
  refine eS rfl rfl ?_
  refine eS rfl rfl ?_
  refine eGet rfl h56 rfl h30 ?_
  refine eNe rfl rfl (fun z => absurd rfl z) (fun _ => ?_)
  refine eS rfl rfl ?_
  refine eS rfl rfl ?_
  refine ePut rfl h56 rfl rfl (by decide) (by show 0 < vs.length; omega) rfl rfl ?_
  refine eS rfl rfl ?_
  refine eGet rfl (gS (by omega)) rfl (sT (by decide) h30) ?_
  refine eLe rfl rfl (fun _ => ?_) (fun z => absurd (by decide) z)
  exact eR rfl rfl ⟨rfl, rfl⟩
theorem s_wrongFuel_bad (hb : a < 1 ∨ 2000 < a) : aE aM206 (d + 1) 0 [(0, .ref 56), (1, .int a)] [] h (aIs (some (.int 1)) h) := by
  refine eS rfl rfl ?_
  refine eS rfl rfl ?_
  refine eS rfl rfl ?_
  refine eC1 rfl rfl rfl ⟨catOk rfl, catOk rfl⟩ (s_outside d a 1 2000 h) ?_
  rw [outB_1 hb]
  refine eEq rfl rfl (fun z => absurd z (by decide)) (fun _ => ?_)
  refine eS rfl rfl ?_
  refine eS rfl rfl ?_
  exact eR rfl rfl ⟨rfl, rfl⟩
theorem s_wrongFuel_no (h1 : ¬ a < 1) (h2 : ¬ 2000 < a) (h56 : h[56]? = some (36, vs)) (h30 : vs[30]? = some (.int 0)) : aE aM206 (d + 1) 0 [(0, .ref 56), (1, .int a)] [] h (aIs (some (.int 2)) h) := by
  refine eS rfl rfl ?_
  refine eS rfl rfl ?_
  refine eS rfl rfl ?_
  refine eC1 rfl rfl rfl ⟨catOk rfl, catOk rfl⟩ (s_outside d a 1 2000 h) ?_
  rw [outB_0 h1 h2]
  refine eEq rfl rfl (fun _ => ?_) (fun z => absurd rfl z)
  refine eS rfl rfl ?_
  refine eGet rfl h56 rfl h30 ?_
  refine eNe rfl rfl (fun z => absurd rfl z) (fun _ => ?_)
  refine eS rfl rfl ?_
  refine eS rfl rfl ?_
  exact eR rfl rfl ⟨rfl, rfl⟩
theorem s_wrongFuel_ok (h1 : ¬ a < 1) (h2 : ¬ 2000 < a) (h56 : h[56]? = some (36, vs)) (h30 : vs[30]? = some (.int n)) (hn : n ≠ 0) : aE aM206 (d + 1) 0 [(0, .ref 56), (1, .int a)] [] h (aIs (some (.int 0)) h) := by
  refine eS rfl rfl ?_
  refine eS rfl rfl ?_
  refine eS rfl rfl ?_
  refine eC1 rfl rfl rfl ⟨catOk rfl, catOk rfl⟩ (s_outside d a 1 2000 h) ?_
  rw [outB_0 h1 h2]
  refine eEq rfl rfl (fun _ => ?_) (fun z => absurd rfl z)
  refine eS rfl rfl ?_
  refine eGet rfl h56 rfl h30 ?_
  refine eNe rfl rfl (fun _ => ?_) (fun z => absurd z hn)
  refine eS rfl rfl ?_
  exact eR rfl rfl ⟨rfl, rfl⟩
theorem s_mrun_ref {t : Int32} (ht : t ≠ 0) (hl : 57 ≤ h.length) (h56 : h[56]? = some (36, vs)) (hv : vs.length = 49) (s : aE aM206 d 0 [(0, .ref 56), (1, .int a)] [] h (aIs (some (.int t)) h)) : aE aM205 (d + 1) 0 [(0, .ref 56), (1, .int a)] [] h (aIs (some (.int 0)) (mT h vs t)) := by
  refine eS rfl rfl ?_
  refine eS rfl rfl ?_
  refine eS rfl rfl ?_
  refine eV1 rfl rfl h56 rfl rfl ⟨catOk rfl, catOk rfl⟩ s ?_
  refine ePut rfl h56 rfl rfl (by decide) (by show 0 < vs.length; omega) rfl rfl ?_
  refine eS rfl rfl ?_
  refine eGet rfl (gS (by omega)) rfl (List.getElem?_set_self (by show 0 < vs.length; omega)) ?_
  refine eEq rfl rfl (fun z => absurd z ht) (fun _ => ?_)
  refine eS rfl rfl ?_
  exact eR rfl rfl ⟨rfl, rfl⟩
theorem s_minterpret_ref {t : Int32} (ht : t ≠ 0) (hl : 57 ≤ h.length) (h56 : h[56]? = some (36, vs)) (hv : vs.length = 49) (s : aE aM206 d 0 [(0, .ref 56), (1, .int a)] [] h (aIs (some (.int t)) h)) : aE aM227 (d + 1) 0 [(0, .ref 56), (1, .int a)] [] h (aIs (some (.int 0)) (mT h vs t)) := by
  refine eS rfl rfl ?_
  refine eS rfl rfl ?_
  refine eS rfl rfl ?_
  refine eV1 rfl rfl h56 rfl rfl ⟨catOk rfl, catOk rfl⟩ s ?_
  refine ePut rfl h56 rfl rfl (by decide) (by show 0 < vs.length; omega) rfl rfl ?_
  refine eS rfl rfl ?_
  refine eGet rfl (gS (by omega)) rfl (List.getElem?_set_self (by show 0 < vs.length; omega)) ?_
  refine eEq rfl rfl (fun z => absurd z ht) (fun _ => ?_)
  refine eS rfl rfl ?_
  exact eR rfl rfl ⟨rfl, rfl⟩
end REF
