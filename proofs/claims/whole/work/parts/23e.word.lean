/-! word and value under the invariant -/
section WORD
variable {d pa : Nat} {h : aH} {vs pr wl : List Value} {a x : Int32} {n k : Nat}
theorem s_wordAt (hn : n ≤ 240) (hk : k < n) (hpa : h[pa]? = some (26, pr)) (h7 : pr[7]? = some (.int (Int32.ofNat n))) {q : Nat} (h6 : pr[6]? = some (.ref q)) (hq : h[q]? = some (0, wl)) (hx : wl[k]? = some (.int x)) : aE aM112 d 0 [(0, .ref pa), (1, .int (Int32.ofNat k))] [] h (aIs (some (.int x)) h) := by
  refine eS rfl rfl ?_
  refine eLt rfl rfl (fun z => absurd z (nneg (by omega))) (fun _ => ?_)
  refine eS rfl rfl ?_
  refine eS rfl rfl ?_
  refine eGet rfl hpa rfl h7 ?_
  refine eIGe rfl rfl (fun z => absurd ((i32_le (by omega) (by omega)).mp z) (by omega)) (fun _ => ?_)
  refine eS rfl rfl ?_
  refine eS rfl rfl ?_
  refine eIGe rfl rfl (fun z => absurd ((i32_le (a := 240) (b := k) (by omega) (by omega)).mp z) (by omega)) (fun _ => ?_)
  refine eS rfl rfl ?_
  refine eGet rfl hpa rfl h6 ?_
  refine eS rfl rfl ?_
  refine eH (I := .iaload) rfl rfl rfl rfl (aRd_at hq rfl (by omega) hx) ?_
  refine eS rfl rfl ?_
  exact eR rfl rfl ⟨rfl, rfl⟩
theorem s_word_ok (hn : n ≤ 240) (hk : k < n) (h20 : h[20]? = some (8, vs)) (hv6 : vs[6]? = some (.ref pa)) (hpa : h[pa]? = some (26, pr)) (h7 : pr[7]? = some (.int (Int32.ofNat n))) {q : Nat} (h6 : pr[6]? = some (.ref q)) (hq : h[q]? = some (0, wl)) (hx : wl[k]? = some (.int x)) : aE aM111 (d + 1) 0 [(0, .ref 20), (1, .int (Int32.ofNat k))] [] h (aIs (some (.int x)) h) := by
  refine eS rfl rfl ?_
  refine eLt rfl rfl (fun z => absurd z (nneg (by omega))) (fun _ => ?_)
  refine eS rfl rfl ?_
  refine eS rfl rfl ?_
  refine eGet rfl h20 rfl hv6 ?_
  refine eGet rfl hpa rfl h7 ?_
  refine eILt rfl rfl (fun _ => ?_) (fun z => absurd ((i32_lt (by omega) (by omega)).mpr hk) z)
  refine eS rfl rfl ?_
  refine eGet rfl h20 rfl hv6 ?_
  refine eS rfl rfl ?_
  refine eV1 rfl rfl hpa rfl rfl ⟨catOk rfl, catOk rfl⟩ (s_wordAt hn hk hpa h7 h6 hq hx) ?_
  exact eR rfl rfl ⟨rfl, rfl⟩
theorem s_lword_ok {v0 : Value} (h20 : h[20]? = some (8, vs)) (h85 : h[85]? = some (2, [v0])) (s : aE aM111 d 0 [(0, .ref 20), (1, .int a)] [] h (aIs (some (.int x)) h)) : aE aM110 (d + 1) 0 [(0, .ref 20), (1, .int a), (2, .ref 85)] [] h (aIs (some (.int 0)) (h.set 85 (2, [.long x.toInt64]))) := by
  refine eS rfl rfl ?_
  refine eS rfl rfl ?_
  refine eS rfl rfl ?_
  refine eS rfl rfl ?_
  refine eV1 rfl rfl h20 rfl rfl ⟨catOk rfl, catOk rfl⟩ s ?_
  refine eS rfl rfl ?_
  refine eH (I := .lastore) rfl rfl rfl rfl (aWr_at (p := 85) (i := Int32.ofInt 0) (v := .long x.toInt64) h85 (by decide) (j := 0) rfl (by decide) (by show 0 < 1; decide)) ?_
  refine eS rfl rfl ?_
  refine eS rfl rfl ?_
  exact eR rfl rfl ⟨rfl, rfl⟩
theorem s_mword_ok (hn : n ≤ 240) (hk : k < n) (hl : 57 ≤ h.length) (h56 : h[56]? = some (36, vs)) (hv : vs.length = 49) (h30 : vs[30]? = some (.int (Int32.ofNat n))) (h31 : vs[31]? = some (.ref 76)) (h76 : h[76]? = some (0, wl)) (hx : wl[k]? = some (.int x)) : aE aM203 (d + 1) 0 [(0, .ref 56), (1, .int (Int32.ofNat k))] [] h (aIs (some (.int x)) (mT h vs 0)) := by
  refine eS rfl rfl ?_
  refine eS rfl rfl ?_
  refine eS rfl rfl ?_
  refine eGet rfl h56 rfl h30 ?_
  refine eS rfl rfl ?_
  refine eS rfl rfl ?_
  obtain ⟨m, rfl⟩ : ∃ m, n = m + 1 := ⟨n - 1, by omega⟩
  refine eC1 rfl rfl rfl ⟨catOk rfl, catOk rfl⟩ (s_outside d (Int32.ofNat k) 0 (Int32.ofNat (m + 1) - 1) h) ?_
  rw [i32_pred, outB_0 (nneg (by omega)) (fun z => by
    rw [i32_lt (by omega) (by omega)] at z
    omega)]
  refine eEq rfl rfl (fun _ => ?_) (fun z => absurd rfl z)
  refine eS rfl rfl ?_
  refine eS rfl rfl ?_
  refine ePut rfl h56 rfl rfl (by decide) (by show 0 < vs.length; omega) rfl rfl ?_
  refine eS rfl rfl ?_
  refine eGet rfl (gS (by omega)) rfl (sT (by decide) h31) ?_
  refine eS rfl rfl ?_
  refine eH (I := .iaload) rfl rfl rfl rfl (aRd_at ((gN (by decide)).trans h76) rfl (by omega) hx) ?_
  exact eR rfl rfl ⟨rfl, rfl⟩
end WORD
/-- the law's own two rows stand outside the invariant -/
theorem iAll.out {e : aEnt} {v : Value} {p : Nat} (hp : p = 85 ∨ p = 86) (h : iAll e) : iAll (eUp e p 0 v) := by
  have r' : ∀ q, q < 85 → ∀ j, eUp e p 0 v q j = e q j := fun q hq j => if_neg (fun z => by rcases hp with rfl | rfl <;> omega)
  obtain ⟨⟨tl, t1, t2, t3, t4⟩, ⟨x, x1, x2⟩, ⟨pa, pb, n, p0, p1, p2, p3, p4, p5, p6⟩, hpp, ⟨tx, ty, td, u0, u00, u1, u2, u3, u4, u5, u6⟩, hv, ⟨a, a1, a2, a3⟩⟩ := h
  have hpa : pa + 4 < 85 := by rcases p0 with ⟨rfl, -⟩ | ⟨rfl, -⟩ <;> decide
  refine ⟨⟨tl, t1, (r' _ (by decide) _).trans t2, (r' _ (by decide) _).trans t3, fun j => ?_⟩, ⟨x, (r' _ (by decide) _).trans x1, (r' _ (by decide) _).trans x2⟩, ⟨pa, pb, n, p0, (r' _ (by decide) _).trans p1, (r' _ (by decide) _).trans p2, p3, (r' _ (by omega) _).trans p4, (r' _ (by decide) _).trans p5, fun j hj => ?_⟩, fun j hj => ?_,
    ⟨tx, ty, td, u0, u00, (r' _ (by decide) _).trans u1, (r' _ (by decide) _).trans u2, (r' _ (by decide) _).trans u3, (r' _ (by decide) _).trans u4, (r' _ (by decide) _).trans u5, (r' _ (by decide) _).trans u6⟩, fun j hj => ?_, ⟨a, (r' _ (by decide) _).trans a1, (r' _ (by decide) _).trans a2, fun h0 => ?_⟩⟩
  · rw [r' 57 (by decide), r' 21 (by decide)]; exact t4 j
  · rw [r' (pa + 4) hpa, r' 76 (by decide)]; exact p6 j hj
  · rw [r' 43 (by decide), r' 82 (by decide)]; exact hpp j hj
  · rw [r' 37 (by decide), r' 81 (by decide)]; exact hv j hj
  · obtain ⟨pc, ht, cl, co, dn, m1, m2, m3, m4, m5, m6, m7, m8, m9, m10, m11, m12, m13, m14, m15⟩ := a3 h0
    refine ⟨pc, ht, cl, co, dn, (r' _ (by decide) _).trans m1, (r' _ (by decide) _).trans m2, (r' _ (by decide) _).trans m3, (r' _ (by decide) _).trans m4, m5, (r' _ (by decide) _).trans m6, (r' _ (by decide) _).trans m7, m8, (r' _ (by decide) _).trans m9, (r' _ (by decide) _).trans m10, (r' _ (by decide) _).trans m11, (r' _ (by decide) _).trans m12, fun j hj => ?_, fun j hj => ?_, fun j hj => ?_⟩
    · rw [r' 36 (by decide), r' 77 (by decide)]; exact m13 j hj
    · rw [r' 38 (by decide), r' 78 (by decide)]; exact m14 j hj
    · rw [r' 39 (by decide), r' 79 (by decide), r' 40 (by decide), r' 80 (by decide)]; exact m15 j hj
