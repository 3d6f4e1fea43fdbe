/-! places of calls and definitions, in order; a program is written -/
def mPw (a b lo hi : Nat) (M : List (Nat × Nat)) : Prop := (∀ p ∈ M, lo ≤ p.1 ∧ p.1 < hi ∧ a ≤ p.2 ∧ p.2 < b) ∧ M.Pairwise (fun p q => p.1 < q.1 ∧ p.2 < q.2)
theorem mPw_nil {a b lo hi : Nat} : mPw a b lo hi [] := ⟨fun p hp => (by cases hp), List.Pairwise.nil⟩
theorem mPw_mono {a b lo hi a' b' lo' hi' : Nat} {M : List (Nat × Nat)} (h : mPw a b lo hi M) (h1 : a' ≤ a) (h2 : b ≤ b') (h3 : lo' ≤ lo) (h4 : hi ≤ hi') : mPw a' b' lo' hi' M := ⟨fun p hp => by have := h.1 p hp; omega, h.2⟩
theorem mPw_app {a m m' b lo l hi : Nat} {M N : List (Nat × Nat)} (h : mPw a m lo l M) (h' : mPw m' b l hi N) (h0 : m ≤ m') (h1 : a ≤ m') (h2 : m ≤ b) (h3 : lo ≤ l) (h4 : l ≤ hi) : mPw a b lo hi (M ++ N) := by
  refine ⟨fun p hp => ?_, List.pairwise_append.mpr ⟨h.2, h'.2, fun p hp q hq => ?_⟩⟩
  · rcases List.mem_append.mp hp with hp | hp
    · have := h.1 p hp; omega
    · have := h'.1 p hp; omega
  · have := h.1 p hp
    have := h'.1 q hq
    omega
theorem mPw_one {a b lo hi x y : Nat} (h : lo ≤ x ∧ x < hi ∧ a ≤ y ∧ y < b) : mPw a b lo hi [(x, y)] := ⟨fun p hp => by rw [List.mem_singleton.mp hp]; exact h, List.pairwise_singleton _ _⟩
theorem hLs_lo {U : Nat → List Value} {P : Nat → Nat → List Nat → List (Nat × Nat) → Nat → Nat → Prop} : ∀ {k : Nat} {v : Value} {a : Nat} {ws : List Nat} {M : List (Nat × Nat)} {lo hi : Nat}, hLs U P k v a ws M lo hi → lo ≤ hi
  | 0, _, _, _, _, _, _, h => h.elim
  | k + 1, _, _, _, _, _, _, h => by
    rcases h with ⟨-, -, -, h⟩ | ⟨q, nxt, m, ws1, ws2, M1, M2, e1, e2, e3, e4, -⟩
    · exact h
    · omega
theorem hLs_M {U : Nat → List Value} {P : Nat → Nat → List Nat → List (Nat × Nat) → Nat → Nat → Prop} (hP : ∀ q a ws M hi, q < hi → P q a ws M (q + 1) hi → mPw (a + 1) (a + ws.length) q hi M) : ∀ {k : Nat} {v : Value} {a : Nat} {ws : List Nat} {M : List (Nat × Nat)} {lo hi : Nat}, hLs U P k v a ws M lo hi → mPw (a + 1) (a + ws.length) lo hi M
  | 0, _, _, _, _, _, _, h => h.elim
  | k + 1, _, _, _, _, _, _, h => by
    rcases h with ⟨-, -, rfl, h⟩ | ⟨q, nxt, m, ws1, ws2, M1, M2, e1, e2, e3, e4, e5, e6, rfl, rfl, e9⟩
    · exact mPw_nil
    · have h1 := hP q _ _ _ _ e3 e6
      have h2 := hLs_M hP e9
      rw [List.length_append]
      exact mPw_app (mPw_mono h1 (Nat.le_refl _) (Nat.le_refl _) e2 (Nat.le_refl _)) (mPw_mono h2 (Nat.le_refl _) (by omega) (Nat.le_refl _) (Nat.le_refl _)) (by omega) (by omega) (by omega) (by omega) e4
theorem uSt_M {f : Bool} {R : cBk} (hR : ∀ a v ws M lo hi, R a v ws M lo hi → mPw (a + 1) (a + ws.length) lo hi M) {kind num : Nat} {l : List (Nat × Nat × Nat)} {body els : Value} {he : Int32} {q a hi : Nat} {ws : List Nat} {M : List (Nat × Nat)} (hqh : q < hi) (hs : uSt f R kind num l body he els q a ws M (q + 1) hi) : mPw (a + 1) (a + ws.length) q hi M := by
  rcases hs with ⟨h1, h2, wb, h3, rfl⟩ | ⟨rfl, h2, wb, ⟨h3, h4, h5, rfl⟩ | ⟨h3, wc, M1, M2, m, m1, m2, h4, h5, rfl, rfl⟩⟩ | ⟨rfl, h2, h3, rfl, rfl⟩ | ⟨h1, rfl, rfl, rfl⟩ | ⟨h1, h2, rfl, rfl⟩ | ⟨h1, h2, rfl, rfl⟩
  · refine mPw_mono (hR _ _ _ _ _ _ h3) (by omega) ?_ (by omega) (Nat.le_refl _)
    simp only [List.length_cons, List.length_append, List.length_nil]
    omega
  · refine mPw_mono (hR _ _ _ _ _ _ h5) (by omega) ?_ (by omega) (Nat.le_refl _)
    simp only [List.length_cons, List.length_append]
    omega
  · have r1 := hR _ _ _ _ _ _ h4
    have r2 := hR _ _ _ _ _ _ h5
    have r3 := mPw_app (b := a + 1 + (wdL l).length + 2 + wb.length + 2 + wc.length) r1 r2 (by omega) (by omega) (by omega) (by omega) m2
    refine mPw_mono r3 (by omega) ?_ (by omega) (Nat.le_refl _)
    simp only [List.length_cons, List.length_append]
    omega
  · refine mPw_one ⟨Nat.le_refl _, hqh, by omega, ?_⟩
    simp only [List.length_cons, List.length_append, List.length_nil]
    omega
  all_goals exact mPw_nil
theorem uBk_M {f : Bool} {U : Nat → List Value} {tm : List (Nat × Nat × Nat)} : ∀ (g : Nat) (a : Nat) (v : Value) (ws : List Nat) (M : List (Nat × Nat)) (lo hi : Nat), uBk f g U tm a v ws M lo hi → mPw (a + 1) (a + ws.length) lo hi M
  | 0, _, _, _, _, _, _, h => h.elim
  | g + 1, _, _, _, _, _, _, ⟨k, h⟩ => hLs_M (fun q a ws M hi hq hs => by
    obtain ⟨kind, num, frm, to, body, he, els, nm, tp, z1, z2, z3, z4⟩ := hs
    exact uSt_M (uBk_M g) hq z4) h
theorem tpP_M {U : Nat → List Value} {tm : List (Nat × Nat × Nat)} {k : Nat} {v : Value} {a : Nat} {ws : List Nat} {M : List (Nat × Nat)} {lo hi : Nat} (h : hLs U (tpP U tm) k v a ws M lo hi) : mPw (a + 1) (a + ws.length) lo hi M := hLs_M (fun q a ws M hi hq hs => by
  rcases hs with ⟨kind, num, frm, to, body, he, els, nm, tp, z1, z2, z3, z4⟩ | ⟨num, frm, to, body, he, els, nm, tp, wb, Mb, z1, z2, rfl, rfl⟩
  · exact uSt_M (uBk_M 3) hq z4
  · have r := uBk_M 3 _ _ _ _ _ _ z2
    simp only [List.length_cons, List.length_append, List.length_nil]
    refine ⟨fun p hp => ?_, List.pairwise_cons.mpr ⟨fun p hp => ?_, r.2⟩⟩
    · rcases List.mem_cons.mp hp with e | hp
      · rw [e]
        show q ≤ q ∧ q < hi ∧ a + 1 ≤ a + 2 ∧ a + 2 < _
        omega
      · have := r.1 p hp; omega
    · have := r.1 p hp
      show q < p.1 ∧ a + 2 < p.2
      omega) h
