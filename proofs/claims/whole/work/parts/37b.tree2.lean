/-! the class's tree, whole -/
section TRF
variable {K : List (Nat × cAl)} {D : List (Nat × dEf)} {W : Nat → Nat} {T : Nat → Nat × Nat × Nat} {M Mg M1 M2 : List (Nat × Nat)} {a b j k : Nat} {ws w1 w2 : List Nat} {f : Bool} {V : Nat → List Value} {tm : List (Nat × Nat × Nat)} {L : Nat → Option aO} {Dr : Nat → Nat → Prop} {n0 n tc : Nat}
theorem gC_app (h : gC K a (a + (w1 ++ w2).length) (M1 ++ M2)) (h1 : ∀ e ∈ M1, e.2 < a + w1.length) (h2 : ∀ e ∈ M2, a + w1.length ≤ e.2) : gC K a (a + w1.length) M1 ∧ gC K (a + w1.length) (a + w1.length + w2.length) M2 := by
  rw [List.length_append] at h
  refine ⟨fun p hp q1 q2 => ?_, fun p hp q1 q2 => ?_⟩
  · rcases List.mem_append.mp (h p hp q1 (by omega)) with z | z
    · exact z
    · have : _ ≤ p.2.2.2.1 := h2 _ z
      omega
  · rcases List.mem_append.mp (h p hp (by omega) (by omega)) with z | z
    · have : p.2.2.2.1 < _ := h1 _ z
      omega
    · exact z
theorem uSt_16 {R : cBk} {P : Nat × Nat → Prop} (hR : ∀ a v ws M lo hi, R a v ws M lo hi → ∀ e ∈ M, P e) {kind num : Nat} {l : List (Nat × Nat × Nat)} {body els : Value} {he : Int32} {q lo hi : Nat} (hq : kind = 16 → ∀ x, P (q, x)) (hs : uSt f R kind num l body he els q a ws M lo hi) : ∀ e ∈ M, P e := by
  rcases hs with ⟨h1, h2, wb, h3, rfl⟩ | ⟨rfl, h2, wb, ⟨h3, h4, h5, rfl⟩ | ⟨h3, wc, M1, M2, m, m1, m2, h4, h5, rfl, rfl⟩⟩ | ⟨rfl, h2, h3, rfl, rfl⟩ | ⟨h1, rfl, rfl, rfl⟩ | ⟨h1, h2, rfl, rfl⟩ | ⟨h1, h2, rfl, rfl⟩
  · exact hR _ _ _ _ _ _ h3
  · exact hR _ _ _ _ _ _ h5
  · intro e he
    rcases List.mem_append.mp he with he | he
    · exact hR _ _ _ _ _ _ h4 e he
    · exact hR _ _ _ _ _ _ h5 e he
  · intro e he
    rw [List.mem_singleton.mp he]
    exact hq rfl _
  all_goals exact fun e he => by cases he
theorem hLs_16 {P : Nat → Nat → List Nat → List (Nat × Nat) → Nat → Nat → Prop} {G : Nat × Nat → Prop} (hP : ∀ q a ws M lo hi, P q a ws M lo hi → ∀ e ∈ M, G e) : ∀ {k : Nat} {v : Value} {a : Nat} {ws : List Nat} {M : List (Nat × Nat)} {lo hi : Nat}, hLs V P k v a ws M lo hi → ∀ e ∈ M, G e
  | 0, _, _, _, _, _, _, h => h.elim
  | k + 1, _, _, _, _, _, _, h => by
    rcases h with ⟨-, -, rfl, h⟩ | ⟨q, nxt, m, ws1, ws2, M1, M2, e1, e2, e3, e4, e5, e6, rfl, rfl, e9⟩
    · exact fun e he => by cases he
    · intro e he
      rcases List.mem_append.mp he with he | he
      · exact hP _ _ _ _ _ _ e6 e he
      · exact hLs_16 hP e9 e he
theorem uBk_16 : ∀ (g : Nat) (a : Nat) (v : Value) (ws : List Nat) (M : List (Nat × Nat)) (lo hi : Nat), uBk f g V tm a v ws M lo hi → ∀ e ∈ M, (V e.1)[0]? = some (.int (Int32.ofNat 16))
  | 0, _, _, _, _, _, _, h => h.elim
  | g + 1, _, _, _, _, _, _, ⟨k, h⟩ => hLs_16 (fun q a ws M lo hi hs => by
    obtain ⟨kind, num, frm, to, body, he, els, nm, tp, ⟨nxt, nos, dfn, cp, z1⟩, z2, z3, z4⟩ := hs
    exact uSt_16 (uBk_16 g) (fun e x => by show (V q)[0]? = _; rw [z1, e]; rfl) z4) h
/-- what stands once and for all -/
def gA (K : List (Nat × cAl)) (Dr : Nat → Nat → Prop) (W : Nat → Nat) (T : Nat → Nat × Nat × Nat) (V : Nat → List Value) (tm : List (Nat × Nat × Nat)) (L : Nat → Option aO) (Mg : List (Nat × Nat)) (n0 n : Nat) : Prop := 67 ≤ n0 ∧ (∀ q, n0 + 20 ≤ q → q < n + 20 → L q = some (30, V q)) ∧ (∀ (j : Nat) (x : Nat × Nat × Nat), tm[j]? = some x → T j = x) ∧ gD Dr W V Mg ∧ ∀ p ∈ K, (V p.1)[0]? = some (.int (Int32.ofNat 16))
theorem tNode (hG : gA K Dr W T V tm L Mg n0 n) {R' : Value → Nat → Nat → Nat → Prop} {R : cBk} {q m : Nat} {nxt : Value} (hR : ∀ a v ws M lo hi, n0 + 20 ≤ lo → hi ≤ n + 20 → R a v ws M lo hi → (∀ e ∈ M, e ∈ Mg) → gW K W a ws → gC K a (a + ws.length) M → ∀ k, R' v k a (a + ws.length)) (hRM : ∀ a v ws M lo hi, R a v ws M lo hi → mPw (a + 1) (a + ws.length) lo hi M) (h7 : (V q)[7]? = some nxt) (hq : n0 + 20 ≤ q) (hm : m ≤ n + 20) (hs : pSt f R V tm q a ws M (q + 1) m) (hMg : ∀ e ∈ M, e ∈ Mg) (hW : gW K W a ws) (hC : gC K a (a + ws.length) M) (k : Nat) : ∃ (kind num frm to : Nat) (body : Value) (he : Int32) (els : Value) (nm : Int64) (nos : Value) (tp : Int32) (dfn : Value) (cp : Int32) (k' e : Nat), V q = stV kind num frm to body he els nxt nm nos tp dfn cp ∧ W a = 0 ∧ frm ≤ to ∧ to ≤ tm.length ∧ tTm W T f (to - frm) frm (a + 1) e k k' ∧ tSt W Dr f R' kind num body els dfn k k' a e (a + ws.length) := by
  obtain ⟨g1, g2, g3, g4, g5⟩ := hG
  obtain ⟨kind, num, frm, to, body, he, els, nm, tp, ⟨nxt', nos, dfn, cp, z1⟩, z2, z3, z4⟩ := hs
  rw [z1] at h7
  cases h7
  have z5 := uSt_mono (R' := fun a v ws M lo hi => R a v ws M lo hi ∧ n0 + 20 ≤ lo ∧ hi ≤ n + 20) (fun a v ws M lo' hi' b1 b2 r => ⟨r, by omega, by omega⟩) z4
  have ll : ((tm.drop frm).take (to - frm)).length = to - frm := by rw [List.length_take, List.length_drop]; omega
  obtain ⟨k', e, y1, y2, y3⟩ := tSt_of (Dr := Dr) (T := T) (frm := frm) (dfn := dfn) (R' := R') (fun a v ws M lo hi r x1 x2 x3 => hR a v ws M lo hi r.2.1 r.2.2 r.1 x1 x2 x3) (fun a v ws M lo hi r => hRM a v ws M lo hi r.1) z5 hMg hW hC (fun j x hj => by
    have hjl := (List.getElem?_eq_some_iff.mp hj).1
    rw [ll] at hjl
    rw [List.getElem?_take_of_lt hjl, List.getElem?_drop] at hj
    exact g3 _ x hj) (fun ek ad em => by
    obtain ⟨qd, d1, d2⟩ := g4 (q, ad) (hMg _ (by rw [em]; exact List.mem_singleton.mpr rfl)) (by show (V q)[0]? = _; rw [z1, ek]; rfl)
    have d1 : (V q)[11]? = some (.ref qd) := d1
    rw [z1] at d1
    cases d1
    exact ⟨qd, rfl, d2⟩) k
  rw [ll] at y2
  exact ⟨kind, num, frm, to, body, he, els, nm, nos, tp, dfn, cp, k', e, z1, y1, z2, z3, y2, y3⟩
theorem pSt_M {R : cBk} (hR : ∀ a v ws M lo hi, R a v ws M lo hi → mPw (a + 1) (a + ws.length) lo hi M) {q hi : Nat} (hq : q < hi) (hs : pSt f R V tm q a ws M (q + 1) hi) : mPw (a + 1) (a + ws.length) q hi M := by
  obtain ⟨kind, num, frm, to, body, he, els, nm, tp, z1, z2, z3, z4⟩ := hs
  exact uSt_M hR hq z4
theorem tLst_of (hG : gA K Dr W T V tm L Mg n0 n) {R' : Value → Nat → Nat → Nat → Prop} {R : cBk} (hR : ∀ a v ws M lo hi, n0 + 20 ≤ lo → hi ≤ n + 20 → R a v ws M lo hi → (∀ e ∈ M, e ∈ Mg) → gW K W a ws → gC K a (a + ws.length) M → ∀ k, R' v k a (a + ws.length)) (hRM : ∀ a v ws M lo hi, R a v ws M lo hi → mPw (a + 1) (a + ws.length) lo hi M) : ∀ (c : Nat) (v : Value) (a : Nat) (ws : List Nat) (M : List (Nat × Nat)) (lo hi : Nat), n0 + 20 ≤ lo → hi ≤ n + 20 → hLs V (pSt f R V tm) c v a ws M lo hi → (∀ e ∈ M, e ∈ Mg) → gW K W a ws → gC K a (a + ws.length) M → ∀ k, tLst W T tm.length Dr L f R' c v k a (a + ws.length)
  | 0, _, _, _, _, _, _, _, _, h => h.elim
  | c + 1, v, a, ws, M, lo, hi, l0, h0, h => by
    intro hMg hW hC k
    have n0' := hG.1
    rcases h with ⟨rfl, rfl, rfl, h⟩ | ⟨q, nxt, m, ws1, ws2, M1, M2, rfl, e2, e3, e4, e5, e6, rfl, rfl, e9⟩
    · exact Or.inl ⟨rfl, rfl⟩
    · obtain ⟨W1, W2⟩ := gW_app hW
      have m1 := pSt_M hRM e3 e6
      have m2 := hLs_M (fun q a ws M hi hq hs => pSt_M hRM hq hs) e9
      obtain ⟨C1, C2⟩ := gC_app hC (fun e he => by have := m1.1 e he; omega) (fun e he => by have := m2.1 e he; omega)
      obtain ⟨kind, num, frm, to, body, he, els, nm, nos, tp, dfn, cp, k', e, y1, y2, y3, y4, y5, y6⟩ := tNode hG hR hRM e5 (by omega) (by omega) e6 (fun e he => hMg e (List.mem_append_left _ he)) W1 C1 k
      have IH := tLst_of hG hR hRM c nxt (a + ws1.length) ws2 M2 m hi (by omega) h0 e9 (fun e he => hMg e (List.mem_append_right _ he)) W2 C2 k
      rw [List.length_append, ← Nat.add_assoc]
      exact Or.inr ⟨q, kind, num, frm, to, body, he, els, nxt, nm, nos, tp, dfn, cp, k', e, a + ws1.length, rfl, by omega, by rw [hG.2.1 q (by omega) (by omega), y1], y2, y3, y4, y5, y6, IH⟩
theorem tBlk_of (hG : gA K Dr W T V tm L Mg n0 n) : ∀ (g : Nat) (a : Nat) (v : Value) (ws : List Nat) (M : List (Nat × Nat)) (lo hi : Nat), n0 + 20 ≤ lo → hi ≤ n + 20 → uBk f g V tm a v ws M lo hi → (∀ e ∈ M, e ∈ Mg) → gW K W a ws → gC K a (a + ws.length) M → ∀ k, tBlk W T tm.length Dr L f g v k a (a + ws.length)
  | 0, _, _, _, _, _, _, _, _, h => h.elim
  | g + 1, a, v, ws, M, lo, hi, l0, h0, ⟨c, h⟩ => fun hMg hW hC k => ⟨c, tLst_of hG (tBlk_of hG g) (uBk_M g) c v a ws M lo hi l0 h0 h hMg hW hC k⟩
theorem tTop_of (hG : gA K Dr W T V tm L Mg n0 n) : ∀ (c : Nat) (v : Value) (a : Nat) (ws : List Nat) (M : List (Nat × Nat)) (lo hi : Nat), n0 + 20 ≤ lo → hi ≤ n + 20 → hLs V (tpP V tm) c v a ws M lo hi → (∀ e ∈ M, e ∈ Mg) → gW K W a ws → gC K a (a + ws.length) M → tTop W T tm.length Dr L c v a (a + ws.length) ∧ ∀ e ∈ M, (V e.1)[0]? = some (.int (Int32.ofNat 31)) → tDef W T tm.length Dr L e.1 e.2
  | 0, _, _, _, _, _, _, _, _, h => h.elim
  | c + 1, v, a, ws, M, lo, hi, l0, h0, h => by
    intro hMg hW hC
    have n0' := hG.1
    rcases h with ⟨rfl, rfl, rfl, h⟩ | ⟨q, nxt, m, ws1, ws2, M1, M2, rfl, e2, e3, e4, e5, e6, rfl, rfl, e9⟩
    · exact ⟨Or.inl ⟨rfl, rfl⟩, fun e he => by cases he⟩
    · obtain ⟨W1, W2⟩ := gW_app hW
      have m2 := tpP_M e9
      have hMg1 := fun e he => hMg e (List.mem_append_left M2 he)
      have Lq := hG.2.1 q (by omega) (by omega)
      rcases e6 with e6 | ⟨num, frm, to, body, he, els, nm, tp, wb, Mb, ⟨nxt', nos, dfn, cp, z1⟩, z2, rfl, rfl⟩
      · have m1 := pSt_M (uBk_M 3) e3 e6
        obtain ⟨C1, C2⟩ := gC_app hC (fun e he => by have := m1.1 e he; omega) (fun e he => by have := m2.1 e he; omega)
        obtain ⟨kind, num, frm, to, body, he, els, nm, nos, tp, dfn, cp, k', e, y1, y2, y3, y4, y5, y6⟩ := tNode hG (tBlk_of hG 3) (uBk_M 3) e5 (by omega) (by omega) e6 hMg1 W1 C1 0
        obtain ⟨t1, t2⟩ := tTop_of hG c nxt (a + ws1.length) ws2 M2 m hi (by omega) h0 e9 (fun e he => hMg e (List.mem_append_right _ he)) W2 C2
        rw [List.length_append, ← Nat.add_assoc]
        refine ⟨Or.inr (Or.inr ⟨q, kind, num, frm, to, body, he, els, nxt, nm, nos, tp, dfn, cp, k', e, a + ws1.length, rfl, by omega, by rw [Lq, y1], y2, y3, y4, y5, y6, t1⟩), fun e he h31 => ?_⟩
        rcases List.mem_append.mp he with he | he
        · have h16 : (V e.1)[0]? = some (.int (Int32.ofNat 16)) := by
            obtain ⟨kind, num, frm, to, body, he', els, nm, tp, ⟨nxt, nos, dfn, cp, z1⟩, z2, z3, z4⟩ := e6
            exact uSt_16 (P := fun e => (V e.1)[0]? = some (.int (Int32.ofNat 16))) (uBk_16 3) (fun e x => by show (V q)[0]? = _; rw [z1, e]; rfl) z4 e he
          rw [h16] at h31
          exact absurd h31 (by decide)
        · exact t2 e he h31
      · rw [z1] at e5
        cases e5
        have pw := uBk_M 3 _ _ _ _ _ _ z2
        have ln : (14 :: (a + 2 + wb.length + 1) :: (wb ++ [17])).length = 2 + wb.length + 1 := by simp only [List.length_cons, List.length_append, List.length_nil]; omega
        obtain ⟨C1, C2⟩ := gC_app hC (fun e he => by
          rw [ln]
          rcases List.mem_cons.mp he with he | he
          · rw [he]; show a + 2 < _; omega
          · have := pw.1 e he; omega) (fun e he => by have := m2.1 e he; omega)
        rw [ln] at C1
        have Cb : gC K a (a + (2 + wb.length + 1)) Mb := fun p hp q1 q2 => by
          rcases List.mem_cons.mp (C1 p hp q1 q2) with z | z
          · have z : p.1 = q := congrArg Prod.fst z
            have := hG.2.2.2.2 p hp
            rw [z, z1] at this
            exact absurd this (by show ¬ (some (Value.int (Int32.ofNat 31)) = _); decide)
          · exact z
        obtain ⟨g1, g2⟩ := gW_cons W1
        obtain ⟨g3, g4⟩ := gW_cons g2
        obtain ⟨g5, g6⟩ := gW_app g4
        obtain ⟨g7, -⟩ := gW_cons g6
        have bk := tBlk_of hG 3 _ _ _ _ _ _ (by omega) (by omega) z2 (fun e he => hMg1 e (List.mem_cons_of_mem _ he)) g5 (fun p hp q1 q2 => Cb p hp (by omega) (by omega)) 0
        have w1 := g1 (nCA Cb (fun e he => by have := pw.1 e he; omega) (by omega) (by omega))
        have w2 := g3 (nCA Cb (fun e he => by have := pw.1 e he; omega) (by omega) (by omega))
        have w3 := g7 (nCA Cb (fun e he => by have := pw.1 e he; omega) (by omega) (by omega))
        obtain ⟨t1, t2⟩ := tTop_of hG c nxt _ ws2 M2 m hi (by omega) h0 e9 (fun e he => hMg e (List.mem_append_right _ he)) W2 C2
        rw [List.length_append, ← Nat.add_assoc]
        rw [ln] at t1 ⊢
        rw [show a + (2 + wb.length + 1) = a + 2 + wb.length + 1 by omega] at t1 ⊢
        refine ⟨Or.inr (Or.inl ⟨q, num, frm, to, body, he, els, nxt, nm, nos, tp, dfn, cp, a + 2 + wb.length, rfl, by omega, by rw [Lq, z1], w1, w2, bk, w3, t1⟩), fun e he' h31 => ?_⟩
        rcases List.mem_append.mp he' with he' | he'
        · rcases List.mem_cons.mp he' with z | z
          · rw [z]
            exact ⟨by show 87 ≤ q; omega, num, frm, to, body, he, els, nxt, nm, nos, tp, dfn, cp, a + 2 + wb.length, by show L q = _; rw [Lq, z1], bk, w3⟩
          · rw [uBk_16 3 _ _ _ _ _ _ z2 e z] at h31
            exact absurd h31 (by decide)
        · exact t2 e he' h31
/-- a program's tree -/
theorem tPrg_of (hG : gA K Dr W T V tm L Mg n0 n) {c : Nat} {v : Value} (h : hLs V (tpP V tm) c v 0 ws Mg (n0 + 20) (n + 20)) (hW : gW K W 0 (ws ++ [27])) (hK : ∀ p ∈ K, (p.1, p.2.2.2.1) ∈ Mg) (hDr : ∀ q s, Dr q s → (q, s) ∈ Mg ∧ (V q)[0]? = some (.int (Int32.ofNat 31))) : tPrg W (ws.length + 1) T tm.length L v := by
  have pw := tpP_M h
  obtain ⟨w1, w2⟩ := gW_app hW
  obtain ⟨t1, t2⟩ := tTop_of hG c v 0 ws Mg _ _ (Nat.le_refl _) (Nat.le_refl _) h (fun e he => he) w1 (fun p hp _ _ => hK p hp)
  rw [Nat.zero_add] at t1 w2
  refine ⟨c, Dr, by rw [Nat.add_sub_cancel]; exact t1, Nat.succ_pos _, ?_, fun q s hd => t2 (q, s) (hDr q s hd).1 (hDr q s hd).2⟩
  rw [Nat.add_sub_cancel]
  exact (gW_cons w2).1 (fun p hp e => by have := pw.1 _ (hK p hp); have : p.2.2.2.1 < 0 + ws.length := this.2.2.2; omega)
end TRF
