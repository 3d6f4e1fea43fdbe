/-! the class's begin -/
section BEG
variable {d p : Nat} {h : aH} {mc tu pi pl vl : List Value} {Q : aOut → aH → Prop}
theorem s_fillI_l {v : Int32} {N : Nat} (hN : pl.length = N) (hb : N < 2 ^ 31) (hp : 20 ≤ p) (hl : p < h.length) : ∀ (m k : Nat), k + m = N → Q (.inl none) (h.set p (0, List.replicate N (.int v))) →
    aE aM108 d 5 [(2, .int (Int32.ofNat k)), (3, .int (Int32.ofNat N)), (0, .ref p), (1, .int v)] [] (h.set p (0, List.replicate k (.int v) ++ pl.drop k)) Q
  | 0, k, hk, kk => by
    obtain rfl : k = N := by omega
    refine eS rfl rfl ?_
    refine eS rfl rfl ?_
    refine eIGe rfl rfl (fun _ => ?_) (fun z => absurd (Int32.le_refl _) z)
    refine eR rfl rfl ?_
    rw [List.drop_of_length_le (by omega), List.append_nil]
    exact kk
  | m + 1, k, hk, kk => by
    refine eS rfl rfl ?_
    refine eS rfl rfl ?_
    refine eIGe rfl rfl (fun z => absurd ((i32_le (by omega) (by omega)).mp z) (by omega)) (fun _ => ?_)
    refine eS rfl rfl ?_
    refine eS rfl rfl ?_
    refine eS rfl rfl ?_
    refine eH (I := .iastore) rfl rfl rfl rfl (aWr_at (gS hl) hp rfl (by omega) (by simp; omega)) ?_
    refine eS rfl rfl ?_
    refine eS rfl rfl ?_
    rw [uS, show (List.replicate k (Value.int v) ++ pl.drop k).set k (.int v) = _ from wipe_set (by omega), i32_succ]
    exact s_fillI_l hN hb hp hl m (k + 1) (by omega) kk
theorem s_fillI {v : Int32} {N : Nat} (h0 : h[p]? = some (0, pl)) (hN : pl.length = N) (hb : N < 2 ^ 31) (hp : 20 ≤ p) : aE aM108 d 0 [(0, .ref p), (1, .int v)] [] h (aIs none (h.set p (0, List.replicate N (.int v)))) := by
  refine eS rfl rfl ?_
  refine eS rfl rfl ?_
  refine eS rfl rfl ?_
  refine eLen rfl h0 (by decide) ?_
  refine eS rfl rfl ?_
  have e0 : h = h.set p (0, List.replicate 0 (.int v) ++ pl.drop 0) := (set_id h0).symm
  have := s_fillI_l (d := d) (Q := aIs none (h.set p (0, List.replicate N (.int v)))) (v := v) hN hb hp (List.getElem?_eq_some_iff.mp h0).1 N 0 (by omega) ⟨rfl, rfl⟩
  rw [← e0] at this
  refine aE.less (l' := [(2, .int (Int32.ofNat 0)), (3, .int (Int32.ofNat N)), (0, .ref p), (1, .int v)]) ⟨fun q hq => ?_, by show List.Nodup [3, 2, 0, 1]; decide⟩ this
  rw [← hN] at hq
  simp only [List.mem_cons, List.not_mem_nil, or_false] at hq
  rcases hq with rfl | rfl | rfl | rfl
  · exact List.mem_cons_of_mem _ List.mem_cons_self
  · exact List.mem_cons_self
  · exact List.mem_cons_of_mem _ (List.mem_cons_of_mem _ List.mem_cons_self)
  · exact List.mem_cons_of_mem _ (List.mem_cons_of_mem _ (List.mem_cons_of_mem _ List.mem_cons_self))
theorem s_fillF_l {v : UInt32} {N : Nat} (hN : pl.length = N) (hb : N < 2 ^ 31) (hp : 20 ≤ p) (hl : p < h.length) : ∀ (m k : Nat), k + m = N → Q (.inl none) (h.set p (3, List.replicate N (.float v))) →
    aE aM105 d 5 [(2, .int (Int32.ofNat k)), (3, .int (Int32.ofNat N)), (0, .ref p), (1, .float v)] [] (h.set p (3, List.replicate k (.float v) ++ pl.drop k)) Q
  | 0, k, hk, kk => by
    obtain rfl : k = N := by omega
    refine eS rfl rfl ?_
    refine eS rfl rfl ?_
    refine eIGe rfl rfl (fun _ => ?_) (fun z => absurd (Int32.le_refl _) z)
    refine eR rfl rfl ?_
    rw [List.drop_of_length_le (by omega), List.append_nil]
    exact kk
  | m + 1, k, hk, kk => by
    refine eS rfl rfl ?_
    refine eS rfl rfl ?_
    refine eIGe rfl rfl (fun z => absurd ((i32_le (by omega) (by omega)).mp z) (by omega)) (fun _ => ?_)
    refine eS rfl rfl ?_
    refine eS rfl rfl ?_
    refine eS rfl rfl ?_
    refine eH (I := .fastore) rfl rfl rfl rfl (aWr_at (gS hl) hp rfl (by omega) (by simp; omega)) ?_
    refine eS rfl rfl ?_
    refine eS rfl rfl ?_
    rw [uS, show (List.replicate k (Value.float v) ++ pl.drop k).set k (.float v) = _ from wipe_set (by omega), i32_succ]
    exact s_fillF_l hN hb hp hl m (k + 1) (by omega) kk
theorem s_fillF {v : UInt32} {N : Nat} (h0 : h[p]? = some (3, pl)) (hN : pl.length = N) (hb : N < 2 ^ 31) (hp : 20 ≤ p) : aE aM105 d 0 [(0, .ref p), (1, .float v)] [] h (aIs none (h.set p (3, List.replicate N (.float v)))) := by
  refine eS rfl rfl ?_
  refine eS rfl rfl ?_
  refine eS rfl rfl ?_
  refine eLen rfl h0 (by decide) ?_
  refine eS rfl rfl ?_
  have e0 : h = h.set p (3, List.replicate 0 (.float v) ++ pl.drop 0) := (set_id h0).symm
  have := s_fillF_l (d := d) (Q := aIs none (h.set p (3, List.replicate N (.float v)))) (v := v) hN hb hp (List.getElem?_eq_some_iff.mp h0).1 N 0 (by omega) ⟨rfl, rfl⟩
  rw [← e0] at this
  refine aE.less (l' := [(2, .int (Int32.ofNat 0)), (3, .int (Int32.ofNat N)), (0, .ref p), (1, .float v)]) ⟨fun q hq => ?_, by show List.Nodup [3, 2, 0, 1]; decide⟩ this
  rw [← hN] at hq
  simp only [List.mem_cons, List.not_mem_nil, or_false] at hq
  rcases hq with rfl | rfl | rfl | rfl
  · exact List.mem_cons_of_mem _ List.mem_cons_self
  · exact List.mem_cons_self
  · exact List.mem_cons_of_mem _ (List.mem_cons_of_mem _ List.mem_cons_self)
  · exact List.mem_cons_of_mem _ (List.mem_cons_of_mem _ (List.mem_cons_of_mem _ List.mem_cons_self))
def tuBeg (tu : List Value) : List Value := ((((tu.set 1 (.float 1098907648)).set 2 (.float 1094713344)).set 3 (.int 0)).set 4 (.int 1)).set 5 (.int 1)
def mcBeg (mc : List Value) : List Value := (((mc.set 1 (.int 0)).set 3 (.int 0)).set 8 (.int 0)).set 9 (.int 0)
theorem s_goHome (hl : 57 ≤ h.length) (h41 : h[41]? = some (20, tu)) (ht : tu.length = 6) : aE aM109 d 0 [(0, .ref 41)] [] h (aIs none (h.set 41 (20, ((tu.set 1 (.float 1098907648)).set 2 (.float 1094713344)).set 3 (.int 0)))) := by
  refine eS rfl rfl ?_
  refine eS rfl rfl ?_
  refine ePut rfl h41 rfl rfl (by decide) (by show 1 < tu.length; omega) rfl rfl ?_
  refine eS rfl rfl ?_
  refine eS rfl rfl ?_
  refine ePut rfl (gS (by omega)) rfl rfl (by decide) (by rw [List.length_set]; show 2 < tu.length; omega) rfl rfl ?_
  rw [uS]
  refine eS rfl rfl ?_
  refine eS rfl rfl ?_
  refine ePut rfl (gS (by omega)) rfl rfl (by decide) (by simp only [List.length_set]; show 3 < tu.length; omega) rfl rfl ?_
  rw [uS]
  exact eR rfl rfl ⟨rfl, rfl⟩
theorem s_tbegin (hl : 57 ≤ h.length) (h41 : h[41]? = some (20, tu)) (ht : tu.length = 6) (h0 : tu[0]? = some (.ref 42)) (h42 : h[42]? = some (22, pi)) (hp : pi[0]? = some (.ref 43)) (h43 : h[43]? = some (0, pl)) (hn : pl.length = 768) :
    aE aM106 (d + 2) 0 [(0, .ref 41)] [] h (aIs none ((h.set 41 (20, tuBeg tu)).set 43 (0, List.replicate 768 (.int 0)))) := by
  have hw : aE aM107 (d + 1) 0 [(0, .ref 42)] [] h (aIs none (h.set 43 (0, List.replicate 768 (.int 0)))) := by
    refine eS rfl rfl ?_
    refine eGet rfl h42 rfl hp ?_
    refine eS rfl rfl ?_
    refine eC1 rfl rfl rfl ⟨catOk rfl, catOk rfl⟩ (s_fillI h43 hn (by decide) (by decide)) ?_
    exact eR rfl rfl ⟨rfl, rfl⟩
  refine eS rfl rfl ?_
  refine eGet rfl h41 rfl h0 ?_
  refine eV1 rfl rfl h42 rfl rfl ⟨catOk rfl, catOk rfl⟩ hw ?_
  refine eS rfl rfl ?_
  refine eV1 rfl rfl ((gN (by decide)).trans h41) rfl rfl ⟨catOk rfl, catOk rfl⟩ (s_goHome (by rw [List.length_set]; exact hl) ((gN (by decide)).trans h41) ht) ?_
  refine eS rfl rfl ?_
  refine eS rfl rfl ?_
  refine ePut rfl (gS (by rw [List.length_set]; omega)) rfl rfl (by decide) (by simp only [List.length_set]; show 4 < tu.length; omega) rfl rfl ?_
  rw [uS]
  refine eS rfl rfl ?_
  refine eS rfl rfl ?_
  refine ePut rfl (gS (by rw [List.length_set]; omega)) rfl rfl (by decide) (by simp only [List.length_set]; show 5 < tu.length; omega) rfl rfl ?_
  rw [uS, uC (by decide)]
  exact eR rfl rfl ⟨rfl, rfl⟩
theorem s_kbegin (hl : 57 ≤ h.length) (h35 : h[35]? = some (18, mc)) (hm : mc.length = 10) (h2 : mc[2]? = some (.ref 37)) (h7 : mc[7]? = some (.ref 41)) (h37 : h[37]? = some (3, vl)) (hvl : vl.length = 8) (h41 : h[41]? = some (20, tu)) (ht : tu.length = 6) (h0 : tu[0]? = some (.ref 42)) (h42 : h[42]? = some (22, pi)) (hp : pi[0]? = some (.ref 43)) (h43 : h[43]? = some (0, pl)) (hn : pl.length = 768) :
    aE aM104 (d + 3) 0 [(0, .ref 35)] [] h (aIs none ((((h.set 35 (18, mcBeg mc)).set 37 (3, List.replicate 8 (.float 0))).set 41 (20, tuBeg tu)).set 43 (0, List.replicate 768 (.int 0)))) := by
  refine eS rfl rfl ?_
  refine eS rfl rfl ?_
  refine ePut rfl h35 rfl rfl (by decide) (by show 1 < mc.length; omega) rfl rfl ?_
  refine eS rfl rfl ?_
  refine eGet rfl (gS (by omega)) rfl ((List.getElem?_set_ne (by decide)).trans h2) ?_
  refine eS rfl rfl ?_
  refine eC1 rfl rfl rfl ⟨catOk rfl, catOk rfl⟩ (s_fillF ((gN (by decide)).trans h37) hvl (by decide) (by decide)) ?_
  refine eS rfl rfl ?_
  refine eS rfl rfl ?_
  refine ePut rfl ((gN (by decide)).trans (gS (by omega))) rfl rfl (by decide) (by simp only [List.length_set]; show 3 < mc.length; omega) rfl rfl ?_
  rw [uC (by decide), uS]
  refine eS rfl rfl ?_
  refine eGet rfl ((gN (by decide)).trans (gS (by omega))) rfl (((List.getElem?_set_ne (by decide)).trans (List.getElem?_set_ne (by decide))).trans h7) ?_
  refine eV1 rfl rfl (((gN (by decide)).trans (gN (by decide))).trans h41) rfl rfl ⟨catOk rfl, catOk rfl⟩ (s_tbegin (by simp only [List.length_set]; exact hl) (((gN (by decide)).trans (gN (by decide))).trans h41) ht h0 (((gN (by decide)).trans (gN (by decide))).trans h42) hp (((gN (by decide)).trans (gN (by decide))).trans h43) hn) ?_
  refine eS rfl rfl ?_
  refine eS rfl rfl ?_
  refine ePut rfl ((gN (by decide)).trans ((gN (by decide)).trans ((gN (by decide)).trans (gS (by omega))))) rfl rfl (by decide) (by simp only [List.length_set]; show 8 < mc.length; omega) rfl rfl ?_
  rw [uC (p := 35) (q := 43) (by decide), uC (p := 35) (q := 41) (by decide), uC (p := 35) (q := 37) (by decide), uS]
  refine eS rfl rfl ?_
  refine eS rfl rfl ?_
  refine ePut rfl ((gN (by decide)).trans ((gN (by decide)).trans ((gN (by decide)).trans (gS (by omega))))) rfl rfl (by decide) (by simp only [List.length_set]; show 9 < mc.length; omega) rfl rfl ?_
  rw [uC (p := 35) (q := 43) (by decide), uC (p := 35) (q := 41) (by decide), uC (p := 35) (q := 37) (by decide), uS]
  exact eR rfl rfl ⟨rfl, rfl⟩
end BEG
