/-! the model pours operators, numbers names -/
def wtF (st : List Nat) (a : List Value) : Prop := ∀ (i : Nat) (x : Nat), st.reverse[i]? = some x → a[i]? = some (.int (Int32.ofNat x))
def drF (dr : List Nat) (a : List Value) : Prop := ∀ (i : Nat) (x : Nat), dr[i]? = some x → a[i]? = some (.int (Int32.ofNat x))
def porE (s : Nat) : List Nat → List Nat
  | [] => []
  | w :: r => if s ≤ strg w then w :: porE s r else []
def porL (s : Nat) : List Nat → List Nat
  | [] => []
  | w :: r => if s ≤ strg w then porL s r else w :: r
section MPO
variable {scr : List Value} {kd : Nat → Nat} {n d L md t vr pr lv df cl : Nat} {S0 A : Nat → List Value} {w0 : Value} {wr tk : Int32} {rest : List Value} {ts : List aTk} {vs ps : List (List Nat)} {st dr : List Nat} {s : Nat} {Q : aOut → aH → Prop}
theorem drF_snoc {x : Nat} {a : List Value} (h : drF dr a) (hl : dr.length < a.length) : drF (dr ++ [x]) (a.set dr.length (.int (Int32.ofNat x))) := by
  intro i y hy
  rcases at_snoc hy with ⟨hi, hy⟩ | ⟨rfl, rfl⟩
  · rw [List.getElem?_set_ne (by omega)]
    exact h i y hy
  · exact List.getElem?_set_self hl
theorem wtF_push {x : Nat} {a : List Value} (h : wtF st a) (hl : st.length < a.length) : wtF (x :: st) (a.set st.length (.int (Int32.ofNat x))) := by
  intro i y hy
  rw [List.reverse_cons] at hy
  rcases at_snoc hy with ⟨hi, hy⟩ | ⟨rfl, rfl⟩
  · rw [List.length_reverse] at hi
    rw [List.getElem?_set_ne (by omega)]
    exact h i y hy
  · rw [List.length_reverse]
    exact List.getElem?_set_self hl
theorem wtF_top {x : Nat} {a : List Value} (h : wtF (x :: st) a) : a[st.length]? = some (.int (Int32.ofNat x)) := h _ _ (by rw [List.reverse_cons, List.getElem?_append_right (by rw [List.length_reverse]; omega), List.length_reverse, Nat.sub_self]; rfl)
theorem wtF_pop {x : Nat} {a : List Value} (h : wtF (x :: st) a) : wtF st a := fun i y hy => h i y (by rw [List.reverse_cons, List.getElem?_append_left (List.getElem?_eq_some_iff.mp hy).1]; exact hy)
theorem strg_le {w : Nat} : strg w ≤ 3 := by
  unfold strg
  split
  · decide
  · split
    · decide
    · split <;> decide
theorem m_pour_loop {n0 : Value} (hn : 67 ≤ n) (hs : s < 2 ^ 20) : ∀ (st dr : List Nat) (A : Nat → List Value), drF dr (A 62) → wtF st (A 65) → (A 62).length = 800 → dr.length + st.length ≤ 800 → st.length ≤ 400 → (∀ w ∈ st, w < 2 ^ 20) → ∃ A', (∀ q, q ≠ 62 → A' q = A q) ∧ (A' 62).length = 800 ∧ drF (dr ++ porE s st) (A' 62) ∧ aE aM193 (d + 1) 2 [(3, .int (Int32.ofNat st.length)), (0, .ref 56), (1, n0), (2, .int (Int32.ofNat s))] [] (gH scr kd n (mtS S0 (mE w0 L wr tk dr.length t vr pr lv df cl rest) A)) (aIs (some (.int (Int32.ofNat (porL s st).length))) (gH scr kd n (mtS S0 (mE w0 L wr tk (dr ++ porE s st).length t vr pr lv df cl rest) A')))
  | [], dr, A, hD, hW, h62, hl, h4, hw => by
    refine ⟨A, fun _ _ => rfl, h62, by show drF (dr ++ []) _; rw [List.append_nil]; exact hD, ?_⟩
    rw [show dr ++ porE s [] = dr from List.append_nil _]
    refine eS rfl rfl ?_
    refine eLe rfl rfl (fun _ => ?_) (fun z => absurd (show Int32.ofNat ([] : List Nat).length ≤ 0 by decide) z)
    refine eS rfl rfl ?_
    exact eR rfl rfl ⟨rfl, rfl⟩
  | w :: r, dr, A, hD, hW, h62, hl, h4, hw => by
    have hl : dr.length + (r.length + 1) ≤ 800 := hl
    have h4 : r.length + 1 ≤ 400 := h4
    have w20 := hw w (List.mem_cons_self ..)
    have top := wtF_top hW
    have sl := strg_le (w := w)
    have pos : ¬ Int32.ofNat (r.length + 1) ≤ 0 := fun z => by
      have := (i32_le (a := r.length + 1) (b := 0) (by omega) (by omega)).mp z
      omega
    by_cases c : s ≤ strg w
    · have hD2 := drF_snoc (x := w) hD (by rw [h62]; omega)
      obtain ⟨A', a1, a2, a3, a4⟩ := m_pour_loop (n0 := n0) hn hs r (dr ++ [w]) (aUp A 62 ((A 62).set dr.length (.int (Int32.ofNat w)))) hD2 (wtF_pop hW) (by rw [aUp_same, List.length_set]; exact h62) (by rw [List.length_append, List.length_singleton]; omega) (by omega) (fun v hv => hw v (List.mem_cons_of_mem _ hv))
      have e1 : porE s (w :: r) = w :: porE s r := if_pos c
      have e2 : porL s (w :: r) = porL s r := if_pos c
      have e3 : dr ++ porE s (w :: r) = (dr ++ [w]) ++ porE s r := by rw [e1, List.append_assoc]; rfl
      refine ⟨A', fun q hq => (a1 q hq).trans (aUp_ne hq), a2, by rw [e3]; exact a3, ?_⟩
      rw [e2, e3]
      rw [show (w :: r).length = r.length + 1 from rfl]
      refine eS rfl rfl ?_
      refine eLe rfl rfl (fun z => absurd z pos) (fun _ => ?_)
      refine eS rfl rfl ?_
      refine gGet hn rfl rfl rfl rfl ?_
      refine eS rfl rfl ?_
      refine eS rfl rfl ?_
      refine eS rfl rfl ?_
      rw [i32_pre]
      refine gRd0 hn rfl rfl rfl r.length (by omega) top ?_
      refine eC1 rfl rfl rfl ⟨catOk rfl, catOk rfl⟩ (m_strength w20) ?_
      refine eS rfl rfl ?_
      refine eILt rfl rfl (fun z => absurd ((i32_lt (a := strg w) (b := s) (by omega) (by omega)).mp z) (by omega)) (fun _ => ?_)
      refine eS rfl rfl ?_
      rw [show Int32.ofNat (r.length + 1) + Int32.ofInt (-1) = Int32.ofNat r.length from i32_dec.trans i32_pred]
      refine eS rfl rfl ?_
      refine eS rfl rfl ?_
      refine gGet hn rfl rfl rfl rfl ?_
      refine eS rfl rfl ?_
      refine gRd0 hn rfl rfl rfl r.length (by omega) top ?_
      refine gV1 hn rfl rfl rfl rfl rfl ⟨catOk rfl, catOk rfl⟩ (m_emit hn h62 (by omega)) ?_
      refine eS rfl rfl ?_
      rw [List.length_append, List.length_singleton] at a4
      exact eLoc (l' := [(3, .int (Int32.ofNat r.length)), (0, .ref 56), (1, n0), (2, .int (Int32.ofNat s))]) rfl ⟨rfl, rfl, rfl, rfl, trivial⟩ a4
    · have e1 : porE s (w :: r) = [] := if_neg c
      have e2 : porL s (w :: r) = w :: r := if_neg c
      refine ⟨A, fun _ _ => rfl, h62, by rw [e1, List.append_nil]; exact hD, ?_⟩
      rw [e1, e2, List.append_nil, show (w :: r).length = r.length + 1 from rfl]
      refine eS rfl rfl ?_
      refine eLe rfl rfl (fun z => absurd z pos) (fun _ => ?_)
      refine eS rfl rfl ?_
      refine gGet hn rfl rfl rfl rfl ?_
      refine eS rfl rfl ?_
      refine eS rfl rfl ?_
      refine eS rfl rfl ?_
      rw [i32_pre]
      refine gRd0 hn rfl rfl rfl r.length (by omega) top ?_
      refine eC1 rfl rfl rfl ⟨catOk rfl, catOk rfl⟩ (m_strength w20) ?_
      refine eS rfl rfl ?_
      refine eILt rfl rfl (fun _ => ?_) (fun z => absurd ((i32_lt (a := strg w) (b := s) (by omega) (by omega)).mpr (by omega)) z)
      refine eS rfl rfl ?_
      exact eR rfl rfl ⟨rfl, rfl⟩
theorem m_pour (hn : 67 ≤ n) (hs : s < 2 ^ 20) (hD : drF dr (A 62)) (hW : wtF st (A 65)) (h62 : (A 62).length = 800) (hl : dr.length + st.length ≤ 800) (h4 : st.length ≤ 400) (hw : ∀ w ∈ st, w < 2 ^ 20) : ∃ A', (∀ q, q ≠ 62 → A' q = A q) ∧ (A' 62).length = 800 ∧ drF (dr ++ porE s st) (A' 62) ∧ aE aM193 (d + 1) 0 [(0, .ref 56), (1, .int (Int32.ofNat st.length)), (2, .int (Int32.ofNat s))] [] (gH scr kd n (mtS S0 (mE w0 L wr tk dr.length t vr pr lv df cl rest) A)) (aIs (some (.int (Int32.ofNat (porL s st).length))) (gH scr kd n (mtS S0 (mE w0 L wr tk (dr ++ porE s st).length t vr pr lv df cl rest) A'))) := by
  obtain ⟨A', a1, a2, a3, a4⟩ := m_pour_loop (d := d) (scr := scr) (kd := kd) (L := L) (t := t) (vr := vr) (pr := pr) (lv := lv) (df := df) (cl := cl) (S0 := S0) (w0 := w0) (wr := wr) (tk := tk) (rest := rest) (n0 := .int (Int32.ofNat st.length)) hn hs st dr A hD hW h62 hl h4 hw
  exact ⟨A', a1, a2, a3, eS rfl rfl (eS rfl rfl a4)⟩
end MPO
