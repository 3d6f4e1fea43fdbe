/-! the coder: its heap, words -/
def cdS (S1 U : Nat → List Value) (pa : Nat) (fs fc : Value) (tc wc : Nat) (wr : List Value) : Nat → List Value := fun q =>
  if Nat.ble 87 q = true then U q else if q = 34 then [.ref pa]
  else if (Nat.ble 46 q && Nat.ble q 55) = true then (if q = pa then [fs, fc, .ref (pa + 1), .ref (pa + 2), .ref (pa + 3), .int (Int32.ofNat tc), .ref (pa + 4), .int (Int32.ofNat wc)] else if q = pa + 4 then wr else S1 q)
  else S1 q
def wdK (ws : List Nat) (wr : List Value) : Prop := wr.length = 240 ∧ ∀ (i : Nat) (x : Nat), i < 240 → ws[i]? = some x → wr[i]? = some (.int (Int32.ofNat x))
/-- the coder's state: what is in the objects, the words -/
def dX (S1 : Nat → List Value) (pa : Nat) (fs fc : Value) (tc : Nat) (U : Nat → List Value) (ws : List Nat) (S : Nat → List Value) : Prop := ∃ wr, S = cdS S1 U pa fs fc tc ws.length wr ∧ wdK ws wr
section CDA
variable {scr : List Value} {kd : Nat → Nat} {n d pa tc : Nat} {S1 U S : Nat → List Value} {fs fc : Value} {ws : List Nat} {w k : Nat} {tm : List (Nat × Nat × Nat)}
theorem cdS_wc (hpa : pa = 46 ∨ pa = 51) {wc u : Nat} {wr : List Value} : aUp (cdS S1 U pa fs fc tc wc wr) pa (([fs, fc, .ref (pa + 1), .ref (pa + 2), .ref (pa + 3), .int (Int32.ofNat tc), .ref (pa + 4), .int (Int32.ofNat wc)] : List Value).set 7 (.int (Int32.ofNat u))) = cdS S1 U pa fs fc tc u wr := by
  rcases hpa with rfl | rfl
  · funext q
    unfold aUp cdS
    by_cases e : q = 46 <;> simp [e]
  · funext q
    unfold aUp cdS
    by_cases e : q = 51 <;> simp [e]
theorem cdS_wr (hpa : pa = 46 ∨ pa = 51) {wc : Nat} {wr u : List Value} : aUp (cdS S1 U pa fs fc tc wc wr) (pa + 4) u = cdS S1 U pa fs fc tc wc u := by
  rcases hpa with rfl | rfl
  · funext q
    unfold aUp cdS
    by_cases e : q = 50 <;> simp [e]
  · funext q
    unfold aUp cdS
    by_cases e : q = 55 <;> simp [e]
theorem cdS_U {wc q : Nat} {wr x : List Value} (hq : 87 ≤ q) : aUp (cdS S1 U pa fs fc tc wc wr) q x = cdS S1 (aUp U q x) pa fs fc tc wc wr := by
  funext p
  show (if p = q then x else cdS _ _ _ _ _ _ _ _ p) = _
  unfold cdS
  by_cases e : p = q
  · subst e
    rw [if_pos rfl, if_pos (Nat.ble_eq.mpr hq), aUp_same]
  · rw [if_neg e, aUp_ne e]
theorem cdS_p0 (hpa : pa = 46 ∨ pa = 51) {wc : Nat} {wr : List Value} : cdS S1 U pa fs fc tc wc wr pa = [fs, fc, .ref (pa + 1), .ref (pa + 2), .ref (pa + 3), .int (Int32.ofNat tc), .ref (pa + 4), .int (Int32.ofNat wc)] := by rcases hpa with rfl | rfl <;> rfl
theorem cdS_p1 (hpa : pa = 46 ∨ pa = 51) {wc : Nat} {wr : List Value} : cdS S1 U pa fs fc tc wc wr (pa + 1) = S1 (pa + 1) := by rcases hpa with rfl | rfl <;> rfl
theorem cdS_p2 (hpa : pa = 46 ∨ pa = 51) {wc : Nat} {wr : List Value} : cdS S1 U pa fs fc tc wc wr (pa + 2) = S1 (pa + 2) := by rcases hpa with rfl | rfl <;> rfl
theorem cdS_p3 (hpa : pa = 46 ∨ pa = 51) {wc : Nat} {wr : List Value} : cdS S1 U pa fs fc tc wc wr (pa + 3) = S1 (pa + 3) := by rcases hpa with rfl | rfl <;> rfl
theorem cdS_p4 (hpa : pa = 46 ∨ pa = 51) {wc : Nat} {wr : List Value} : cdS S1 U pa fs fc tc wc wr (pa + 4) = wr := by rcases hpa with rfl | rfl <;> rfl
theorem pa_h4 (hpa : pa = 46 ∨ pa = 51) : (Nat.ble 20 (pa + 4) && Nat.blt (pa + 4) 87) = true := by rcases hpa with rfl | rfl <;> rfl
theorem pa_k4 (hpa : pa = 46 ∨ pa = 51) : gK kd (pa + 4) = 0 := by rcases hpa with rfl | rfl <;> rfl
theorem c_setWord (hn : 67 ≤ n) (hpa : pa = 46 ∨ pa = 51) (hk : k < 2 ^ 20) {wc : Nat} {wr : List Value} (hl : wr.length = 240) : aE aM99 d 0 [(0, .ref pa), (1, .int (Int32.ofNat k)), (2, .int (Int32.ofNat w))] [] (gH scr kd n (cdS S1 U pa fs fc tc wc wr)) (aIs none (gH scr kd n (cdS S1 U pa fs fc tc wc (if k < 240 then wr.set k (.int (Int32.ofNat w)) else wr)))) := by
  have k0 : ¬ Int32.ofNat k < 0 := fun z => by
    have := (i32_lt (a := k) (b := 0) (by omega) (by omega)).mp z
    omega
  have k2 := i32_le (a := 240) (b := k) (by omega) (by omega)
  by_cases c : k < 240
  · rw [if_pos c]
    refine eS rfl rfl ?_
    refine eLt rfl rfl (fun z => absurd z k0) (fun _ => ?_)
    refine eS rfl rfl ?_
    refine eS rfl rfl ?_
    refine eIGe rfl rfl (fun z => absurd (k2.mp z) (by omega)) (fun _ => ?_)
    refine eS rfl rfl ?_
    refine gGet hn rfl (pa_h0 hpa) (pa_k0 hpa) (by rw [cdS_p0 hpa]; rfl) ?_
    refine eS rfl rfl ?_
    refine eS rfl rfl ?_
    refine gWr0 hn rfl (pa_h4 hpa) (pa_k4 hpa) k (by omega) (by rw [cdS_p4 hpa]; omega) (by rw [cdS_p4 hpa, cdS_wr hpa]) ?_
    exact eR rfl rfl ⟨rfl, rfl⟩
  · rw [if_neg c]
    refine eS rfl rfl ?_
    refine eLt rfl rfl (fun z => absurd z k0) (fun _ => ?_)
    refine eS rfl rfl ?_
    refine eS rfl rfl ?_
    refine eIGe rfl rfl (fun _ => ?_) (fun z => absurd (k2.mpr (by omega)) z)
    exact eR rfl rfl ⟨rfl, rfl⟩
theorem wdK_set {wr : List Value} (h : wdK ws wr) : wdK (ws.set k w) (if k < 240 then wr.set k (.int (Int32.ofNat w)) else wr) := by
  obtain ⟨h1, h2⟩ := h
  refine ⟨by split <;> simp [h1], fun i x hi hx => ?_⟩
  by_cases e : k = i
  · subst e
    have hl : k < ws.length := by
      have := (List.getElem?_eq_some_iff.mp hx).1
      rw [List.length_set] at this
      exact this
    rw [List.getElem?_set_self hl] at hx
    cases hx
    rw [if_pos hi, List.getElem?_set_self (by omega)]
  · rw [List.getElem?_set_ne e] at hx
    have := h2 i x hi hx
    split
    · rw [List.getElem?_set_ne e]; exact this
    · exact this
theorem wdK_snoc {wr : List Value} (h : wdK ws wr) : wdK (ws ++ [w]) (if ws.length < 240 then wr.set ws.length (.int (Int32.ofNat w)) else wr) := by
  obtain ⟨h1, h2⟩ := h
  refine ⟨by split <;> simp [h1], fun i x hi hx => ?_⟩
  rcases at_snoc hx with ⟨hl, hx⟩ | ⟨rfl, rfl⟩
  · have := h2 i x hi hx
    split
    · rw [List.getElem?_set_ne (by omega)]; exact this
    · exact this
  · rw [if_pos hi, List.getElem?_set_self (by omega)]
/-- the word k -/
theorem d_set (hn : 67 ≤ n) (hpa : pa = 46 ∨ pa = 51) (hk : k < 2 ^ 20) (h : dX S1 pa fs fc tc U ws S) : ∃ S', dX S1 pa fs fc tc U (ws.set k w) S' ∧ aE aM99 d 0 [(0, .ref pa), (1, .int (Int32.ofNat k)), (2, .int (Int32.ofNat w))] [] (gH scr kd n S) (aIs none (gH scr kd n S')) := by
  obtain ⟨wr, rfl, h⟩ := h
  exact ⟨_, ⟨_, by rw [List.length_set], wdK_set h⟩, c_setWord hn hpa hk h.1⟩
/-- one word more -/
theorem d_add (hn : 67 ≤ n) (hpa : pa = 46 ∨ pa = 51) (hk : ws.length < 2 ^ 20) (h : dX S1 pa fs fc tc U ws S) : ∃ S', dX S1 pa fs fc tc U (ws ++ [w]) S' ∧ aE aM98 (d + 1) 0 [(0, .ref pa), (1, .int (Int32.ofNat w))] [] (gH scr kd n S) (aIs none (gH scr kd n S')) := by
  obtain ⟨wr, rfl, h⟩ := h
  refine ⟨_, ⟨_, by rw [List.length_append, List.length_singleton], wdK_snoc h⟩, ?_⟩
  refine eS rfl rfl ?_
  refine eS rfl rfl ?_
  refine gGet hn rfl (pa_h0 hpa) (pa_k0 hpa) (by rw [cdS_p0 hpa]; rfl) ?_
  refine eS rfl rfl ?_
  refine gV1 hn rfl rfl (pa_h0 hpa) (pa_k0 hpa) rfl ⟨catOk rfl, catOk rfl⟩ (c_setWord hn hpa hk h.1) ?_
  refine eS rfl rfl ?_
  refine eS rfl rfl ?_
  refine gGet hn rfl (pa_h0 hpa) (pa_k0 hpa) (by rw [cdS_p0 hpa]; rfl) ?_
  refine eS rfl rfl ?_
  refine eS rfl rfl ?_
  rw [i32_succ]
  refine gPut hn rfl (pa_h0 hpa) rfl (pa_k0 hpa) (by rw [cdS_p0 hpa]; rfl) rfl rfl ((congrArg (fun z : List Value => aUp _ pa (z.set 7 (.int (Int32.ofNat (ws.length + 1))))) (cdS_p0 hpa)).trans (cdS_wc hpa)) ?_
  exact eR rfl rfl ⟨rfl, rfl⟩
/-- entries of the coder and the program -/
theorem d_34 (h : dX S1 pa fs fc tc U ws S) : (S 34)[0]? = some (.ref pa) := by
  obtain ⟨wr, rfl, -⟩ := h
  rfl
theorem d_pa (hpa : pa = 46 ∨ pa = 51) (h : dX S1 pa fs fc tc U ws S) : S pa = [fs, fc, .ref (pa + 1), .ref (pa + 2), .ref (pa + 3), .int (Int32.ofNat tc), .ref (pa + 4), .int (Int32.ofNat ws.length)] ∧ S (pa + 1) = S1 (pa + 1) ∧ S (pa + 2) = S1 (pa + 2) ∧ S (pa + 3) = S1 (pa + 3) := by
  obtain ⟨wr, rfl, -⟩ := h
  exact ⟨cdS_p0 hpa, cdS_p1 hpa, cdS_p2 hpa, cdS_p3 hpa⟩
theorem d_87 (h : dX S1 pa fs fc tc U ws S) {p : Nat} (hp : 87 ≤ p) : S p = U p := by
  obtain ⟨wr, rfl, -⟩ := h
  unfold cdS
  rw [if_pos (Nat.ble_eq.mpr hp)]
theorem d_U (h : dX S1 pa fs fc tc U ws S) {p : Nat} {b : List Value} (hp : 87 ≤ p) : dX S1 pa fs fc tc (aUp U p b) ws (aUp S p b) := by
  obtain ⟨wr, rfl, h⟩ := h
  exact ⟨wr, cdS_U hp, h⟩
theorem d_open (hn : 67 ≤ n) (hpa : pa = 46 ∨ pa = 51) (hk : ws.length + 1 < 2 ^ 20) (h : dX S1 pa fs fc tc U ws S) : ∃ S', dX S1 pa fs fc tc U (ws ++ [w, 0]) S' ∧ aE aM97 (d + 2) 0 [(0, .ref 34), (1, .int (Int32.ofNat w))] [] (gH scr kd n S) (aIs (some (.int (Int32.ofNat (ws.length + 1)))) (gH scr kd n S')) := by
  obtain ⟨S2, h2, a2⟩ := d_add (w := w) (d := d) (scr := scr) (kd := kd) hn hpa (by omega) h
  obtain ⟨S3, h3, a3⟩ := d_add (w := 0) (d := d) (scr := scr) (kd := kd) hn hpa (by rw [List.length_append, List.length_singleton]; omega) h2
  rw [List.append_assoc] at h3
  have e : (ws ++ ([w] ++ [0])).length = ws.length + 1 + 1 := by rw [List.length_append]; rfl
  refine ⟨S3, h3, ?_⟩
  refine eS rfl rfl ?_
  refine gGet hn rfl rfl rfl (d_34 h) ?_
  refine eS rfl rfl ?_
  refine gV1 hn rfl rfl (pa_h0 hpa) (pa_k0 hpa) rfl ⟨catOk rfl, catOk rfl⟩ a2 ?_
  refine eS rfl rfl ?_
  refine gGet hn rfl rfl rfl (d_34 h2) ?_
  refine eS rfl rfl ?_
  refine gV1 hn rfl rfl (pa_h0 hpa) (pa_k0 hpa) rfl ⟨catOk rfl, catOk rfl⟩ a3 ?_
  refine eS rfl rfl ?_
  refine gGet hn rfl rfl rfl (d_34 h3) ?_
  refine gGet hn rfl (pa_h0 hpa) (pa_k0 hpa) (by rw [(d_pa hpa h3).1]; rfl) ?_
  refine eS rfl rfl ?_
  refine eS rfl rfl ?_
  rw [e, i32_pre]
  exact eR rfl rfl ⟨rfl, rfl⟩
theorem c_terms {to : Nat} (hn : 67 ≤ n) (hpa : pa = 46 ∨ pa = 51) (hF : tmF tm (S1 (pa + 1)) (S1 (pa + 2)) (S1 (pa + 3))) (htc : tc = tm.length) (h160 : tm.length ≤ 160) (hto : to ≤ tm.length) : ∀ (m i : Nat) (ws : List Nat) (S : Nat → List Value), i + m = to → ws.length + 3 * m < 2 ^ 20 → (∀ q ∈ (tm.drop i).take m, 1 ≤ q.1 ∧ q.1 < 2 ^ 20) → dX S1 pa fs fc tc U ws S → ∃ S', dX S1 pa fs fc tc U (ws ++ wdL ((tm.drop i).take m)) S' ∧ aE aM101 (d + 3) 2 [(3, .int (Int32.ofNat i)), (0, .ref 34), (2, .int (Int32.ofNat to))] [] (gH scr kd n S) (aIs none (gH scr kd n S'))
  | 0, i, ws, S, hm, hw, hq, h => by
    obtain rfl : i = to := by omega
    refine ⟨S, by rw [List.take_zero]; show dX S1 pa fs fc tc U (ws ++ []) S; rw [List.append_nil]; exact h, ?_⟩
    refine eS rfl rfl ?_
    refine eS rfl rfl ?_
    refine eIGe rfl rfl (fun _ => ?_) (fun z => absurd ((i32_le (a := i) (b := i) (by omega) (by omega)).mpr (Nat.le_refl _)) z)
    exact eR rfl rfl ⟨rfl, rfl⟩
  | m + 1, i, ws, S, hm, hw, hq, h => by
    have hi : i < tm.length := by omega
    have eq : (tm.drop i).take (m + 1) = tm[i] :: (tm.drop (i + 1)).take m := by
      rw [List.drop_eq_getElem_cons hi, List.take_succ_cons]
    rw [eq] at hq ⊢
    obtain ⟨k1, k2⟩ := hq _ (List.mem_cons_self ..)
    have hq2 : ∀ q ∈ (tm.drop (i + 1)).take m, 1 ≤ q.1 ∧ q.1 < 2 ^ 20 := fun q h => hq q (List.mem_cons_of_mem _ h)
    obtain ⟨f1, f2, f3, f4⟩ := hF
    obtain ⟨r1, r2, r3⟩ := f4 i _ (List.getElem?_eq_getElem hi)
    have ew : ∀ ws' : List Nat, ws' = ws ++ wdT tm[i] → ws' ++ wdL ((tm.drop (i + 1)).take m) = ws ++ wdL (tm[i] :: (tm.drop (i + 1)).take m) := fun ws' e => by
      rw [e, List.append_assoc]; rfl
    have wl : (wdT tm[i]).length ≤ 3 := by
      have := wdL_len [tm[i]]
      rw [show wdL [tm[i]] = wdT tm[i] ++ [] from rfl, List.append_nil] at this
      exact this
    obtain ⟨Sa, ha, aa⟩ := d_add (w := tm[i].1) (d := d + 1) (scr := scr) (kd := kd) hn hpa (by omega) h
    have hc0 : ¬ Int32.ofNat to ≤ Int32.ofNat i := fun z => by have := (i32_le (a := to) (b := i) (by omega) (by omega)).mp z; omega
    have hc1 : ¬ Int32.ofNat tc ≤ Int32.ofNat i := fun z => by have := (i32_le (a := tc) (b := i) (by omega) (by omega)).mp z; omega
    have la : (ws ++ [tm[i].1]).length = ws.length + 1 := by rw [List.length_append]; rfl
    have v1 := i32_eq (a := tm[i].1) (b := 1) (by omega) (by omega)
    have v2 := i32_eq (a := tm[i].1) (b := 2) (by omega) (by omega)
    have v3 := i32_eq (a := tm[i].1) (b := 3) (by omega) (by omega)
    have p38 : ∀ S', (aE aM101 (d + 3) 38 [(4, .int (Int32.ofNat tm[i].1)), (3, .int (Int32.ofNat i)), (0, .ref 34), (2, .int (Int32.ofNat to))] [] (gH scr kd n Sa) (aIs none (gH scr kd n S'))) → aE aM101 (d + 3) 2 [(3, .int (Int32.ofNat i)), (0, .ref 34), (2, .int (Int32.ofNat to))] [] (gH scr kd n S) (aIs none (gH scr kd n S')) := by
      intro S' kk
      refine eS rfl rfl ?_
      refine eS rfl rfl ?_
      refine eIGe rfl rfl (fun z => (hc0 z).elim) (fun _ => ?_)
      refine eS rfl rfl ?_
      refine eS rfl rfl ?_
      refine gGet hn rfl rfl rfl (d_34 h) ?_
      refine gGet hn rfl (pa_h0 hpa) (pa_k0 hpa) (by rw [(d_pa hpa h).1]; rfl) ?_
      refine eIGe rfl rfl (fun z => (hc1 z).elim) (fun _ => ?_)
      refine eS rfl rfl ?_
      refine gGet hn rfl rfl rfl (d_34 h) ?_
      refine gGet hn rfl (pa_h0 hpa) (pa_k0 hpa) (by rw [(d_pa hpa h).1]; rfl) ?_
      refine eS rfl rfl ?_
      refine gRd0 hn rfl (pa_h1 hpa) (pa_k1 hpa) i (by omega) (by rw [(d_pa hpa h).2.1]; exact r1) ?_
      refine eS rfl rfl ?_
      refine eS rfl rfl ?_
      refine gGet hn rfl rfl rfl (d_34 h) ?_
      refine eS rfl rfl ?_
      refine gV1 hn rfl rfl (pa_h0 hpa) (pa_k0 hpa) rfl ⟨catOk rfl, catOk rfl⟩ aa ?_
      exact kk
    by_cases c1 : tm[i].1 = 1
    · obtain ⟨Sb, hb, ab⟩ := d_add (w := tm[i].2.1) (d := d + 1) (scr := scr) (kd := kd) hn hpa (by omega) ha
      have lb : (ws ++ [tm[i].1] ++ [tm[i].2.1]).length = ws.length + 2 := by rw [List.length_append, la]; rfl
      obtain ⟨Sc, hc, ac⟩ := d_add (w := tm[i].2.2) (d := d + 1) (scr := scr) (kd := kd) hn hpa (by omega) hb
      have e3 : ws ++ [tm[i].1] ++ [tm[i].2.1] ++ [tm[i].2.2] = ws ++ wdT tm[i] := by
        unfold wdT
        rw [if_pos c1, c1]
        simp only [List.append_assoc]
        rfl
      rw [e3] at hc
      obtain ⟨S', hd, ad⟩ := c_terms hn hpa ⟨f1, f2, f3, f4⟩ htc h160 hto m (i + 1) (ws ++ wdT tm[i]) Sc (by omega) (by rw [List.length_append]; omega) hq2 hc
      refine ⟨S', by rw [← ew _ rfl]; exact hd, p38 S' ?_⟩
      refine eS rfl rfl ?_
      refine eS rfl rfl ?_
      refine eIEq rfl rfl (fun _ => ?_) (fun z => absurd (v1.mpr c1) z)
      refine eS rfl rfl ?_
      refine gGet hn rfl rfl rfl (d_34 ha) ?_
      refine eS rfl rfl ?_
      refine gGet hn rfl rfl rfl (d_34 ha) ?_
      refine gGet hn rfl (pa_h0 hpa) (pa_k0 hpa) (by rw [(d_pa hpa ha).1]; rfl) ?_
      refine eS rfl rfl ?_
      refine gRd0 hn rfl (pa_h2 hpa) (pa_k2 hpa) i (by omega) (by rw [(d_pa hpa ha).2.2.1]; exact r2) ?_
      refine gV1 hn rfl rfl (pa_h0 hpa) (pa_k0 hpa) rfl ⟨catOk rfl, catOk rfl⟩ ab ?_
      refine eS rfl rfl ?_
      refine eS rfl rfl ?_
      refine eINe rfl rfl (fun z => (z (v1.mpr c1)).elim) (fun _ => ?_)
      refine eS rfl rfl ?_
      refine gGet hn rfl rfl rfl (d_34 hb) ?_
      refine eS rfl rfl ?_
      refine gGet hn rfl rfl rfl (d_34 hb) ?_
      refine gGet hn rfl (pa_h0 hpa) (pa_k0 hpa) (by rw [(d_pa hpa hb).1]; rfl) ?_
      refine eS rfl rfl ?_
      refine gRd0 hn rfl (pa_h3 hpa) (pa_k3 hpa) i (by omega) (by rw [(d_pa hpa hb).2.2.2]; exact r3) ?_
      refine gV1 hn rfl rfl (pa_h0 hpa) (pa_k0 hpa) rfl ⟨catOk rfl, catOk rfl⟩ ac ?_
      refine eS rfl rfl ?_
      rw [i32_succ]
      refine eS rfl rfl ?_
      exact eLoc (l' := [(3, .int (Int32.ofNat (i + 1))), (0, .ref 34), (2, .int (Int32.ofNat to))]) rfl ⟨rfl, rfl, rfl, trivial⟩ ad
    by_cases c2 : tm[i].1 = 2 ∨ tm[i].1 = 3
    · obtain ⟨Sb, hb, ab⟩ := d_add (w := tm[i].2.1) (d := d + 1) (scr := scr) (kd := kd) hn hpa (by omega) ha
      have e3 : ws ++ [tm[i].1] ++ [tm[i].2.1] = ws ++ wdT tm[i] := by
        unfold wdT
        rw [if_neg c1, if_pos (by omega)]
        simp only [List.append_assoc]
        rfl
      rw [e3] at hb
      obtain ⟨S', hd, ad⟩ := c_terms hn hpa ⟨f1, f2, f3, f4⟩ htc h160 hto m (i + 1) (ws ++ wdT tm[i]) Sb (by omega) (by rw [List.length_append]; omega) hq2 hb
      refine ⟨S', by rw [← ew _ rfl]; exact hd, p38 S' ?_⟩
      have p56 : aE aM101 (d + 3) 56 [(4, .int (Int32.ofNat tm[i].1)), (3, .int (Int32.ofNat i)), (0, .ref 34), (2, .int (Int32.ofNat to))] [] (gH scr kd n Sa) (aIs none (gH scr kd n S')) := by
        refine eS rfl rfl ?_
        refine gGet hn rfl rfl rfl (d_34 ha) ?_
        refine eS rfl rfl ?_
        refine gGet hn rfl rfl rfl (d_34 ha) ?_
        refine gGet hn rfl (pa_h0 hpa) (pa_k0 hpa) (by rw [(d_pa hpa ha).1]; rfl) ?_
        refine eS rfl rfl ?_
        refine gRd0 hn rfl (pa_h2 hpa) (pa_k2 hpa) i (by omega) (by rw [(d_pa hpa ha).2.2.1]; exact r2) ?_
        refine gV1 hn rfl rfl (pa_h0 hpa) (pa_k0 hpa) rfl ⟨catOk rfl, catOk rfl⟩ ab ?_
        refine eS rfl rfl ?_
        refine eS rfl rfl ?_
        refine eINe rfl rfl (fun _ => ?_) (fun z => (c1 (v1.mp z)).elim)
        refine eS rfl rfl ?_
        rw [i32_succ]
        refine eS rfl rfl ?_
        exact eLoc (l' := [(3, .int (Int32.ofNat (i + 1))), (0, .ref 34), (2, .int (Int32.ofNat to))]) rfl ⟨rfl, rfl, rfl, trivial⟩ ad
      rcases c2 with c2 | c2
      · skip
        refine eS rfl rfl ?_
        refine eS rfl rfl ?_
        refine eIEq rfl rfl (fun z => absurd (v1.mp z) c1) (fun _ => ?_)
        refine eS rfl rfl ?_
        refine eS rfl rfl ?_
        refine eIEq rfl rfl (fun _ => ?_) (fun z => absurd (v2.mpr c2) z)
        exact p56
      · skip
        refine eS rfl rfl ?_
        refine eS rfl rfl ?_
        refine eIEq rfl rfl (fun z => absurd (v1.mp z) c1) (fun _ => ?_)
        refine eS rfl rfl ?_
        refine eS rfl rfl ?_
        refine eIEq rfl rfl (fun z => absurd (v2.mp z) (by omega)) (fun _ => ?_)
        refine eS rfl rfl ?_
        refine eS rfl rfl ?_
        refine eINe rfl rfl (fun z => (z (v3.mpr c2)).elim) (fun _ => ?_)
        exact p56
    · have e3 : ws ++ [tm[i].1] = ws ++ wdT tm[i] := by
        unfold wdT
        rw [if_neg c1, if_neg (by omega)]
      rw [e3] at ha
      obtain ⟨S', hd, ad⟩ := c_terms hn hpa ⟨f1, f2, f3, f4⟩ htc h160 hto m (i + 1) (ws ++ wdT tm[i]) Sa (by omega) (by rw [List.length_append]; omega) hq2 ha
      refine ⟨S', by rw [← ew _ rfl]; exact hd, p38 S' ?_⟩
      refine eS rfl rfl ?_
      refine eS rfl rfl ?_
      refine eIEq rfl rfl (fun z => absurd (v1.mp z) c1) (fun _ => ?_)
      refine eS rfl rfl ?_
      refine eS rfl rfl ?_
      refine eIEq rfl rfl (fun z => absurd (v2.mp z) (by omega)) (fun _ => ?_)
      refine eS rfl rfl ?_
      refine eS rfl rfl ?_
      refine eINe rfl rfl (fun _ => ?_) (fun z => (c2 (Or.inr (v3.mp z))).elim)
      refine eS rfl rfl ?_
      refine eS rfl rfl ?_
      refine eINe rfl rfl (fun _ => ?_) (fun z => (c1 (v1.mp z)).elim)
      refine eS rfl rfl ?_
      rw [i32_succ]
      refine eS rfl rfl ?_
      exact eLoc (l' := [(3, .int (Int32.ofNat (i + 1))), (0, .ref 34), (2, .int (Int32.ofNat to))]) rfl ⟨rfl, rfl, rfl, trivial⟩ ad
end CDA
