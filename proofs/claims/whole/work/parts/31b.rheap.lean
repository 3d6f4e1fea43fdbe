/-! the heap while the reader reads -/
def rS (S0 U : Nat → List Value) (pa : Nat) (fd ld lc : Value) (t : Nat) (ep : Int32) (cv : Nat) (rv : List Value) (cp : Nat) (rp : List Value) (fs fc : Value) (tc : Nat) (wc : Int32) (t1 t2 t3 : List Value) : Nat → List Value := fun q =>
  if Nat.ble 87 q = true then U q
  else if q = 22 then [.ref 23, .ref 30, .ref 32, .ref pa, fd, ld, lc, .int (Int32.ofNat t), .int ep]
  else if q = 30 then [.ref 31, .int (Int32.ofNat cv)] else if q = 31 then rv else if q = 32 then [.ref 33, .int (Int32.ofNat cp)] else if q = 33 then rp
  else if (Nat.ble 46 q && Nat.ble q 55) = true then (if q = pa then [fs, fc, .ref (pa + 1), .ref (pa + 2), .ref (pa + 3), .int (Int32.ofNat tc), .ref (pa + 4), .int wc] else if q = pa + 1 then t1 else if q = pa + 2 then t2 else if q = pa + 3 then t3 else S0 q)
  else S0 q
section RSS
variable {scr : List Value} {kd : Nat → Nat} {n d L pa t cv cp tc : Nat} {S0 U : Nat → List Value} {fd ld lc fs fc : Value} {ep wc : Int32} {rv rp t1 t2 t3 : List Value} {ts : List aTk} {vs ps : List (List Nat)} {tm : List (Nat × Nat × Nat)}
theorem rS_t {u : Nat} : aUp (rS S0 U pa fd ld lc t ep cv rv cp rp fs fc tc wc t1 t2 t3) 22 (([.ref 23, .ref 30, .ref 32, .ref pa, fd, ld, lc, .int (Int32.ofNat t), .int ep] : List Value).set 7 (.int (Int32.ofNat u))) = (rS S0 U pa fd ld lc u ep cv rv cp rp fs fc tc wc t1 t2 t3) := by
  funext q
  unfold aUp rS
  by_cases e : q = 22 <;> simp [e]
theorem rS_ep {u : Int32} : aUp (rS S0 U pa fd ld lc t ep cv rv cp rp fs fc tc wc t1 t2 t3) 22 (([.ref 23, .ref 30, .ref 32, .ref pa, fd, ld, lc, .int (Int32.ofNat t), .int ep] : List Value).set 8 (.int u)) = (rS S0 U pa fd ld lc t u cv rv cp rp fs fc tc wc t1 t2 t3) := by
  funext q
  unfold aUp rS
  by_cases e : q = 22 <;> simp [e]
theorem rS_fd {u : Value} : aUp (rS S0 U pa fd ld lc t ep cv rv cp rp fs fc tc wc t1 t2 t3) 22 (([.ref 23, .ref 30, .ref 32, .ref pa, fd, ld, lc, .int (Int32.ofNat t), .int ep] : List Value).set 4 u) = (rS S0 U pa u ld lc t ep cv rv cp rp fs fc tc wc t1 t2 t3) := by
  funext q
  unfold aUp rS
  by_cases e : q = 22 <;> simp [e]
theorem rS_ld {u : Value} : aUp (rS S0 U pa fd ld lc t ep cv rv cp rp fs fc tc wc t1 t2 t3) 22 (([.ref 23, .ref 30, .ref 32, .ref pa, fd, ld, lc, .int (Int32.ofNat t), .int ep] : List Value).set 5 u) = (rS S0 U pa fd u lc t ep cv rv cp rp fs fc tc wc t1 t2 t3) := by
  funext q
  unfold aUp rS
  by_cases e : q = 22 <;> simp [e]
theorem rS_lc {u : Value} : aUp (rS S0 U pa fd ld lc t ep cv rv cp rp fs fc tc wc t1 t2 t3) 22 (([.ref 23, .ref 30, .ref 32, .ref pa, fd, ld, lc, .int (Int32.ofNat t), .int ep] : List Value).set 6 u) = (rS S0 U pa fd ld u t ep cv rv cp rp fs fc tc wc t1 t2 t3) := by
  funext q
  unfold aUp rS
  by_cases e : q = 22 <;> simp [e]
theorem rS_cv {u : Nat} : aUp (rS S0 U pa fd ld lc t ep cv rv cp rp fs fc tc wc t1 t2 t3) 30 (([.ref 31, .int (Int32.ofNat cv)] : List Value).set 1 (.int (Int32.ofNat u))) = (rS S0 U pa fd ld lc t ep u rv cp rp fs fc tc wc t1 t2 t3) := by
  funext q
  unfold aUp rS
  by_cases e : q = 30 <;> simp [e]
theorem rS_cp {u : Nat} : aUp (rS S0 U pa fd ld lc t ep cv rv cp rp fs fc tc wc t1 t2 t3) 32 (([.ref 33, .int (Int32.ofNat cp)] : List Value).set 1 (.int (Int32.ofNat u))) = (rS S0 U pa fd ld lc t ep cv rv u rp fs fc tc wc t1 t2 t3) := by
  funext q
  unfold aUp rS
  by_cases e : q = 32 <;> simp [e]
theorem rS_rv {u : List Value} : aUp (rS S0 U pa fd ld lc t ep cv rv cp rp fs fc tc wc t1 t2 t3) 31 (u) = (rS S0 U pa fd ld lc t ep cv u cp rp fs fc tc wc t1 t2 t3) := by
  funext q
  unfold aUp rS
  by_cases e : q = 31 <;> simp [e]
theorem rS_rp {u : List Value} : aUp (rS S0 U pa fd ld lc t ep cv rv cp rp fs fc tc wc t1 t2 t3) 33 (u) = (rS S0 U pa fd ld lc t ep cv rv cp u fs fc tc wc t1 t2 t3) := by
  funext q
  unfold aUp rS
  by_cases e : q = 33 <;> simp [e]
theorem rS_tc (hpa : pa = 46 ∨ pa = 51) {u : Nat} : aUp (rS S0 U pa fd ld lc t ep cv rv cp rp fs fc tc wc t1 t2 t3) (pa) (([fs, fc, .ref (pa + 1), .ref (pa + 2), .ref (pa + 3), .int (Int32.ofNat tc), .ref (pa + 4), .int wc] : List Value).set 5 (.int (Int32.ofNat u))) = (rS S0 U pa fd ld lc t ep cv rv cp rp fs fc u wc t1 t2 t3) := by
  rcases hpa with rfl | rfl
  · funext q
    unfold aUp rS
    by_cases e : q = 46 <;> simp [e]
  · funext q
    unfold aUp rS
    by_cases e : q = 51 <;> simp [e]
theorem rS_fs (hpa : pa = 46 ∨ pa = 51) {u : Value} : aUp (rS S0 U pa fd ld lc t ep cv rv cp rp fs fc tc wc t1 t2 t3) (pa) (([fs, fc, .ref (pa + 1), .ref (pa + 2), .ref (pa + 3), .int (Int32.ofNat tc), .ref (pa + 4), .int wc] : List Value).set 0 u) = (rS S0 U pa fd ld lc t ep cv rv cp rp u fc tc wc t1 t2 t3) := by
  rcases hpa with rfl | rfl
  · funext q
    unfold aUp rS
    by_cases e : q = 46 <;> simp [e]
  · funext q
    unfold aUp rS
    by_cases e : q = 51 <;> simp [e]
theorem rS_fc (hpa : pa = 46 ∨ pa = 51) {u : Value} : aUp (rS S0 U pa fd ld lc t ep cv rv cp rp fs fc tc wc t1 t2 t3) (pa) (([fs, fc, .ref (pa + 1), .ref (pa + 2), .ref (pa + 3), .int (Int32.ofNat tc), .ref (pa + 4), .int wc] : List Value).set 1 u) = (rS S0 U pa fd ld lc t ep cv rv cp rp fs u tc wc t1 t2 t3) := by
  rcases hpa with rfl | rfl
  · funext q
    unfold aUp rS
    by_cases e : q = 46 <;> simp [e]
  · funext q
    unfold aUp rS
    by_cases e : q = 51 <;> simp [e]
theorem rS_t1 (hpa : pa = 46 ∨ pa = 51) {u : List Value} : aUp (rS S0 U pa fd ld lc t ep cv rv cp rp fs fc tc wc t1 t2 t3) (pa + 1) (u) = (rS S0 U pa fd ld lc t ep cv rv cp rp fs fc tc wc u t2 t3) := by
  rcases hpa with rfl | rfl
  · funext q
    unfold aUp rS
    by_cases e : q = 47 <;> simp [e]
  · funext q
    unfold aUp rS
    by_cases e : q = 52 <;> simp [e]
theorem rS_t2 (hpa : pa = 46 ∨ pa = 51) {u : List Value} : aUp (rS S0 U pa fd ld lc t ep cv rv cp rp fs fc tc wc t1 t2 t3) (pa + 2) (u) = (rS S0 U pa fd ld lc t ep cv rv cp rp fs fc tc wc t1 u t3) := by
  rcases hpa with rfl | rfl
  · funext q
    unfold aUp rS
    by_cases e : q = 48 <;> simp [e]
  · funext q
    unfold aUp rS
    by_cases e : q = 53 <;> simp [e]
theorem rS_t3 (hpa : pa = 46 ∨ pa = 51) {u : List Value} : aUp (rS S0 U pa fd ld lc t ep cv rv cp rp fs fc tc wc t1 t2 t3) (pa + 3) (u) = (rS S0 U pa fd ld lc t ep cv rv cp rp fs fc tc wc t1 t2 u) := by
  rcases hpa with rfl | rfl
  · funext q
    unfold aUp rS
    by_cases e : q = 49 <;> simp [e]
  · funext q
    unfold aUp rS
    by_cases e : q = 54 <;> simp [e]
theorem rS_U {q : Nat} {x : List Value} (hq : 87 ≤ q) : aUp (rS S0 U pa fd ld lc t ep cv rv cp rp fs fc tc wc t1 t2 t3) q x = (rS S0 (aUp U q x) pa fd ld lc t ep cv rv cp rp fs fc tc wc t1 t2 t3) := by
  funext p
  show (if p = q then x else rS _ _ _ _ _ _ _ _ _ _ _ _ _ _ _ _ _ _ _ p) = _
  unfold rS
  by_cases e : p = q
  · subst e
    rw [if_pos rfl, if_pos (Nat.ble_eq.mpr hq), aUp_same]
  · rw [if_neg e, aUp_ne e]
theorem rS_p0 (hpa : pa = 46 ∨ pa = 51) : (rS S0 U pa fd ld lc t ep cv rv cp rp fs fc tc wc t1 t2 t3) (pa) = ([fs, fc, .ref (pa + 1), .ref (pa + 2), .ref (pa + 3), .int (Int32.ofNat tc), .ref (pa + 4), .int wc] : List Value) := by rcases hpa with rfl | rfl <;> rfl
theorem pa_h0 (hpa : pa = 46 ∨ pa = 51) : (Nat.ble 20 (pa) && Nat.blt (pa) 87) = true := by rcases hpa with rfl | rfl <;> rfl
theorem pa_k0 (hpa : pa = 46 ∨ pa = 51) : gK kd (pa) = 26 := by rcases hpa with rfl | rfl <;> rfl
theorem rS_p1 (hpa : pa = 46 ∨ pa = 51) : (rS S0 U pa fd ld lc t ep cv rv cp rp fs fc tc wc t1 t2 t3) (pa + 1) = t1 := by rcases hpa with rfl | rfl <;> rfl
theorem pa_h1 (hpa : pa = 46 ∨ pa = 51) : (Nat.ble 20 (pa + 1) && Nat.blt (pa + 1) 87) = true := by rcases hpa with rfl | rfl <;> rfl
theorem pa_k1 (hpa : pa = 46 ∨ pa = 51) : gK kd (pa + 1) = 0 := by rcases hpa with rfl | rfl <;> rfl
theorem rS_p2 (hpa : pa = 46 ∨ pa = 51) : (rS S0 U pa fd ld lc t ep cv rv cp rp fs fc tc wc t1 t2 t3) (pa + 2) = t2 := by rcases hpa with rfl | rfl <;> rfl
theorem pa_h2 (hpa : pa = 46 ∨ pa = 51) : (Nat.ble 20 (pa + 2) && Nat.blt (pa + 2) 87) = true := by rcases hpa with rfl | rfl <;> rfl
theorem pa_k2 (hpa : pa = 46 ∨ pa = 51) : gK kd (pa + 2) = 0 := by rcases hpa with rfl | rfl <;> rfl
theorem rS_p3 (hpa : pa = 46 ∨ pa = 51) : (rS S0 U pa fd ld lc t ep cv rv cp rp fs fc tc wc t1 t2 t3) (pa + 3) = t3 := by rcases hpa with rfl | rfl <;> rfl
theorem pa_h3 (hpa : pa = 46 ∨ pa = 51) : (Nat.ble 20 (pa + 3) && Nat.blt (pa + 3) 87) = true := by rcases hpa with rfl | rfl <;> rfl
theorem pa_k3 (hpa : pa = 46 ∨ pa = 51) : gK kd (pa + 3) = 0 := by rcases hpa with rfl | rfl <;> rfl
theorem rS_tk (h : tcS S0 ts L) : tcS (rS S0 U pa fd ld lc t ep cv rv cp rp fs fc tc wc t1 t2 t3) ts L := h
theorem c_addTerm {k a b : Int32} (hn : 67 ≤ n) (hpa : pa = 46 ∨ pa = 51) (htc : tc < 160) (h1 : t1.length = 160) (h2 : t2.length = 160) (h3 : t3.length = 160) : aE aM78 d 0 [(0, .ref pa), (1, .int k), (2, .int a), (3, .int b)] [] (gH scr kd n (rS S0 U pa fd ld lc t ep cv rv cp rp fs fc tc wc t1 t2 t3)) (aIs none (gH scr kd n (rS S0 U pa fd ld lc t ep cv rv cp rp fs fc (tc + 1) wc (t1.set tc (.int k)) (t2.set tc (.int a)) (t3.set tc (.int b))))) := by
  refine eS rfl rfl ?_
  refine gGet hn rfl (pa_h0 hpa) (pa_k0 hpa) (by rw [rS_p0 hpa]; rfl) ?_
  refine eS rfl rfl ?_
  refine eIGe rfl rfl (fun z => absurd ((i32_le (a := 160) (b := tc) (by omega) (by omega)).mp z) (by omega)) (fun _ => ?_)
  refine eS rfl rfl ?_
  refine gGet hn rfl (pa_h0 hpa) (pa_k0 hpa) (by rw [rS_p0 hpa]; rfl) ?_
  refine eS rfl rfl ?_
  refine gGet hn rfl (pa_h0 hpa) (pa_k0 hpa) (by rw [rS_p0 hpa]; rfl) ?_
  refine eS rfl rfl ?_
  refine gWr0 hn rfl (pa_h1 hpa) (pa_k1 hpa) tc (by omega) (by rw [rS_p1 hpa]; omega) (by rw [rS_p1 hpa, rS_t1 hpa]) ?_
  refine eS rfl rfl ?_
  refine gGet hn rfl (pa_h0 hpa) (pa_k0 hpa) (by rw [rS_p0 hpa]; rfl) ?_
  refine eS rfl rfl ?_
  refine gGet hn rfl (pa_h0 hpa) (pa_k0 hpa) (by rw [rS_p0 hpa]; rfl) ?_
  refine eS rfl rfl ?_
  refine gWr0 hn rfl (pa_h2 hpa) (pa_k2 hpa) tc (by omega) (by rw [rS_p2 hpa]; omega) (by rw [rS_p2 hpa, rS_t2 hpa]) ?_
  refine eS rfl rfl ?_
  refine gGet hn rfl (pa_h0 hpa) (pa_k0 hpa) (by rw [rS_p0 hpa]; rfl) ?_
  refine eS rfl rfl ?_
  refine gGet hn rfl (pa_h0 hpa) (pa_k0 hpa) (by rw [rS_p0 hpa]; rfl) ?_
  refine eS rfl rfl ?_
  refine gWr0 hn rfl (pa_h3 hpa) (pa_k3 hpa) tc (by omega) (by rw [rS_p3 hpa]; omega) (by rw [rS_p3 hpa, rS_t3 hpa]) ?_
  refine eS rfl rfl ?_
  refine eS rfl rfl ?_
  refine gGet hn rfl (pa_h0 hpa) (pa_k0 hpa) (by rw [rS_p0 hpa]; rfl) ?_
  refine eS rfl rfl ?_
  refine eS rfl rfl ?_
  refine gPut hn rfl (pa_h0 hpa) rfl (pa_k0 hpa) (by rw [rS_p0 hpa]; rfl) rfl rfl (by rw [rS_p0 hpa, i32_succ]) ?_
  exact eR rfl rfl ⟨rfl, congrArg (gH scr kd n) (rS_tc hpa)⟩
theorem c_here (hn : 67 ≤ n) (hT : tcS S0 ts L) (ht : t < 2 ^ 20) : aE aM69 (d + 1) 0 [(0, .ref 22)] [] (gH scr kd n (rS S0 U pa fd ld lc t ep cv rv cp rp fs fc tc wc t1 t2 t3)) (aIs (some (.int (Int32.ofNat (kA ts t)))) (gH scr kd n (rS S0 U pa fd ld lc t ep cv rv cp rp fs fc tc wc t1 t2 t3))) := by
  refine eS rfl rfl ?_
  refine gGet hn rfl rfl rfl rfl ?_
  refine eS rfl rfl ?_
  refine gGet hn rfl rfl rfl rfl ?_
  refine gV1 hn rfl rfl rfl rfl rfl ⟨catOk rfl, catOk rfl⟩ (c_kindAt hn (rS_tk hT) ht) ?_
  exact eR rfl rfl ⟨rfl, rfl⟩
theorem c_fnd (hn : 67 ≤ n) {S : Nat → List Value} {p : Nat} {x : List Nat} (hp : p = 30 ∨ p = 32) (h30 : S p = [.ref (p + 1), .int (Int32.ofNat vs.length)]) (hF : nmF 32 vs (S (p + 1))) (h8 : vs.length ≤ 8) (hv : ∀ y ∈ vs, nmOk y) (hx : nmOk x) : aE aM81 d 0 [(0, .ref p), (1, .long (Int64.ofNat (pk 32 x)))] [] (gH scr kd n S) (aIs (some (.int (fndV 0 vs x))) (gH scr kd n S)) := eS rfl rfl (eS rfl rfl (c_find hn hp h30 hF h8 hv hx vs.length 0 (Nat.zero_add _)))
theorem c_isPar (hn : 67 ≤ n) (hT : tcS S0 ts L) (ht : t < 2 ^ 20) (hk : kA ts t = 30) (hps : nmF 32 ps rp) (h3 : ps.length ≤ 3) (hpo : ∀ y ∈ ps, nmOk y) (hx : nmOk (nmA ts t)) (hcp : cp = ps.length) : aE aM79 (d + 1) 0 [(0, .ref 22)] [] (gH scr kd n (rS S0 U pa fd ld lc t ep cv rv cp rp fs fc tc wc t1 t2 t3)) (aIs (some (.int (if fndV 0 ps (nmA ts t) = -1 then 0 else 1))) (gH scr kd n (rS S0 U pa fd ld lc t ep cv rv cp rp fs fc tc wc t1 t2 t3))) := by
  subst hcp
  obtain ⟨x, x1, x2⟩ := c_nameAt (scr := scr) (kd := kd) (n := n) (d := d) (t := t) (S := (rS S0 U pa fd ld lc t ep cv rv ps.length rp fs fc tc wc t1 t2 t3)) hn (rS_tk hT) ht
  rw [x1 hk] at x2
  refine eS rfl rfl ?_
  refine gGet hn rfl rfl rfl rfl ?_
  refine eS rfl rfl ?_
  refine gGet hn rfl rfl rfl rfl ?_
  refine eS rfl rfl ?_
  refine gGet hn rfl rfl rfl rfl ?_
  refine gV1 hn rfl rfl rfl rfl rfl ⟨catOk rfl, catOk rfl⟩ (x2) ?_
  refine gV1 hn rfl rfl rfl rfl rfl ⟨catOk rfl, catOk rfl⟩ (c_fnd (p := 32) hn (Or.inr rfl) rfl hps (by omega) hpo hx) ?_
  refine eS rfl rfl ?_
  by_cases e : fndV 0 ps (nmA ts t) = -1
  · rw [if_pos e]
    refine eIEq rfl rfl (fun _ => ?_) (fun z => absurd e z)
    refine eS rfl rfl ?_
    exact eR rfl rfl ⟨rfl, rfl⟩
  · rw [if_neg e]
    refine eIEq rfl rfl (fun z => absurd z e) (fun _ => ?_)
    refine eS rfl rfl ?_
    refine eS rfl rfl ?_
    exact eR rfl rfl ⟨rfl, rfl⟩
end RSS
