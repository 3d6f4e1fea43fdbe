/-! the coder writes a statement -/
def wBkC (scr : List Value) (kd : Nat → Nat) (n n0 d pa tc : Nat) (S1 : Nat → List Value) (fs fc : Value) (tm : List (Nat × Nat × Nat)) (f : Bool) (g : Nat) : Prop := ∀ (U S : Nat → List Value) (pre : List Nat) (a : Nat) (v : Value) (ws : List Nat) (M : List (Nat × Nat)) (lo hi : Nat), uBk f g U tm a v ws M lo hi → a = pre.length → pre.length + ws.length < 2 ^ 19 → n0 + 20 ≤ lo → hi ≤ n + 20 → oOk n0 n kd U → dX S1 pa fs fc tc U pre S → ∃ S', dX S1 pa fs fc tc (cpU M U) (pre ++ ws) S' ∧ aE aM95 d 0 [(0, .ref 34), (1, v)] [] (gH scr kd n S) (aIs none (gH scr kd n S'))
theorem uBk_v {f : Bool} {g : Nat} {U : Nat → List Value} {tm : List (Nat × Nat × Nat)} {a : Nat} {v : Value} {ws : List Nat} {M : List (Nat × Nat)} {lo hi : Nat} (h : uBk f g U tm a v ws M lo hi) : v = .null ∨ ∃ q, v = .ref q := by
  cases g with
  | zero => exact h.elim
  | succ g => exact hLs_v h.choose_spec
theorem cat2 {v : Value} (h : v = .null ∨ ∃ q, v = .ref q) : aCat (.ref 34 :: [v]) ≤ aM95.nl := by
  rcases h with rfl | ⟨q, rfl⟩ <;> exact catOk rfl
section CDC
variable {scr : List Value} {kd : Nat → Nat} {n n0 d pa tc : Nat} {S1 U U' S : Nat → List Value} {fs fc : Value} {ws pre wb wc : List Nat} {g a q kind num frm to lo hi : Nat} {M : List (Nat × Nat)} {body els nxt nos dfn : Value} {he tp cp : Int32} {nm : Int64} {w k : Nat} {tm : List (Nat × Nat × Nat)} {f : Bool} {P : cPst}
theorem c_termsW (hn : 67 ≤ n) (hpa : pa = 46 ∨ pa = 51) (hF : tmF tm (S1 (pa + 1)) (S1 (pa + 2)) (S1 (pa + 3))) (htc : tc = tm.length) (h160 : tm.length ≤ 160) (hft : frm ≤ to) (hto : to ≤ tm.length) (hw : ws.length < 2 ^ 19) (hq : ∀ q ∈ (tm.drop frm).take (to - frm), 1 ≤ q.1 ∧ q.1 < 2 ^ 20) (h : dX S1 pa fs fc tc U ws S) : ∃ S', dX S1 pa fs fc tc U (ws ++ wdL ((tm.drop frm).take (to - frm))) S' ∧ aE aM101 (d + 3) 0 [(0, .ref 34), (1, .int (Int32.ofNat frm)), (2, .int (Int32.ofNat to))] [] (gH scr kd n S) (aIs none (gH scr kd n S')) := by
  obtain ⟨S', h1, h2⟩ := c_terms (scr := scr) (kd := kd) (d := d) (n := n) hn hpa hF htc h160 hto (to - frm) frm ws S (by omega) (by omega) hq h
  refine ⟨S', h1, ?_⟩
  refine eS rfl rfl ?_
  refine eS rfl rfl ?_
  exact eLoc (l' := [(3, .int (Int32.ofNat frm)), (0, .ref 34), (2, .int (Int32.ofNat to))]) rfl ⟨rfl, rfl, rfl, trivial⟩ h2
theorem cw_obj (hn0 : 67 ≤ n0) {M1 : aMt} {pc i j e : Nat} {ls : aLc} {r c : List Value} {v : Value} {res : aOut → aH → Prop} (hf : aFind M1.cd pc = some (.getfield i, (11, j, 0, .null))) (hq : n0 + 20 ≤ q) (hq2 : q < n + 20) (ho : oOk n0 n kd U) (h : dX S1 pa fs fc tc U ws S) (hU : U q = c) (hv : c[j]? = some v) (k : aE M1 e (pc + 3) ls (v :: r) (gH scr kd n S) res) : aE M1 e pc ls (.ref q :: r) (gH scr kd n S) res :=
  gGetO hf (by omega) hq2 (ho q hq hq2).1 ((d_87 h (by omega)).trans hU) hv k
theorem c_wrPre (hn0 : 67 ≤ n0) (hnn : n0 ≤ n) (hpa : pa = 46 ∨ pa = 51) (hF : tmF tm (S1 (pa + 1)) (S1 (pa + 2)) (S1 (pa + 3))) (htc : tc = tm.length) (h160 : tm.length ≤ 160) (hft : frm ≤ to) (hto : to ≤ tm.length) (hw : pre.length + 1 < 2 ^ 19) (hqs : ∀ q ∈ (tm.drop frm).take (to - frm), 1 ≤ q.1 ∧ q.1 < 2 ^ 20) (hq : n0 + 20 ≤ q) (hq2 : q < n + 20) (ho : oOk n0 n kd U) (eU : U q = stV kind num frm to body he els nxt nm nos tp dfn cp) (h : dX S1 pa fs fc tc U pre S) : ∃ S', dX S1 pa fs fc tc U (pre ++ 0 :: wdL ((tm.drop frm).take (to - frm))) S' ∧ ∀ Q, aE aM100 (d + 12) 32 [(2, .int (Int32.ofNat (pre.length + 1))), (0, .ref 34), (1, .ref q)] [.int (Int32.ofNat kind)] (gH scr kd n S') Q → aE aM100 (d + 12) 0 [(0, .ref 34), (1, .ref q)] [] (gH scr kd n S) Q := by
  have hn : 67 ≤ n := by omega
  obtain ⟨Sa, ha, aa⟩ := d_add (w := 0) (d := d + 10) (scr := scr) (kd := kd) hn hpa (by omega) h
  have la : (pre ++ [0]).length = pre.length + 1 := by rw [List.length_append]; rfl
  obtain ⟨Sb, hb, ab⟩ := c_termsW (d := d + 8) (scr := scr) (kd := kd) hn hpa hF htc h160 hft hto (by omega) hqs ha
  rw [List.append_assoc] at hb
  refine ⟨Sb, hb, fun Q kk => ?_⟩
  refine eS rfl rfl ?_
  refine gGet hn rfl rfl rfl (d_34 h) ?_
  refine eS rfl rfl ?_
  refine gV1 hn rfl rfl (pa_h0 hpa) (pa_k0 hpa) rfl ⟨catOk rfl, catOk rfl⟩ aa ?_
  refine eS rfl rfl ?_
  refine gGet hn rfl rfl rfl (d_34 ha) ?_
  refine gGet hn rfl (pa_h0 hpa) (pa_k0 hpa) (by rw [(d_pa hpa ha).1]; rfl) ?_
  rw [la]
  refine eS rfl rfl ?_
  refine eS rfl rfl ?_
  refine eS rfl rfl ?_
  refine cw_obj hn0 rfl hq hq2 ho ha eU rfl ?_
  refine eS rfl rfl ?_
  refine cw_obj hn0 rfl hq hq2 ho ha eU rfl ?_
  refine gV1 hn rfl rfl rfl rfl rfl ⟨catOk rfl, catOk rfl⟩ (ab) ?_
  refine eS rfl rfl ?_
  refine cw_obj hn0 rfl hq hq2 ho hb eU rfl ?_
  exact kk
theorem c_wrLp (hn0 : 67 ≤ n0) (hnn : n0 ≤ n) (hpa : pa = 46 ∨ pa = 51) (hbk : wBkC scr kd n n0 (d + 10) pa tc S1 fs fc tm f g) (hq : n0 + 20 ≤ q) (hq2 : q < n + 20) (ho : oOk n0 n kd U) (eU : U q = stV kind num frm to body he els nxt nm nos tp dfn cp) (hB : uBk f g U tm (pre.length + 2) body wb M lo hi) (hlo : n0 + 20 ≤ lo) (hhi : hi ≤ n + 20) (hb : pre.length + wb.length + 4 < 2 ^ 19) (h : dX S1 pa fs fc tc U pre S) : ∃ S', dX S1 pa fs fc tc (cpU M U) (pre ++ (kind :: (pre.length + 2 + wb.length + 2) :: (wb ++ [14, k]))) S' ∧ aE aM102 (d + 11) 0 [(0, .ref 34), (1, .ref q), (2, .int (Int32.ofNat k))] [] (gH scr kd n S) (aIs none (gH scr kd n S')) := by
  have hn : 67 ≤ n := by omega
  obtain ⟨Sa, ha, aa⟩ := d_open (w := kind) (d := d + 8) (scr := scr) (kd := kd) hn hpa (by omega) h
  have la : (pre ++ [kind, 0]).length = pre.length + 2 := by rw [List.length_append]; rfl
  obtain ⟨Sb, hb', ab⟩ := hbk U Sa (pre ++ [kind, 0]) (pre.length + 2) body wb M lo hi hB la.symm (by rw [la]; omega) hlo hhi ho ha
  have lb : (pre ++ [kind, 0] ++ wb).length = pre.length + 2 + wb.length := by rw [List.length_append, la]
  obtain ⟨Sc, hc, ac⟩ := d_add (w := 14) (d := d + 9) (scr := scr) (kd := kd) hn hpa (by omega) hb'
  have lc : (pre ++ [kind, 0] ++ wb ++ [14]).length = pre.length + 2 + wb.length + 1 := by rw [List.length_append, lb]; rfl
  obtain ⟨Sd, hd, ad⟩ := d_add (w := k) (d := d + 9) (scr := scr) (kd := kd) hn hpa (by omega) hc
  have ld : (pre ++ [kind, 0] ++ wb ++ [14] ++ [k]).length = pre.length + 2 + wb.length + 2 := by rw [List.length_append, lc]; rfl
  obtain ⟨Se, he', ae⟩ := d_set (k := pre.length + 1) (w := pre.length + 2 + wb.length + 2) (d := d + 10) (scr := scr) (kd := kd) hn hpa (by omega) hd
  rw [List.append_assoc (_ ++ wb), List.append_assoc (pre ++ _), set_mid] at he'
  refine ⟨Se, he', ?_⟩
  refine eS rfl rfl ?_
  refine eS rfl rfl ?_
  refine cw_obj hn0 rfl hq hq2 ho h eU rfl ?_
  refine gV1 hn rfl rfl rfl rfl rfl ⟨catOk rfl, catOk rfl⟩ (aa) ?_
  refine eS rfl rfl ?_
  refine eS rfl rfl ?_
  refine eS rfl rfl ?_
  refine cw_obj hn0 rfl hq hq2 ho ha eU rfl ?_
  refine gV1 hn rfl rfl rfl rfl rfl ⟨catOk rfl, cat2 (uBk_v hB)⟩ ab ?_
  refine eS rfl rfl ?_
  refine gGet hn rfl rfl rfl (d_34 hb') ?_
  refine eS rfl rfl ?_
  refine gV1 hn rfl rfl (pa_h0 hpa) (pa_k0 hpa) rfl ⟨catOk rfl, catOk rfl⟩ ac ?_
  refine eS rfl rfl ?_
  refine gGet hn rfl rfl rfl (d_34 hc) ?_
  refine eS rfl rfl ?_
  refine gV1 hn rfl rfl (pa_h0 hpa) (pa_k0 hpa) rfl ⟨catOk rfl, catOk rfl⟩ ad ?_
  refine eS rfl rfl ?_
  refine gGet hn rfl rfl rfl (d_34 hd) ?_
  refine eS rfl rfl ?_
  refine eS rfl rfl ?_
  refine gGet hn rfl rfl rfl (d_34 hd) ?_
  refine gGet hn rfl (pa_h0 hpa) (pa_k0 hpa) (by rw [(d_pa hpa hd).1]; rfl) ?_
  rw [ld]
  refine gV1 hn rfl rfl (pa_h0 hpa) (pa_k0 hpa) rfl ⟨catOk rfl, catOk rfl⟩ ae ?_
  exact eR rfl rfl ⟨rfl, rfl⟩
theorem c_wrIf0 (hn0 : 67 ≤ n0) (hnn : n0 ≤ n) (hpa : pa = 46 ∨ pa = 51) (hbk : wBkC scr kd n n0 (d + 10) pa tc S1 fs fc tm f g) (hq : n0 + 20 ≤ q) (hq2 : q < n + 20) (ho : oOk n0 n kd U) (eU : U q = stV kind num frm to body he els nxt nm nos tp dfn cp) (h0 : he = 0) (hB : uBk f g U tm (pre.length + 2) body wb M lo hi) (hlo : n0 + 20 ≤ lo) (hhi : hi ≤ n + 20) (hb : pre.length + wb.length + 2 < 2 ^ 19) (h : dX S1 pa fs fc tc U pre S) : ∃ S', dX S1 pa fs fc tc (cpU M U) (pre ++ (15 :: (pre.length + 2 + wb.length) :: wb)) S' ∧ aE aM103 (d + 11) 0 [(0, .ref 34), (1, .ref q)] [] (gH scr kd n S) (aIs none (gH scr kd n S')) := by
  have hn : 67 ≤ n := by omega
  subst h0
  obtain ⟨Sa, ha, aa⟩ := d_open (w := 15) (d := d + 8) (scr := scr) (kd := kd) hn hpa (by omega) h
  have la : (pre ++ [15, 0]).length = pre.length + 2 := by rw [List.length_append]; rfl
  obtain ⟨Sb, hb', ab⟩ := hbk U Sa (pre ++ [15, 0]) (pre.length + 2) body wb M lo hi hB la.symm (by rw [la]; omega) hlo hhi ho ha
  have lb : (pre ++ [15, 0] ++ wb).length = pre.length + 2 + wb.length := by rw [List.length_append, la]
  obtain ⟨Se, he', ae⟩ := d_set (k := pre.length + 1) (w := pre.length + 2 + wb.length) (d := d + 10) (scr := scr) (kd := kd) hn hpa (by omega) hb'
  rw [set_mid] at he'
  have e5 : (cpU M U q)[5]? = some (.int 0) := (frA_at (cpU_frA M U q) (by decide)).trans (by rw [eU]; rfl)
  refine ⟨Se, he', ?_⟩
  refine eS rfl rfl ?_
  refine eS rfl rfl ?_
  refine gV1 hn rfl rfl rfl rfl rfl ⟨catOk rfl, catOk rfl⟩ (aa) ?_
  refine eS rfl rfl ?_
  refine eS rfl rfl ?_
  refine eS rfl rfl ?_
  refine cw_obj hn0 rfl hq hq2 ho ha eU rfl ?_
  refine gV1 hn rfl rfl rfl rfl rfl ⟨catOk rfl, cat2 (uBk_v hB)⟩ ab ?_
  refine eS rfl rfl ?_
  refine cw_obj (c := cpU M U q) hn0 rfl hq hq2 (oOk_cp ho) hb' rfl e5 ?_
  refine eEq rfl rfl (fun _ => ?_) (fun z => absurd rfl z)
  refine eS rfl rfl ?_
  refine gGet hn rfl rfl rfl (d_34 hb') ?_
  refine eS rfl rfl ?_
  refine eS rfl rfl ?_
  refine gGet hn rfl rfl rfl (d_34 hb') ?_
  refine gGet hn rfl (pa_h0 hpa) (pa_k0 hpa) (by rw [(d_pa hpa hb').1]; rfl) ?_
  rw [lb]
  refine gV1 hn rfl rfl (pa_h0 hpa) (pa_k0 hpa) rfl ⟨catOk rfl, catOk rfl⟩ ae ?_
  exact eR rfl rfl ⟨rfl, rfl⟩
theorem c_wrIf1 {M2 : List (Nat × Nat)} {m : Nat} (hn0 : 67 ≤ n0) (hnn : n0 ≤ n) (hpa : pa = 46 ∨ pa = 51) (hbk : wBkC scr kd n n0 (d + 10) pa tc S1 fs fc tm f g) (hq : n0 + 20 ≤ q) (hq2 : q < n + 20) (ho : oOk n0 n kd U) (eU : U q = stV kind num frm to body he els nxt nm nos tp dfn cp) (h0 : he = 1) (hB : uBk f g U tm (pre.length + 2) body wb M lo m) (hB2 : uBk f g U tm (pre.length + 2 + wb.length + 2) els wc M2 m hi) (hlo : n0 + 20 ≤ lo) (hlm : lo ≤ m) (hmh : m ≤ hi) (hhi : hi ≤ n + 20) (hev : els = .null ∨ ∃ q, els = .ref q) (hb : pre.length + wb.length + wc.length + 4 < 2 ^ 19) (h : dX S1 pa fs fc tc U pre S) : ∃ S', dX S1 pa fs fc tc (cpU (M ++ M2) U) (pre ++ (15 :: (pre.length + 2 + wb.length + 2) :: (wb ++ (14 :: (pre.length + 2 + wb.length + 2 + wc.length) :: wc)))) S' ∧ aE aM103 (d + 11) 0 [(0, .ref 34), (1, .ref q)] [] (gH scr kd n S) (aIs none (gH scr kd n S')) := by
  have hn : 67 ≤ n := by omega
  subst h0
  obtain ⟨Sa, ha, aa⟩ := d_open (w := 15) (d := d + 8) (scr := scr) (kd := kd) hn hpa (by omega) h
  have la : (pre ++ [15, 0]).length = pre.length + 2 := by rw [List.length_append]; rfl
  obtain ⟨Sb, hb', ab⟩ := hbk U Sa (pre ++ [15, 0]) (pre.length + 2) body wb M lo m hB la.symm (by rw [la]; omega) hlo (by omega) ho ha
  have lb : (pre ++ [15, 0] ++ wb).length = pre.length + 2 + wb.length := by rw [List.length_append, la]
  obtain ⟨Sc, hc, ac⟩ := d_open (w := 14) (d := d + 8) (scr := scr) (kd := kd) hn hpa (by omega) hb'
  have lc : (pre ++ [15, 0] ++ wb ++ [14, 0]).length = pre.length + 2 + wb.length + 2 := by rw [List.length_append, lb]; rfl
  rw [lb] at ac
  obtain ⟨Sd, hd, ad⟩ := d_set (k := pre.length + 1) (w := pre.length + 2 + wb.length + 2) (d := d + 10) (scr := scr) (kd := kd) hn hpa (by omega) hc
  rw [List.append_assoc (pre ++ _), set_mid] at hd
  have ld : (pre ++ (15 :: (pre.length + 2 + wb.length + 2) :: (wb ++ [14, 0]))).length = pre.length + 2 + wb.length + 2 := by rw [List.length_append]; simp only [List.length_cons, List.length_append, List.length_nil]; omega
  have fr := fun p => cpU_frA M U p
  have hB2' : uBk f g (cpU M U) tm (pre.length + 2 + wb.length + 2) els wc M2 m hi := uBk_frA g (fun p _ _ => fr p) hB2
  obtain ⟨Se, he', ae⟩ := hbk (cpU M U) Sd _ (pre.length + 2 + wb.length + 2) els wc M2 m hi hB2' ld.symm (by rw [ld]; omega) (by omega) hhi (oOk_cp ho) hd
  have le : (pre ++ (15 :: (pre.length + 2 + wb.length + 2) :: (wb ++ [14, 0])) ++ wc).length = pre.length + 2 + wb.length + 2 + wc.length := by rw [List.length_append, ld]
  obtain ⟨Sf, hf, af⟩ := d_set (k := pre.length + 2 + wb.length + 1) (w := pre.length + 2 + wb.length + 2 + wc.length) (d := d + 10) (scr := scr) (kd := kd) hn hpa (by omega) he'
  have lz : (pre ++ (15 :: (pre.length + 2 + wb.length + 2) :: (wb ++ [14, 0])) ++ wc).set (pre.length + 2 + wb.length + 1) (pre.length + 2 + wb.length + 2 + wc.length) = pre ++ (15 :: (pre.length + 2 + wb.length + 2) :: (wb ++ (14 :: (pre.length + 2 + wb.length + 2 + wc.length) :: wc))) := by
    have e1 : pre ++ (15 :: (pre.length + 2 + wb.length + 2) :: (wb ++ [14, 0])) ++ wc = (pre ++ [15, pre.length + 2 + wb.length + 2] ++ wb) ++ [14, 0] ++ wc := by simp [List.append_assoc]
    have e2 : (pre ++ [15, pre.length + 2 + wb.length + 2] ++ wb).length = pre.length + 2 + wb.length := by rw [List.length_append, List.length_append]; rfl
    have key := set_mid (p := pre ++ [15, pre.length + 2 + wb.length + 2] ++ wb) (x := 14) (y := 0) (z := pre.length + 2 + wb.length + 2 + wc.length) (r := wc)
    rw [e2] at key
    rw [e1]
    exact key.trans (by simp [List.append_assoc])
  rw [lz, ← cpU_app] at hf
  have e5 : (cpU M U q)[5]? = some (.int 1) := (frA_at (fr q) (by decide)).trans (by rw [eU]; rfl)
  have e6 : (cpU M U q)[6]? = some els := (frA_at (fr q) (by decide)).trans (by rw [eU]; rfl)
  refine ⟨Sf, hf, ?_⟩
  refine eS rfl rfl ?_
  refine eS rfl rfl ?_
  refine gV1 hn rfl rfl rfl rfl rfl ⟨catOk rfl, catOk rfl⟩ (aa) ?_
  refine eS rfl rfl ?_
  refine eS rfl rfl ?_
  refine eS rfl rfl ?_
  refine cw_obj hn0 rfl hq hq2 ho ha eU rfl ?_
  refine gV1 hn rfl rfl rfl rfl rfl ⟨catOk rfl, cat2 (uBk_v hB)⟩ ab ?_
  refine eS rfl rfl ?_
  refine cw_obj (c := cpU M U q) hn0 rfl hq hq2 (oOk_cp ho) hb' rfl e5 ?_
  refine eEq rfl rfl (fun z => absurd z (by decide)) (fun _ => ?_)
  refine eS rfl rfl ?_
  refine eS rfl rfl ?_
  refine gV1 hn rfl rfl rfl rfl rfl ⟨catOk rfl, catOk rfl⟩ (ac) ?_
  refine eS rfl rfl ?_
  refine eS rfl rfl ?_
  refine gGet hn rfl rfl rfl (d_34 hc) ?_
  refine eS rfl rfl ?_
  refine eS rfl rfl ?_
  refine gGet hn rfl rfl rfl (d_34 hc) ?_
  refine gGet hn rfl (pa_h0 hpa) (pa_k0 hpa) (by rw [(d_pa hpa hc).1]; rfl) ?_
  rw [lc]
  refine gV1 hn rfl rfl (pa_h0 hpa) (pa_k0 hpa) rfl ⟨catOk rfl, catOk rfl⟩ ad ?_
  refine eS rfl rfl ?_
  refine eS rfl rfl ?_
  refine cw_obj (c := cpU M U q) hn0 rfl hq hq2 (oOk_cp ho) hd rfl e6 ?_
  refine gV1 hn rfl rfl rfl rfl rfl ⟨catOk rfl, cat2 (uBk_v hB2)⟩ ae ?_
  refine eS rfl rfl ?_
  refine gGet hn rfl rfl rfl (d_34 he') ?_
  refine eS rfl rfl ?_
  refine eS rfl rfl ?_
  refine gGet hn rfl rfl rfl (d_34 he') ?_
  refine gGet hn rfl (pa_h0 hpa) (pa_k0 hpa) (by rw [(d_pa hpa he').1]; rfl) ?_
  rw [le]
  refine gV1 hn rfl rfl (pa_h0 hpa) (pa_k0 hpa) rfl ⟨catOk rfl, catOk rfl⟩ af ?_
  refine eS rfl rfl ?_
  exact eR rfl rfl ⟨rfl, rfl⟩
end CDC
