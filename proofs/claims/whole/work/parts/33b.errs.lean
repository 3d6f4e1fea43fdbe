/-! errors are places; objects of the heap -/
section SER
variable {ts : List aTk} {L : Nat} {ps : List (List Nat)} {bl : Nat → xSt → Except Nat sRes}
def sEr {σ τ : Type} (f : Nat → σ → Except Nat τ) : Prop := ∀ a x e, f a x = .error e → e < 2 ^ 20
theorem argA_er (hp : ∀ t, plA ts L t < 2 ^ 20) : ∀ (k : Nat) (x : xSt) (n e : Nat), argA ts L ps k x n = .error e → e < 2 ^ 20
  | 0, x, n, e, h => by cases h
  | k + 1, x, n, e, h => by
    rw [argA] at h
    split at h
    · next e' he => cases h; exact sumA_er hp _ _ _ _ he
    · split at h
      · exact argA_er hp k _ _ e h
      · cases h
theorem argsA_er (hp : ∀ t, plA ts L t < 2 ^ 20) {x : xSt} {e : Nat} (h : argsA ts L ps x = .error e) : e < 2 ^ 20 := by
  unfold argsA at h
  split at h
  · split at h
    · next e' he =>
      cases h
      unfold arg0 at he
      split at he
      · cases he
      · exact argA_er hp _ _ _ _ he
    · split at h
      · cases h
      · cases h; exact hp _
  · cases h; exact hp _
theorem callA_er (hp : ∀ t, plA ts L t < 2 ^ 20) : sEr (callA ts L ps) := fun a x e h => by
  unfold callA at h
  split at h
  · next e' he => cases h; exact argsA_er hp he
  · cases h
theorem letA_er (hp : ∀ t, plA ts L t < 2 ^ 20) {x : xSt} {e : Nat} (h : letA ts L ps x = .error e) : e < 2 ^ 20 := by
  unfold letA at h
  split at h
  · split at h
    · cases h; exact hp _
    · split at h
      · split at h
        · next e' he => cases h; exact sumA_er hp _ _ _ _ he
        · cases h
      · cases h; exact hp _
  · cases h; exact hp _
theorem loopA_er {rd : xSt → Except Nat xSt} {w : Nat} (hr : xEr rd) (hb : sEr bl) : sEr (loopA bl rd w) := fun a x e h => by
  unfold loopA at h
  split at h
  · next e' he => cases h; exact hr _ _ he
  · split at h
    · next e' he => cases h; exact hb _ _ _ he
    · cases h
theorem ifA_er (hp : ∀ t, plA ts L t < 2 ^ 20) (hb : sEr bl) : sEr (ifA ts L ps bl) := fun a x e h => by
  unfold ifA at h
  split at h
  · next e' he => cases h; exact cndA_er hp _ _ he
  · split at h
    · next e' he => cases h; exact hb _ _ _ he
    · split at h
      · split at h
        · next e' he => cases h; exact hb _ _ _ he
        · cases h
      · cases h
theorem stA_er (hp : ∀ t, plA ts L t < 2 ^ 20) (hb : sEr bl) : sEr (stA ts L ps bl) := fun a x e h => by
  unfold stA at h
  split at h
  · unfold sglA at h
    split at h
    · next e' he => cases h; exact sumA_er hp _ _ _ _ he
    · cases h
  · split at h
    · cases h
    · split at h
      · exact letA_er hp h
      · split at h
        · exact loopA_er (sumA_er hp 4 0) hb a x e h
        · split at h
          · exact loopA_er (cndA_er hp) hb a x e h
          · split at h
            · exact ifA_er hp hb a x e h
            · split at h
              · exact callA_er hp a x e h
              · cases h; exact hp _
theorem lsA_er {σ : Type} {kx : σ → Nat} {st : Nat → σ → Except Nat (σ × List Nat × List cAl)} {ek : Nat} (hs : sEr st) : ∀ (k : Nat), sEr (lsA kx st ek k)
  | 0 => fun a x e h => by cases h
  | k + 1 => fun a x e h => by
    rw [lsA] at h
    split at h
    · cases h
    · split at h
      · next e' he => cases h; exact hs _ _ _ he
      · split at h
        · next e' he => cases h; exact lsA_er hs k _ _ _ he
        · cases h
theorem bkA_er (hp : ∀ t, plA ts L t < 2 ^ 20) : ∀ (f : Nat), sEr (bkA ts L ps f)
  | 0 => fun a x e h => by cases h; exact hp _
  | f + 1 => fun a x e h => by
    rw [bkA] at h
    split at h
    · split at h
      · next e' he => cases h; exact lsA_er (stA_er hp (bkA_er hp f)) _ _ _ _ he
      · split at h
        · cases h
        · cases h; exact hp _
    · cases h; exact hp _
theorem prA_er (hp : ∀ t, plA ts L t < 2 ^ 20) : ∀ (k t : Nat) (qs : List (List Nat)) (e : Nat), prA ts L k t qs = .error e → e < 2 ^ 20
  | 0, t, qs, e, h => by cases h
  | k + 1, t, qs, e, h => by
    rw [prA] at h
    split at h
    · split at h
      · cases h; exact hp _
      · exact prA_er hp k _ _ e h
    · cases h
theorem tsA_er (hp : ∀ t, plA ts L t < 2 ^ 20) : sEr (tsA ts L) := fun a x e h => by
  unfold tsA at h
  split at h
  · unfold dfA at h
    split at h
    · split at h
      · next e' he => cases h; exact prA_er hp _ _ _ _ he
      · split at h
        · next e' he => cases h; exact bkA_er hp _ _ _ _ he
        · cases h
    · cases h; exact hp _
  · split at h
    · next e' he => cases h; exact stA_er hp (bkA_er hp 3) _ _ _ he
    · cases h
theorem tpA_er (hp : ∀ t, plA ts L t < 2 ^ 20) {e : Nat} (h : tpA ts L = .error e) : e < 2 ^ 20 := lsA_er (tsA_er hp) _ _ _ _ h
theorem lnkA_er (hp : ∀ t, plA ts L t < 2 ^ 20) {ds : List dEf} : ∀ (cs : List cAl) (ws : List Nat) (e : Nat), lnkA ts L ds cs ws = .error e → e < 2 ^ 20
  | [], ws, e, h => by cases h
  | c :: cs, ws, e, h => by
    rw [lnkA] at h
    split at h
    · cases h; exact hp _
    · split at h
      · exact lnkA_er hp cs _ e h
      · cases h; exact hp _
theorem cplA_er (hp : ∀ t, plA ts L t < 2 ^ 20) {e : Nat} (h : cplA ts L = .error e) : e < 2 ^ 20 := by
  unfold cplA at h
  split at h
  · next e' he => cases h; exact tpA_er hp he
  · split at h
    · next e' he => cases h; exact lnkA_er hp _ _ _ he
    · cases h
end SER
/-- a statement's object -/
def oS (U : Nat → List Value) (q kind num frm to : Nat) (body : Value) (he : Int32) (els : Value) (nm : Int64) (tp : Int32) : Prop := ∃ (nxt nos dfn : Value) (cp : Int32), U q = stV kind num frm to body he els nxt nm nos tp dfn cp
/-- changed at most in the link to the next of its sort -/
def fr9 (x y : List Value) : Prop := y = x ∨ ∃ v, y = x.set 9 v
theorem fr9_id {x : List Value} : fr9 x x := Or.inl rfl
theorem fr9_trans {x y z : List Value} (h : fr9 x y) (h2 : fr9 y z) : fr9 x z := by
  rcases h with rfl | ⟨v, rfl⟩
  · exact h2
  · rcases h2 with rfl | ⟨w, rfl⟩
    · exact Or.inr ⟨v, rfl⟩
    · exact Or.inr ⟨w, List.set_set ..⟩
theorem fr9_set7 {x y : List Value} {v : Value} (h : fr9 x y) : fr9 (x.set 7 v) (y.set 7 v) := by
  rcases h with rfl | ⟨w, rfl⟩
  · exact fr9_id
  · exact Or.inr ⟨w, List.set_comm _ _ (by decide)⟩
theorem fr9_at {x y : List Value} (h : fr9 x y) {j : Nat} (hj : j ≠ 9) : y[j]? = x[j]? := by
  rcases h with rfl | ⟨w, rfl⟩
  · rfl
  · exact List.getElem?_set_ne (by omega)
theorem fr9_len {x y : List Value} (h : fr9 x y) : y.length = x.length := by
  rcases h with rfl | ⟨w, rfl⟩
  · rfl
  · exact List.length_set
theorem oS_fr {U U' : Nat → List Value} {q kind num frm to : Nat} {body els : Value} {he : Int32} {nm : Int64} {tp : Int32} (h : oS U q kind num frm to body he els nm tp) (hf : fr9 (U q) (U' q) ∨ ∃ v, fr9 ((U q).set 7 v) (U' q)) : oS U' q kind num frm to body he els nm tp := by
  obtain ⟨nxt, nos, dfn, cp, e⟩ := h
  rw [e] at hf
  rcases hf with (e2 | ⟨w, e2⟩) | ⟨v, e2 | ⟨w, e2⟩⟩
  · exact ⟨nxt, nos, dfn, cp, e2⟩
  · exact ⟨nxt, w, dfn, cp, e2⟩
  · exact ⟨v, nos, dfn, cp, e2⟩
  · exact ⟨v, w, dfn, cp, e2⟩
/-- statements one behind another, in the heap: P: of one, but for the link; M: which words are a call's or a definition's place -/
def hLs (U : Nat → List Value) (P : Nat → Nat → List Nat → List (Nat × Nat) → Nat → Nat → Prop) : Nat → Value → Nat → List Nat → List (Nat × Nat) → Nat → Nat → Prop
  | 0, _, _, _, _, _, _ => False
  | k + 1, v, a, ws, M, lo, hi => (v = .null ∧ ws = [] ∧ M = [] ∧ lo ≤ hi) ∨ ∃ (q : Nat) (nxt : Value) (m : Nat) (ws1 ws2 : List Nat) (M1 M2 : List (Nat × Nat)), v = .ref q ∧ lo ≤ q ∧ q < m ∧ m ≤ hi ∧ (U q)[7]? = some nxt ∧ P q a ws1 M1 (q + 1) m ∧ ws = ws1 ++ ws2 ∧ M = M1 ++ M2 ∧ hLs U P k nxt (a + ws1.length) ws2 M2 m hi
theorem hLs_mono {U U' : Nat → List Value} {P P' : Nat → Nat → List Nat → List (Nat × Nat) → Nat → Nat → Prop} (lo0 hi0 : Nat) (hP : ∀ q a ws M lo hi, lo0 ≤ q → hi ≤ hi0 → q < lo → lo ≤ hi → P q a ws M lo hi → P' q a ws M lo hi) (hU : ∀ q, lo0 ≤ q → q < hi0 → (U' q)[7]? = (U q)[7]?) : ∀ {k : Nat} {v : Value} {a : Nat} {ws : List Nat} {M : List (Nat × Nat)} {lo hi : Nat}, lo0 ≤ lo → hi ≤ hi0 → hLs U P k v a ws M lo hi → hLs U' P' k v a ws M lo hi
  | 0, _, _, _, _, _, _, _, _, h => h
  | k + 1, v, a, ws, M, lo, hi, hl, hh, h => by
    rcases h with h | ⟨q, nxt, m, ws1, ws2, M1, M2, e1, e2, e3, e4, e5, e6, e7, e8, e9⟩
    · exact Or.inl h
    · exact Or.inr ⟨q, nxt, m, ws1, ws2, M1, M2, e1, e2, e3, e4, (hU q (by omega) (by omega)).trans e5, hP _ _ _ _ _ _ (by omega) (by omega) (by omega) (by omega) e6, e7, e8, hLs_mono lo0 hi0 hP hU (by omega) hh e9⟩
/-! rules for objects behind place 86 -/
section GO
variable {M : aMt} {d pc : Nat} {ls : aLc} {st r : List Value} {res : aOut → aH → Prop} {lk : aLk} {scr : List Value} {kd : Nat → Nat} {n : Nat} {S S' : Nat → List Value} {i p : Nat} {v : Value} {c : List Value}
theorem gGetO (hf : aFind M.cd pc = some (.getfield i, lk)) (hp : 87 ≤ p) (hp2 : p < n + 20) (hk : kd p = 2 * lk.1 + 8) (hc : S p = c) (hv : c[lk.2.1]? = some v) (k : aE M d (pc + 3) ls (v :: r) (gH scr kd n S) res) : aE M d pc ls (.ref p :: r) (gH scr kd n S) res :=
  eGet hf (gH_at (by omega) hp2) (by unfold gK; rw [if_neg (by omega)]; exact hk) (by rw [hc]; exact hv) k
theorem gPutO {c1 : vw_C × List FieldType} {ty : FieldType} (hf : aFind M.cd pc = some (.putfield i, lk)) (hp : 87 ≤ p) (hp2 : p < n + 20) (hc1 : aCls[lk.1]? = some c1) (hk : kd p = 2 * lk.1 + 8) (hc : (S p).length = 13) (hl : Nat.blt lk.2.1 13 = true) (ht : c1.2[lk.2.1]? = some ty) (hv : aFit ty v = true)
    (k : aE M d (pc + 3) ls r (gH scr kd n (aUp S p ((S p).set lk.2.1 v))) res) : aE M d pc ls (v :: .ref p :: r) (gH scr kd n S) res := by
  refine ePut hf (gH_at (by omega) hp2) hc1 (by unfold gK; rw [if_neg (by omega)]; exact hk) (by omega) (by rw [hc]; exact Nat.blt_eq.mp hl) ht hv ?_
  rw [gH_set (by omega) hp2]
  exact k
end GO
