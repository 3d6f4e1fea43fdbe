/-! the machine as such: one word of it, and what keeps it from going wrong -/
abbrev aFr : Type := List (Nat × Nat)
/-- how it ended (0: not yet), the place, the stack, the calls, the parameters, the variables, the turtle -/
abbrev aSt : Type := Int32 × Nat × List UInt32 × aFr × List UInt32 × List UInt32 × aTu
def oneA (W : Nat → Nat) (s : aSt) : aSt :=
  match s with
  | (_, pc, stk, fr, par, vrs, t) =>
    if W pc = 0 then (0, pc + 1, stk, fr, par, vrs, t)
    else if W pc = 14 then (0, W (pc + 1), stk, fr, par, vrs, t)
    else if W pc = 17 then (match fr with
      | [] => (1, pc, stk, [], par, vrs, t)
      | (b, h) :: fr' => (0, b, stk.drop (stk.length - h), fr', par, vrs, t))
    else if W pc = 27 then (1, pc, stk, fr, par, vrs, t)
    else if W pc = 16 then (if fr.length = 3 then (14, pc, stk, fr, par, vrs, t) else (0, W (pc + 1), (entA (W (pc + 2)) (3 * fr.length) stk par).1, (pc + 3, (entA (W (pc + 2)) (3 * fr.length) stk par).1.length) :: fr, (entA (W (pc + 2)) (3 * fr.length) stk par).2, vrs, t))
    else if 18 ≤ W pc ∧ W pc ≤ 26 then ((movA (W pc) stk t).1, pc + 1, (movA (W pc) stk t).2.1, fr, par, vrs, (movA (W pc) stk t).2.2)
    else if W pc = 15 ∨ W pc = 29 then (match stk with
      | [] => (0, pc, [], fr, par, vrs, t)
      | f :: r => (0, if FP.fcmp f 0 = some .eq then W (pc + 1) else pc + 2, r, fr, par, vrs, t))
    else if W pc = 28 then (match stk with
      | [] => (0, pc, [], fr, par, vrs, t)
      | f :: r => (0, if (turnA f r).1 then pc + 2 else W (pc + 1), (turnA f r).2, fr, par, vrs, t))
    else ((opA (W pc) (W (pc + 1)) (W (pc + 2)) fr.length stk par vrs).1, pc + lenA (W pc), (opA (W pc) (W (pc + 1)) (W (pc + 2)) fr.length stk par vrs).2.1, fr, (opA (W pc) (W (pc + 1)) (W (pc + 2)) fr.length stk par vrs).2.2.1, (opA (W pc) (W (pc + 1)) (W (pc + 2)) fr.length stk par vrs).2.2.2, t)
/-- what a place of the code asks for: P tells the places with the heights that a call's own part of the stack has there, and whether a call is under way -/
def tyW (W : Nat → Nat) (P : Nat → Nat → Bool → Prop) (pc k : Nat) (f : Bool) : Prop :=
  (W pc = 0 ∧ P (pc + 1) k f) ∨ (W pc = 1 ∧ W (pc + 1) ≤ 2 ^ 20 ∧ W (pc + 2) ≤ 2 ∧ P (pc + 3) (k + 1) f) ∨ (W pc = 2 ∧ W (pc + 1) < 8 ∧ P (pc + 2) (k + 1) f) ∨ (W pc = 3 ∧ f = true ∧ W (pc + 1) < 3 ∧ P (pc + 2) (k + 1) f) ∨ (W pc = 4 ∧ W (pc + 1) < 8 ∧ 1 ≤ k ∧ P (pc + 2) (k - 1) f) ∨
  (W pc = 5 ∧ f = true ∧ W (pc + 1) < 3 ∧ 1 ≤ k ∧ P (pc + 2) (k - 1) f) ∨ ((W pc = 6 ∨ W pc = 7 ∨ W pc = 8 ∨ W pc = 9) ∧ 2 ≤ k ∧ P (pc + 1) (k - 1) f) ∨ (W pc = 10 ∧ 1 ≤ k ∧ P (pc + 1) k f) ∨ ((W pc = 11 ∨ W pc = 12 ∨ W pc = 13) ∧ 2 ≤ k ∧ P (pc + 1) (k - 1) f) ∨ (W pc = 14 ∧ P (W (pc + 1)) k f) ∨
  ((W pc = 15 ∨ W pc = 29) ∧ 1 ≤ k ∧ P (W (pc + 1)) (k - 1) f ∧ P (pc + 2) (k - 1) f) ∨ (W pc = 28 ∧ 1 ≤ k ∧ P (W (pc + 1)) (k - 1) f ∧ P (pc + 2) k f) ∨ (W pc = 16 ∧ W (pc + 2) ≤ 3 ∧ W (pc + 2) ≤ k ∧ P (W (pc + 1)) 0 true ∧ P (pc + 3) (k - W (pc + 2)) f) ∨ W pc = 17 ∨ W pc = 27 ∨
  ((W pc = 18 ∨ W pc = 19 ∨ W pc = 20 ∨ W pc = 21 ∨ W pc = 22) ∧ 1 ≤ k ∧ P (pc + 1) (k - 1) f) ∨ ((W pc = 23 ∨ W pc = 24 ∨ W pc = 25 ∨ W pc = 26) ∧ P (pc + 1) k f)
def cOk (W : Nat → Nat) (N : Nat) (P : Nat → Nat → Bool → Prop) : Prop := P 0 0 false ∧ ∀ pc k f, P pc k f → pc < N ∧ tyW W P pc k f ∧ (W pc = 14 → pc + 1 < N)
/-- the calls under way stand where the code asks for what the stack has -/
def tyF (P : Nat → Nat → Bool → Prop) : aFr → Nat → Nat → Prop
  | [], pc, ht => P pc ht false
  | (b, h) :: fr, pc, ht => h ≤ ht ∧ P pc (ht - h) true ∧ tyF P fr b h
def okS (s : aSt) : Prop := s.2.2.2.2.1.length = 9 ∧ (∀ f ∈ s.2.2.2.2.1, gF f) ∧ s.2.2.2.2.2.1.length = 8 ∧ (∀ f ∈ s.2.2.2.2.2.1, gF f) ∧ tuOk s.2.2.2.2.2.2
def okL (P : Nat → Nat → Bool → Prop) (s : aSt) : Prop := s.2.2.1.length ≤ 24 ∧ (∀ f ∈ s.2.2.1, gF f) ∧ s.2.2.2.1.length ≤ 3 ∧ tyF P s.2.2.2.1 s.2.1 s.2.2.1.length
theorem tyF_top {P : Nat → Nat → Bool → Prop} : ∀ {fr : aFr} {pc ht : Nat}, tyF P fr pc ht → ∃ k f, P pc k f ∧ k ≤ ht ∧ (f = true → fr ≠ []) ∧ ∀ pc' k', P pc' k' f → tyF P fr pc' (ht - k + k')
  | [], pc, ht, h => ⟨ht, false, h, Nat.le_refl _, (fun z => by cases z), fun pc' k' h' => by
    unfold tyF
    rw [show ht - ht + k' = k' by omega]
    exact h'⟩
  | (b, hb) :: fr, pc, ht, h => by
    obtain ⟨h1, h2, h3⟩ := h
    refine ⟨ht - hb, true, h2, by omega, (fun _ z => by cases z), fun pc' k' h' => ?_⟩
    unfold tyF
    refine ⟨by omega, ?_, h3⟩
    rw [show ht - (ht - hb) + k' - hb = k' by omega]
    exact h'
theorem gF_getD {l : List UInt32} {k : Nat} (h : ∀ f ∈ l, gF f) : gF (l.getD k 0) := by
  rw [List.getD_eq_getElem?_getD]
  by_cases hk : k < l.length
  · rw [List.getElem?_eq_getElem hk]
    exact h _ (List.getElem_mem _)
  · rw [List.getElem?_eq_none (by omega)]
    exact gF_0
theorem gF_setL {l : List UInt32} {k : Nat} {a : UInt32} (h : ∀ f ∈ l, gF f) (ha : gF a) : ∀ f ∈ l.set k a, gF f := fun f hf => by
  rcases List.mem_or_eq_of_mem_set hf with z | rfl
  · exact h f z
  · exact ha
theorem pushA_ok {f : UInt32} {stk : List UInt32} (hf : gF f) (hs : ∀ a ∈ stk, gF a) (hl : stk.length ≤ 24) : (pushA f stk).2.length ≤ 24 ∧ (∀ a ∈ (pushA f stk).2, gF a) ∧ ((pushA f stk).1 = 0 → (pushA f stk).2.length = stk.length + 1) := by
  unfold pushA
  split
  · exact ⟨hl, hs, fun z => absurd (show (15 : Int32) = 0 from z) (by decide)⟩
  · refine ⟨by simp; omega, fun a ha => ?_, fun _ => rfl⟩
    rcases List.mem_cons.mp ha with rfl | ha
    · exact hf
    · exact hs a ha
theorem calcA_ok {w : Nat} {a b : UInt32} {stk : List UInt32} (hw : w = 6 ∨ w = 7 ∨ w = 8 ∨ w = 9) (ha : gF a) (hb : gF b) (hs : ∀ x ∈ stk, gF x) : (calcA w a b stk).2.length ≤ stk.length + 1 ∧ (∀ x ∈ (calcA w a b stk).2, gF x) ∧ ((calcA w a b stk).1 = 0 → (calcA w a b stk).2.length = stk.length + 1) := by
  unfold calcA
  by_cases h0 : w = 9 ∧ FP.fcmp b 0 = some .eq
  · rw [if_pos h0]
    exact ⟨by dsimp only; omega, hs, fun z => absurd (show (11 : Int32) = 0 from z) (by decide)⟩
  · rw [if_neg h0]
    by_cases h1 : FP.fcmp (arA w a b) 1203982336 = some .gt ∨ FP.fcmp (arA w a b) 3351465984 = some .lt
    · rw [if_pos h1]
      exact ⟨by dsimp only; omega, hs, fun z => absurd (show (12 : Int32) = 0 from z) (by decide)⟩
    · rw [if_neg h1]
      refine ⟨Nat.le_refl _, fun f hf => ?_, fun _ => rfl⟩
      rcases List.mem_cons.mp hf with rfl | hf
      · exact gF_in (arA_n32 ha hb h0 hw) (fun z => h1 (Or.inl z)) (fun z => h1 (Or.inr z))
      · exact hs f hf
/-- what opA leaves, by the word: ht' is the height if nothing went wrong -/
theorem opA_ok {w k b cl : Nat} {stk par vrs : List UInt32} (ho : opOk w k b cl stk.length) (hl : stk.length ≤ 24) (hs : ∀ a ∈ stk, gF a) (hp : ∀ a ∈ par, gF a) (hv : ∀ a ∈ vrs, gF a) :
    (opA w k b cl stk par vrs).2.1.length ≤ 24 ∧ (∀ a ∈ (opA w k b cl stk par vrs).2.1, gF a) ∧ (opA w k b cl stk par vrs).2.2.1.length = par.length ∧ (∀ a ∈ (opA w k b cl stk par vrs).2.2.1, gF a) ∧ (opA w k b cl stk par vrs).2.2.2.length = vrs.length ∧ (∀ a ∈ (opA w k b cl stk par vrs).2.2.2, gF a) ∧
    ((opA w k b cl stk par vrs).1 = 0 → (opA w k b cl stk par vrs).2.1.length = if w ≤ 3 then stk.length + 1 else if w = 10 then stk.length else stk.length - 1) := by
  rcases ho with ⟨rfl, hk, hb⟩ | ⟨rfl, hk⟩ | ⟨rfl, c1, c2, hk⟩ | ⟨rfl, hk, h1⟩ | ⟨rfl, c1, c2, hk, h1⟩ | ⟨hw, h1⟩ | ⟨rfl, h1⟩ | ⟨hw, h1⟩
  · have := pushA_ok (gF_numA (b := b) hk) hs hl
    exact ⟨this.1, this.2.1, rfl, hp, rfl, hv, this.2.2⟩
  · have := pushA_ok (gF_getD (k := k) hv) hs hl
    exact ⟨this.1, this.2.1, rfl, hp, rfl, hv, this.2.2⟩
  · have := pushA_ok (gF_getD (k := 3 * (cl - 1) + k) hp) hs hl
    exact ⟨this.1, this.2.1, rfl, hp, rfl, hv, this.2.2⟩
  · match stk, h1, hl, hs with
    | f :: r, _, hl, hs =>
      exact ⟨by show r.length ≤ 24; simp at hl; omega, fun a ha => hs a (List.mem_cons_of_mem _ ha), rfl, hp, List.length_set .., gF_setL hv (hs f (by simp)), fun _ => rfl⟩
  · match stk, h1, hl, hs with
    | f :: r, _, hl, hs =>
      exact ⟨by show r.length ≤ 24; simp at hl; omega, fun a ha => hs a (List.mem_cons_of_mem _ ha), List.length_set .., gF_setL hp (hs f (by simp)), rfl, hv, fun _ => rfl⟩
  · match stk, h1, hl, hs with
    | f :: a :: r, _, hl, hs =>
      have c := calcA_ok (stk := r) hw (hs a (by simp)) (hs f (by simp)) (fun x hx => hs x (by simp [hx]))
      have e1 : opA w k b cl (f :: a :: r) par vrs = ((calcA w a f r).1, (calcA w a f r).2, par, vrs) := by
        rcases hw with rfl | rfl | rfl | rfl <;> rfl
      rw [e1]
      refine ⟨by dsimp only; simp at hl; omega, c.2.1, rfl, hp, rfl, hv, fun z => ?_⟩
      rw [if_neg (by omega), if_neg (by omega)]
      exact c.2.2 z
  · match stk, h1, hl, hs with
    | f :: r, _, hl, hs =>
      refine ⟨hl, fun a ha => ?_, rfl, hp, rfl, hv, fun _ => rfl⟩
      rcases List.mem_cons.mp (show a ∈ FP.fneg f :: r from ha) with rfl | ha
      · exact gF_neg (hs f (by simp))
      · exact hs a (List.mem_cons_of_mem _ ha)
  · match stk, h1, hl, hs with
    | f :: a :: r, _, hl, hs =>
      have e1 : opA w k b cl (f :: a :: r) par vrs = (0, oneF (cmpA w a f) :: r, par, vrs) := by
        rcases hw with rfl | rfl | rfl <;> rfl
      rw [e1]
      refine ⟨by simp at hl ⊢; omega, fun x hx => ?_, rfl, hp, rfl, hv, fun _ => ?_⟩
      · rcases List.mem_cons.mp hx with rfl | hx
        · exact gF_one
        · exact hs x (by simp [hx])
      · rw [if_neg (by omega), if_neg (by omega)]
        rfl
theorem px_set {px : List Int32} {k : Nat} {co : Int32} (h : ∀ c ∈ px, c ≠ -1) (hc : co ≠ -1) : ∀ c ∈ px.set k co, c ≠ -1 := fun c hm => by
  rcases List.mem_or_eq_of_mem_set hm with z | rfl
  · exact h c z
  · exact hc
theorem dotA_px {px : List Int32} {a b co : Int32} (h : ∀ c ∈ px, c ≠ -1) (hc : co ≠ -1) : ∀ c ∈ dotA px a b co, c ≠ -1 := by
  unfold dotA
  split
  · exact px_set h hc
  · exact h
theorem lineA_px {c d u v : Int} {co : Int32} (hc : co ≠ -1) : ∀ {m : Nat} {a b e : Int} {px : List Int32}, (∀ c ∈ px, c ≠ -1) → ∀ x ∈ lineA c d u v co m a b e px, x ≠ -1
  | 0, _, _, _, _, h => h
  | m + 1, a, b, e, px, h => by
    unfold lineA
    split
    · exact h
    · exact lineA_px hc (dotA_px h hc)
theorem rchA_px {was co a b : Int32} {st : aPq} (h : st.1.length = 768 ∧ ∀ c ∈ st.1, c ≠ -1) (hc : co ≠ -1) : (rchA was co st a b).1.length = 768 ∧ ∀ c ∈ (rchA was co st a b).1, c ≠ -1 := by
  unfold rchA
  split
  · exact ⟨by rw [List.length_set]; exact h.1, px_set h.2 hc⟩
  · exact h
theorem allA_px {was co : Int32} (hc : co ≠ -1) : ∀ {l : List (Int32 × Int32)} {st : aPq}, (st.1.length = 768 ∧ ∀ c ∈ st.1, c ≠ -1) → (allA was co st l).1.length = 768 ∧ ∀ c ∈ (allA was co st l).1, c ≠ -1
  | [], _, h => h
  | p :: l, st, h => allA_px hc (l := l) (rchA_px (a := p.1) (b := p.2) h hc)
theorem bfsA_px {nb : Nat → List (Int32 × Int32)} {was co : Int32} (hc : co ≠ -1) : ∀ {f k : Nat} {st : aPq}, (st.1.length = 768 ∧ ∀ c ∈ st.1, c ≠ -1) → (bfsA nb was co f k st).1.length = 768 ∧ ∀ c ∈ (bfsA nb was co f k st).1, c ≠ -1
  | 0, _, _, h => h
  | f + 1, k, st, h => by
    unfold bfsA
    split
    · exact bfsA_px hc (allA_px hc h)
    · exact h
theorem filA_px {nb : Nat → List (Int32 × Int32)} {px : List Int32} {a b co : Int32} (hl : px.length = 768) (h : ∀ c ∈ px, c ≠ -1) (hc : co ≠ -1) : (filA nb px a b co).1.length = 768 ∧ ∀ c ∈ (filA nb px a b co).1, c ≠ -1 := by
  unfold filA
  split
  · exact bfsA_px hc (rchA_px ⟨hl, h⟩ hc)
  · exact ⟨hl, h⟩
theorem steerA_ok {w hd : Nat} {f : UInt32} {co : Int32} (hh : hd < 24) (hc : co ≠ -1) : (steerA w f hd co).2.1 < 24 ∧ (steerA w f hd co).2.2 ≠ -1 := by
  unfold steerA
  split
  · exact ⟨hh, hc⟩
  · rename_i h0
    split
    · rename_i h1
      refine ⟨hh, fun z => h0 (Or.inr ⟨h1, Or.inl ?_⟩)⟩
      dsimp only at z
      rw [z]
      decide
    · exact ⟨fmA_lt (by decide), hc⟩
theorem movA_ok {w : Nat} {stk : List UInt32} {t : aTu} (ho : movOk w stk.length) (hl : stk.length ≤ 24) (hs : ∀ a ∈ stk, gF a) (ht : tuOk t) : (movA w stk t).2.1.length = (if w ≤ 22 then stk.length - 1 else stk.length) ∧ (∀ a ∈ (movA w stk t).2.1, gF a) ∧ tuOk (movA w stk t).2.2 := by
  obtain ⟨x, y, hd, co, dn, px⟩ := t
  obtain ⟨t1, t2, t3, t4, t5, t6, t7⟩ := ht
  rcases ho with ⟨hw, h1⟩ | rfl | rfl | rfl | rfl
  · match stk, h1, hl, hs with
    | f :: r, _, hl, hs =>
      have gf : gF f := hs f (by simp)
      have e1 : (if w ≤ 22 then (f :: r).length - 1 else (f :: r).length) = r.length := by rw [if_pos (by omega)]; rfl
      rw [e1]
      by_cases h2 : w = 18 ∨ w = 19
      · have e : movA w (f :: r) (x, y, hd, co, dn, px) = (if (advA (if w = 18 then f else FP.fneg f) x y hd co dn px).1 then 0 else 12, r, (advA (if w = 18 then f else FP.fneg f) x y hd co dn px).2.1, (advA (if w = 18 then f else FP.fneg f) x y hd co dn px).2.2.1, hd, co, dn, (advA (if w = 18 then f else FP.fneg f) x y hd co dn px).2.2.2) := by
          rcases h2 with rfl | rfl <;> rfl
        have gd : gF (if w = 18 then f else FP.fneg f) := by
          split
          · exact gf
          · exact gF_neg gf
        rw [e]
        generalize (if w = 18 then f else FP.fneg f) = d at gd
        have ga := advA_gX (co := co) (dn := dn) (px := px) gd t1 t2 t3
        refine ⟨rfl, fun a ha => hs a (List.mem_cons_of_mem _ ha), ga.1, ga.2, t3, t4, t5, advA_len.trans t6, ?_⟩
        show ∀ c ∈ (advA d x y hd co dn px).2.2.2, c ≠ -1
        unfold advA
        split
        · exact t7
        · dsimp only
          split
          · exact t7
          · exact lineA_px t4 (dotA_px t7 t4)
      · have e : movA w (f :: r) (x, y, hd, co, dn, px) = ((steerA w f hd co).1, r, x, y, (steerA w f hd co).2.1, (steerA w f hd co).2.2, dn, px) := by
          rcases hw with rfl | rfl | rfl | rfl | rfl <;> first | rfl | (exfalso; omega)
        have gs := steerA_ok (w := w) (f := f) t3 t4
        rw [e]
        exact ⟨rfl, fun a ha => hs a (List.mem_cons_of_mem _ ha), t1, t2, gs.1, gs.2, t5, t6, t7⟩
  · exact ⟨rfl, hs, t1, t2, t3, t4, Or.inl rfl, t6, t7⟩
  · exact ⟨rfl, hs, t1, t2, t3, t4, Or.inr rfl, t6, t7⟩
  · have gp := filA_px (nb := nbrC) (a := Int32.ofInt (pixA x)) (b := Int32.ofInt (pixA y)) t6 t7 t4
    exact ⟨rfl, hs, t1, t2, t3, t4, t5, gp.1, gp.2⟩
  · exact ⟨rfl, hs, show gX 1098907648 by unfold gX; decide, show gX 1094713344 by unfold gX; decide, show 0 < 24 by decide, t4, t5, t6, t7⟩
theorem entA_gF : ∀ {c b : Nat} {stk par : List UInt32}, (∀ f ∈ stk, gF f) → (∀ f ∈ par, gF f) → (∀ f ∈ (entA c b stk par).1, gF f) ∧ ∀ f ∈ (entA c b stk par).2, gF f
  | 0, _, _, _, h1, h2 => ⟨h1, h2⟩
  | _ + 1, _, [], _, h1, h2 => ⟨h1, h2⟩
  | c + 1, b, f :: r, par, h1, h2 => entA_gF (c := c) (stk := r) (fun x hx => h1 x (List.mem_cons_of_mem _ hx)) (gF_setL h2 (h1 f (by simp)))
