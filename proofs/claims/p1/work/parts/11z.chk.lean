/-! which words carry over to warmer tables, and a check of a method's rows against the tables' words by their places -/
def aGw (w : Jvm.Cond) : Bool := goodWord w || (match w with | .fieldLinkNest _ _ _ _ _ _ => true | .methodLinkNest _ _ _ _ => true | .declares _ => true | .castable _ _ => true | _ => false)
def aTb (U : State) : Prop := ∀ w ∈ lw_tbl, aGw w = true → ∀ A : Array Value, w.before A U = true
theorem aTb_of {s0 : State} {A0 : Array Value} (h : ∀ w ∈ lw_tbl, w.before A0 s0 = true) (U : State) (hW : s0.WarmedH U.vm) : aTb U := by
  intro w hw hg A
  have h0 := h w hw
  unfold aGw at hg
  rw [Bool.or_eq_true] at hg
  rcases hg with hg | hg
  · exact word_at hW (good_of_word hg) h0
  · split at hg
    · exact va_Nw.use rfl (va_Nw.warmF hW (va_Nw.of rfl h0))
    · exact va_Nw.use rfl (va_Nw.warmM hW (va_Nw.of rfl h0))
    · exact va_tabs rfl (rfl : (s0.setVm U.vm).vm = U.vm) (Cond.before_warmed hW _ trivial h0)
    · exact va_tabs rfl (rfl : (s0.setVm U.vm).vm = U.vm) (Cond.before_warmed hW _ trivial h0)
    · cases hg
def aPart : Nat → List Jvm.Cond
  | 0 => k2_sels lw_privs | 1 => tables_1_1 | 2 => tables_1_2 | 3 => tables_1_3 | 4 => tables_1_4 | 5 => tables_1_5 | 6 => tables_1_6 | 7 => tables_1_7 | _ => []
theorem aPart_in (i : Nat) : ∀ w ∈ aPart i, w ∈ lw_tbl := by
  intro w hw
  unfold lw_tbl tables_1
  unfold aPart at hw
  split at hw
  all_goals simp only [List.mem_append]
  all_goals first | (cases hw; done) | simp only [hw, true_or, or_true]
abbrev aQ : Type := Nat × Nat
def aHas (q : aQ) (w : Jvm.Cond) : Bool := decide ((aPart q.1)[q.2]? = some w) && aGw w
theorem aHas_ok {q : aQ} {w : Jvm.Cond} (h : aHas q w = true) {U : State} (hT : aTb U) (A : Array Value) : w.before A U = true := by
  unfold aHas at h
  rw [Bool.and_eq_true, decide_eq_true_eq] at h
  exact hT w (aPart_in q.1 w (List.mem_of_getElem? h.1)) h.2 A
def aHasL : List Jvm.Cond → List aQ → Bool
  | [], _ => true
  | w :: ws, qs => if aRefW w = true then aHasL ws qs else match qs with
    | [] => false
    | q :: qs => aHas q w && aHasL ws qs
theorem aHasL_ok : ∀ {ws : List Jvm.Cond} {qs : List aQ}, aHasL ws qs = true → ∀ {U : State}, aTb U → ∀ w ∈ ws, aRefW w = false → ∀ A : Array Value, w.before A U = true
  | [], _, _, _, _, w, hw, _, _ => by cases hw
  | w0 :: ws, qs, h, U, hT, w, hw, hr, A => by
    unfold aHasL at h
    split at h
    · rename_i h0
      rcases List.mem_cons.mp hw with rfl | hw
      · rw [hr] at h0; cases h0
      · exact aHasL_ok h hT w hw hr A
    · split at h
      · cases h
      · rw [Bool.and_eq_true] at h
        rcases List.mem_cons.mp hw with rfl | hw
        · exact aHas_ok h.1 hT A
        · exact aHasL_ok h.2 hT w hw hr A
def aSigB (y : MethodName) (n : Nat) : Bool := decide (y.cls ≠ "java/lang/invoke/MethodHandle") && decide (y.cls ≠ "java/lang/invoke/VarHandle") && decide ((parseMethodDescriptor y.desc).map (fun d => d.parameters.length) = some n)
theorem aSigB_ok {y : MethodName} {n : Nat} (h : aSigB y n = true) : aSig y n := by
  unfold aSigB at h
  simp only [Bool.and_eq_true, decide_eq_true_eq] at h
  exact ⟨h.1.1, h.1.2, h.2⟩
/-- one row of a method against the words; st: statics (class, name, descriptor, value), str: String constants (class, entry, text, place) -/
def aChk (cl : aCl) (P : List aMt) (st : List (String × String × String × Value)) (str : List (String × Nat × String × Nat)) (own : MethodName) (I : Instr) (lk : aLk) (qs : List aQ) : Bool :=
  match I with
  | .ldc i => match lk.2.2.2, qs with
    | .int x, [q] => aHas q (.constant own.cls i x)
    | .float x, [q] => aHas q (.constantFloat own.cls i x)
    | .ref p, _ => str.any (fun r => r.1 == own.cls && r.2.1 == i && r.2.2.2 == p)
    | _, _ => false
  | .ldc_w i => match lk.2.2.2, qs with
    | .int x, [q] => aHas q (.constant own.cls i x)
    | .float x, [q] => aHas q (.constantFloat own.cls i x)
    | _, _ => false
  | .ldc2_w i => match lk.2.2.2, qs with
    | .long x, [q] => aHas q (.constantLong own.cls i x)
    | _, _ => false
  | .getfield i => match cl[lk.1]?, qs with
    | some r, [q] => decide (lk.2.1 < r.1.2.2) && (aHas q (.fieldLink own.cls i (r.1.2.1 lk.2.1).1 (r.1.2.1 lk.2.1).2.1 (r.1.2.1 lk.2.1).2.2.1) || aHas q (.fieldLinkNest own.cls i (r.1.2.1 lk.2.1).1 (r.1.2.1 lk.2.1).2.1 (r.1.2.1 lk.2.1).2.2.1 "TurtleDesk"))
    | _, _ => false
  | .putfield i => match cl[lk.1]?, qs with
    | some r, [q] => decide (lk.2.1 < r.1.2.2) && decide (r.1.1 ≠ "java/lang/String") && ((aHas q (.fieldLink own.cls i (r.1.2.1 lk.2.1).1 (r.1.2.1 lk.2.1).2.1 (r.1.2.1 lk.2.1).2.2.1) || aHas q (.fieldLinkNest own.cls i (r.1.2.1 lk.2.1).1 (r.1.2.1 lk.2.1).2.1 (r.1.2.1 lk.2.1).2.2.1 "TurtleDesk")) && (!(r.1.2.1 lk.2.1).2.2.2) ||
        aHas q (.fieldLink own.cls i (r.1.2.1 lk.2.1).1 (r.1.2.1 lk.2.1).2.1 (r.1.2.1 lk.2.1).2.2.1) && ((r.1.2.1 lk.2.1).2.2.2 && (decide ((r.1.2.1 lk.2.1).1 = own.cls) && decide (own.name = "<init>"))))
    | _, _ => false
  | .new i => match cl[lk.1]?, qs with
    | some r, [q1, q2, q3] => decide (r.1.1 ≠ "java/lang/String") && aHas q1 (.classLink own.cls i r.1.1) && aHas q2 (.instantiable r.1.1 r.1.2.2) && aHas q3 (.initialized r.1.1)
    | _, _ => false
  | .newarray t => match qs with
    | [q] => aHas q (.arrayClass (newarray.typeOf t))
    | _ => false
  | .getstatic i => match st[lk.1]?, qs with
    | some r, [q] => decide (r.2.2.2 = lk.2.2.2) && (aHas q (.fieldLink own.cls i r.1 r.2.1 r.2.2.1) || aHas q (.fieldLinkNest own.cls i r.1 r.2.1 r.2.2.1 "TurtleDesk"))
    | _, _ => false
  | .invokestatic i => match P[lk.1]?, qs with
    | some M', [q1, q2, q3] => aSigB M'.nm lk.2.1 && aHas q1 (.methodLink own.cls i M'.nm) && aHas q2 (.static M'.nm) && aHas q3 (.initialized M'.nm.cls)
    | _, _ => false
  | .invokevirtual i => match P[lk.1]?, cl[lk.2.2.1]?, qs with
    | some M', some r, [q1, q2, q3] => decide (0 < lk.2.1) && aSigB M'.nm (lk.2.1 - 1) && aHas q1 (.methodLink own.cls i M'.nm) && aHas q2 (.instanceMethod M'.nm) && aHas q3 (.selects r.1.1 M'.nm M'.nm)
    | _, _, _ => false
  | .invokespecial i => match lk.1 with
    | 0 => match lk.2.2.1 with
      | 0 => match qs with
        | [q1, q2, q3] => aHas q1 (.methodLink own.cls i Lib.objectInit) && aHas q2 (.instanceMethod Lib.objectInit) && aHas q3 (.code Lib.objectInit ⟨#[0xb1]⟩ 1 none)
        | _ => false
      | x + 1 => match cl[x]? with
        | some r => decide (r.1.1 ≠ "java/lang/String") && Bundle.fit r.1.1 && aHasL (Bundle.ownAtoms own.cls i r.1.1 ["java/lang/RuntimeException", "java/lang/Exception"]) qs
        | none => false
    | k + 1 => match P[k]?, qs with
      | some M', [q1, q2, q3] => decide (0 < lk.2.1) && aSigB M'.nm (lk.2.1 - 1) && decide (M'.nm.name = "<init>") && (aHas q1 (.methodLink own.cls i M'.nm) || aHas q1 (.methodLinkNest own.cls i M'.nm "TurtleDesk")) && aHas q2 (.instanceMethod M'.nm) && aHas q3 (.code M'.nm M'.by M'.nl none)
      | _, _ => false
  | _ => true
theorem aChk_ok {cl : aCl} {P : List aMt} {st : List (String × String × String × Value)} {str : List (String × Nat × String × Nat)} {own : MethodName} {I : Instr} {lk : aLk} {qs : List aQ} (h : aChk cl P st str own I lk qs = true) {U : State} (hT : aTb U)
    {s0 : State} {ad : Nat → Nat} {unk : Nat → Value} {K : Nat} (hst : ∀ r ∈ st, va_Z r.1 r.2.1 r.2.2.1 (aV ad unk r.2.2.2) (fun q => ad K ≤ q) s0 s0.heap) (hstr : ∀ r ∈ str, vk_R r.1 r.2.1 r.2.2.1 (ad r.2.2.2) U) (A : Array Value) :
    aLd ad own.cls I lk.2.2.2 A U ∧ aHk s0 cl ad unk K own I lk A U ∧ aIk cl P own I lk A U := by
  have fl : ∀ {q : aQ} {i : Nat} {f : String × String × String × Bool}, (aHas q (.fieldLink own.cls i f.1 f.2.1 f.2.2.1) || aHas q (.fieldLinkNest own.cls i f.1 f.2.1 f.2.2.1 "TurtleDesk")) = true → aFl own.cls i f A U := by
    intro q i f h
    rw [Bool.or_eq_true] at h
    exact h.elim (fun h => Or.inl (aHas_ok h hT A)) (fun h => Or.inr ⟨_, aHas_ok h hT A⟩)
  cases I with
  | ldc i =>
    simp only [aChk] at h
    refine ⟨?_, trivial, trivial⟩
    split at h
    · rename_i e; rw [e]; exact aHas_ok h hT A
    · rename_i e; rw [e]; exact aHas_ok h hT A
    · rename_i e
      rw [e]
      obtain ⟨r, hr, hc⟩ := List.any_eq_true.mp h
      simp only [Bool.and_eq_true, beq_iff_eq] at hc
      have := hstr r hr
      rw [hc.1.1, hc.1.2, hc.2] at this
      exact ⟨_, this⟩
    · cases h
  | ldc_w i =>
    simp only [aChk] at h
    refine ⟨?_, trivial, trivial⟩
    split at h
    · rename_i e; rw [e]; exact aHas_ok h hT A
    · rename_i e; rw [e]; exact aHas_ok h hT A
    · cases h
  | ldc2_w i =>
    simp only [aChk] at h
    refine ⟨?_, trivial, trivial⟩
    split at h
    · rename_i e; rw [e]; exact aHas_ok h hT A
    · cases h
  | getfield i =>
    simp only [aChk] at h
    refine ⟨trivial, ?_, trivial⟩
    split at h
    · rename_i r q hr
      rw [Bool.and_eq_true, decide_eq_true_eq] at h
      exact ⟨r, hr, h.1, fl h.2⟩
    · cases h
  | putfield i =>
    simp only [aChk] at h
    refine ⟨trivial, ?_, trivial⟩
    split at h
    · rename_i r q hr
      simp only [Bool.and_eq_true, decide_eq_true_eq, Bool.or_eq_true (_ && _), Bool.not_eq_true'] at h
      obtain ⟨⟨h1, h2⟩, h3⟩ := h
      refine ⟨r, hr, h1, h2, ?_⟩
      rcases h3 with ⟨h3, h4⟩ | ⟨h3, h4, h5, h6⟩
      · exact Or.inl ⟨fl h3, h4⟩
      · exact Or.inr ⟨aHas_ok h3 hT A, h4, h5, h6⟩
    · cases h
  | new i =>
    simp only [aChk] at h
    refine ⟨trivial, ?_, trivial⟩
    split at h
    · rename_i r q1 q2 q3 hr
      simp only [Bool.and_eq_true, decide_eq_true_eq] at h
      exact ⟨r, hr, h.1.1.1, aHas_ok h.1.1.2 hT A, aHas_ok h.1.2 hT A, aHas_ok h.2 hT A⟩
    · cases h
  | newarray t =>
    simp only [aChk] at h
    refine ⟨trivial, ?_, trivial⟩
    split at h
    · exact aHas_ok h hT A
    · cases h
  | getstatic i =>
    simp only [aChk] at h
    refine ⟨trivial, ?_, trivial⟩
    split at h
    · rename_i r q hr
      simp only [Bool.and_eq_true, decide_eq_true_eq, Bool.or_eq_true] at h
      refine ⟨r.1, r.2.1, r.2.2.1, h.2.elim (fun h => Or.inl (aHas_ok h hT A)) (fun h => Or.inr ⟨_, aHas_ok h hT A⟩), ?_⟩
      rw [← h.1]
      exact hst r (List.mem_of_getElem? hr)
    · cases h
  | invokestatic i =>
    simp only [aChk] at h
    refine ⟨trivial, trivial, ?_⟩
    split at h
    · rename_i M' q1 q2 q3 hP
      simp only [Bool.and_eq_true] at h
      exact ⟨M', hP, aSigB_ok h.1.1.1, aHas_ok h.1.1.2 hT A, aHas_ok h.1.2 hT A, aHas_ok h.2 hT A⟩
    · cases h
  | invokevirtual i =>
    simp only [aChk] at h
    refine ⟨trivial, trivial, ?_⟩
    split at h
    · rename_i M' r q1 q2 q3 hP hr
      simp only [Bool.and_eq_true, decide_eq_true_eq] at h
      exact ⟨M', r, lk.2.1 - 1, hP, hr, by omega, aSigB_ok h.1.1.1.2, aHas_ok h.1.1.2 hT A, aHas_ok h.1.2 hT A, aHas_ok h.2 hT A⟩
    · cases h
  | invokespecial i =>
    simp only [aChk] at h
    refine ⟨trivial, trivial, ?_⟩
    split at h
    · rename_i hz
      split at h
      · rename_i hz2
        split at h
        · simp only [Bool.and_eq_true] at h
          exact Or.inl ⟨hz, hz2, aHas_ok h.1.1 hT A, aHas_ok h.1.2 hT A, aHas_ok h.2 hT A⟩
        · cases h
      · rename_i x hz2
        split at h
        · rename_i r hr
          simp only [Bool.and_eq_true, decide_eq_true_eq] at h
          exact Or.inr (Or.inl ⟨hz, x, r, hz2, hr, h.1.1, h.1.2, fun w hw hrw => aHasL_ok h.2 hT w hw hrw A⟩)
        · cases h
    · rename_i k hk
      split at h
      · rename_i M' q1 q2 q3 hP
        simp only [Bool.and_eq_true, decide_eq_true_eq, Bool.or_eq_true] at h
        exact Or.inr (Or.inr ⟨k, M', lk.2.1 - 1, hk, hP, by omega, aSigB_ok h.1.1.1.1.2, h.1.1.1.2, h.1.1.2.elim (fun h => Or.inl (aHas_ok h hT A)) (fun h => Or.inr ⟨_, aHas_ok h hT A⟩), aHas_ok h.1.2 hT A, aHas_ok h.2 hT A⟩)
      · cases h
  | _ => exact ⟨trivial, trivial, trivial⟩
def aSwB : Instr → Bool
  | .lookupswitch _ _ => true | .tableswitch _ _ _ _ => true | _ => false
def aRowsB (cl : aCl) (P : List aMt) (st : List (String × String × String × Value)) (str : List (String × Nat × String × Nat)) (own : MethodName) (bytes : ByteArray) : List aIn → List (List aQ) → Bool
  | [], _ => true
  | e :: l, [] => false
  | e :: l, q :: qs => decide (decode bytes e.1 = .ok (e.2.1, e.2.2.1)) && (decide (e.2.2.1 = aLen e.2.1) || aSwB e.2.1) && aChk cl P st str own e.2.1 e.2.2.2 q && aRowsB cl P st str own bytes l qs
theorem aRowsB_ok {cl : aCl} {P : List aMt} {st : List (String × String × String × Value)} {str : List (String × Nat × String × Nat)} {own : MethodName} {bytes : ByteArray} : ∀ {l : List aIn} {qs : List (List aQ)}, aRowsB cl P st str own bytes l qs = true →
    ∀ (pc : Nat) (I : Instr) (lk : aLk), aFind l pc = some (I, lk) → (∃ n, decode bytes pc = .ok (I, n) ∧ (n = aLen I ∨ (∃ d ps, I = .lookupswitch d ps) ∨ (∃ d lo hi os, I = .tableswitch d lo hi os))) ∧ ∃ q, aChk cl P st str own I lk q = true
  | [], _, _, pc, I, lk, hf => by cases hf
  | e :: l, [], h, pc, I, lk, hf => by simp [aRowsB] at h
  | e :: l, q :: qs, h, pc, I, lk, hf => by
    simp only [aRowsB, Bool.and_eq_true, decide_eq_true_eq, Bool.or_eq_true] at h
    obtain ⟨⟨⟨h1, h2⟩, h3⟩, h4⟩ := h
    unfold aFind at hf
    split at hf
    · rename_i he
      cases hf
      subst he
      refine ⟨⟨e.2.2.1, h1, ?_⟩, q, h3⟩
      rcases h2 with h2 | h2
      · exact Or.inl h2
      · generalize e.2.1 = J at h2 ⊢
        unfold aSwB at h2
        split at h2
        · exact Or.inr (Or.inl ⟨_, _, rfl⟩)
        · exact Or.inr (Or.inr ⟨_, _, _, _, rfl⟩)
        · cases h2
    · exact aRowsB_ok h4 pc I lk hf
