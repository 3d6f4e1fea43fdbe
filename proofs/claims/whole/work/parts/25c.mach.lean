/-! the class's machine: places 35 .. 44 -/
def kM (ht cl pc an : Int32) : List Value := [.ref 36, .int ht, .ref 37, .int cl, .ref 38, .ref 39, .ref 40, .ref 41, .int pc, .int an]
def kT (x y : UInt32) (hd co dn : Int32) : List Value := [.ref 42, .float x, .float y, .int hd, .int co, .int dn]
def kPi (rc : Int32) : List Value := [.ref 43, .ref 44, .int rc]
def cS (S0 : Nat → List Value) (a35 a36 a37 a38 a39 a40 a41 a42 a43 a44 : List Value) : Nat → List Value := fun q => if q = 35 then a35 else if q = 36 then a36 else if q = 37 then a37 else if q = 38 then a38 else if q = 39 then a39 else if q = 40 then a40 else if q = 41 then a41 else if q = 42 then a42 else if q = 43 then a43 else if q = 44 then a44 else S0 q
section CS
variable {S0 : Nat → List Value} {a35 a36 a37 a38 a39 a40 a41 a42 a43 a44 b : List Value}
theorem cS_35 : aUp (cS S0 a35 a36 a37 a38 a39 a40 a41 a42 a43 a44) 35 b = cS S0 b a36 a37 a38 a39 a40 a41 a42 a43 a44 := by
  funext q
  unfold aUp cS
  by_cases e : q = 35
  · subst e
    rfl
  · simp only [e, if_false]
theorem cS_36 : aUp (cS S0 a35 a36 a37 a38 a39 a40 a41 a42 a43 a44) 36 b = cS S0 a35 b a37 a38 a39 a40 a41 a42 a43 a44 := by
  funext q
  unfold aUp cS
  by_cases e : q = 36
  · subst e
    rfl
  · simp only [e, if_false]
theorem cS_37 : aUp (cS S0 a35 a36 a37 a38 a39 a40 a41 a42 a43 a44) 37 b = cS S0 a35 a36 b a38 a39 a40 a41 a42 a43 a44 := by
  funext q
  unfold aUp cS
  by_cases e : q = 37
  · subst e
    rfl
  · simp only [e, if_false]
theorem cS_38 : aUp (cS S0 a35 a36 a37 a38 a39 a40 a41 a42 a43 a44) 38 b = cS S0 a35 a36 a37 b a39 a40 a41 a42 a43 a44 := by
  funext q
  unfold aUp cS
  by_cases e : q = 38
  · subst e
    rfl
  · simp only [e, if_false]
theorem cS_39 : aUp (cS S0 a35 a36 a37 a38 a39 a40 a41 a42 a43 a44) 39 b = cS S0 a35 a36 a37 a38 b a40 a41 a42 a43 a44 := by
  funext q
  unfold aUp cS
  by_cases e : q = 39
  · subst e
    rfl
  · simp only [e, if_false]
theorem cS_40 : aUp (cS S0 a35 a36 a37 a38 a39 a40 a41 a42 a43 a44) 40 b = cS S0 a35 a36 a37 a38 a39 b a41 a42 a43 a44 := by
  funext q
  unfold aUp cS
  by_cases e : q = 40
  · subst e
    rfl
  · simp only [e, if_false]
theorem cS_41 : aUp (cS S0 a35 a36 a37 a38 a39 a40 a41 a42 a43 a44) 41 b = cS S0 a35 a36 a37 a38 a39 a40 b a42 a43 a44 := by
  funext q
  unfold aUp cS
  by_cases e : q = 41
  · subst e
    rfl
  · simp only [e, if_false]
theorem cS_42 : aUp (cS S0 a35 a36 a37 a38 a39 a40 a41 a42 a43 a44) 42 b = cS S0 a35 a36 a37 a38 a39 a40 a41 b a43 a44 := by
  funext q
  unfold aUp cS
  by_cases e : q = 42
  · subst e
    rfl
  · simp only [e, if_false]
theorem cS_43 : aUp (cS S0 a35 a36 a37 a38 a39 a40 a41 a42 a43 a44) 43 b = cS S0 a35 a36 a37 a38 a39 a40 a41 a42 b a44 := by
  funext q
  unfold aUp cS
  by_cases e : q = 43
  · subst e
    rfl
  · simp only [e, if_false]
theorem cS_44 : aUp (cS S0 a35 a36 a37 a38 a39 a40 a41 a42 a43 a44) 44 b = cS S0 a35 a36 a37 a38 a39 a40 a41 a42 a43 b := by
  funext q
  unfold aUp cS
  by_cases e : q = 44
  · subst e
    rfl
  · simp only [e, if_false]
theorem cS_id : cS S0 (S0 35) (S0 36) (S0 37) (S0 38) (S0 39) (S0 40) (S0 41) (S0 42) (S0 43) (S0 44) = S0 := by
  funext q
  unfold cS
  by_cases e35 : q = 35
  · subst e35
    rfl
  by_cases e36 : q = 36
  · subst e36
    rfl
  by_cases e37 : q = 37
  · subst e37
    rfl
  by_cases e38 : q = 38
  · subst e38
    rfl
  by_cases e39 : q = 39
  · subst e39
    rfl
  by_cases e40 : q = 40
  · subst e40
    rfl
  by_cases e41 : q = 41
  · subst e41
    rfl
  by_cases e42 : q = 42
  · subst e42
    rfl
  by_cases e43 : q = 43
  · subst e43
    rfl
  by_cases e44 : q = 44
  · subst e44
    rfl
  simp only [e35, e36, e37, e38, e39, e40, e41, e42, e43, e44, if_false]
theorem cS_ne {q : Nat} (h : q < 35 ∨ 44 < q) : cS S0 a35 a36 a37 a38 a39 a40 a41 a42 a43 a44 q = S0 q := by
  unfold cS
  simp only [show ¬ q = 35 by omega, show ¬ q = 36 by omega, show ¬ q = 37 by omega, show ¬ q = 38 by omega, show ¬ q = 39 by omega, show ¬ q = 40 by omega, show ¬ q = 41 by omega, show ¬ q = 42 by omega, show ¬ q = 43 by omega, show ¬ q = 44 by omega, if_false]
end CS
/-! rows of floats: what lives, the last first, and what lies behind it -/
def fA (stk : List UInt32) (g : List Value) : List Value := stk.reverse.map Value.float ++ g
theorem fA_cons {a : UInt32} {stk : List UInt32} {g : List Value} : fA (a :: stk) g = fA stk (.float a :: g) := by simp [fA]
theorem fA_get {a : UInt32} {stk : List UInt32} {g : List Value} : (fA stk (.float a :: g))[stk.length]? = some (.float a) := by
  unfold fA
  rw [List.getElem?_append_right (by simp)]
  simp
theorem fA_set {a : UInt32} {stk : List UInt32} {v : Value} {g : List Value} : (fA stk (v :: g)).set stk.length (.float a) = fA (a :: stk) g := by
  unfold fA
  rw [List.set_append_right _ _ (by simp)]
  simp
theorem fA_len {stk : List UInt32} {g : List Value} : (fA stk g).length = stk.length + g.length := by simp [fA]
/-! rows of whole numbers -/
def iA (l : List Nat) (g : List Value) : List Value := l.reverse.map (fun k => Value.int (Int32.ofNat k)) ++ g
theorem iA_cons {a : Nat} {l : List Nat} {g : List Value} : iA (a :: l) g = iA l (.int (Int32.ofNat a) :: g) := by simp [iA]
theorem iA_get {a : Nat} {l : List Nat} {g : List Value} : (iA l (.int (Int32.ofNat a) :: g))[l.length]? = some (.int (Int32.ofNat a)) := by
  unfold iA
  rw [List.getElem?_append_right (by simp)]
  simp
theorem iA_set {a : Nat} {l : List Nat} {v : Value} {g : List Value} : (iA l (v :: g)).set l.length (.int (Int32.ofNat a)) = iA (a :: l) g := by
  unfold iA
  rw [List.set_append_right _ _ (by simp)]
  simp
theorem iA_len {l : List Nat} {g : List Value} : (iA l g).length = l.length + g.length := by simp [iA]
theorem i32_pre {k : Nat} : Int32.ofNat (k + 1) - Int32.ofInt 1 = Int32.ofNat k := by
  rw [← i32_succ, Int32.add_sub_cancel]
theorem i32_eq {a b : Nat} (ha : a < 2 ^ 31) (hb : b < 2 ^ 31) : Int32.ofNat a = Int32.ofNat b ↔ a = b := by
  constructor
  · intro h
    have := congrArg Int32.toInt h
    rw [Int32.toInt_ofNat_small ha, Int32.toInt_ofNat_small hb] at this
    omega
  · rintro rfl
    rfl
theorem i32_ne0 {k : Nat} (hk : k < 2 ^ 31) (h : k ≠ 0) : Int32.ofNat k ≠ 0 := fun z => h ((i32_eq (b := 0) hk (by decide)).mp z)
