/-- what is still open: compile, run, interpret -/
def aOpen3 : Prop := ∀ (scr : List Value) (Q : aOut → aH → Prop) (i c : Nat) (h : aH) (w a : Int32), scr.length ≤ 1536 → i + 3 ≤ scr.length → scr[i + 1]? = some (.int a) → aInv scr c h → aNext scr Q i c →
  (w &&& 15 = Int32.ofNat 2 ∨ w &&& 15 = Int32.ofNat 7 ∨ w &&& 15 = Int32.ofNat 8) → aE aMlaw 800 44 (aL0 (Int32.ofNat i)) [.int (w &&& 15)] h Q
theorem aOpen_of (H : aOpen3) : aOpen := fun scr Q i c h w a h1 h2 h3 h4 h5 h6 => by
  rcases h6 with e | e | e | e
  · exact H scr Q i c h w a h1 h2 h3 h4 h5 (Or.inl e)
  · exact step_restart e h4 h5
  · exact H scr Q i c h w a h1 h2 h3 h4 h5 (Or.inr (Or.inl e))
  · exact H scr Q i c h w a h1 h2 h3 h4 h5 (Or.inr (Or.inr e))
