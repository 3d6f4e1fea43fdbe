/-- what is still open: compile, run, interpret -/
def aOpen3 (E : aExt) : Prop := ∀ (scr : List Value) (Q : aOut → aH → Prop) (i c : Nat) (h : aH) (w a : Int32), scr.length ≤ 1536 → i + 3 ≤ scr.length → scr[i + 1]? = some (.int a) → aInv E scr c h → aNext E scr Q i c →
  (w &&& 15 = Int32.ofNat 2 ∨ w &&& 15 = Int32.ofNat 7 ∨ w &&& 15 = Int32.ofNat 8) → aE aMlaw 800 44 (aL0 (Int32.ofNat i)) [.int (w &&& 15)] h Q
theorem aOpen_of {E : aExt} (H : aOpen3 E) (hSt : eSt E) (hBg : eBg E) : aOpen E := fun scr Q i c h w a h1 h2 h3 h4 h5 h6 => by
  rcases h6 with e | e | e | e
  · exact H scr Q i c h w a h1 h2 h3 h4 h5 (Or.inl e)
  · exact step_restart e hBg hSt h4 h5
  · exact H scr Q i c h w a h1 h2 h3 h4 h5 (Or.inr (Or.inl e))
  · exact H scr Q i c h w a h1 h2 h3 h4 h5 (Or.inr (Or.inr e))
