/-! the law's loop, out of an invariant between calls: c counts the calls done -/
theorem law_loop {scr : List Value} {Q : aOut → aH → Prop} {Inv : Nat → aH → Prop} (hL : scr.length ≤ 1536) (hS : ∀ (j : Nat) (v : Value), scr[j]? = some v → ∃ x, v = .int x) (h0 : ∀ c h, Inv c h → h[0]? = some (0, scr))
    (step : ∀ (c : Nat) (h : aH) (i : Nat) (w a b : Int32), Inv c h → i + 3 ≤ scr.length → scr[i + 1]? = some (.int a) → scr[i + 2]? = some (.int b) → (∀ h2, Inv (c + 1) h2 → aE aMlaw 800 28 (aL0 (Int32.ofNat (i + 3))) [] h2 Q) → aE aMlaw 800 44 (aL0 (Int32.ofNat i)) [.int (w &&& 15)] h Q)
    (fin : ∀ c h, c ≤ 512 → Inv c h → Q (.inl (some (.int 1))) h) : ∀ (m i c : Nat) (h : aH), scr.length < i + 3 * (m + 1) → i = 3 * c → i ≤ scr.length → Inv c h → aE aMlaw 800 28 (aL0 (Int32.ofNat i)) [] h Q
  | 0, i, c, h, hm, hc, hi, hI => law_exit (h0 c h hI) hL (by omega) (by omega) (fin c h (by omega) hI)
  | m + 1, i, c, h, hm, hc, hi, hI => by
    by_cases h3 : i + 3 ≤ scr.length
    · obtain ⟨w, ew⟩ := hS i _ (List.getElem?_eq_getElem (by omega))
      obtain ⟨a, ea⟩ := hS (i + 1) _ (List.getElem?_eq_getElem (by omega))
      obtain ⟨b, eb⟩ := hS (i + 2) _ (List.getElem?_eq_getElem (by omega))
      refine law_pre (w := w) (h0 c h hI) hL h3 (by rw [← ew]; exact List.getElem?_eq_getElem (by omega)) ?_
      exact step c h i w a b hI h3 (by rw [← ea]; exact List.getElem?_eq_getElem (by omega)) (by rw [← eb]; exact List.getElem?_eq_getElem (by omega)) (fun h2 hI2 => law_loop hL hS h0 step fin m (i + 3) (c + 1) h2 (by omega) (by omega) h3 hI2)
    · exact law_exit (h0 c h hI) hL (by omega) (by omega) (fin c h (by omega) hI)
