def aTm (i : Nat) : Term := .string (aStrs.getD i ("", 0, "", 0)).1 (aStrs.getD i ("", 0, "", 0)).2.1
def aLenS : List Nat := aByt.map List.length
def aAdr (b r base : Nat) (aK aV : Nat → Nat) (p : Nat) : Nat := if p = 0 then b else if p = 1 then r else if p < 20 then (if p % 2 = 0 then aK ((p - 2) / 2) else aV ((p - 3) / 2)) else base + (p - 20)
abbrev aNar : List Jvm.Cond := flatC (Jvm.Cond.and given_1 narrow_1)
def aSubB : List Jvm.Cond → List Jvm.Cond → Bool
  | [], _ => true
  | _ :: _, [] => false
  | w :: ws, y :: ys => if w = y then aSubB ws ys else aSubB (w :: ws) ys
theorem aSubB_ok : ∀ {ys ws : List Jvm.Cond}, aSubB ws ys = true → ∀ w ∈ ws, w ∈ ys
  | ys, [], _, w, hw => by cases hw
  | [], w0 :: ws, h, w, hw => by simp [aSubB] at h
  | y :: ys, w0 :: ws, h, w, hw => by
    unfold aSubB at h
    split at h
    · rename_i he
      rcases List.mem_cons.mp hw with rfl | hw
      · rw [he]; exact List.mem_cons_self
      · exact List.mem_cons_of_mem _ (aSubB_ok h w hw)
    · exact List.mem_cons_of_mem _ (aSubB_ok h w hw)
def aElW (i : Nat) : List Jvm.Cond := (List.range (aLenS.getD i 0)).map (fun j => Cond.eq (.elem (.field (aTm i) "java/lang/String" "value" "[B") (.int (Int32.ofNat j))) (.int ((aByt.getD i []).getD j 0)))
def aNeW (i : Nat) : List Jvm.Cond := (List.range i).map (fun j => Cond.not (Cond.eq (aTm j) (aTm i)))
def aStW (i : Nat) : List Jvm.Cond := Cond.exactly (aTm i) "java/lang/String" :: Cond.eq (.field (aTm i) "java/lang/String" "coder" "B") (.int 0) :: Cond.arrayOf (.field (aTm i) "java/lang/String" "value" "[B") .byte :: Cond.eq (.length (.field (aTm i) "java/lang/String" "value" "[B")) (.int (Int32.ofNat (aLenS.getD i 0))) :: (aElW i ++ aNeW i)
theorem aN_strs : aSubB ((List.range 9).flatMap aStW) aNar = true := by decide +kernel
theorem aN_str {i : Nat} (hi : i < 9) : ∀ w ∈ aStW i, w ∈ aNar := fun w hw => aSubB_ok aN_strs w (List.mem_flatMap.mpr ⟨i, List.mem_range.mpr hi, hw⟩)
theorem aN_ex {i : Nat} (hi : i < 9) : Cond.exactly (aTm i) "java/lang/String" ∈ aNar := aN_str hi _ (List.mem_cons_self)
theorem aN_co {i : Nat} (hi : i < 9) : Cond.eq (.field (aTm i) "java/lang/String" "coder" "B") (.int 0) ∈ aNar := aN_str hi _ (List.mem_cons_of_mem _ List.mem_cons_self)
theorem aN_ar {i : Nat} (hi : i < 9) : Cond.arrayOf (.field (aTm i) "java/lang/String" "value" "[B") .byte ∈ aNar := aN_str hi _ (List.mem_cons_of_mem _ (List.mem_cons_of_mem _ List.mem_cons_self))
theorem aN_le {i : Nat} (hi : i < 9) : Cond.eq (.length (.field (aTm i) "java/lang/String" "value" "[B")) (.int (Int32.ofNat (aLenS.getD i 0))) ∈ aNar := aN_str hi _ (List.mem_cons_of_mem _ (List.mem_cons_of_mem _ (List.mem_cons_of_mem _ List.mem_cons_self)))
theorem aN_el {i j : Nat} (hi : i < 9) (hj : j < aLenS.getD i 0) : Cond.eq (.elem (.field (aTm i) "java/lang/String" "value" "[B") (.int (Int32.ofNat j))) (.int ((aByt.getD i []).getD j 0)) ∈ aNar :=
  aN_str hi _ (List.mem_cons_of_mem _ (List.mem_cons_of_mem _ (List.mem_cons_of_mem _ (List.mem_cons_of_mem _ (List.mem_append_left _ (List.mem_map.mpr ⟨j, List.mem_range.mpr hj, rfl⟩))))))
theorem aN_ne {i j : Nat} (hi : i < 9) (hj : j < i) : Cond.not (Cond.eq (aTm j) (aTm i)) ∈ aNar :=
  aN_str hi _ (List.mem_cons_of_mem _ (List.mem_cons_of_mem _ (List.mem_cons_of_mem _ (List.mem_cons_of_mem _ (List.mem_append_right _ (List.mem_map.mpr ⟨j, List.mem_range.mpr hj, rfl⟩))))))
theorem aN_re : (List.range 16).all (fun j => decide (Cond.eq (.elem (.static "TurtleDesk" "RESERVED_KINDS" "[I") (.int (Int32.ofNat j))) (.int (aResK.getD j 0)) ∈ aNar)) = true := by decide +kernel
theorem aN_st : Cond.arrayOf (.static "TurtleDesk" "RESERVED_KINDS" "[I") .int ∈ aNar ∧ Cond.eq (.length (.static "TurtleDesk" "RESERVED_KINDS" "[I")) (.int 16) ∈ aNar ∧ Cond.eq (.static "java/lang/String" "COMPACT_STRINGS" "Z") (.int 1) ∈ aNar ∧ Cond.eq (.static "java/lang/StringUTF16" "$assertionsDisabled" "Z") (.int 1) ∈ aNar ∧
    Cond.eq (.static "java/lang/StringUTF16" "HI_BYTE_SHIFT" "I") (.int 0) ∈ aNar ∧ Cond.eq (.static "java/lang/StringUTF16" "LO_BYTE_SHIFT" "I") (.int 8) ∈ aNar ∧ Cond.isRef (.static "jdk/internal/util/Preconditions" "SIOOBE_FORMATTER" "Ljava/util/function/BiFunction;") ∈ aNar ∧
    Cond.isRef (.static "java/lang/Throwable" "UNASSIGNED_STACK" "[Ljava/lang/StackTraceElement;") ∈ aNar ∧ Cond.isRef (.static "java/lang/Throwable" "SUPPRESSED_SENTINEL" "Ljava/util/List;") ∈ aNar := by decide +kernel
theorem aN_nc : (Cond.not (.castable "java/lang/IllegalArgumentException" "java/lang/IllegalStateException") ∈ aNar ∧ Cond.not (.castable "java/lang/IllegalArgumentException" "java/lang/IndexOutOfBoundsException") ∈ aNar) ∧ (Cond.not (.castable "java/lang/IllegalStateException" "java/lang/IllegalArgumentException") ∈ aNar ∧ Cond.not (.castable "java/lang/IllegalStateException" "java/lang/IndexOutOfBoundsException") ∈ aNar) ∧
    Cond.not (.castable "java/lang/IndexOutOfBoundsException" "java/lang/IllegalArgumentException") ∈ aNar ∧ Cond.not (.castable "java/lang/IndexOutOfBoundsException" "java/lang/IllegalStateException") ∈ aNar := by decide +kernel
theorem aL_st : (Cond.laysStatic "TurtleDesk" "RESERVED_KINDS" "[I" ∈ lw_tbl ∧ Cond.laysStatic "java/lang/String" "COMPACT_STRINGS" "Z" ∈ lw_tbl ∧ Cond.laysStatic "java/lang/StringUTF16" "$assertionsDisabled" "Z" ∈ lw_tbl ∧ Cond.laysStatic "java/lang/StringUTF16" "HI_BYTE_SHIFT" "I" ∈ lw_tbl ∧ Cond.laysStatic "java/lang/StringUTF16" "LO_BYTE_SHIFT" "I" ∈ lw_tbl ∧
    Cond.laysStatic "jdk/internal/util/Preconditions" "SIOOBE_FORMATTER" "Ljava/util/function/BiFunction;" ∈ lw_tbl ∧ Cond.laysStatic "java/lang/Throwable" "UNASSIGNED_STACK" "[Ljava/lang/StackTraceElement;" ∈ lw_tbl ∧ Cond.laysStatic "java/lang/Throwable" "SUPPRESSED_SENTINEL" "Ljava/util/List;" ∈ lw_tbl) ∧
    Cond.initialized "TurtleDesk" ∈ lw_tbl ∧ Cond.initialized "java/lang/String" ∈ lw_tbl ∧ Cond.initialized "java/lang/StringUTF16" ∈ lw_tbl ∧ Cond.initialized "jdk/internal/util/Preconditions" ∈ lw_tbl := by decide +kernel
theorem aL_sr : aStrs.all (fun r => decide (Cond.stringRef r.1 r.2.1 r.2.2.1 ∈ lw_tbl)) = true := by decide +kernel
theorem aCls_str : aCls[15]? = some (("java/lang/String", aT15, 2), [.array .byte, .byte]) := rfl
theorem aCls_own : (List.range 15).all (fun i => match aCls[i]? with | some r => decide (r.1.1 ≠ "java/lang/String") | none => false) = true := by decide +kernel
theorem aCls_len : aCls.length = 16 := rfl
theorem aCls_10 : ∃ r, aCls[10]? = some r ∧ r.1.1 = "java/lang/IllegalArgumentException" := ⟨_, rfl, rfl⟩
theorem aCls_12 : ∃ r, aCls[12]? = some r ∧ r.1.1 = "java/lang/IllegalStateException" := ⟨_, rfl, rfl⟩
theorem aCls_13 : ∃ r, aCls[13]? = some r ∧ r.1.1 = "java/lang/IndexOutOfBoundsException" := ⟨_, rfl, rfl⟩
theorem aCast {s : State} {A : Array Value} {C T : String} {c t : ClassId} (h : (Cond.not (.castable C T)).before A s = true) (hc : s.vm.findClass C = some c) (ht : s.vm.findClass T = some t) : s.vm.assignable c t = false := by
  cases ha : s.vm.assignable c t with
  | false => rfl
  | true => simp [Cond.before, Cond.holds, Cond.value, hc, ht, ha] at h
