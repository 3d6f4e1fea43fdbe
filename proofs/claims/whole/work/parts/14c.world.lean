def aTm (i : Nat) : Term := .string (aStrs.getD i ("", 0, "", 0)).1 (aStrs.getD i ("", 0, "", 0)).2.1
def aLenS : List Nat := aByt.map List.length
def aAdr (b r base : Nat) (aK aV : Nat → Nat) (p : Nat) : Nat := if p = 0 then b else if p = 1 then r else if p < 20 then (if p % 2 = 0 then aK ((p - 2) / 2) else aV ((p - 3) / 2)) else base + (p - 20)
abbrev aNar : List Jvm.Cond := flatC (Jvm.Cond.and given_1 narrow_1)
theorem aN_ex : (List.range 9).all (fun i => decide (Cond.exactly (aTm i) "java/lang/String" ∈ aNar)) = true := by decide +kernel
theorem aN_co : (List.range 9).all (fun i => decide (Cond.eq (.field (aTm i) "java/lang/String" "coder" "B") (.int 0) ∈ aNar)) = true := by decide +kernel
theorem aN_ar : (List.range 9).all (fun i => decide (Cond.arrayOf (.field (aTm i) "java/lang/String" "value" "[B") .byte ∈ aNar)) = true := by decide +kernel
theorem aN_le : (List.range 9).all (fun i => decide (Cond.eq (.length (.field (aTm i) "java/lang/String" "value" "[B")) (.int (Int32.ofNat (aLenS.getD i 0))) ∈ aNar)) = true := by decide +kernel
theorem aN_el : (List.range 9).all (fun i => (List.range (aLenS.getD i 0)).all (fun j => decide (Cond.eq (.elem (.field (aTm i) "java/lang/String" "value" "[B") (.int (Int32.ofNat j))) (.int ((aByt.getD i []).getD j 0)) ∈ aNar))) = true := by decide +kernel
theorem aN_ne : (List.range 9).all (fun i => (List.range 9).all (fun j => i == j || decide (Cond.not (Cond.eq (aTm i) (aTm j)) ∈ aNar) || decide (Cond.not (Cond.eq (aTm j) (aTm i)) ∈ aNar))) = true := by decide +kernel
theorem aN_re : (List.range 16).all (fun j => decide (Cond.eq (.elem (.static "TurtleDesk" "RESERVED_KINDS" "[I") (.int (Int32.ofNat j))) (.int (aResK.getD j 0)) ∈ aNar)) = true := by decide +kernel
theorem aN_st : Cond.arrayOf (.static "TurtleDesk" "RESERVED_KINDS" "[I") .int ∈ aNar ∧ Cond.eq (.length (.static "TurtleDesk" "RESERVED_KINDS" "[I")) (.int 16) ∈ aNar ∧ Cond.eq (.static "java/lang/String" "COMPACT_STRINGS" "Z") (.int 1) ∈ aNar ∧ Cond.eq (.static "java/lang/StringUTF16" "$assertionsDisabled" "Z") (.int 1) ∈ aNar ∧
    Cond.eq (.static "java/lang/StringUTF16" "HI_BYTE_SHIFT" "I") (.int 0) ∈ aNar ∧ Cond.eq (.static "java/lang/StringUTF16" "LO_BYTE_SHIFT" "I") (.int 8) ∈ aNar ∧ Cond.isRef (.static "jdk/internal/util/Preconditions" "SIOOBE_FORMATTER" "Ljava/util/function/BiFunction;") ∈ aNar ∧
    Cond.isRef (.static "java/lang/Throwable" "UNASSIGNED_STACK" "[Ljava/lang/StackTraceElement;") ∈ aNar ∧ Cond.isRef (.static "java/lang/Throwable" "SUPPRESSED_SENTINEL" "Ljava/util/List;") ∈ aNar := by decide +kernel
theorem aN_nc : (Cond.not (.castable "java/lang/IllegalArgumentException" "java/lang/IllegalStateException") ∈ aNar ∧ Cond.not (.castable "java/lang/IllegalArgumentException" "java/lang/IndexOutOfBoundsException") ∈ aNar) ∧ (Cond.not (.castable "java/lang/IllegalStateException" "java/lang/IllegalArgumentException") ∈ aNar ∧ Cond.not (.castable "java/lang/IllegalStateException" "java/lang/IndexOutOfBoundsException") ∈ aNar) ∧
    Cond.not (.castable "java/lang/IndexOutOfBoundsException" "java/lang/IllegalArgumentException") ∈ aNar ∧ Cond.not (.castable "java/lang/IndexOutOfBoundsException" "java/lang/IllegalStateException") ∈ aNar := by decide +kernel
theorem aL_st : (Cond.laysStatic "TurtleDesk" "RESERVED_KINDS" "[I" ∈ lw_tbl ∧ Cond.laysStatic "java/lang/String" "COMPACT_STRINGS" "Z" ∈ lw_tbl ∧ Cond.laysStatic "java/lang/StringUTF16" "$assertionsDisabled" "Z" ∈ lw_tbl ∧ Cond.laysStatic "java/lang/StringUTF16" "HI_BYTE_SHIFT" "I" ∈ lw_tbl ∧ Cond.laysStatic "java/lang/StringUTF16" "LO_BYTE_SHIFT" "I" ∈ lw_tbl ∧
    Cond.laysStatic "jdk/internal/util/Preconditions" "SIOOBE_FORMATTER" "Ljava/util/function/BiFunction;" ∈ lw_tbl ∧ Cond.laysStatic "java/lang/Throwable" "UNASSIGNED_STACK" "[Ljava/lang/StackTraceElement;" ∈ lw_tbl ∧ Cond.laysStatic "java/lang/Throwable" "SUPPRESSED_SENTINEL" "Ljava/util/List;" ∈ lw_tbl) ∧
    Cond.initialized "TurtleDesk" ∈ lw_tbl ∧ Cond.initialized "java/lang/String" ∈ lw_tbl ∧ Cond.initialized "java/lang/StringUTF16" ∈ lw_tbl ∧ Cond.initialized "jdk/internal/util/Preconditions" ∈ lw_tbl := by decide +kernel
theorem aL_sr : aStrs.all (fun r => decide (Cond.stringRef r.1 r.2.1 r.2.2.1 ∈ lw_tbl)) = true := by decide +kernel
theorem aCls_str : aCls[15]? = some (("java/lang/String", aT15, 2), [.array .byte, .byte]) := rfl
theorem aCls_own : (List.range 15).all (fun i => match aCls[i]? with | some r => decide (r.1.1 ≠ "java/lang/String") | none => false) = true := by decide +kernel
theorem aCls_len : aCls.length = 16 := rfl
theorem aCls_exc : (aCls[10]?.map (·.1.1)) = some "java/lang/IllegalArgumentException" ∧ (aCls[12]?.map (·.1.1)) = some "java/lang/IllegalStateException" ∧ (aCls[13]?.map (·.1.1)) = some "java/lang/IndexOutOfBoundsException" := ⟨rfl, rfl, rfl⟩
theorem aCast {s : State} {A : Array Value} {C T : String} {c t : ClassId} (h : (Cond.not (.castable C T)).before A s = true) (hc : s.vm.findClass C = some c) (ht : s.vm.findClass T = some t) : s.vm.assignable c t = false := by
  cases ha : s.vm.assignable c t with
  | false => rfl
  | true => simp [Cond.before, Cond.holds, Cond.value, hc, ht, ha] at h
