
theorem aTgt_eq {pc t : Nat} {o : Int} (h : aTgt pc o = some t) : (pc : Int) + o = (t : Int) := by
  unfold aTgt at h
  split at h
  · cases h
    omega
  · cases h
/-- what a constant instruction needs of the tables -/
def aLd (ad : Nat → Nat) (own : String) (I : Instr) (v : Value) (args : Array Value) (s : State) : Prop := match I, v with
  | .ldc i, .int x => (Jvm.Cond.constant own i x).before args s = true
  | .ldc i, .float x => (Jvm.Cond.constantFloat own i x).before args s = true
  | .ldc i, .ref q => ∃ tx, vk_R own i tx (ad q) s
  | .ldc_w i, .int x => (Jvm.Cond.constant own i x).before args s = true
  | .ldc_w i, .float x => (Jvm.Cond.constantFloat own i x).before args s = true
  | .ldc2_w i, .long x => (Jvm.Cond.constantLong own i x).before args s = true
  | .ldc _, _ => False
  | .ldc_w _, _ => False
  | .ldc2_w _, _ => False
  | _, _ => True
theorem aN32_ok {r : UInt32} (h : aN32 r = true) : vf_n32 r := by
  unfold aN32 at h
  have h := of_decide_eq_true h
  exact h
theorem aN64_ok {r : UInt64} (h : aN64 r = true) : vf_n64 r := by
  unfold aN64 at h
  have h := of_decide_eq_true h
  exact h
section AROWS
variable {p : Program} {l : Launch} {e : Env} {R : Room} {s : State} {m : MethodId} {args : Array Value} {below : List Frame} {meth : Method} {c : Code} {H : Heap} {locs : List Loc} {cells slots : Nat} {Q : State → Prop}
variable {cc : ByteArray} {pc : Nat} {ls : Array Slot} {ad : Nat → Nat} {unk : Nat → Value} {own : String}
theorem a_ldcwf (hexec : p.tables.exec = Jvm.exec) (hb : c.code = cc) {own : String} {index : Nat} {v : UInt32} {rest : List Value} (hown : s.vm.findClass own = some m.cls) (hconst : (Jvm.Cond.constantFloat own index v).before args s = true) (hdg : decode cc pc = .ok (.ldc_w index, 3)) (k : W p l e R s m args below meth c H locs cells slots Q (F0 m (pc + 3) ls (.float v :: rest))) : W p l e R s m args below meth c H locs cells slots Q (F0 m pc ls rest) := by
  intro T hT X
  obtain ⟨t, a, b⟩ := k T hT X
  obtain ⟨kk, cf, hk, hcf, hcp⟩ := Cond.constantFloat_spec hown hconst
  obtain ⟨k', hk', he⟩ := X.warmed.alike.2.2 _ _ hk
  refine ⟨t, ?_, b⟩
  jvm_step X.here [X.here.top, hexec, hb, hdg, ldc_w.wp_float (s := T) (f := F0 m pc ls rest) X.here.top hk' (by rw [he]; exact hcf) hcp]
  exact a
set_option maxHeartbeats 4000000 in
theorem aPure_ok (hx : p.tables.exec = Jvm.exec) (hb : c.code = cc) (hown : s.vm.findClass own = some m.cls) {I : Instr} {v : Value} {st st' : List Value} (h : aPure I v st = some st') (hdg : decode cc pc = .ok (I, aLen I)) (hld : aLd ad own I v args s)
    (k : W p l e R s m args below meth c H locs cells slots Q (F0 m (pc + aLen I) ls (aVs ad unk st'))) : W p l e R s m args below meth c H locs cells slots Q (F0 m pc ls (aVs ad unk st)) := by
  cases I with
  | aconst_null =>
    simp only [aPure] at h
    cases h
    exact lv_null hx hb hdg k
  | iconst n =>
    simp only [aPure] at h
    cases h
    exact lv_iconst hx hb hdg rfl k
  | bipush n =>
    simp only [aPure] at h
    cases h
    exact lv_bipush hx hb hdg rfl k
  | sipush n =>
    simp only [aPure] at h
    cases h
    exact lv_sipush hx hb hdg rfl k
  | lconst n =>
    simp only [aPure] at h
    cases h
    exact lv_lconst hx hb hdg rfl k
  | fconst n =>
    have hn : n = 0 ∨ n = 1 ∨ n = 2 := by omega
    rcases hn with rfl | rfl | rfl
    · simp only [aPure] at h
      cases h
      exact lv_fconst0 hx hb hdg k
    · simp only [aPure] at h
      cases h
      exact lv_fconst1 hx hb hdg k
    · simp [aPure] at h
  | ldc i =>
    simp only [aPure] at h
    cases h
    cases v with
    | int x => exact lv_ldc hx hb hown hld hdg k
    | float x => exact lv_ldcf hx hb hown hld hdg k
    | ref q => exact hld.elim fun tx hR => va_ldcS hx hb hown hR hdg k
    | _ => exact hld.elim
  | ldc_w i =>
    simp only [aPure] at h
    cases h
    cases v with
    | int x => exact lv_ldcw hx hb hown hld hdg k
    | float x => exact a_ldcwf hx hb hown hld hdg k
    | _ => exact hld.elim
  | ldc2_w i =>
    simp only [aPure] at h
    cases h
    cases v with
    | long x => exact lv_ldc2 hx hb hown hld hdg k
    | _ => exact hld.elim
  | iadd =>
    simp only [aPure] at h
    split at h
    · cases h
      exact lv_iadd hx hb hdg k
    · cases h
  | isub =>
    simp only [aPure] at h
    split at h
    · cases h
      exact lv_isub hx hb hdg k
    · cases h
  | imul =>
    simp only [aPure] at h
    split at h
    · cases h
      exact lv_imul hx hb hdg k
    · cases h
  | iand =>
    simp only [aPure] at h
    split at h
    · cases h
      exact lv_iand hx hb hdg k
    · cases h
  | ior =>
    simp only [aPure] at h
    split at h
    · cases h
      exact lv_ior hx hb hdg k
    · cases h
  | ixor =>
    simp only [aPure] at h
    split at h
    · cases h
      exact lv_ixor hx hb hdg k
    · cases h
  | ineg =>
    simp only [aPure] at h
    split at h
    · cases h
      exact lv_ineg hx hb hdg k
    · cases h
  | ladd =>
    simp only [aPure] at h
    split at h
    · cases h
      exact lv_ladd hx hb hdg k
    · cases h
  | lsub =>
    simp only [aPure] at h
    split at h
    · cases h
      exact lv_lsub hx hb hdg k
    · cases h
  | lmul =>
    simp only [aPure] at h
    split at h
    · cases h
      exact lv_lmul hx hb hdg k
    · cases h
  | ishl =>
    simp only [aPure] at h
    split at h
    · cases h
      exact lv_ishl hx hb hdg k
    · cases h
  | ishr =>
    simp only [aPure] at h
    split at h
    · cases h
      exact lv_ishr hx hb hdg k
    · cases h
  | fneg =>
    simp only [aPure] at h
    split at h
    · cases h
      exact lv_fneg hx hb hdg k
    · cases h
  | fcmp op =>
    simp only [aPure] at h
    split at h
    · cases h
      exact lv_fcmp hx hb hdg k
    · cases h
  | dcmp op =>
    simp only [aPure] at h
    split at h
    · cases h
      exact lv_dcmp hx hb hdg k
    · cases h
  | i2f =>
    simp only [aPure] at h
    split at h
    · cases h
      exact lv_i2f hx hb hdg k
    · cases h
  | f2i =>
    simp only [aPure] at h
    split at h
    · cases h
      exact lv_f2i hx hb hdg k
    · cases h
  | i2l =>
    simp only [aPure] at h
    split at h
    · cases h
      exact lv_i2l hx hb hdg rfl k
    · cases h
  | l2i =>
    simp only [aPure] at h
    split at h
    · cases h
      exact lv_l2i hx hb hdg rfl k
    · cases h
  | i2b =>
    simp only [aPure] at h
    split at h
    · cases h
      exact lv_i2b hx hb hdg rfl k
    · cases h
  | i2c =>
    simp only [aPure] at h
    split at h
    · cases h
      exact lv_i2c hx hb hdg rfl k
    · cases h
  | iushr =>
    simp only [aPure] at h
    split at h
    · cases h
      exact lv_iushr hx hb hdg rfl k
    · cases h
  | idiv =>
    simp only [aPure] at h
    split at h
    · split at h
      · cases h
      · rename_i hne
        cases h
        exact lv_idiv hx hb hdg hne k
    · cases h
  | irem =>
    simp only [aPure] at h
    split at h
    · split at h
      · cases h
      · rename_i hne
        cases h
        exact lv_irem hx hb hdg hne k
    · cases h
  | fadd =>
    simp only [aPure] at h
    split at h
    · split at h
      · rename_i hne
        cases h
        exact lv_fadd hx hb hdg (aN32_ok hne) k
      · cases h
    · cases h
  | fsub =>
    simp only [aPure] at h
    split at h
    · split at h
      · rename_i hne
        cases h
        exact lv_fsub hx hb hdg (aN32_ok hne) k
      · cases h
    · cases h
  | fmul =>
    simp only [aPure] at h
    split at h
    · split at h
      · rename_i hne
        cases h
        exact lv_fmul hx hb hdg (aN32_ok hne) k
      · cases h
    · cases h
  | fdiv =>
    simp only [aPure] at h
    split at h
    · split at h
      · rename_i hne
        cases h
        exact lv_fdiv hx hb hdg (aN32_ok hne) k
      · cases h
    · cases h
  | f2d =>
    simp only [aPure] at h
    split at h
    · split at h
      · rename_i hne
        cases h
        exact lv_f2d hx hb hdg (aN64_ok hne) k
      · cases h
    · cases h
  | lcmp =>
    simp only [aPure] at h
    split at h
    · cases h
      exact W.lcmp hx hb hdg k
    · cases h
  | dup =>
    simp only [aPure] at h
    split at h
    · cases h
      exact lv_dup hx hb hdg rfl k
    · cases h
      exact lv_dup hx hb hdg rfl k
    · cases h
      exact lv_dup hx hb hdg rfl k
    · cases h
      exact lv_dup hx hb hdg rfl k
    · cases h
  | pop =>
    simp only [aPure] at h
    split at h
    · cases h
      exact lv_pop hx hb hdg rfl k
    · cases h
      exact lv_pop hx hb hdg rfl k
    · cases h
      exact lv_pop hx hb hdg rfl k
    · cases h
      exact lv_pop hx hb hdg rfl k
    · cases h
  | pop2 =>
    simp only [aPure] at h
    split at h
    · cases h
      exact lv_pop2_2 hx hb hdg rfl k
    · cases h
      exact lv_pop2_2 hx hb hdg rfl k
    · cases h
  | _ => simp [aPure] at h
set_option maxHeartbeats 4000000 in
theorem aBr_ok (hx : p.tables.exec = Jvm.exec) (hb : c.code = cc) {I : Instr} {pc' n : Nat} {st st' : List Value} (h : aBr I pc st = some (pc', st')) (hdg : decode cc pc = .ok (I, n)) (hn : n = aLen I ∨ (∃ d ps, I = .lookupswitch d ps) ∨ (∃ d lo hi os, I = .tableswitch d lo hi os))
    (k : W p l e R s m args below meth c H locs cells slots Q (F0 m pc' ls (aVs ad unk st'))) : W p l e R s m args below meth c H locs cells slots Q (F0 m pc ls (aVs ad unk st)) := by
  have hmap : ∀ {o : Int} {r : List Value}, (aTgt pc o).map (fun t => (t, r)) = some (pc', st') → (pc : Int) + o = (pc' : Int) ∧ r = st' := by
    intro o r h
    cases ht : aTgt pc o with
    | none => rw [ht] at h; cases h
    | some t => rw [ht] at h; cases h; exact ⟨aTgt_eq ht, rfl⟩
  cases I with
  | goto o =>
    have hn : n = 3 := by rcases hn with h1 | ⟨_, _, h1⟩ | ⟨_, _, _, _, h1⟩ <;> first | exact h1 | cases h1
    subst hn
    simp only [aBr] at h
    obtain ⟨h1, rfl⟩ := hmap h
    exact lv_goto hx hb hdg h1 k
  | ifCond cnd o =>
    have hn : n = 3 := by rcases hn with h1 | ⟨_, _, h1⟩ | ⟨_, _, _, _, h1⟩ <;> first | exact h1 | cases h1
    subst hn
    cases cnd
    · simp only [aBr] at h
      split at h
      · obtain ⟨t, ht, h⟩ := Option.map_eq_some_iff.mp h
        exact lv_if_eq hx hb hdg (aTgt_eq ht) (fun hc => by rw [if_pos hc] at h; cases h; exact k) (fun hc => by rw [if_neg hc] at h; cases h; exact k)
      · cases h
    · simp only [aBr] at h
      split at h
      · obtain ⟨t, ht, h⟩ := Option.map_eq_some_iff.mp h
        exact lv_if_ne hx hb hdg (aTgt_eq ht) (fun hc => by rw [if_neg hc] at h; cases h; exact k) (fun hc => by rw [if_pos hc] at h; cases h; exact k)
      · cases h
    · simp only [aBr] at h
      split at h
      · obtain ⟨t, ht, h⟩ := Option.map_eq_some_iff.mp h
        exact lv_if_lt hx hb hdg (aTgt_eq ht) (fun hc => by rw [if_pos hc] at h; cases h; exact k) (fun hc => by rw [if_neg hc] at h; cases h; exact k)
      · cases h
    · simp only [aBr] at h
      split at h
      · obtain ⟨t, ht, h⟩ := Option.map_eq_some_iff.mp h
        exact lv_if_ge hx hb hdg (aTgt_eq ht) (fun hc => by rw [if_pos hc] at h; cases h; exact k) (fun hc => by rw [if_neg hc] at h; cases h; exact k)
      · cases h
    · simp only [aBr] at h
      split at h
      · obtain ⟨t, ht, h⟩ := Option.map_eq_some_iff.mp h
        exact lv_if_gt hx hb hdg (aTgt_eq ht) (fun hc => by rw [if_pos hc] at h; cases h; exact k) (fun hc => by rw [if_neg hc] at h; cases h; exact k)
      · cases h
    · simp only [aBr] at h
      split at h
      · obtain ⟨t, ht, h⟩ := Option.map_eq_some_iff.mp h
        exact lv_if_le hx hb hdg (aTgt_eq ht) (fun hc => by rw [if_pos hc] at h; cases h; exact k) (fun hc => by rw [if_neg hc] at h; cases h; exact k)
      · cases h
  | if_icmp cnd o =>
    have hn : n = 3 := by rcases hn with h1 | ⟨_, _, h1⟩ | ⟨_, _, _, _, h1⟩ <;> first | exact h1 | cases h1
    subst hn
    cases cnd
    · simp only [aBr] at h
      split at h
      · obtain ⟨t, ht, h⟩ := Option.map_eq_some_iff.mp h
        exact lv_icmp_eq hx hb hdg (aTgt_eq ht) (fun hc => by rw [if_pos hc] at h; cases h; exact k) (fun hc => by rw [if_neg hc] at h; cases h; exact k)
      · cases h
    · simp only [aBr] at h
      split at h
      · obtain ⟨t, ht, h⟩ := Option.map_eq_some_iff.mp h
        exact lv_icmp_ne hx hb hdg (aTgt_eq ht) (fun hc => by rw [if_neg hc] at h; cases h; exact k) (fun hc => by rw [if_pos hc] at h; cases h; exact k)
      · cases h
    · simp only [aBr] at h
      split at h
      · obtain ⟨t, ht, h⟩ := Option.map_eq_some_iff.mp h
        exact lv_icmp_lt hx hb hdg (aTgt_eq ht) (fun hc => by rw [if_pos hc] at h; cases h; exact k) (fun hc => by rw [if_neg hc] at h; cases h; exact k)
      · cases h
    · simp only [aBr] at h
      split at h
      · obtain ⟨t, ht, h⟩ := Option.map_eq_some_iff.mp h
        exact lv_icmp_ge hx hb hdg (aTgt_eq ht) (fun hc => by rw [if_pos hc] at h; cases h; exact k) (fun hc => by rw [if_neg hc] at h; cases h; exact k)
      · cases h
    · simp only [aBr] at h
      split at h
      · obtain ⟨t, ht, h⟩ := Option.map_eq_some_iff.mp h
        exact lv_icmp_gt hx hb hdg (aTgt_eq ht) (fun hc => by rw [if_pos hc] at h; cases h; exact k) (fun hc => by rw [if_neg hc] at h; cases h; exact k)
      · cases h
    · simp only [aBr] at h
      split at h
      · obtain ⟨t, ht, h⟩ := Option.map_eq_some_iff.mp h
        exact lv_icmp_le hx hb hdg (aTgt_eq ht) (fun hc => by rw [if_pos hc] at h; cases h; exact k) (fun hc => by rw [if_neg hc] at h; cases h; exact k)
      · cases h
  | ifnull o =>
    have hn : n = 3 := by rcases hn with h1 | ⟨_, _, h1⟩ | ⟨_, _, _, _, h1⟩ <;> first | exact h1 | cases h1
    subst hn
    simp only [aBr] at h
    split at h
    · obtain ⟨h1, rfl⟩ := hmap h
      exact lv_ifnullN hx hb hdg h1 k
    · cases h
      exact lv_ifnull hx hb hdg k
    · cases h
  | ifnonnull o =>
    have hn : n = 3 := by rcases hn with h1 | ⟨_, _, h1⟩ | ⟨_, _, _, _, h1⟩ <;> first | exact h1 | cases h1
    subst hn
    simp only [aBr] at h
    split at h
    · obtain ⟨h1, rfl⟩ := hmap h
      exact lv_ifnonnull hx hb hdg h1 k
    · cases h
      exact lv_ifnonnullN hx hb hdg k
    · cases h
  | tableswitch d lo hi offs =>
    simp only [aBr] at h
    split at h
    · split at h
      · rename_i hc
        obtain ⟨h1, rfl⟩ := hmap h
        exact lv_tableOut hx hb hdg hc h1 k
      · rename_i x r hc
        have hc1 : ¬ x.toInt < lo := fun q => hc (Or.inl q)
        have hc2 : ¬ hi < x.toInt := fun q => hc (Or.inr q)
        cases ho : offs[(x.toInt - lo).toNat]? with
        | none => rw [ho] at h; cases h
        | some o =>
          rw [ho] at h
          obtain ⟨h1, rfl⟩ := hmap h
          exact lv_tableIn hx hb hdg hc1 hc2 ho h1 k
    · cases h
  | lookupswitch d ps =>
    simp only [aBr] at h
    split at h
    · split at h
      · rename_i hc
        obtain ⟨h1, rfl⟩ := hmap h
        exact lv_lookup hx hb hdg hc rfl h1 k
      · cases h
    · cases h
  | _ => simp [aBr] at h
set_option maxHeartbeats 4000000 in
theorem aLoc_ok (hu : ∀ i, (unk i).category = 1) (hx : p.tables.exec = Jvm.exec) (hb : c.code = cc) {I : Instr} {nl : Nat} {lc lc' : aLc} {st st' : List Value} (h : aLoc nl I lc st = some (lc', st')) (hdg : decode cc pc = .ok (I, aLen I)) (hl : lv_has ls nl (aLs ad unk lc))
    (k : ∀ ls' : Array Slot, lv_has ls' nl (aLs ad unk lc') → W p l e R s m args below meth c H locs cells slots Q (F0 m (pc + aLen I) ls' (aVs ad unk st'))) : W p l e R s m args below meth c H locs cells slots Q (F0 m pc ls (aVs ad unk st)) := by
  have f1 := fun (i : Nat) (v : Value) => aLs_f1 (ad := ad) (unk := unk) hu lc i v
  have f2 := fun (i : Nat) (v : Value) => aLs_f2 (ad := ad) (unk := unk) hu lc i v
  cases I with
  | iload_n i =>
    simp only [aLoc, aLdI] at h
    split at h
    · rename_i hg
      cases h
      exact lv_iload_n hx hb hdg rfl (aLs_at hl hg) (k ls hl)
    · cases h
  | istore_n i =>
    simp only [aLoc, aStI] at h
    split at h
    · split at h
      · rename_i hg
        cases h
        exact lv_istore_n hx hb hdg rfl hl hg (f1 _ (.int _)) k
      · cases h
    · cases h
  | iload i =>
    simp only [aLoc, aLdI] at h
    split at h
    · rename_i hg
      cases h
      exact lv_iload hx hb hdg (aLs_at hl hg) (k ls hl)
    · cases h
  | istore i =>
    simp only [aLoc, aStI] at h
    split at h
    · split at h
      · rename_i hg
        cases h
        exact lv_istore hx hb hdg hl hg (f1 _ (.int _)) k
      · cases h
    · cases h
  | lload_n i =>
    simp only [aLoc, aLdL] at h
    split at h
    · rename_i hg
      cases h
      exact lv_lload_n hx hb hdg rfl (aLs_at hl hg) (k ls hl)
    · cases h
  | lstore_n i =>
    simp only [aLoc, aStL] at h
    split at h
    · split at h
      · rename_i hg
        cases h
        exact lv_lstore_n hx hb hdg rfl hl hg (f2 _ (.long _)) k
      · cases h
    · cases h
  | lload i =>
    simp only [aLoc, aLdL] at h
    split at h
    · rename_i hg
      cases h
      exact lv_lload hx hb hdg (aLs_at hl hg) (k ls hl)
    · cases h
  | lstore i =>
    simp only [aLoc, aStL] at h
    split at h
    · split at h
      · rename_i hg
        cases h
        exact lv_lstore hx hb hdg hl hg (f2 _ (.long _)) k
      · cases h
    · cases h
  | fload_n i =>
    simp only [aLoc, aLdF] at h
    split at h
    · rename_i hg
      cases h
      exact lv_fload_n hx hb hdg rfl (aLs_at hl hg) (k ls hl)
    · cases h
  | fstore_n i =>
    simp only [aLoc, aStF] at h
    split at h
    · split at h
      · rename_i hg
        cases h
        exact lv_fstore_n hx hb hdg rfl hl hg (f1 _ (.float _)) k
      · cases h
    · cases h
  | fload i =>
    simp only [aLoc, aLdF] at h
    split at h
    · rename_i hg
      cases h
      exact lv_fload hx hb hdg (aLs_at hl hg) (k ls hl)
    · cases h
  | fstore i =>
    simp only [aLoc, aStF] at h
    split at h
    · split at h
      · rename_i hg
        cases h
        exact lv_fstore hx hb hdg hl hg (f1 _ (.float _)) k
      · cases h
    · cases h
  | dload_n i =>
    simp only [aLoc, aLdD] at h
    split at h
    · rename_i hg
      cases h
      exact lv_dload_n hx hb hdg rfl (aLs_at hl hg) (k ls hl)
    · cases h
  | dstore_n i =>
    simp only [aLoc, aStD] at h
    split at h
    · split at h
      · rename_i hg
        cases h
        exact lv_dstore_n hx hb hdg rfl hl hg (f2 _ (.double _)) k
      · cases h
    · cases h
  | dload i =>
    simp only [aLoc, aLdD] at h
    split at h
    · rename_i hg
      cases h
      exact lv_dload hx hb hdg (aLs_at hl hg) (k ls hl)
    · cases h
  | dstore i =>
    simp only [aLoc, aStD] at h
    split at h
    · split at h
      · rename_i hg
        cases h
        exact lv_dstore hx hb hdg hl hg (f2 _ (.double _)) k
      · cases h
    · cases h
  | aload_n i =>
    simp only [aLoc, aLdA] at h
    split at h
    · rename_i hg
      cases h
      exact lv_aload_n hx hb hdg rfl (aLs_at hl hg) (k ls hl)
    · rename_i hg
      cases h
      exact lv_aload_nN hx hb hdg rfl (aLs_at hl hg) (k ls hl)
    · cases h
  | astore_n i =>
    simp only [aLoc, aStA] at h
    split at h
    · split at h
      · rename_i hg
        cases h
        exact lv_astore_n hx hb hdg rfl hl hg (f1 _ (.ref _)) k
      · cases h
    · split at h
      · rename_i hg
        cases h
        exact lv_astore_nN hx hb hdg rfl hl hg (f1 _ .null) k
      · cases h
    · cases h
  | aload i =>
    simp only [aLoc, aLdA] at h
    split at h
    · rename_i hg
      cases h
      exact lv_aload hx hb hdg (aLs_at hl hg) (k ls hl)
    · rename_i hg
      cases h
      exact lv_aloadN hx hb hdg (aLs_at hl hg) (k ls hl)
    · cases h
  | astore i =>
    simp only [aLoc, aStA] at h
    split at h
    · split at h
      · rename_i hg
        cases h
        exact lv_astore hx hb hdg hl hg (f1 _ (.ref _)) k
      · cases h
    · split at h
      · rename_i hg
        cases h
        exact lv_astoreN hx hb hdg hl hg (f1 _ .null) k
      · cases h
    · cases h
  | iinc i n =>
    simp only [aLoc] at h
    split at h
    · split at h
      · rename_i x hg hi
        cases h
        obtain ⟨k0, hk0⟩ := List.getElem?_of_mem (List.mem_map.mpr ⟨_, aGet_at hg, rfl⟩ : (i, aV ad unk (.int x)) ∈ aLs ad unk lc)
        exact lv_iinc hx hb hdg hl hk0 rfl hi (f1 _ (.int _)) k
      · cases h
    · cases h
  | _ => simp [aLoc] at h
end AROWS