/-! the String of the law's letters: what is known of it, and String.indexOf by contract -/
noncomputable def sx_X (q v : Nat) (A : Nat → Prop) (U : State) (H : Heap) : Prop := va_O "java/lang/String" q A U H ∧ va_OF "java/lang/String" "coder" "B" (.int 0) q A U H ∧ va_OF "java/lang/String" "value" "[B" (.ref v) q A U H ∧ va_T .byte v 8 (fun j => .int (sx_b.getD j 0)) A U H ∧ va_Z "java/lang/String" "COMPACT_STRINGS" "Z" (.int 1) A U H
theorem sx_X.up {q v : Nat} {A B : Nat → Prop} {s U : State} {H : Heap} (hvm : s.vm.Alike U.vm) (hq : ∀ a : Nat, a < s.heap.size → ¬ A a → H[a]? = s.heap[a]?) (hAB : ∀ q, B q → A q) (h : sx_X q v A s s.heap) : sx_X q v B U H :=
  ⟨((va_O.moved hvm h.1).kept hq).narrow hAB, ((va_OF.moved hvm h.2.1).kept hq).narrow hAB, ((va_OF.moved hvm h.2.2.1).kept hq).narrow hAB, ((va_T.moved hvm h.2.2.2.1).kept hq).narrow hAB, ((va_Z.moved hvm h.2.2.2.2).kept hq).narrow hAB⟩
noncomputable def sx_A (sz : Nat) : Nat → Prop := fun q => sz ≤ q
noncomputable def sx_P (av : List Value) (q v sz : Nat) : Array Value → State → Prop := va_Pc av (fun U => U.heap.size = sz ∧ sx_X q v (sx_A sz) U U.heap)
noncomputable def sx_Q (r : Int32) (sz : Nat) : Array Value → State → Outcome → State → Prop := va_Qi (fun r' (_ : Unit) => r' = r) (fun _ _ => True) (sx_A sz)
noncomputable def sx_ws (y : MethodName) (cc : ByteArray) (maxL : Nat) (ret : FieldType) : List Jvm.Cond := .code y cc maxL (some ret) :: sm_W
noncomputable def sx_rm (f n : Nat) : Room := { frames := f, cells := 0, slots := 0, locals := n }
theorem sx_blind {av : List Value} {q v sz : Nat} : FrameBlind (sx_P av q v sz) := fun a U g mk h => by
  obtain ⟨h0, h1, hX⟩ := h
  exact ⟨h0, h1, sx_X.up (s := U) (U := U.calling g mk a) (Vm.Alike.refl U.vm) (fun _ _ _ => rfl) (fun _ z => z) hX⟩
theorem sx_good {y : MethodName} {cc : ByteArray} {maxL : Nat} {ret : FieldType} (h : Jvm.Cond.code y cc maxL (some ret) ∈ lw_tbl) : GoodIn sm_W (sx_ws y cc maxL ret) := fun w hw => by
  rcases List.mem_cons.mp hw with rfl | hw
  · exact ⟨sm_inW h rfl, sm_W_good _ (sm_inW h rfl)⟩
  · exact ⟨hw, sm_W_good _ hw⟩
/-- where a method stands that calls into the String -/
noncomputable def sx_Bd (p : Program) (s : State) (m : MethodId) (args : Array Value) (c : Code) (own : String) (cc : ByteArray) (maxL : Nat) (A : Nat → Prop) (q v : Nat) : Prop := CallFix p m c cc maxL s args sm_W own ∧ (∀ a : Nat, s.heap.size ≤ a → A a) ∧ sx_X q v A s s.heap
theorem sx_met {l : Launch} {y : MethodName} {cc : ByteArray} {maxL : Nat} {ret : FieldType} {f n : Nat} {av : List Value} {q v sz : Nat} {r : Int32} (hy : plainFor y = true) (hlen : (lg_sl av).length ≤ maxL)
    (body : ∀ (p : Program) (e : Env) (s : State) (m : MethodId) (below : List Frame) (meth : Method) (c : Code) (ls : Array Slot), sx_Bd p s m av.toArray c y.cls cc maxL (sx_A s.heap.size) q v → meth.sig.returnType = some ret → meth.locks = false → lv_has ls maxL (lv_args 0 av) → W p l e (sx_rm f n) s m av.toArray below meth c s.heap [] 0 0 (MQ below (sx_Q r s.heap.size) av.toArray s 0 0 (sx_A s.heap.size)) (F0 m 0 ls [])) :
    Met l y (sx_ws y cc maxL ret) (sx_rm f n) (sx_P av q v sz) (sx_Q r sz) 0 0 (sx_A sz) := by
  refine va_MetF (cc := cc) (maxL := maxL) (ret := some ret) hy rfl ?_
  intro p e s m args below meth c s₁ B hml hv
  obtain ⟨rfl, hsz, hX⟩ := hv
  subst hsz
  have hts0 := atoms_spec (ws := sx_ws y cc maxL ret) B.pre
  have hl := lv_entry av (n := maxL) hlen
  rw [lg_entry_eq]
  exact body p e s m below meth c _ ⟨⟨B.exec, B.bytes, hml, findClass_of_methodNamed B.named, fun w hw => hts0 w (List.mem_cons_of_mem _ hw)⟩, fun _ z => z, hX⟩ B.returns B.notSynchronized hl
section SX
variable {p : Program} {l : Launch} {e : Env} {R : Room} {s : State} {m : MethodId} {args : Array Value} {below : List Frame} {meth : Method} {c : Code} {H : Heap} {locs : List Loc} {cells slots : Nat} {Q : State → Prop} {own : String} {cc : ByteArray} {maxL : Nat} {A : Nat → Prop} {q v pc : Nat} {ls : Array Slot} {rest : List Value}
theorem sx_pre (X : sx_Bd p s m args c own cc maxL A q v) (hS : va_S A s.heap H locs) {As : List Value} (U : State) (hU : U.heap = H) (hW : s.WarmedH U.vm) : sx_P As q v H.size As.toArray U := ⟨rfl, by rw [hU], by rw [hU]; exact X.2.2.up hW.alike hS.2.1 (fun a z => X.2.1 a (Nat.le_trans hS.1 z))⟩
theorem sx_callS (X : sx_Bd p s m args c own cc maxL A q v) {y : MethodName} {cc' : ByteArray} {maxL' : Nat} {ret' : FieldType} {n idx f k : Nat} {As : List Value} {r : Int32} (hM : Met l y (sx_ws y cc' maxL' ret') (sx_rm f k) (sx_P As q v H.size) (sx_Q r H.size) 0 0 (sx_A H.size)) (hc : Jvm.Cond.code y cc' maxL' (some ret') ∈ lw_tbl) (hi : Jvm.Cond.initialized y.cls ∈ lw_tbl) (hst : Jvm.Cond.static y ∈ lw_tbl) (hl : Jvm.Cond.methodLink own idx y ∈ lw_tbl)
    (hd : y.cls ≠ "java/lang/invoke/MethodHandle" ∧ y.cls ≠ "java/lang/invoke/VarHandle" ∧ (parseMethodDescriptor y.desc).map (fun d => d.parameters.length) = some n) (hn : As.length = n) (hR : f + 1 ≤ R.frames ∧ 8 + (maxL' + 11) + k ≤ R.locals) (hC : cells ≤ R.cells ∧ slots ≤ R.slots) (hsz : ls.size = maxL) (hw : (rest.map fun v => v.category).sum ≤ 8) (hS : va_S A s.heap H locs) (hdg : decode cc pc = .ok (.invokestatic idx, 3))
    {st : List Value} (hst2 : st = As.reverse ++ rest) (kk : ∀ (H' : Heap) (locs' : List Loc), H.size ≤ H'.size → (∀ a : Nat, a < H.size → H'[a]? = H[a]?) → va_S A s.heap H' locs' → W p l e R s m args below meth c H' locs' cells slots Q (F0 m (pc + 3) ls (.int r :: rest))) : W p l e R s m args below meth c H locs cells slots Q (F0 m pc ls st) := by
  subst hst2
  refine va_calli (H0 := s.heap) (A0 := A) (va_runS (g := F0 m pc ls (As.reverse ++ rest)) (As := As) X.1 hM ⟨callB_of n X.1.2.2.2.2 (sx_good hc) rfl rfl rfl (X.1.2.2.2.2 _ (sm_inW hi rfl)) (X.1.2.2.2.2 _ (sm_inW hl rfl)) hd hR, X.1.2.2.2.2 _ (sm_inW hst rfl)⟩ ⟨sx_blind, fun U hU hW => sx_pre X hS U hU hW⟩ rfl hn hsz rfl (lv_room hw) hdg hC) hS (fun a h1 h2 => absurd h2 (Nat.not_le.mpr h1)) (fun a z => X.2.1 a (Nat.le_trans hS.1 z)) (fun r' u t H1 locs1 _ _ hp _ h1 h2 hS1 => ?_)
  subst hp
  exact kk H1 locs1 h1 (fun a ha => h2 a ha (Nat.not_le.mpr ha)) hS1
theorem sx_callV (X : sx_Bd p s m args c own cc maxL A q v) {y : MethodName} {cc' : ByteArray} {maxL' : Nat} {ret' : FieldType} {n idx f k : Nat} {As : List Value} {r : Int32} (hM : Met l y (sx_ws y cc' maxL' ret') (sx_rm f k) (sx_P (.ref q :: As) q v H.size) (sx_Q r H.size) 0 0 (sx_A H.size)) (hc : Jvm.Cond.code y cc' maxL' (some ret') ∈ lw_tbl) (hi : Jvm.Cond.initialized y.cls ∈ lw_tbl) (hst : Jvm.Cond.instanceMethod y ∈ lw_tbl) (hse : Jvm.Cond.selects "java/lang/String" y y ∈ lw_tbl) (hl : Jvm.Cond.methodLink own idx y ∈ lw_tbl)
    (hd : y.cls ≠ "java/lang/invoke/MethodHandle" ∧ y.cls ≠ "java/lang/invoke/VarHandle" ∧ (parseMethodDescriptor y.desc).map (fun d => d.parameters.length) = some n) (hn : As.length = n) (hR : f + 1 ≤ R.frames ∧ 8 + (maxL' + 11) + k ≤ R.locals) (hC : cells ≤ R.cells ∧ slots ≤ R.slots) (hsz : ls.size = maxL) (hw : (rest.map fun v => v.category).sum ≤ 8) (hS : va_S A s.heap H locs) (hdg : decode cc pc = .ok (.invokevirtual idx, 3))
    {st : List Value} (hst2 : st = As.reverse ++ .ref q :: rest) (kk : ∀ (H' : Heap) (locs' : List Loc), H.size ≤ H'.size → (∀ a : Nat, a < H.size → H'[a]? = H[a]?) → va_S A s.heap H' locs' → W p l e R s m args below meth c H' locs' cells slots Q (F0 m (pc + 3) ls (.int r :: rest))) : W p l e R s m args below meth c H locs cells slots Q (F0 m pc ls st) := by
  subst hst2
  have hrc : ∃ cell : Cell, H[q]? = some cell ∧ cell.vm.isStatics = false ∧ s.vm.findClass "java/lang/String" = some cell.cls := by
    obtain ⟨cell, h1, h2, h3, -⟩ := X.2.2.1.kept hS.2.1
    exact ⟨cell, h1, h2, h3⟩
  refine va_calli (H0 := s.heap) (A0 := A) (va_runV (g := F0 m pc ls (As.reverse ++ .ref q :: rest)) (C := "java/lang/String") (b := q) (As := As) X.1 hM ⟨callB_of n X.1.2.2.2.2 (sx_good hc) rfl rfl rfl (X.1.2.2.2.2 _ (sm_inW hi rfl)) (X.1.2.2.2.2 _ (sm_inW hl rfl)) hd hR, X.1.2.2.2.2 _ (sm_inW hst rfl), X.1.2.2.2.2 _ (sm_inW hse rfl)⟩ ⟨sx_blind, hrc, fun U hU hW => sx_pre X hS U hU hW⟩ rfl hn hsz rfl (lv_room hw) hdg hC) hS (fun a h1 h2 => absurd h2 (Nat.not_le.mpr h1)) (fun a z => X.2.1 a (Nat.le_trans hS.1 z)) (fun r' u t H1 locs1 _ _ hp _ h1 h2 hS1 => ?_)
  subst hp
  exact kk H1 locs1 h1 (fun a ha => h2 a ha (Nat.not_le.mpr ha)) hS1
theorem sx_ret {ty : FieldType} {r : Int32} (hx : p.tables.exec = Jvm.exec) (hb : c.code = cc) (hr : meth.sig.returnType = some ty) (hlk : meth.locks = false) (hn : narrow ty (.int r) = .int r) (hS : va_S (sx_A s.heap.size) s.heap H locs) (hdg : decode cc pc = .ok (.ireturn, 1)) : W p l e R s m args below meth c H locs 0 0 (MQ below (sx_Q r s.heap.size) args s 0 0 (sx_A s.heap.size)) (F0 m pc ls [.int r]) :=
  W.zret hx hb hr hn (fun t ht hW => ⟨⟨r, (), rfl, rfl, trivial⟩, hS.F ht⟩) hS.2.2 hdg hlk
end SX
theorem sx_pf0 : (NativeRow.find? Jvm.natives "java/lang/String" "indexOf" "(I)I").isNone = true := by decide +kernel
theorem sx_pf1 : (NativeRow.find? Jvm.natives "java/lang/String" "indexOf" "(II)I").isNone = true := by decide +kernel
theorem sx_pf2 : (NativeRow.find? Jvm.natives "java/lang/String" "isLatin1" "()Z").isNone = true := by decide +kernel
theorem sx_pf3 : (NativeRow.find? Jvm.natives "java/lang/String" "length" "()I").isNone = true := by decide +kernel
theorem sx_pf4 : (NativeRow.find? Jvm.natives "java/lang/String" "coder" "()B").isNone = true := by decide +kernel
theorem sx_pf5 : (NativeRow.find? Jvm.natives "java/lang/StringLatin1" "indexOf" "([BIII)I").isNone = true := by decide +kernel
theorem sx_pf6 : (NativeRow.find? Jvm.natives "java/lang/StringLatin1" "canEncode" "(I)Z").isNone = true := by decide +kernel
theorem sx_pf7 : (NativeRow.find? Jvm.natives "java/lang/StringLatin1" "indexOfChar" "([BIII)I").isNone = true := by decide +kernel
theorem sx_pl {y : MethodName} (h : (NativeRow.find? Jvm.natives y.cls y.name y.desc).isNone = true) : plainFor y = true := by unfold plainFor; rw [Bool.or_eq_true]; exact Or.inr h
theorem sx_nS : "java/lang/String" ≠ "java/lang/invoke/MethodHandle" ∧ "java/lang/String" ≠ "java/lang/invoke/VarHandle" := by decide +kernel
theorem sx_nL : "java/lang/StringLatin1" ≠ "java/lang/invoke/MethodHandle" ∧ "java/lang/StringLatin1" ≠ "java/lang/invoke/VarHandle" := by decide +kernel
theorem sx_a0 : (parseMethodDescriptor "(I)I").map (fun d => d.parameters.length) = some 1 := by decide +kernel
theorem sx_a1 : (parseMethodDescriptor "(II)I").map (fun d => d.parameters.length) = some 2 := by decide +kernel
theorem sx_a2 : (parseMethodDescriptor "()Z").map (fun d => d.parameters.length) = some 0 := by decide +kernel
theorem sx_a3 : (parseMethodDescriptor "()I").map (fun d => d.parameters.length) = some 0 := by decide +kernel
theorem sx_a4 : (parseMethodDescriptor "()B").map (fun d => d.parameters.length) = some 0 := by decide +kernel
theorem sx_a5 : (parseMethodDescriptor "([BIII)I").map (fun d => d.parameters.length) = some 4 := by decide +kernel
theorem sx_a6 : (parseMethodDescriptor "(I)Z").map (fun d => d.parameters.length) = some 1 := by decide +kernel
theorem sx_nz0 : narrow .boolean (.int 0) = .int 0 := by decide +kernel
theorem sx_nz1 : narrow .boolean (.int 1) = .int 1 := by decide +kernel
theorem sx_nb0 : narrow .byte (.int 0) = .int 0 := by decide +kernel
/-- canEncode -/
theorem sx_c_can (l : Launch) (q v sz : Nat) (c0 : Int32) : Met l sx_m6 (sx_ws sx_m6 sx_c6 1 .boolean) (sx_rm 0 0) (sx_P [.int c0] q v sz) (sx_Q (if c0 < 0 then 0 else if 255 < c0 then 0 else 1) sz) 0 0 (sx_A sz) := by
  refine sx_met (sx_pl sx_pf6) (Nat.le_of_ble_eq_true rfl) (fun p e s m below meth c ls X hr hlk hl => ?_)
  have hx := X.1.1
  have hb := X.1.2.1
  have hl : lv_has ls 1 [(0, .int c0)] := hl
  have hS : va_S (sx_A s.heap.size) s.heap s.heap [] := va_S.rf
  refine lv_iload_n hx hb sx_d6_0 rfl (lv_at hl 0 rfl) ?_
  refine lv_if_lt (tgt := 15) hx hb sx_d6_1 (by decide) (fun h => ?_) (fun h => ?_)
  · rw [if_pos h]
    exact lv_iconst (v := 0) hx hb sx_d6_15 (by decide) (sx_ret hx hb hr hlk sx_nz0 hS sx_d6_16)
  · rw [if_neg h]
    refine lv_iload_n hx hb sx_d6_4 rfl (lv_at hl 0 rfl) ?_
    refine lv_sipush (v := 255) hx hb sx_d6_5 (by decide) ?_
    refine lv_icmp_gt (tgt := 15) hx hb sx_d6_8 (by decide) (fun h => ?_) (fun h => ?_)
    · rw [if_pos h]
      exact lv_iconst (v := 0) hx hb sx_d6_15 (by decide) (sx_ret hx hb hr hlk sx_nz0 hS sx_d6_16)
    · rw [if_neg h]
      refine lv_iconst (v := 1) hx hb sx_d6_11 (by decide) ?_
      exact lv_goto (tgt := 16) hx hb sx_d6_12 (by decide) (sx_ret hx hb hr hlk sx_nz1 hS sx_d6_16)
theorem sx_byte : ∀ n : Nat, n < 256 → ∀ k : Nat, k < 8 → ((nI n).toInt8.toInt32 = sx_b.getD k 0 ↔ nI n = sx_b.getD k 0) := by decide +kernel
theorem sx_drop : ∀ k : Nat, k < 8 → sx_b.drop k = sx_b.getD k 0 :: sx_b.drop (k + 1) := by decide +kernel
/-- indexOfChar, from 0 to 8 -/
theorem sx_c_ioc (l : Launch) (q v sz n : Nat) (hn : n < 256) : Met l sx_m7 (sx_ws sx_m7 sx_c7 6 .int) (sx_rm 0 0) (sx_P [.ref v, .int (nI n), .int 0, .int 8] q v sz) (sx_Q (sx_ixF (nI n) sx_b 0) sz) 0 0 (sx_A sz) := by
  refine sx_met (sx_pl sx_pf7) (Nat.le_of_ble_eq_true rfl) (fun p e s m below meth c ls X hr hlk hl => ?_)
  have hx := X.1.1
  have hb := X.1.2.1
  have hl : lv_has ls 6 [(0, .ref v), (1, .int (nI n)), (2, .int 0), (3, .int 8)] := hl
  have hS : va_S (sx_A s.heap.size) s.heap s.heap [] := va_S.rf
  refine lv_iload_n hx hb sx_d7_0 rfl (lv_at hl 1 rfl) ?_
  refine lv_i2b (v := (nI n).toInt8.toInt32) hx hb sx_d7_1 rfl ?_
  refine lv_istore (lv' := [(4, .int (nI n).toInt8.toInt32), (0, .ref v), (1, .int (nI n)), (2, .int 0), (3, .int 8)]) hx hb sx_d7_2 hl (by decide) rfl (fun ls hl => ?_)
  refine lv_iload_n hx hb sx_d7_4 rfl (lv_at hl 3 rfl) ?_
  refine lv_istore (lv' := [(5, .int (nI 0)), (4, .int (nI n).toInt8.toInt32), (0, .ref v), (1, .int (nI n)), (2, .int 0), (3, .int 8)]) hx hb sx_d7_5 hl (by decide) rfl (fun ls hl => ?_)
  have loop : ∀ (j k : Nat) (ls : Array Slot), k + j = 8 → lv_has ls 6 [(5, .int (nI k)), (4, .int (nI n).toInt8.toInt32), (0, .ref v), (1, .int (nI n)), (2, .int 0), (3, .int 8)] → W p l e (sx_rm 0 0) s m [Value.ref v, .int (nI n), .int 0, .int 8].toArray below meth c s.heap [] 0 0 (MQ below (sx_Q (sx_ixF (nI n) (sx_b.drop k) k) s.heap.size) [Value.ref v, .int (nI n), .int 0, .int 8].toArray s 0 0 (sx_A s.heap.size)) (F0 m 7 ls []) := by
    intro j
    induction j with
    | zero =>
      intro k ls hk hl
      obtain rfl : k = 8 := by omega
      refine lv_iload hx hb sx_d7_7 (lv_at hl 0 rfl) ?_
      refine lv_iload_n hx hb sx_d7_9 rfl (lv_at hl 5 rfl) ?_
      refine lv_icmp_ge (tgt := 31) hx hb sx_d7_10 (by decide) (fun _ => ?_) (fun h => absurd (by decide) h)
      exact lv_iconst (v := -1) hx hb sx_d7_31 (by decide) (sx_ret hx hb hr hlk rfl hS sx_d7_32)
    | succ j ih =>
      intro k ls hk hl
      have hk8 : k < 8 := by omega
      refine lv_iload hx hb sx_d7_7 (lv_at hl 0 rfl) ?_
      refine lv_iload_n hx hb sx_d7_9 rfl (lv_at hl 5 rfl) ?_
      have hlt : ¬ (8 : Int32) ≤ nI k := by
        have : ∀ k : Nat, k < 8 → ¬ (8 : Int32) ≤ nI k := by decide
        exact this k hk8
      refine lv_icmp_ge (tgt := 31) hx hb sx_d7_10 (by decide) (fun h => absurd h hlt) (fun _ => ?_)
      refine lv_aload_n hx hb sx_d7_13 rfl (lv_at hl 2 rfl) ?_
      refine lv_iload hx hb sx_d7_14 (lv_at hl 0 rfl) ?_
      refine va_tb (v := .int (sx_b.getD k 0)) hx hb X.2.2.2.2.2.1 hS (vp_in_nI hk8 (by omega)) (by rw [nI_clamp (by omega)]) sx_d7_16 ?_
      refine lv_iload hx hb sx_d7_17 (lv_at hl 1 rfl) ?_
      have e1 := sx_drop k hk8
      refine lv_icmp_ne (tgt := 25) hx hb sx_d7_19 (by decide) (fun h => ?_) (fun h => ?_)
      · have h2 : ¬ sx_b.getD k 0 = nI n := fun z => h ((sx_byte n hn k hk8).mpr z.symm).symm
        rw [e1, sx_ixF, if_neg h2]
        refine lv_iinc (k := 0) (v := nI (k + 1)) (lv' := [(5, .int (nI (k + 1))), (4, .int (nI n).toInt8.toInt32), (0, .ref v), (1, .int (nI n)), (2, .int 0), (3, .int 8)]) hx hb sx_d7_25 hl rfl ?_ (by decide) rfl (fun ls hl => ?_)
        · rw [show Int32.ofInt 1 = nI 1 by decide, nI_add]
        · exact lv_goto (tgt := 7) hx hb sx_d7_28 (by decide) (ih (k + 1) ls (by omega) hl)
      · have h2 : sx_b.getD k 0 = nI n := ((sx_byte n hn k hk8).mp h.symm).symm
        rw [e1, sx_ixF, if_pos h2]
        refine lv_iload hx hb sx_d7_22 (lv_at hl 0 rfl) ?_
        exact sx_ret hx hb hr hlk rfl hS sx_d7_24
  exact loop 8 0 ls rfl hl
theorem sx_ixF_out {c : Int32} : ∀ (l : List Int32) (k : Nat), (∀ b ∈ l, ¬ b = c) → sx_ixF c l k = -1 := by
  intro l
  induction l with
  | nil => intro k _; rfl
  | cons b l ih => intro k h; rw [sx_ixF, if_neg (h b List.mem_cons_self)]; exact ih (k + 1) (fun x hx => h x (List.mem_cons_of_mem _ hx))
theorem sx_nle {n : Nat} (h : n < 65536) : ¬ nI n < 0 := by
  rw [Int32.lt_iff_toInt_lt, nI_toInt (by omega)]
  show ¬ (n : Int) < 0
  omega
theorem sx_255 {n : Nat} (h : n < 65536) : 255 < nI n ↔ 255 < n := by
  rw [Int32.lt_iff_toInt_lt, nI_toInt (by omega)]
  show (255 : Int) < (n : Int) ↔ _
  omega
theorem sx_far {n : Nat} (h : n < 65536) (h2 : 255 < n) : sx_ixF (nI n) sx_b 0 = -1 := sx_ixF_out _ _ (fun b hb z => by
  have h3 : b.toInt ≤ 255 := by
    have : ∀ b ∈ sx_b, b.toInt ≤ 255 := by decide
    exact this b hb
  rw [z, nI_toInt (by omega)] at h3
  omega)
/-- StringLatin1.indexOf, from 0 to 8 -/
theorem sx_c_lat (l : Launch) (q v sz n : Nat) (hn : n < 65536) : Met l sx_m5 (sx_ws sx_m5 sx_c5 4 .int) (sx_rm 1 64) (sx_P [.ref v, .int (nI n), .int 0, .int 8] q v sz) (sx_Q (sx_ixF (nI n) sx_b 0) sz) 0 0 (sx_A sz) := by
  refine sx_met (sx_pl sx_pf5) (Nat.le_of_ble_eq_true rfl) (fun p e s m below meth c ls X hr hlk hl => ?_)
  have hx := X.1.1
  have hb := X.1.2.1
  have hl : lv_has ls 4 [(0, .ref v), (1, .int (nI n)), (2, .int 0), (3, .int 8)] := hl
  have hS : va_S (sx_A s.heap.size) s.heap s.heap [] := va_S.rf
  refine lv_iload_n hx hb sx_d5_0 rfl (lv_at hl 1 rfl) ?_
  refine sx_callS X (As := [.int (nI n)]) (rest := []) (sx_c_can l q v s.heap.size (nI n)) sx_wc6 sx_inL sx_wi6 sx_wl6 ⟨sx_nL.1, sx_nL.2, sx_a6⟩ rfl ⟨by decide, by decide⟩ ⟨by decide, by decide⟩ hl.1 (by decide) hS sx_d5_1 rfl (fun H locs _ _ hS => ?_)
  rw [if_neg (sx_nle hn)]
  by_cases h255 : 255 < n
  · rw [if_pos ((sx_255 hn).mpr h255), sx_far hn h255]
    refine lv_if_ne (tgt := 9) hx hb sx_d5_4 (by decide) (fun h => absurd rfl h) (fun _ => ?_)
    exact lv_iconst (v := -1) hx hb sx_d5_7 (by decide) (sx_ret hx hb hr hlk rfl hS sx_d5_8)
  · rw [if_neg (fun z => h255 ((sx_255 hn).mp z))]
    refine lv_if_ne (tgt := 9) hx hb sx_d5_4 (by decide) (fun _ => ?_) (fun h => absurd h (by decide))
    refine lv_iload_n hx hb sx_d5_9 rfl (lv_at hl 2 rfl) ?_
    refine lv_iconst (v := 0) hx hb sx_d5_10 (by decide) ?_
    have hts := X.1.2.2.2.2
    refine va_mmax hx hb (by rw [X.1.2.2.1]; exact hl.1.symm) X.1.2.2.2.1 (hts _ (sm_inW sx_wlmax rfl)) (hts _ (sm_inW sx_wimax rfl)) (hts _ (sm_inW sx_inM rfl)) (hts _ (sm_inW sx_wcmax rfl)) (by decide) (by decide) (by decide) (by decide) sx_d5_11 ?_
    refine lv_istore_n (lv' := [(2, .int 0), (0, .ref v), (1, .int (nI n)), (3, .int 8)]) hx hb sx_d5_14 rfl hl (by decide) rfl (fun ls hl => ?_)
    refine lv_iload_n hx hb sx_d5_15 rfl (lv_at hl 3 rfl) ?_
    refine lv_aload_n hx hb sx_d5_16 rfl (lv_at hl 1 rfl) ?_
    refine va_tlen (v := 8) hx hb X.2.2.2.2.2.1 hS (by decide) sx_d5_17 ?_
    refine va_mmin hx hb (by rw [X.1.2.2.1]; exact hl.1.symm) X.1.2.2.2.1 (hts _ (sm_inW sx_wlmin rfl)) (hts _ (sm_inW sx_wimin rfl)) (hts _ (sm_inW sx_inM rfl)) (hts _ (sm_inW sx_wcmin rfl)) (by decide) (by decide) (by decide) (by decide) sx_d5_18 ?_
    refine lv_istore_n (lv' := [(3, .int 8), (2, .int 0), (0, .ref v), (1, .int (nI n))]) hx hb sx_d5_21 rfl hl (by decide) rfl (fun ls hl => ?_)
    refine lv_iload_n hx hb sx_d5_22 rfl (lv_at hl 1 rfl) ?_
    refine lv_iload_n hx hb sx_d5_23 rfl (lv_at hl 0 rfl) ?_
    refine lv_icmp_lt (tgt := 29) hx hb sx_d5_24 (by decide) (fun _ => ?_) (fun h => absurd (by decide) h)
    refine lv_aload_n hx hb sx_d5_29 rfl (lv_at hl 2 rfl) ?_
    refine lv_iload_n hx hb sx_d5_30 rfl (lv_at hl 3 rfl) ?_
    refine lv_iload_n hx hb sx_d5_31 rfl (lv_at hl 1 rfl) ?_
    refine lv_iload_n hx hb sx_d5_32 rfl (lv_at hl 0 rfl) ?_
    refine sx_callS X (As := [.ref v, .int (nI n), .int 0, .int 8]) (rest := []) (sx_c_ioc l q v H.size n (by omega)) sx_wc7 sx_inL sx_wi7 sx_wl7 ⟨sx_nL.1, sx_nL.2, sx_a5⟩ rfl ⟨by decide, by decide⟩ ⟨by decide, by decide⟩ hl.1 (by decide) hS sx_d5_33 rfl (fun H locs _ _ hS => ?_)
    exact sx_ret hx hb hr hlk rfl hS sx_d5_36
/-- isLatin1 -/
theorem sx_c_isl (l : Launch) (q v sz : Nat) : Met l sx_m2 (sx_ws sx_m2 sx_c2 1 .boolean) (sx_rm 0 0) (sx_P [.ref q] q v sz) (sx_Q 1 sz) 0 0 (sx_A sz) := by
  refine sx_met (sx_pl sx_pf2) (Nat.le_of_ble_eq_true rfl) (fun p e s m below meth c ls X hr hlk hl => ?_)
  have hx := X.1.1
  have hb := X.1.2.1
  have hts := X.1.2.2.2.2
  have hl : lv_has ls 1 [(0, .ref q)] := hl
  have hS : va_S (sx_A s.heap.size) s.heap s.heap [] := va_S.rf
  refine va_gets hx hb X.2.2.2.2.2.2 hS X.1.2.2.2.1 (hts _ (sm_inW sx_wf1 rfl)) (fun _ h => h) sx_d2_0 ?_
  refine lv_if_eq (tgt := 17) hx hb sx_d2_3 (by decide) (fun h => absurd h (by decide)) (fun _ => ?_)
  refine lv_aload_n hx hb sx_d2_6 rfl (lv_at hl 0 rfl) ?_
  refine vk_getf hx hb X.2.2.2.1 hS X.1.2.2.2.1 (hts _ (sm_inW sx_wf2 rfl)) (fun _ h => h) sx_d2_7 ?_
  refine lv_if_ne (tgt := 17) hx hb sx_d2_10 (by decide) (fun h => absurd rfl h) (fun _ => ?_)
  refine lv_iconst (v := 1) hx hb sx_d2_13 (by decide) ?_
  exact lv_goto (tgt := 18) hx hb sx_d2_14 (by decide) (sx_ret hx hb hr hlk sx_nz1 hS sx_d2_18)
/-- coder -/
theorem sx_c_cod (l : Launch) (q v sz : Nat) : Met l sx_m4 (sx_ws sx_m4 sx_c4 1 .byte) (sx_rm 0 0) (sx_P [.ref q] q v sz) (sx_Q 0 sz) 0 0 (sx_A sz) := by
  refine sx_met (sx_pl sx_pf4) (Nat.le_of_ble_eq_true rfl) (fun p e s m below meth c ls X hr hlk hl => ?_)
  have hx := X.1.1
  have hb := X.1.2.1
  have hts := X.1.2.2.2.2
  have hl : lv_has ls 1 [(0, .ref q)] := hl
  have hS : va_S (sx_A s.heap.size) s.heap s.heap [] := va_S.rf
  refine va_gets hx hb X.2.2.2.2.2.2 hS X.1.2.2.2.1 (hts _ (sm_inW sx_wf1 rfl)) (fun _ h => h) sx_d4_0 ?_
  refine lv_if_eq (tgt := 13) hx hb sx_d4_3 (by decide) (fun h => absurd h (by decide)) (fun _ => ?_)
  refine lv_aload_n hx hb sx_d4_6 rfl (lv_at hl 0 rfl) ?_
  refine vk_getf hx hb X.2.2.2.1 hS X.1.2.2.2.1 (hts _ (sm_inW sx_wf2 rfl)) (fun _ h => h) sx_d4_7 ?_
  exact lv_goto (tgt := 14) hx hb sx_d4_10 (by decide) (sx_ret hx hb hr hlk sx_nb0 hS sx_d4_14)
/-- length -/
theorem sx_c_len (l : Launch) (q v sz : Nat) : Met l sx_m3 (sx_ws sx_m3 sx_c3 1 .int) (sx_rm 1 64) (sx_P [.ref q] q v sz) (sx_Q 8 sz) 0 0 (sx_A sz) := by
  refine sx_met (sx_pl sx_pf3) (Nat.le_of_ble_eq_true rfl) (fun p e s m below meth c ls X hr hlk hl => ?_)
  have hx := X.1.1
  have hb := X.1.2.1
  have hts := X.1.2.2.2.2
  have hl : lv_has ls 1 [(0, .ref q)] := hl
  have hS : va_S (sx_A s.heap.size) s.heap s.heap [] := va_S.rf
  refine lv_aload_n hx hb sx_d3_0 rfl (lv_at hl 0 rfl) ?_
  refine vk_getf hx hb X.2.2.2.2.1 hS X.1.2.2.2.1 (hts _ (sm_inW sx_wf3 rfl)) (fun _ h => h) sx_d3_1 ?_
  refine va_tlen (v := 8) hx hb X.2.2.2.2.2.1 hS (by decide) sx_d3_4 ?_
  refine lv_aload_n hx hb sx_d3_5 rfl (lv_at hl 0 rfl) ?_
  refine sx_callV X (As := []) (rest := [.int 8]) (sx_c_cod l q v s.heap.size) sx_wc4 sx_inS sx_wi4 sx_ws4 sx_wl4 ⟨sx_nS.1, sx_nS.2, sx_a4⟩ rfl ⟨by decide, by decide⟩ ⟨by decide, by decide⟩ hl.1 (by decide) hS sx_d3_6 rfl (fun H locs _ _ hS => ?_)
  refine lv_ishr hx hb sx_d3_9 ?_
  exact sx_ret hx hb hr hlk rfl hS sx_d3_10
/-- indexOf(c, 0) -/
theorem sx_c_io2 (l : Launch) (q v sz n : Nat) (hn : n < 65536) : Met l sx_m1 (sx_ws sx_m1 sx_c1 3 .int) (sx_rm 2 128) (sx_P [.ref q, .int (nI n), .int 0] q v sz) (sx_Q (sx_ixF (nI n) sx_b 0) sz) 0 0 (sx_A sz) := by
  refine sx_met (sx_pl sx_pf1) (Nat.le_of_ble_eq_true rfl) (fun p e s m below meth c ls X hr hlk hl => ?_)
  have hx := X.1.1
  have hb := X.1.2.1
  have hts := X.1.2.2.2.2
  have hl : lv_has ls 3 [(0, .ref q), (1, .int (nI n)), (2, .int 0)] := hl
  have hS : va_S (sx_A s.heap.size) s.heap s.heap [] := va_S.rf
  refine lv_aload_n hx hb sx_d1_0 rfl (lv_at hl 0 rfl) ?_
  refine sx_callV X (As := []) (rest := []) (sx_c_isl l q v s.heap.size) sx_wc2 sx_inS sx_wi2 sx_ws2 sx_wl2 ⟨sx_nS.1, sx_nS.2, sx_a2⟩ rfl ⟨by decide, by decide⟩ ⟨by decide, by decide⟩ hl.1 (by decide) hS sx_d1_1 rfl (fun H locs _ _ hS => ?_)
  refine lv_if_eq (tgt := 23) hx hb sx_d1_4 (by decide) (fun h => absurd h (by decide)) (fun _ => ?_)
  refine lv_aload_n hx hb sx_d1_7 rfl (lv_at hl 0 rfl) ?_
  refine vk_getf hx hb X.2.2.2.2.1 hS X.1.2.2.2.1 (hts _ (sm_inW sx_wf3 rfl)) (fun _ h => h) sx_d1_8 ?_
  refine lv_iload_n hx hb sx_d1_11 rfl (lv_at hl 1 rfl) ?_
  refine lv_iload_n hx hb sx_d1_12 rfl (lv_at hl 2 rfl) ?_
  refine lv_aload_n hx hb sx_d1_13 rfl (lv_at hl 0 rfl) ?_
  refine sx_callV X (As := []) (rest := [.int 0, .int (nI n), .ref v]) (sx_c_len l q v H.size) sx_wc3 sx_inS sx_wi3 sx_ws3 sx_wl3 ⟨sx_nS.1, sx_nS.2, sx_a3⟩ rfl ⟨by decide, by decide⟩ ⟨by decide, by decide⟩ hl.1 (Nat.le_of_ble_eq_true rfl) hS sx_d1_14 rfl (fun H locs _ _ hS => ?_)
  refine sx_callS X (As := [.ref v, .int (nI n), .int 0, .int 8]) (rest := []) (sx_c_lat l q v H.size n hn) sx_wc5 sx_inL sx_wi5 sx_wl5 ⟨sx_nL.1, sx_nL.2, sx_a5⟩ rfl ⟨by decide, by decide⟩ ⟨by decide, by decide⟩ hl.1 (by decide) hS sx_d1_17 rfl (fun H locs _ _ hS => ?_)
  refine lv_goto (tgt := 36) hx hb sx_d1_20 (by decide) ?_
  exact sx_ret hx hb hr hlk rfl hS sx_d1_36
/-- indexOf(c) -/
theorem sx_c_io1 (l : Launch) (q v sz n : Nat) (hn : n < 65536) : Met l sx_m0 (sx_ws sx_m0 sx_c0 2 .int) (sx_rm 3 192) (sx_P [.ref q, .int (nI n)] q v sz) (sx_Q (sx_ixF (nI n) sx_b 0) sz) 0 0 (sx_A sz) := by
  refine sx_met (sx_pl sx_pf0) (Nat.le_of_ble_eq_true rfl) (fun p e s m below meth c ls X hr hlk hl => ?_)
  have hx := X.1.1
  have hb := X.1.2.1
  have hl : lv_has ls 2 [(0, .ref q), (1, .int (nI n))] := hl
  have hS : va_S (sx_A s.heap.size) s.heap s.heap [] := va_S.rf
  refine lv_aload_n hx hb sx_d0_0 rfl (lv_at hl 0 rfl) ?_
  refine lv_iload_n hx hb sx_d0_1 rfl (lv_at hl 1 rfl) ?_
  refine lv_iconst (v := 0) hx hb sx_d0_2 (by decide) ?_
  refine sx_callV X (As := [.int (nI n), .int 0]) (rest := []) (sx_c_io2 l q v s.heap.size n hn) sx_wc1 sx_inS sx_wi1 sx_ws1 sx_wl1 ⟨sx_nS.1, sx_nS.2, sx_a1⟩ rfl ⟨by decide, by decide⟩ ⟨by decide, by decide⟩ hl.1 (by decide) hS sx_d0_3 rfl (fun H locs _ _ hS => ?_)
  exact sx_ret hx hb hr hlk rfl hS sx_d0_6
theorem sx_u16 (x : Int32) : ∃ n : Nat, n < 65536 ∧ (x.toUInt32 % 65536).toInt32 = nI n := by
  refine ⟨(x.toUInt32 % 65536).toNat, ?_, ?_⟩
  · rw [UInt32.toNat_mod]
    exact Nat.mod_lt _ (by decide)
  · generalize x.toUInt32 % 65536 = u
    show _ = Int32.ofNat _
    rw [← Int32.toBitVec_inj]
    simp
/-- the String's place, its bytes' place, and what is known of both -/
noncomputable def sm_Sx (A : Nat → Prop) (U : State) (H : Heap) : Prop := ∃ q v : Nat, vk_R "TeaCabinet$LawReader" sx_ki "gclabmvt" q U ∧ sx_X q v A U H
theorem sm_Sx_up {A B : Nat → Prop} {s U : State} {H : Heap} (hW : s.WarmedH U.vm) (hq : ∀ a : Nat, a < s.heap.size → ¬ A a → H[a]? = s.heap[a]?) (hAB : ∀ q, B q → A q) (h : sm_Sx A s s.heap) : sm_Sx B U H := by
  obtain ⟨q, v, h1, h2⟩ := h
  exact ⟨q, v, vk_R.warm hW h1, h2.up hW.alike hq hAB⟩
theorem sm_Sx_same {A : Nat → Prop} {s U : State} (hv : U.vm = s.vm) (hh : U.heap = s.heap) (h : sm_Sx A s s.heap) : sm_Sx A U U.heap := by
  obtain ⟨q, v, h1, h2⟩ := h
  exact ⟨q, v, vk_R.same hv h1, h2.up (by rw [hv]; exact Vm.Alike.refl _) (fun a _ _ => by rw [hh]) (fun _ z => z)⟩
