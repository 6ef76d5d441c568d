noncomputable def sm_len (i : Instr) : Nat := match i with
  | .bipush _ => 2 | .newarray _ => 2 | .ldc _ => 2 | .iload _ => 2 | .lload _ => 2 | .aload _ => 2 | .istore _ => 2 | .lstore _ => 2 | .astore _ => 2
  | .sipush _ => 3 | .ldc_w _ => 3 | .ldc2_w _ => 3 | .iinc _ _ => 3 | .ifCond _ _ => 3 | .if_icmp _ _ => 3 | .goto _ => 3 | .getfield _ => 3 | .putfield _ => 3 | .invokestatic _ => 3 | .invokevirtual _ => 3 | .invokespecial _ => 3 | .new _ => 3
  | _ => 1
noncomputable def sm_sw (i : Instr) : Bool := match i with
  | .tableswitch _ _ _ _ => true
  | .lookupswitch _ _ => true
  | _ => false
/-- the links of an instruction are in the tables -/
noncomputable def sm_lk (E : sm_M) (pc : Nat) (i : Instr) (a b : Nat) : Bool := match i with
  | .goto off => decide ((pc : Int) + off = (a : Int))
  | .ifCond _ off => decide ((pc : Int) + off = (a : Int))
  | .if_icmp _ off => decide ((pc : Int) + off = (a : Int))
  | .ireturn => decide ((b = 0 ∧ E.2.2.2.1 = some .int) ∨ (b = 1 ∧ E.2.2.2.1 = some .boolean))
  | .lreturn => decide (E.2.2.2.1 = some .long)
  | .return_ => decide (E.2.2.2.1 = none)
  | .getfield idx => sm_FL.any (fun q => Nat.beq q.1 E.2.2.2.2.1 && Nat.beq q.2.1 idx && Nat.beq q.2.2.1 a && Nat.beq q.2.2.2 b)
  | .putfield idx => sm_FL.any (fun q => Nat.beq q.1 E.2.2.2.2.1 && Nat.beq q.2.1 idx && Nat.beq q.2.2.1 a && Nat.beq q.2.2.2 b) && (match sm_cl[a]? with
      | some r => !(r.2.1 b).2.2.2 || (decide (E.1.name = "<init>") && decide ((r.2.1 b).1 = sm_o E.2.2.2.2.1))
      | none => false)
  | .invokevirtual idx => if a = 9998 then true else (if b = 1 then sm_NL.any (fun q => Nat.beq q.1 E.2.2.2.2.1 && Nat.beq q.2.1 idx && Nat.beq q.2.2 a) else sm_ML.any (fun q => Nat.beq q.1 E.2.2.2.2.1 && Nat.beq q.2.1 idx && Nat.beq q.2.2 a)) && (match sm_mt a with
      | some F => Nat.beq F.2.2.2.2.2.2.1 1
      | none => false)
  | .invokestatic idx => if a = 9998 then true else if a = 9997 then sm_AC.any (fun q => Nat.beq q.1 E.2.2.2.2.1 && Nat.beq q.2 idx) else (if b = 1 then sm_NL.any (fun q => Nat.beq q.1 E.2.2.2.2.1 && Nat.beq q.2.1 idx && Nat.beq q.2.2 a) else sm_ML.any (fun q => Nat.beq q.1 E.2.2.2.2.1 && Nat.beq q.2.1 idx && Nat.beq q.2.2 a)) && (match sm_mt a with
      | some F => Nat.beq F.2.2.2.2.2.2.1 0
      | none => false)
  | .invokespecial idx => if a = 9999 then sm_OL.any (fun q => Nat.beq q.1 E.2.2.2.2.1 && Nat.beq q.2 idx) else (if b = 1 then sm_NL.any (fun q => Nat.beq q.1 E.2.2.2.2.1 && Nat.beq q.2.1 idx && Nat.beq q.2.2 a) else sm_ML.any (fun q => Nat.beq q.1 E.2.2.2.2.1 && Nat.beq q.2.1 idx && Nat.beq q.2.2 a)) && (match sm_mt a with
      | some F => Nat.beq F.2.2.2.2.2.2.1 2
      | none => false)
  | .new idx => sm_CL.any (fun q => Nat.beq q.1 E.2.2.2.2.1 && Nat.beq q.2.1 idx && Nat.beq q.2.2 a)
  | .ldc idx => if a = 9998 then Nat.beq idx sx_ki && decide (sm_o E.2.2.2.2.1 = "TeaCabinet$LawReader") && (match decode E.2.1 (pc + 2), decode E.2.1 (pc + 3), decode E.2.1 (pc + 4) with
      | .ok (.iload_n k, 1), .ok (.i2c, 1), .ok (.invokevirtual j, 3) => Nat.beq k.val b && Nat.beq j sx_i0
      | _, _, _ => false) else sm_KL.any (fun q => Nat.beq q.1 E.2.2.2.2.1 && Nat.beq q.2.1 idx && Nat.beq q.2.2 a)
  | .ldc_w idx => sm_KL.any (fun q => Nat.beq q.1 E.2.2.2.2.1 && Nat.beq q.2.1 idx && Nat.beq q.2.2 a)
  | .ldc2_w idx => sm_K2.any (fun q => Nat.beq q.1 E.2.2.2.2.1 && Nat.beq q.2.1 idx && Nat.beq q.2.2 a)
  | _ => true
noncomputable def sm_ck1 (E : sm_M) (pc : Nat) : Bool := match E.2.2.2.2.2.2.2.2 pc with
  | none => true
  | some q => (match decode E.2.1 pc with
      | .ok r => decide (r.1 = q.1) && decide (r.2 = q.2.1) && (sm_sw q.1 || Nat.beq q.2.1 (sm_len q.1))
      | _ => false) && sm_lk E pc q.1 q.2.2.1 q.2.2.2
noncomputable def sm_ck (E : sm_M) : Bool := (List.range E.2.2.2.2.2.2.2.1).all (sm_ck1 E)
set_option maxRecDepth 100000 in
theorem ck0 : sm_ck mm0 = true := by decide +kernel
set_option maxRecDepth 100000 in
theorem ck1 : sm_ck mm1 = true := by decide +kernel
set_option maxRecDepth 100000 in
theorem ck2 : sm_ck mm2 = true := by decide +kernel
set_option maxRecDepth 100000 in
theorem ck3 : sm_ck mm3 = true := by decide +kernel
set_option maxRecDepth 100000 in
theorem ck4 : sm_ck mm4 = true := by decide +kernel
set_option maxRecDepth 100000 in
theorem ck5 : sm_ck mm5 = true := by decide +kernel
set_option maxRecDepth 100000 in
theorem ck6 : sm_ck mm6 = true := by decide +kernel
set_option maxRecDepth 100000 in
theorem ck7 : sm_ck mm7 = true := by decide +kernel
set_option maxRecDepth 100000 in
theorem ck8 : sm_ck mm8 = true := by decide +kernel
set_option maxRecDepth 100000 in
theorem ck9 : sm_ck mm9 = true := by decide +kernel
set_option maxRecDepth 100000 in
theorem ck10 : sm_ck mm10 = true := by decide +kernel
set_option maxRecDepth 100000 in
theorem ck11 : sm_ck mm11 = true := by decide +kernel
set_option maxRecDepth 100000 in
theorem ck12 : sm_ck mm12 = true := by decide +kernel
set_option maxRecDepth 100000 in
theorem ck13 : sm_ck mm13 = true := by decide +kernel
set_option maxRecDepth 100000 in
theorem ck14 : sm_ck mm14 = true := by decide +kernel
set_option maxRecDepth 100000 in
theorem ck15 : sm_ck mm15 = true := by decide +kernel
set_option maxRecDepth 100000 in
theorem ck16 : sm_ck mm16 = true := by decide +kernel
set_option maxRecDepth 100000 in
theorem ck17 : sm_ck mm17 = true := by decide +kernel
set_option maxRecDepth 100000 in
theorem ck18 : sm_ck mm18 = true := by decide +kernel
set_option maxRecDepth 100000 in
theorem ck19 : sm_ck mm19 = true := by decide +kernel
set_option maxRecDepth 100000 in
theorem ck20 : sm_ck mm20 = true := by decide +kernel
set_option maxRecDepth 100000 in
theorem ck21 : sm_ck mm21 = true := by decide +kernel
set_option maxRecDepth 100000 in
theorem ck22 : sm_ck mm22 = true := by decide +kernel
set_option maxRecDepth 100000 in
theorem ck23 : sm_ck mm23 = true := by decide +kernel
set_option maxRecDepth 100000 in
theorem ck24 : sm_ck mm24 = true := by decide +kernel
set_option maxRecDepth 100000 in
theorem ck25 : sm_ck mm25 = true := by decide +kernel
set_option maxRecDepth 100000 in
theorem ck26 : sm_ck mm26 = true := by decide +kernel
set_option maxRecDepth 100000 in
theorem ck27 : sm_ck mm27 = true := by decide +kernel
set_option maxRecDepth 100000 in
theorem ck28 : sm_ck mm28 = true := by decide +kernel
set_option maxRecDepth 100000 in
theorem ck29 : sm_ck mm29 = true := by decide +kernel
set_option maxRecDepth 100000 in
theorem ck30 : sm_ck mm30 = true := by decide +kernel
set_option maxRecDepth 100000 in
theorem ck31 : sm_ck mm31 = true := by decide +kernel
set_option maxRecDepth 100000 in
theorem ck32 : sm_ck mm32 = true := by decide +kernel
set_option maxRecDepth 100000 in
theorem ck33 : sm_ck mm33 = true := by decide +kernel
set_option maxRecDepth 100000 in
theorem ck34 : sm_ck mm34 = true := by decide +kernel
set_option maxRecDepth 100000 in
theorem ck35 : sm_ck mm35 = true := by decide +kernel
set_option maxRecDepth 100000 in
theorem ck36 : sm_ck mm36 = true := by decide +kernel
set_option maxRecDepth 100000 in
theorem ck37 : sm_ck mm37 = true := by decide +kernel
set_option maxRecDepth 100000 in
theorem ck38 : sm_ck mm38 = true := by decide +kernel
set_option maxRecDepth 100000 in
theorem ck39 : sm_ck mm39 = true := by decide +kernel
set_option maxRecDepth 100000 in
theorem ck40 : sm_ck mm40 = true := by decide +kernel
set_option maxRecDepth 100000 in
theorem ck41 : sm_ck mm41 = true := by decide +kernel
set_option maxRecDepth 100000 in
theorem ck42 : sm_ck mm42 = true := by decide +kernel
set_option maxRecDepth 100000 in
theorem ck43 : sm_ck mm43 = true := by decide +kernel
set_option maxRecDepth 100000 in
theorem ck44 : sm_ck mm44 = true := by decide +kernel
set_option maxRecDepth 100000 in
theorem ck45 : sm_ck mm45 = true := by decide +kernel
set_option maxRecDepth 100000 in
theorem ck46 : sm_ck mm46 = true := by decide +kernel
set_option maxRecDepth 100000 in
theorem ck47 : sm_ck mm47 = true := by decide +kernel
set_option maxRecDepth 100000 in
theorem ck48 : sm_ck mm48 = true := by decide +kernel
set_option maxRecDepth 100000 in
theorem ck49 : sm_ck mm49 = true := by decide +kernel
set_option maxRecDepth 100000 in
theorem ck50 : sm_ck mm50 = true := by decide +kernel
set_option maxRecDepth 100000 in
theorem ck51 : sm_ck mm51 = true := by decide +kernel
set_option maxRecDepth 100000 in
theorem ck52 : sm_ck mm52 = true := by decide +kernel
set_option maxRecDepth 100000 in
theorem ck53 : sm_ck mm53 = true := by decide +kernel
set_option maxRecDepth 100000 in
theorem ck54 : sm_ck mm54 = true := by decide +kernel
set_option maxRecDepth 100000 in
theorem ck55 : sm_ck mm55 = true := by decide +kernel
set_option maxRecDepth 100000 in
theorem ck56 : sm_ck mm56 = true := by decide +kernel
set_option maxRecDepth 100000 in
theorem ck57 : sm_ck mm57 = true := by decide +kernel
set_option maxRecDepth 100000 in
theorem ck58 : sm_ck mm58 = true := by decide +kernel
set_option maxRecDepth 100000 in
theorem ck59 : sm_ck mm59 = true := by decide +kernel
set_option maxRecDepth 100000 in
theorem ck60 : sm_ck mm60 = true := by decide +kernel
set_option maxRecDepth 100000 in
theorem ck61 : sm_ck mm61 = true := by decide +kernel
set_option maxRecDepth 100000 in
theorem ck62 : sm_ck mm62 = true := by decide +kernel
set_option maxRecDepth 100000 in
theorem ck63 : sm_ck mm63 = true := by decide +kernel
set_option maxRecDepth 100000 in
theorem ck64 : sm_ck mm64 = true := by decide +kernel
set_option maxRecDepth 100000 in
theorem ck65 : sm_ck mm65 = true := by decide +kernel
set_option maxRecDepth 100000 in
theorem ck66 : sm_ck mm66 = true := by decide +kernel
set_option maxRecDepth 100000 in
theorem ck67 : sm_ck mm67 = true := by decide +kernel
set_option maxRecDepth 100000 in
theorem ck68 : sm_ck mm68 = true := by decide +kernel
set_option maxRecDepth 100000 in
theorem ck69 : sm_ck mm69 = true := by decide +kernel
set_option maxRecDepth 100000 in
theorem ck70 : sm_ck mm70 = true := by decide +kernel
set_option maxRecDepth 100000 in
theorem ck71 : sm_ck mm71 = true := by decide +kernel
set_option maxRecDepth 100000 in
theorem ck72 : sm_ck mm72 = true := by decide +kernel
set_option maxRecDepth 100000 in
theorem ck73 : sm_ck mm73 = true := by decide +kernel
set_option maxRecDepth 100000 in
theorem ck74 : sm_ck mm74 = true := by decide +kernel
set_option maxRecDepth 100000 in
theorem ck75 : sm_ck mm75 = true := by decide +kernel
set_option maxRecDepth 100000 in
theorem ck76 : sm_ck mm76 = true := by decide +kernel
set_option maxRecDepth 100000 in
theorem ck77 : sm_ck mm77 = true := by decide +kernel
set_option maxRecDepth 100000 in
theorem ck78 : sm_ck mm78 = true := by decide +kernel
set_option maxRecDepth 100000 in
theorem ck79 : sm_ck mm79 = true := by decide +kernel
set_option maxRecDepth 100000 in
theorem ck80 : sm_ck mm80 = true := by decide +kernel
set_option maxRecDepth 100000 in
theorem ck81 : sm_ck mm81 = true := by decide +kernel
set_option maxRecDepth 100000 in
theorem ck82 : sm_ck mm82 = true := by decide +kernel
set_option maxRecDepth 100000 in
theorem ck83 : sm_ck mm83 = true := by decide +kernel
set_option maxRecDepth 100000 in
theorem ck84 : sm_ck mm84 = true := by decide +kernel
set_option maxRecDepth 100000 in
theorem ck85 : sm_ck mm85 = true := by decide +kernel
set_option maxRecDepth 100000 in
theorem ck86 : sm_ck mm86 = true := by decide +kernel
set_option maxRecDepth 100000 in
theorem ck87 : sm_ck mm87 = true := by decide +kernel
set_option maxRecDepth 100000 in
theorem ck88 : sm_ck mm88 = true := by decide +kernel
set_option maxRecDepth 100000 in
theorem ck89 : sm_ck mm89 = true := by decide +kernel
set_option maxRecDepth 100000 in
theorem ck90 : sm_ck mm90 = true := by decide +kernel
set_option maxRecDepth 100000 in
theorem ck91 : sm_ck mm91 = true := by decide +kernel
set_option maxRecDepth 100000 in
theorem ck92 : sm_ck mm92 = true := by decide +kernel
set_option maxRecDepth 100000 in
theorem ck93 : sm_ck mm93 = true := by decide +kernel
set_option maxRecDepth 100000 in
theorem ck94 : sm_ck mm94 = true := by decide +kernel
set_option maxRecDepth 100000 in
theorem ck95 : sm_ck mm95 = true := by decide +kernel
set_option maxRecDepth 100000 in
theorem ck96 : sm_ck mm96 = true := by decide +kernel
set_option maxRecDepth 100000 in
theorem ck97 : sm_ck mm97 = true := by decide +kernel
set_option maxRecDepth 100000 in
theorem ck98 : sm_ck mm98 = true := by decide +kernel
set_option maxRecDepth 100000 in
theorem ck99 : sm_ck mm99 = true := by decide +kernel
set_option maxRecDepth 100000 in
theorem ck100 : sm_ck mm100 = true := by decide +kernel
set_option maxRecDepth 100000 in
theorem ck101 : sm_ck mm101 = true := by decide +kernel
set_option maxRecDepth 100000 in
theorem ck102 : sm_ck mm102 = true := by decide +kernel
set_option maxRecDepth 100000 in
theorem ck103 : sm_ck mm103 = true := by decide +kernel
set_option maxRecDepth 100000 in
theorem ck104 : sm_ck mm104 = true := by decide +kernel
set_option maxRecDepth 100000 in
theorem ck105 : sm_ck mm105 = true := by decide +kernel
set_option maxRecDepth 100000 in
theorem ck106 : sm_ck mm106 = true := by decide +kernel
set_option maxRecDepth 100000 in
theorem ck107 : sm_ck mm107 = true := by decide +kernel
set_option maxRecDepth 100000 in
theorem ck108 : sm_ck mm108 = true := by decide +kernel
set_option maxRecDepth 100000 in
theorem ck109 : sm_ck mm109 = true := by decide +kernel
set_option maxRecDepth 100000 in
theorem ck110 : sm_ck mm110 = true := by decide +kernel
set_option maxRecDepth 100000 in
theorem ck111 : sm_ck mm111 = true := by decide +kernel
set_option maxRecDepth 100000 in
theorem ck112 : sm_ck mm112 = true := by decide +kernel
set_option maxRecDepth 100000 in
theorem ck113 : sm_ck mm113 = true := by decide +kernel
set_option maxRecDepth 100000 in
theorem ck114 : sm_ck mm114 = true := by decide +kernel
set_option maxRecDepth 100000 in
theorem ck115 : sm_ck mm115 = true := by decide +kernel
set_option maxRecDepth 100000 in
theorem ck116 : sm_ck mm116 = true := by decide +kernel
set_option maxRecDepth 100000 in
theorem ck117 : sm_ck mm117 = true := by decide +kernel
set_option maxRecDepth 100000 in
theorem ck118 : sm_ck mm118 = true := by decide +kernel
set_option maxRecDepth 100000 in
theorem ck119 : sm_ck mm119 = true := by decide +kernel
set_option maxRecDepth 100000 in
theorem ck120 : sm_ck mm120 = true := by decide +kernel
set_option maxRecDepth 100000 in
theorem ck121 : sm_ck mm121 = true := by decide +kernel
set_option maxRecDepth 100000 in
theorem ck122 : sm_ck mm122 = true := by decide +kernel
set_option maxRecDepth 100000 in
theorem ck123 : sm_ck mm123 = true := by decide +kernel
set_option maxRecDepth 100000 in
theorem ck124 : sm_ck mm124 = true := by decide +kernel
set_option maxRecDepth 100000 in
theorem ck125 : sm_ck mm125 = true := by decide +kernel
set_option maxRecDepth 100000 in
theorem ck126 : sm_ck mm126 = true := by decide +kernel
set_option maxRecDepth 100000 in
theorem ck127 : sm_ck mm127 = true := by decide +kernel
set_option maxRecDepth 100000 in
theorem ck128 : sm_ck mm128 = true := by decide +kernel
set_option maxRecDepth 100000 in
theorem ck129 : sm_ck mm129 = true := by decide +kernel
set_option maxRecDepth 100000 in
theorem ck130 : sm_ck mm130 = true := by decide +kernel
set_option maxRecDepth 100000 in
theorem ck131 : sm_ck mm131 = true := by decide +kernel
set_option maxRecDepth 100000 in
theorem ck132 : sm_ck mm132 = true := by decide +kernel
set_option maxRecDepth 100000 in
theorem ck133 : sm_ck mm133 = true := by decide +kernel
set_option maxRecDepth 100000 in
theorem ck134 : sm_ck mm134 = true := by decide +kernel
set_option maxRecDepth 100000 in
theorem ck135 : sm_ck mm135 = true := by decide +kernel
set_option maxRecDepth 100000 in
theorem ck136 : sm_ck mm136 = true := by decide +kernel
set_option maxRecDepth 100000 in
theorem ck137 : sm_ck mm137 = true := by decide +kernel
set_option maxRecDepth 100000 in
theorem ck138 : sm_ck mm138 = true := by decide +kernel
set_option maxRecDepth 100000 in
theorem ck139 : sm_ck mm139 = true := by decide +kernel
set_option maxRecDepth 100000 in
theorem ck140 : sm_ck mm140 = true := by decide +kernel
set_option maxRecDepth 100000 in
theorem ck141 : sm_ck mm141 = true := by decide +kernel
set_option maxRecDepth 100000 in
theorem ck142 : sm_ck mm142 = true := by decide +kernel
set_option maxRecDepth 100000 in
theorem ck143 : sm_ck mm143 = true := by decide +kernel
set_option maxRecDepth 100000 in
theorem ck144 : sm_ck mm144 = true := by decide +kernel
set_option maxRecDepth 100000 in
theorem ck145 : sm_ck mm145 = true := by decide +kernel
set_option maxRecDepth 100000 in
theorem ck146 : sm_ck mm146 = true := by decide +kernel
set_option maxRecDepth 100000 in
theorem ck147 : sm_ck mm147 = true := by decide +kernel
set_option maxRecDepth 100000 in
theorem ck148 : sm_ck mm148 = true := by decide +kernel
set_option maxRecDepth 100000 in
theorem ck149 : sm_ck mm149 = true := by decide +kernel
set_option maxRecDepth 100000 in
theorem ck150 : sm_ck mm150 = true := by decide +kernel
set_option maxRecDepth 100000 in
theorem ck151 : sm_ck mm151 = true := by decide +kernel
set_option maxRecDepth 100000 in
theorem ck152 : sm_ck mm152 = true := by decide +kernel
set_option maxRecDepth 100000 in
theorem ck153 : sm_ck mm153 = true := by decide +kernel
set_option maxRecDepth 100000 in
theorem ck154 : sm_ck mm154 = true := by decide +kernel
set_option maxRecDepth 100000 in
theorem ck155 : sm_ck mm155 = true := by decide +kernel
set_option maxRecDepth 100000 in
theorem ck156 : sm_ck mm156 = true := by decide +kernel
set_option maxRecDepth 100000 in
theorem ck157 : sm_ck mm157 = true := by decide +kernel
set_option maxRecDepth 100000 in
theorem ck158 : sm_ck mm158 = true := by decide +kernel
set_option maxRecDepth 100000 in
theorem ck159 : sm_ck mm159 = true := by decide +kernel
set_option maxRecDepth 100000 in
theorem ck160 : sm_ck mm160 = true := by decide +kernel
set_option maxRecDepth 100000 in
theorem ck161 : sm_ck mm161 = true := by decide +kernel
set_option maxRecDepth 100000 in
theorem ck162 : sm_ck mm162 = true := by decide +kernel
set_option maxRecDepth 100000 in
theorem ck163 : sm_ck mm163 = true := by decide +kernel
set_option maxRecDepth 100000 in
theorem ck164 : sm_ck mm164 = true := by decide +kernel
set_option maxRecDepth 100000 in
theorem ck165 : sm_ck mm165 = true := by decide +kernel
set_option maxRecDepth 100000 in
theorem ck166 : sm_ck mm166 = true := by decide +kernel
set_option maxRecDepth 100000 in
theorem ck167 : sm_ck mm167 = true := by decide +kernel
set_option maxRecDepth 100000 in
theorem ck168 : sm_ck mm168 = true := by decide +kernel
set_option maxRecDepth 100000 in
theorem ck169 : sm_ck mm169 = true := by decide +kernel
set_option maxRecDepth 100000 in
theorem ck170 : sm_ck mm170 = true := by decide +kernel
set_option maxRecDepth 100000 in
theorem ck171 : sm_ck mm171 = true := by decide +kernel
set_option maxRecDepth 100000 in
theorem ck172 : sm_ck mm172 = true := by decide +kernel
set_option maxRecDepth 100000 in
theorem ck173 : sm_ck mm173 = true := by decide +kernel
set_option maxRecDepth 100000 in
theorem ck174 : sm_ck mm174 = true := by decide +kernel
set_option maxRecDepth 100000 in
theorem ck175 : sm_ck mm175 = true := by decide +kernel
set_option maxRecDepth 100000 in
theorem ck176 : sm_ck mm176 = true := by decide +kernel
set_option maxRecDepth 100000 in
theorem ck177 : sm_ck mm177 = true := by decide +kernel
set_option maxRecDepth 100000 in
theorem ck178 : sm_ck mm178 = true := by decide +kernel
set_option maxRecDepth 100000 in
theorem ck179 : sm_ck mm179 = true := by decide +kernel
set_option maxRecDepth 100000 in
theorem ck180 : sm_ck mm180 = true := by decide +kernel
set_option maxRecDepth 100000 in
theorem ck181 : sm_ck mm181 = true := by decide +kernel
set_option maxRecDepth 100000 in
theorem ck182 : sm_ck mm182 = true := by decide +kernel
set_option maxRecDepth 100000 in
theorem ck183 : sm_ck mm183 = true := by decide +kernel
set_option maxRecDepth 100000 in
theorem ck184 : sm_ck mm184 = true := by decide +kernel
set_option maxRecDepth 100000 in
theorem ck185 : sm_ck mm185 = true := by decide +kernel
set_option maxRecDepth 100000 in
theorem ck186 : sm_ck mm186 = true := by decide +kernel
set_option maxRecDepth 100000 in
theorem ck187 : sm_ck mm187 = true := by decide +kernel
set_option maxRecDepth 100000 in
theorem ck188 : sm_ck mm188 = true := by decide +kernel
set_option maxRecDepth 100000 in
theorem ck189 : sm_ck mm189 = true := by decide +kernel
set_option maxRecDepth 100000 in
theorem ck190 : sm_ck mm190 = true := by decide +kernel
set_option maxRecDepth 100000 in
theorem ck191 : sm_ck mm191 = true := by decide +kernel
set_option maxRecDepth 100000 in
theorem ck192 : sm_ck mm192 = true := by decide +kernel
set_option maxRecDepth 100000 in
theorem ck193 : sm_ck mm193 = true := by decide +kernel
set_option maxRecDepth 100000 in
theorem ck194 : sm_ck mm194 = true := by decide +kernel
set_option maxRecDepth 100000 in
theorem ck195 : sm_ck mm195 = true := by decide +kernel
set_option maxRecDepth 100000 in
theorem ck196 : sm_ck mm196 = true := by decide +kernel
set_option maxRecDepth 100000 in
theorem ck197 : sm_ck mm197 = true := by decide +kernel
set_option maxRecDepth 100000 in
theorem ck198 : sm_ck mm198 = true := by decide +kernel
set_option maxRecDepth 100000 in
theorem ck199 : sm_ck mm199 = true := by decide +kernel
set_option maxRecDepth 100000 in
theorem ck200 : sm_ck mm200 = true := by decide +kernel
set_option maxRecDepth 100000 in
theorem ck201 : sm_ck mm201 = true := by decide +kernel
set_option maxRecDepth 100000 in
theorem ck202 : sm_ck mm202 = true := by decide +kernel
set_option maxRecDepth 100000 in
theorem ck203 : sm_ck mm203 = true := by decide +kernel
set_option maxRecDepth 100000 in
theorem ck204 : sm_ck mm204 = true := by decide +kernel
set_option maxRecDepth 100000 in
theorem ck205 : sm_ck mm205 = true := by decide +kernel
set_option maxRecDepth 100000 in
theorem ck206 : sm_ck mm206 = true := by decide +kernel
set_option maxRecDepth 100000 in
theorem ck207 : sm_ck mm207 = true := by decide +kernel
set_option maxRecDepth 100000 in
theorem ck208 : sm_ck mm208 = true := by decide +kernel
set_option maxRecDepth 100000 in
theorem ck209 : sm_ck mm209 = true := by decide +kernel
set_option maxRecDepth 100000 in
theorem ck210 : sm_ck mm210 = true := by decide +kernel
set_option maxRecDepth 100000 in
theorem ck211 : sm_ck mm211 = true := by decide +kernel
set_option maxRecDepth 100000 in
theorem ck212 : sm_ck mm212 = true := by decide +kernel
set_option maxRecDepth 100000 in
theorem ck213 : sm_ck mm213 = true := by decide +kernel
set_option maxRecDepth 100000 in
theorem ck214 : sm_ck mm214 = true := by decide +kernel
set_option maxRecDepth 100000 in
theorem ck215 : sm_ck mm215 = true := by decide +kernel
set_option maxRecDepth 100000 in
theorem ck216 : sm_ck mm216 = true := by decide +kernel
set_option maxRecDepth 100000 in
theorem ck217 : sm_ck mm217 = true := by decide +kernel
set_option maxRecDepth 100000 in
theorem ck218 : sm_ck mm218 = true := by decide +kernel
set_option maxRecDepth 100000 in
theorem ck219 : sm_ck mm219 = true := by decide +kernel
set_option maxRecDepth 100000 in
theorem ck220 : sm_ck mm220 = true := by decide +kernel
set_option maxRecDepth 100000 in
theorem ck221 : sm_ck mm221 = true := by decide +kernel
set_option maxRecDepth 100000 in
theorem ck222 : sm_ck mm222 = true := by decide +kernel
set_option maxRecDepth 100000 in
theorem ck223 : sm_ck mm223 = true := by decide +kernel
set_option maxRecDepth 100000 in
theorem ck224 : sm_ck mm224 = true := by decide +kernel
set_option maxRecDepth 100000 in
theorem ck225 : sm_ck mm225 = true := by decide +kernel
set_option maxRecDepth 100000 in
theorem ck226 : sm_ck mm226 = true := by decide +kernel
set_option maxRecDepth 100000 in
theorem ck227 : sm_ck mm227 = true := by decide +kernel
set_option maxRecDepth 100000 in
theorem ck228 : sm_ck mm228 = true := by decide +kernel
set_option maxRecDepth 100000 in
theorem ck229 : sm_ck mm229 = true := by decide +kernel
set_option maxRecDepth 100000 in
theorem ck230 : sm_ck mm230 = true := by decide +kernel
set_option maxRecDepth 100000 in
theorem ck231 : sm_ck mm231 = true := by decide +kernel
set_option maxRecDepth 100000 in
theorem ck232 : sm_ck mm232 = true := by decide +kernel
set_option maxRecDepth 100000 in
theorem ck233 : sm_ck mm233 = true := by decide +kernel
set_option maxRecDepth 100000 in
theorem ck234 : sm_ck mm234 = true := by decide +kernel
set_option maxRecDepth 100000 in
theorem ck235 : sm_ck mm235 = true := by decide +kernel
set_option maxRecDepth 100000 in
theorem ck236 : sm_ck mm236 = true := by decide +kernel
set_option maxRecDepth 100000 in
theorem ck237 : sm_ck mm237 = true := by decide +kernel
set_option maxRecDepth 100000 in
theorem ck238 : sm_ck mm238 = true := by decide +kernel
set_option maxRecDepth 100000 in
theorem ck239 : sm_ck mm239 = true := by decide +kernel
set_option maxRecDepth 100000 in
theorem ck240 : sm_ck mm240 = true := by decide +kernel
set_option maxRecDepth 100000 in
theorem ck241 : sm_ck mm241 = true := by decide +kernel
set_option maxRecDepth 100000 in
theorem ck242 : sm_ck mm242 = true := by decide +kernel
set_option maxRecDepth 100000 in
theorem ck243 : sm_ck mm243 = true := by decide +kernel
set_option maxRecDepth 100000 in
theorem ck244 : sm_ck mm244 = true := by decide +kernel
set_option maxRecDepth 100000 in
theorem ck245 : sm_ck mm245 = true := by decide +kernel
set_option maxRecDepth 100000 in
theorem ck246 : sm_ck mm246 = true := by decide +kernel
set_option maxRecDepth 100000 in
theorem ck247 : sm_ck mm247 = true := by decide +kernel
set_option maxRecDepth 100000 in
theorem ck248 : sm_ck mm248 = true := by decide +kernel
set_option maxRecDepth 100000 in
theorem ck249 : sm_ck mm249 = true := by decide +kernel
set_option maxRecDepth 100000 in
theorem ck250 : sm_ck mm250 = true := by decide +kernel
noncomputable def sm_PE (E : sm_M) : Prop := sm_PW E ∧ sm_PCd E ∧ sm_ck E = true
theorem sm_ct {b : Bool} {x y : Option sm_M} (hx : ∀ E, x = some E → sm_PE E) (hy : ∀ E, y = some E → sm_PE E) : ∀ E, cond b x y = some E → sm_PE E := by cases b <;> assumption
theorem sm_lf {b : Bool} {m : sm_M} (h : sm_PE m) : ∀ E, cond b (some m) none = some E → sm_PE E := by
  intro E hE
  cases b with
  | true => cases hE; exact h
  | false => cases hE
theorem sm_all_0 {μ : Nat} : ∀ E, sm_mt_0 μ = some E → sm_PE E := sm_ct (sm_ct (sm_ct (sm_ct (sm_lf ⟨mw0, ⟨tr0, rfl⟩, ck0⟩) (sm_lf ⟨mw1, ⟨tr1, rfl⟩, ck1⟩)) (sm_ct (sm_lf ⟨mw2, ⟨tr2, rfl⟩, ck2⟩) (sm_lf ⟨mw3, ⟨tr3, rfl⟩, ck3⟩))) (sm_ct (sm_ct (sm_lf ⟨mw4, ⟨tr4, rfl⟩, ck4⟩) (sm_lf ⟨mw5, ⟨tr5, rfl⟩, ck5⟩)) (sm_ct (sm_lf ⟨mw6, ⟨tr6, rfl⟩, ck6⟩) (sm_lf ⟨mw7, ⟨tr7, rfl⟩, ck7⟩)))) (sm_ct (sm_ct (sm_ct (sm_lf ⟨mw8, ⟨tr8, rfl⟩, ck8⟩) (sm_lf ⟨mw9, ⟨tr9, rfl⟩, ck9⟩)) (sm_ct (sm_lf ⟨mw10, ⟨tr10, rfl⟩, ck10⟩) (sm_lf ⟨mw11, ⟨tr11, rfl⟩, ck11⟩))) (sm_ct (sm_ct (sm_lf ⟨mw12, ⟨tr12, rfl⟩, ck12⟩) (sm_lf ⟨mw13, ⟨tr13, rfl⟩, ck13⟩)) (sm_ct (sm_lf ⟨mw14, ⟨tr14, rfl⟩, ck14⟩) (sm_lf ⟨mw15, ⟨tr15, rfl⟩, ck15⟩))))
theorem sm_all_1 {μ : Nat} : ∀ E, sm_mt_1 μ = some E → sm_PE E := sm_ct (sm_ct (sm_ct (sm_ct (sm_lf ⟨mw16, ⟨tr16, rfl⟩, ck16⟩) (sm_lf ⟨mw17, ⟨tr17, rfl⟩, ck17⟩)) (sm_ct (sm_lf ⟨mw18, ⟨tr18, rfl⟩, ck18⟩) (sm_lf ⟨mw19, ⟨tr19, rfl⟩, ck19⟩))) (sm_ct (sm_ct (sm_lf ⟨mw20, ⟨tr20, rfl⟩, ck20⟩) (sm_lf ⟨mw21, ⟨tr21, rfl⟩, ck21⟩)) (sm_ct (sm_lf ⟨mw22, ⟨tr22, rfl⟩, ck22⟩) (sm_lf ⟨mw23, ⟨tr23, rfl⟩, ck23⟩)))) (sm_ct (sm_ct (sm_ct (sm_lf ⟨mw24, ⟨tr24, rfl⟩, ck24⟩) (sm_lf ⟨mw25, ⟨tr25, rfl⟩, ck25⟩)) (sm_ct (sm_lf ⟨mw26, ⟨tr26, rfl⟩, ck26⟩) (sm_lf ⟨mw27, ⟨tr27, rfl⟩, ck27⟩))) (sm_ct (sm_ct (sm_lf ⟨mw28, ⟨tr28, rfl⟩, ck28⟩) (sm_lf ⟨mw29, ⟨tr29, rfl⟩, ck29⟩)) (sm_ct (sm_lf ⟨mw30, ⟨tr30, rfl⟩, ck30⟩) (sm_lf ⟨mw31, ⟨tr31, rfl⟩, ck31⟩))))
theorem sm_all_2 {μ : Nat} : ∀ E, sm_mt_2 μ = some E → sm_PE E := sm_ct (sm_ct (sm_ct (sm_ct (sm_lf ⟨mw32, ⟨tr32, rfl⟩, ck32⟩) (sm_lf ⟨mw33, ⟨tr33, rfl⟩, ck33⟩)) (sm_ct (sm_lf ⟨mw34, ⟨tr34, rfl⟩, ck34⟩) (sm_lf ⟨mw35, ⟨tr35, rfl⟩, ck35⟩))) (sm_ct (sm_ct (sm_lf ⟨mw36, ⟨tr36, rfl⟩, ck36⟩) (sm_lf ⟨mw37, ⟨tr37, rfl⟩, ck37⟩)) (sm_ct (sm_lf ⟨mw38, ⟨tr38, rfl⟩, ck38⟩) (sm_lf ⟨mw39, ⟨tr39, rfl⟩, ck39⟩)))) (sm_ct (sm_ct (sm_ct (sm_lf ⟨mw40, ⟨tr40, rfl⟩, ck40⟩) (sm_lf ⟨mw41, ⟨tr41, rfl⟩, ck41⟩)) (sm_ct (sm_lf ⟨mw42, ⟨tr42, rfl⟩, ck42⟩) (sm_lf ⟨mw43, ⟨tr43, rfl⟩, ck43⟩))) (sm_ct (sm_ct (sm_lf ⟨mw44, ⟨tr44, rfl⟩, ck44⟩) (sm_lf ⟨mw45, ⟨tr45, rfl⟩, ck45⟩)) (sm_ct (sm_lf ⟨mw46, ⟨tr46, rfl⟩, ck46⟩) (sm_lf ⟨mw47, ⟨tr47, rfl⟩, ck47⟩))))
theorem sm_all_3 {μ : Nat} : ∀ E, sm_mt_3 μ = some E → sm_PE E := sm_ct (sm_ct (sm_ct (sm_ct (sm_lf ⟨mw48, ⟨tr48, rfl⟩, ck48⟩) (sm_lf ⟨mw49, ⟨tr49, rfl⟩, ck49⟩)) (sm_ct (sm_lf ⟨mw50, ⟨tr50, rfl⟩, ck50⟩) (sm_lf ⟨mw51, ⟨tr51, rfl⟩, ck51⟩))) (sm_ct (sm_ct (sm_lf ⟨mw52, ⟨tr52, rfl⟩, ck52⟩) (sm_lf ⟨mw53, ⟨tr53, rfl⟩, ck53⟩)) (sm_ct (sm_lf ⟨mw54, ⟨tr54, rfl⟩, ck54⟩) (sm_lf ⟨mw55, ⟨tr55, rfl⟩, ck55⟩)))) (sm_ct (sm_ct (sm_ct (sm_lf ⟨mw56, ⟨tr56, rfl⟩, ck56⟩) (sm_lf ⟨mw57, ⟨tr57, rfl⟩, ck57⟩)) (sm_ct (sm_lf ⟨mw58, ⟨tr58, rfl⟩, ck58⟩) (sm_lf ⟨mw59, ⟨tr59, rfl⟩, ck59⟩))) (sm_ct (sm_ct (sm_lf ⟨mw60, ⟨tr60, rfl⟩, ck60⟩) (sm_lf ⟨mw61, ⟨tr61, rfl⟩, ck61⟩)) (sm_ct (sm_lf ⟨mw62, ⟨tr62, rfl⟩, ck62⟩) (sm_lf ⟨mw63, ⟨tr63, rfl⟩, ck63⟩))))
theorem sm_all_4 {μ : Nat} : ∀ E, sm_mt_4 μ = some E → sm_PE E := sm_ct (sm_ct (sm_ct (sm_ct (sm_lf ⟨mw64, ⟨tr64, rfl⟩, ck64⟩) (sm_lf ⟨mw65, ⟨tr65, rfl⟩, ck65⟩)) (sm_ct (sm_lf ⟨mw66, ⟨tr66, rfl⟩, ck66⟩) (sm_lf ⟨mw67, ⟨tr67, rfl⟩, ck67⟩))) (sm_ct (sm_ct (sm_lf ⟨mw68, ⟨tr68, rfl⟩, ck68⟩) (sm_lf ⟨mw69, ⟨tr69, rfl⟩, ck69⟩)) (sm_ct (sm_lf ⟨mw70, ⟨tr70, rfl⟩, ck70⟩) (sm_lf ⟨mw71, ⟨tr71, rfl⟩, ck71⟩)))) (sm_ct (sm_ct (sm_ct (sm_lf ⟨mw72, ⟨tr72, rfl⟩, ck72⟩) (sm_lf ⟨mw73, ⟨tr73, rfl⟩, ck73⟩)) (sm_ct (sm_lf ⟨mw74, ⟨tr74, rfl⟩, ck74⟩) (sm_lf ⟨mw75, ⟨tr75, rfl⟩, ck75⟩))) (sm_ct (sm_ct (sm_lf ⟨mw76, ⟨tr76, rfl⟩, ck76⟩) (sm_lf ⟨mw77, ⟨tr77, rfl⟩, ck77⟩)) (sm_ct (sm_lf ⟨mw78, ⟨tr78, rfl⟩, ck78⟩) (sm_lf ⟨mw79, ⟨tr79, rfl⟩, ck79⟩))))
theorem sm_all_5 {μ : Nat} : ∀ E, sm_mt_5 μ = some E → sm_PE E := sm_ct (sm_ct (sm_ct (sm_ct (sm_lf ⟨mw80, ⟨tr80, rfl⟩, ck80⟩) (sm_lf ⟨mw81, ⟨tr81, rfl⟩, ck81⟩)) (sm_ct (sm_lf ⟨mw82, ⟨tr82, rfl⟩, ck82⟩) (sm_lf ⟨mw83, ⟨tr83, rfl⟩, ck83⟩))) (sm_ct (sm_ct (sm_lf ⟨mw84, ⟨tr84, rfl⟩, ck84⟩) (sm_lf ⟨mw85, ⟨tr85, rfl⟩, ck85⟩)) (sm_ct (sm_lf ⟨mw86, ⟨tr86, rfl⟩, ck86⟩) (sm_lf ⟨mw87, ⟨tr87, rfl⟩, ck87⟩)))) (sm_ct (sm_ct (sm_ct (sm_lf ⟨mw88, ⟨tr88, rfl⟩, ck88⟩) (sm_lf ⟨mw89, ⟨tr89, rfl⟩, ck89⟩)) (sm_ct (sm_lf ⟨mw90, ⟨tr90, rfl⟩, ck90⟩) (sm_lf ⟨mw91, ⟨tr91, rfl⟩, ck91⟩))) (sm_ct (sm_ct (sm_lf ⟨mw92, ⟨tr92, rfl⟩, ck92⟩) (sm_lf ⟨mw93, ⟨tr93, rfl⟩, ck93⟩)) (sm_ct (sm_lf ⟨mw94, ⟨tr94, rfl⟩, ck94⟩) (sm_lf ⟨mw95, ⟨tr95, rfl⟩, ck95⟩))))
theorem sm_all_6 {μ : Nat} : ∀ E, sm_mt_6 μ = some E → sm_PE E := sm_ct (sm_ct (sm_ct (sm_ct (sm_lf ⟨mw96, ⟨tr96, rfl⟩, ck96⟩) (sm_lf ⟨mw97, ⟨tr97, rfl⟩, ck97⟩)) (sm_ct (sm_lf ⟨mw98, ⟨tr98, rfl⟩, ck98⟩) (sm_lf ⟨mw99, ⟨tr99, rfl⟩, ck99⟩))) (sm_ct (sm_ct (sm_lf ⟨mw100, ⟨tr100, rfl⟩, ck100⟩) (sm_lf ⟨mw101, ⟨tr101, rfl⟩, ck101⟩)) (sm_ct (sm_lf ⟨mw102, ⟨tr102, rfl⟩, ck102⟩) (sm_lf ⟨mw103, ⟨tr103, rfl⟩, ck103⟩)))) (sm_ct (sm_ct (sm_ct (sm_lf ⟨mw104, ⟨tr104, rfl⟩, ck104⟩) (sm_lf ⟨mw105, ⟨tr105, rfl⟩, ck105⟩)) (sm_ct (sm_lf ⟨mw106, ⟨tr106, rfl⟩, ck106⟩) (sm_lf ⟨mw107, ⟨tr107, rfl⟩, ck107⟩))) (sm_ct (sm_ct (sm_lf ⟨mw108, ⟨tr108, rfl⟩, ck108⟩) (sm_lf ⟨mw109, ⟨tr109, rfl⟩, ck109⟩)) (sm_ct (sm_lf ⟨mw110, ⟨tr110, rfl⟩, ck110⟩) (sm_lf ⟨mw111, ⟨tr111, rfl⟩, ck111⟩))))
theorem sm_all_7 {μ : Nat} : ∀ E, sm_mt_7 μ = some E → sm_PE E := sm_ct (sm_ct (sm_ct (sm_ct (sm_lf ⟨mw112, ⟨tr112, rfl⟩, ck112⟩) (sm_lf ⟨mw113, ⟨tr113, rfl⟩, ck113⟩)) (sm_ct (sm_lf ⟨mw114, ⟨tr114, rfl⟩, ck114⟩) (sm_lf ⟨mw115, ⟨tr115, rfl⟩, ck115⟩))) (sm_ct (sm_ct (sm_lf ⟨mw116, ⟨tr116, rfl⟩, ck116⟩) (sm_lf ⟨mw117, ⟨tr117, rfl⟩, ck117⟩)) (sm_ct (sm_lf ⟨mw118, ⟨tr118, rfl⟩, ck118⟩) (sm_lf ⟨mw119, ⟨tr119, rfl⟩, ck119⟩)))) (sm_ct (sm_ct (sm_ct (sm_lf ⟨mw120, ⟨tr120, rfl⟩, ck120⟩) (sm_lf ⟨mw121, ⟨tr121, rfl⟩, ck121⟩)) (sm_ct (sm_lf ⟨mw122, ⟨tr122, rfl⟩, ck122⟩) (sm_lf ⟨mw123, ⟨tr123, rfl⟩, ck123⟩))) (sm_ct (sm_ct (sm_lf ⟨mw124, ⟨tr124, rfl⟩, ck124⟩) (sm_lf ⟨mw125, ⟨tr125, rfl⟩, ck125⟩)) (sm_ct (sm_lf ⟨mw126, ⟨tr126, rfl⟩, ck126⟩) (sm_lf ⟨mw127, ⟨tr127, rfl⟩, ck127⟩))))
theorem sm_all_8 {μ : Nat} : ∀ E, sm_mt_8 μ = some E → sm_PE E := sm_ct (sm_ct (sm_ct (sm_ct (sm_lf ⟨mw128, ⟨tr128, rfl⟩, ck128⟩) (sm_lf ⟨mw129, ⟨tr129, rfl⟩, ck129⟩)) (sm_ct (sm_lf ⟨mw130, ⟨tr130, rfl⟩, ck130⟩) (sm_lf ⟨mw131, ⟨tr131, rfl⟩, ck131⟩))) (sm_ct (sm_ct (sm_lf ⟨mw132, ⟨tr132, rfl⟩, ck132⟩) (sm_lf ⟨mw133, ⟨tr133, rfl⟩, ck133⟩)) (sm_ct (sm_lf ⟨mw134, ⟨tr134, rfl⟩, ck134⟩) (sm_lf ⟨mw135, ⟨tr135, rfl⟩, ck135⟩)))) (sm_ct (sm_ct (sm_ct (sm_lf ⟨mw136, ⟨tr136, rfl⟩, ck136⟩) (sm_lf ⟨mw137, ⟨tr137, rfl⟩, ck137⟩)) (sm_ct (sm_lf ⟨mw138, ⟨tr138, rfl⟩, ck138⟩) (sm_lf ⟨mw139, ⟨tr139, rfl⟩, ck139⟩))) (sm_ct (sm_ct (sm_lf ⟨mw140, ⟨tr140, rfl⟩, ck140⟩) (sm_lf ⟨mw141, ⟨tr141, rfl⟩, ck141⟩)) (sm_ct (sm_lf ⟨mw142, ⟨tr142, rfl⟩, ck142⟩) (sm_lf ⟨mw143, ⟨tr143, rfl⟩, ck143⟩))))
theorem sm_all_9 {μ : Nat} : ∀ E, sm_mt_9 μ = some E → sm_PE E := sm_ct (sm_ct (sm_ct (sm_ct (sm_lf ⟨mw144, ⟨tr144, rfl⟩, ck144⟩) (sm_lf ⟨mw145, ⟨tr145, rfl⟩, ck145⟩)) (sm_ct (sm_lf ⟨mw146, ⟨tr146, rfl⟩, ck146⟩) (sm_lf ⟨mw147, ⟨tr147, rfl⟩, ck147⟩))) (sm_ct (sm_ct (sm_lf ⟨mw148, ⟨tr148, rfl⟩, ck148⟩) (sm_lf ⟨mw149, ⟨tr149, rfl⟩, ck149⟩)) (sm_ct (sm_lf ⟨mw150, ⟨tr150, rfl⟩, ck150⟩) (sm_lf ⟨mw151, ⟨tr151, rfl⟩, ck151⟩)))) (sm_ct (sm_ct (sm_ct (sm_lf ⟨mw152, ⟨tr152, rfl⟩, ck152⟩) (sm_lf ⟨mw153, ⟨tr153, rfl⟩, ck153⟩)) (sm_ct (sm_lf ⟨mw154, ⟨tr154, rfl⟩, ck154⟩) (sm_lf ⟨mw155, ⟨tr155, rfl⟩, ck155⟩))) (sm_ct (sm_ct (sm_lf ⟨mw156, ⟨tr156, rfl⟩, ck156⟩) (sm_lf ⟨mw157, ⟨tr157, rfl⟩, ck157⟩)) (sm_ct (sm_lf ⟨mw158, ⟨tr158, rfl⟩, ck158⟩) (sm_lf ⟨mw159, ⟨tr159, rfl⟩, ck159⟩))))
theorem sm_all_10 {μ : Nat} : ∀ E, sm_mt_10 μ = some E → sm_PE E := sm_ct (sm_ct (sm_ct (sm_ct (sm_lf ⟨mw160, ⟨tr160, rfl⟩, ck160⟩) (sm_lf ⟨mw161, ⟨tr161, rfl⟩, ck161⟩)) (sm_ct (sm_lf ⟨mw162, ⟨tr162, rfl⟩, ck162⟩) (sm_lf ⟨mw163, ⟨tr163, rfl⟩, ck163⟩))) (sm_ct (sm_ct (sm_lf ⟨mw164, ⟨tr164, rfl⟩, ck164⟩) (sm_lf ⟨mw165, ⟨tr165, rfl⟩, ck165⟩)) (sm_ct (sm_lf ⟨mw166, ⟨tr166, rfl⟩, ck166⟩) (sm_lf ⟨mw167, ⟨tr167, rfl⟩, ck167⟩)))) (sm_ct (sm_ct (sm_ct (sm_lf ⟨mw168, ⟨tr168, rfl⟩, ck168⟩) (sm_lf ⟨mw169, ⟨tr169, rfl⟩, ck169⟩)) (sm_ct (sm_lf ⟨mw170, ⟨tr170, rfl⟩, ck170⟩) (sm_lf ⟨mw171, ⟨tr171, rfl⟩, ck171⟩))) (sm_ct (sm_ct (sm_lf ⟨mw172, ⟨tr172, rfl⟩, ck172⟩) (sm_lf ⟨mw173, ⟨tr173, rfl⟩, ck173⟩)) (sm_ct (sm_lf ⟨mw174, ⟨tr174, rfl⟩, ck174⟩) (sm_lf ⟨mw175, ⟨tr175, rfl⟩, ck175⟩))))
theorem sm_all_11 {μ : Nat} : ∀ E, sm_mt_11 μ = some E → sm_PE E := sm_ct (sm_ct (sm_ct (sm_ct (sm_lf ⟨mw176, ⟨tr176, rfl⟩, ck176⟩) (sm_lf ⟨mw177, ⟨tr177, rfl⟩, ck177⟩)) (sm_ct (sm_lf ⟨mw178, ⟨tr178, rfl⟩, ck178⟩) (sm_lf ⟨mw179, ⟨tr179, rfl⟩, ck179⟩))) (sm_ct (sm_ct (sm_lf ⟨mw180, ⟨tr180, rfl⟩, ck180⟩) (sm_lf ⟨mw181, ⟨tr181, rfl⟩, ck181⟩)) (sm_ct (sm_lf ⟨mw182, ⟨tr182, rfl⟩, ck182⟩) (sm_lf ⟨mw183, ⟨tr183, rfl⟩, ck183⟩)))) (sm_ct (sm_ct (sm_ct (sm_lf ⟨mw184, ⟨tr184, rfl⟩, ck184⟩) (sm_lf ⟨mw185, ⟨tr185, rfl⟩, ck185⟩)) (sm_ct (sm_lf ⟨mw186, ⟨tr186, rfl⟩, ck186⟩) (sm_lf ⟨mw187, ⟨tr187, rfl⟩, ck187⟩))) (sm_ct (sm_ct (sm_lf ⟨mw188, ⟨tr188, rfl⟩, ck188⟩) (sm_lf ⟨mw189, ⟨tr189, rfl⟩, ck189⟩)) (sm_ct (sm_lf ⟨mw190, ⟨tr190, rfl⟩, ck190⟩) (sm_lf ⟨mw191, ⟨tr191, rfl⟩, ck191⟩))))
theorem sm_all_12 {μ : Nat} : ∀ E, sm_mt_12 μ = some E → sm_PE E := sm_ct (sm_ct (sm_ct (sm_ct (sm_lf ⟨mw192, ⟨tr192, rfl⟩, ck192⟩) (sm_lf ⟨mw193, ⟨tr193, rfl⟩, ck193⟩)) (sm_ct (sm_lf ⟨mw194, ⟨tr194, rfl⟩, ck194⟩) (sm_lf ⟨mw195, ⟨tr195, rfl⟩, ck195⟩))) (sm_ct (sm_ct (sm_lf ⟨mw196, ⟨tr196, rfl⟩, ck196⟩) (sm_lf ⟨mw197, ⟨tr197, rfl⟩, ck197⟩)) (sm_ct (sm_lf ⟨mw198, ⟨tr198, rfl⟩, ck198⟩) (sm_lf ⟨mw199, ⟨tr199, rfl⟩, ck199⟩)))) (sm_ct (sm_ct (sm_ct (sm_lf ⟨mw200, ⟨tr200, rfl⟩, ck200⟩) (sm_lf ⟨mw201, ⟨tr201, rfl⟩, ck201⟩)) (sm_ct (sm_lf ⟨mw202, ⟨tr202, rfl⟩, ck202⟩) (sm_lf ⟨mw203, ⟨tr203, rfl⟩, ck203⟩))) (sm_ct (sm_ct (sm_lf ⟨mw204, ⟨tr204, rfl⟩, ck204⟩) (sm_lf ⟨mw205, ⟨tr205, rfl⟩, ck205⟩)) (sm_ct (sm_lf ⟨mw206, ⟨tr206, rfl⟩, ck206⟩) (sm_lf ⟨mw207, ⟨tr207, rfl⟩, ck207⟩))))
theorem sm_all_13 {μ : Nat} : ∀ E, sm_mt_13 μ = some E → sm_PE E := sm_ct (sm_ct (sm_ct (sm_ct (sm_lf ⟨mw208, ⟨tr208, rfl⟩, ck208⟩) (sm_lf ⟨mw209, ⟨tr209, rfl⟩, ck209⟩)) (sm_ct (sm_lf ⟨mw210, ⟨tr210, rfl⟩, ck210⟩) (sm_lf ⟨mw211, ⟨tr211, rfl⟩, ck211⟩))) (sm_ct (sm_ct (sm_lf ⟨mw212, ⟨tr212, rfl⟩, ck212⟩) (sm_lf ⟨mw213, ⟨tr213, rfl⟩, ck213⟩)) (sm_ct (sm_lf ⟨mw214, ⟨tr214, rfl⟩, ck214⟩) (sm_lf ⟨mw215, ⟨tr215, rfl⟩, ck215⟩)))) (sm_ct (sm_ct (sm_ct (sm_lf ⟨mw216, ⟨tr216, rfl⟩, ck216⟩) (sm_lf ⟨mw217, ⟨tr217, rfl⟩, ck217⟩)) (sm_ct (sm_lf ⟨mw218, ⟨tr218, rfl⟩, ck218⟩) (sm_lf ⟨mw219, ⟨tr219, rfl⟩, ck219⟩))) (sm_ct (sm_ct (sm_lf ⟨mw220, ⟨tr220, rfl⟩, ck220⟩) (sm_lf ⟨mw221, ⟨tr221, rfl⟩, ck221⟩)) (sm_ct (sm_lf ⟨mw222, ⟨tr222, rfl⟩, ck222⟩) (sm_lf ⟨mw223, ⟨tr223, rfl⟩, ck223⟩))))
theorem sm_all_14 {μ : Nat} : ∀ E, sm_mt_14 μ = some E → sm_PE E := sm_ct (sm_ct (sm_ct (sm_ct (sm_lf ⟨mw224, ⟨tr224, rfl⟩, ck224⟩) (sm_lf ⟨mw225, ⟨tr225, rfl⟩, ck225⟩)) (sm_ct (sm_lf ⟨mw226, ⟨tr226, rfl⟩, ck226⟩) (sm_lf ⟨mw227, ⟨tr227, rfl⟩, ck227⟩))) (sm_ct (sm_ct (sm_lf ⟨mw228, ⟨tr228, rfl⟩, ck228⟩) (sm_lf ⟨mw229, ⟨tr229, rfl⟩, ck229⟩)) (sm_ct (sm_lf ⟨mw230, ⟨tr230, rfl⟩, ck230⟩) (sm_lf ⟨mw231, ⟨tr231, rfl⟩, ck231⟩)))) (sm_ct (sm_ct (sm_ct (sm_lf ⟨mw232, ⟨tr232, rfl⟩, ck232⟩) (sm_lf ⟨mw233, ⟨tr233, rfl⟩, ck233⟩)) (sm_ct (sm_lf ⟨mw234, ⟨tr234, rfl⟩, ck234⟩) (sm_lf ⟨mw235, ⟨tr235, rfl⟩, ck235⟩))) (sm_ct (sm_ct (sm_lf ⟨mw236, ⟨tr236, rfl⟩, ck236⟩) (sm_lf ⟨mw237, ⟨tr237, rfl⟩, ck237⟩)) (sm_ct (sm_lf ⟨mw238, ⟨tr238, rfl⟩, ck238⟩) (sm_lf ⟨mw239, ⟨tr239, rfl⟩, ck239⟩))))
theorem sm_all_15 {μ : Nat} : ∀ E, sm_mt_15 μ = some E → sm_PE E := sm_ct (sm_ct (sm_ct (sm_lf ⟨mw240, ⟨tr240, rfl⟩, ck240⟩) (sm_lf ⟨mw241, ⟨tr241, rfl⟩, ck241⟩)) (sm_ct (sm_lf ⟨mw242, ⟨tr242, rfl⟩, ck242⟩) (sm_ct (sm_lf ⟨mw243, ⟨tr243, rfl⟩, ck243⟩) (sm_lf ⟨mw244, ⟨tr244, rfl⟩, ck244⟩)))) (sm_ct (sm_ct (sm_lf ⟨mw245, ⟨tr245, rfl⟩, ck245⟩) (sm_ct (sm_lf ⟨mw246, ⟨tr246, rfl⟩, ck246⟩) (sm_lf ⟨mw247, ⟨tr247, rfl⟩, ck247⟩))) (sm_ct (sm_lf ⟨mw248, ⟨tr248, rfl⟩, ck248⟩) (sm_ct (sm_lf ⟨mw249, ⟨tr249, rfl⟩, ck249⟩) (sm_lf ⟨mw250, ⟨tr250, rfl⟩, ck250⟩))))
theorem sm_all {μ : Nat} {E : sm_M} (h : sm_mt μ = some E) : sm_PE E := sm_ct (sm_ct (sm_ct (sm_ct (sm_ct (sm_all_0) (sm_all_1)) (sm_ct (sm_all_2) (sm_all_3))) (sm_ct (sm_ct (sm_all_4) (sm_all_5)) (sm_ct (sm_all_6) (sm_all_7)))) (sm_ct (sm_ct (sm_ct (sm_all_8) (sm_all_9)) (sm_ct (sm_all_10) (sm_all_11))) (sm_ct (sm_ct (sm_all_12) (sm_all_13)) (sm_ct (sm_all_14) (sm_all_15))))) (fun _ h => by cases h) E h
