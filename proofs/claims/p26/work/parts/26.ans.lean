/-! an instruction that is no call and no end, by the analyst -/
noncomputable def an_iof (b pc : Nat) (ls : an_L) (st : List an_S) (Z : an_Z) : Option (List an_G) := match an_ld ls b with
  | some (.inl _) => cond (Nat.ble (an_w st) 8) (an_ki (pc + 7) ls st Z (some (an_new Z.1 (-1, 7)))) none
  | _ => none
theorem sx_ixF_b (c : Int32) : ∀ (l : List Int32) (k : Nat), k + l.length ≤ 8 → (-1 : Int) ≤ (sx_ixF c l k).toInt ∧ (sx_ixF c l k).toInt ≤ 7 := by
  intro l
  induction l with
  | nil => intro k _; exact (by decide : (-1 : Int) ≤ (-1 : Int32).toInt ∧ (-1 : Int32).toInt ≤ 7)
  | cons b l ih =>
    intro k hk
    rw [List.length_cons] at hk
    unfold sx_ixF
    split
    · have e : (Int32.ofNat k).toInt = (k : Int) := nI_toInt (by omega)
      rw [e]
      omega
    · exact ih (k + 1) (by omega)
noncomputable def an_x0 (i : Instr) : Nat → Nat → Nat → an_L → List an_S → an_Z → Option (List an_G) := match i with
  | .iconst n => fun _ _ pc ls st Z => an_pn n 1 pc (-2147483648) 2147483647 ls st Z
  | .bipush n => fun _ _ pc ls st Z => an_pn n 2 pc (-128) 127 ls st Z
  | .sipush n => fun _ _ pc ls st Z => an_pn n 3 pc (-32768) 32767 ls st Z
  | .lconst _ => fun _ _ pc ls st Z => an_k (pc + 1) ls (.inr (.inr ()) :: st) Z
  | .ldc _ => fun a b pc ls st Z => cond (Nat.beq a 9998) (an_iof b pc ls st Z) (an_pa a 2 pc ls st Z)
  | .ldc_w _ => fun a _ pc ls st Z => an_pa a 3 pc ls st Z
  | .ldc2_w _ => fun _ _ pc ls st Z => an_k (pc + 3) ls (.inr (.inr ()) :: st) Z
  | .iload i => fun _ _ pc ls st Z => an_ldk 0 2 i pc ls st Z
  | .iload_n i => fun _ _ pc ls st Z => an_ldk 0 1 i.val pc ls st Z
  | .lload i => fun _ _ pc ls st Z => an_ldk 2 2 i pc ls st Z
  | .lload_n i => fun _ _ pc ls st Z => an_ldk 2 1 i.val pc ls st Z
  | .aload i => fun _ _ pc ls st Z => an_ldk 1 2 i pc ls st Z
  | .aload_n i => fun _ _ pc ls st Z => an_ldk 1 1 i.val pc ls st Z
  | .istore i => fun _ _ pc ls st Z => an_stk 0 2 i pc ls st Z
  | .istore_n i => fun _ _ pc ls st Z => an_stk 0 1 i.val pc ls st Z
  | .lstore i => fun _ _ pc ls st Z => an_stk 2 2 i pc ls st Z
  | .lstore_n i => fun _ _ pc ls st Z => an_stk 2 1 i.val pc ls st Z
  | .astore i => fun _ _ pc ls st Z => an_stk 1 2 i pc ls st Z
  | .astore_n i => fun _ _ pc ls st Z => an_stk 1 1 i.val pc ls st Z
  | .iinc i n => fun _ _ pc ls st Z => an_inc i n pc ls st Z
  | .iadd => fun _ _ pc ls st Z => an_add2 an_add pc ls st Z
  | .isub => fun _ _ pc ls st Z => an_sub3 pc ls st Z
  | .imul => fun _ _ pc ls st Z => an_op2 (fun x y => some (.int (x * y))) an_bmul pc ls st Z
  | .idiv => fun _ _ pc ls st Z => an_dv (fun x y => if y = 0 then none else some (.int (x / y))) an_bdiv pc ls st Z
  | .irem => fun _ _ pc ls st Z => an_dv (fun x y => if y = 0 then none else some (.int (x - x / y * y))) an_brem pc ls st Z
  | .iand => fun _ _ pc ls st Z => an_and pc ls st Z
  | .ior => fun _ _ pc ls st Z => an_op2 (fun x y => some (.int (x ||| y))) an_bor pc ls st Z
  | .ixor => fun _ _ pc ls st Z => an_op2 (fun x y => some (.int (x ^^^ y))) an_btop pc ls st Z
  | .ishl => fun _ _ pc ls st Z => an_op2 (fun x y => some (.int (x <<< (y &&& 31)))) an_bshl pc ls st Z
  | .ishr => fun _ _ pc ls st Z => an_op2 (fun x y => some (.int (x >>> (y &&& 31)))) an_bshr pc ls st Z
  | .iushr => fun _ _ pc ls st Z => an_op2 (fun x y => some (.int (x.toUInt32 >>> (y.toUInt32 &&& Int32.toUInt32 31)).toInt32)) an_btop pc ls st Z
  | .ineg => fun _ _ pc ls st Z => an_u1 an_tp pc ls st Z
  | .i2l => fun _ _ pc ls st Z => an_u2l pc ls st Z
  | .i2b => fun _ _ pc ls st Z => an_u1 an_tp pc ls st Z
  | .i2c => fun _ _ pc ls st Z => an_u1 an_tp pc ls st Z
  | .l2i => fun _ _ pc ls st Z => an_l2i pc ls st Z
  | .ladd => fun _ _ pc ls st Z => an_l2 pc ls st Z
  | .lsub => fun _ _ pc ls st Z => an_l2 pc ls st Z
  | .land => fun _ _ pc ls st Z => an_l2 pc ls st Z
  | .lor => fun _ _ pc ls st Z => an_l2 pc ls st Z
  | .lcmp => fun _ _ pc ls st Z => an_lc pc ls st Z
  | .lushr => fun _ _ pc ls st Z => an_lsh pc ls st Z
  | .lshl => fun _ _ pc ls st Z => an_lsh pc ls st Z
  | .dup => fun _ _ pc ls st Z => an_dup pc ls st Z
  | .pop => fun _ _ pc ls st Z => an_pop pc ls st Z
  | .dup2 => fun _ _ pc ls st Z => an_dup2 pc ls st Z
  | .ifCond c _ => fun a _ pc ls st Z => an_if c a pc ls st Z
  | .if_icmp c _ => fun a _ pc ls st Z => an_icmp c a pc ls st Z
  | .goto _ => fun a _ _ ls st Z => an_k a ls st Z
  | .tableswitch d lo hi offs => fun _ _ pc ls st Z => an_tsw d lo hi offs.toList pc ls st Z
  | .lookupswitch d ps => fun _ _ pc ls st Z => an_lsw d ps.toList pc ls st Z
  | .getfield _ => fun a b pc ls st Z => an_gf a b pc ls st Z
  | .putfield _ => fun a b pc ls st Z => cond (an_gp b st) (an_pf a b pc ls st Z) none
  | .iaload => fun _ _ pc ls st Z => an_al 0 pc ls st Z
  | .baload => fun _ _ pc ls st Z => an_al 2 pc ls st Z
  | .laload => fun _ _ pc ls st Z => an_ll pc ls st Z
  | .iastore => fun _ _ pc ls st Z => cond (an_guard st) (an_as 0 pc ls st Z) none
  | .bastore => fun _ _ pc ls st Z => cond (an_guard st) (an_as 2 pc ls st Z) none
  | .lastore => fun _ _ pc ls st Z => cond (an_guard st) (an_lls pc ls st Z) none
  | .arraylength => fun _ _ pc ls st Z => an_alen pc ls st Z
  | .invokestatic _ => fun a _ pc ls st Z => cond (Nat.beq a 9997 && (an_guard st && an_gi st)) (an_ac pc ls st Z) none
  | _ => fun _ _ _ _ _ _ => none
theorem an_cg {b : Bool} {x : Option (List an_G)} {L : List an_G} (h : cond b x none = some L) : b = true ∧ x = some L := by
  cases b with
  | true => exact ⟨rfl, h⟩
  | false => cases h
section ANS
variable {ρ : List Int} {h0 hp : sm_H} {Z : an_Z} {ls : an_L} {lc : sm_L} {st : List an_S} {sc : List Value} {pc : Nat} {L : List an_G}
theorem an_ofI {n : Int} (h1 : (-2147483648) ≤ n) (h2 : n ≤ 2147483647) : (Int32.ofInt n).toInt = n := by
  rw [Int32.toInt_ofInt]; exact an_b32 h1 h2
theorem an_of8 {n : Int} (h1 : (-128) ≤ n) (h2 : n ≤ 127) : (Int8.ofInt n).toInt32.toInt = n := by
  rw [Int8.toInt_toInt32, Int8.toInt_ofInt]
  have : Int8.size = 256 := rfl
  rw [this, Int.bmod_def]; omega
theorem an_of16 {n : Int} (h1 : (-32768) ≤ n) (h2 : n ≤ 32767) : (Int16.ofInt n).toInt32.toInt = n := by
  rw [Int16.toInt_toInt32, Int16.toInt_ofInt]
  have : Int16.size = 65536 := rfl
  rw [this, Int.bmod_def]; omega
theorem an_step {i : Instr} {a b : Nat} (h : an_x0 i a b pc ls st Z = some L) (hL : an_rL ρ ls lc) (hS : an_rF ρ st sc) (hZ : an_rZ ρ Z h0 hp) : an_Go ρ h0 L (sm_x0 i a b pc lc sc hp) := by
  cases i
  case iconst n => exact an_pn_go an_ofI h hL hS hZ
  case bipush n => exact an_pn_go an_of8 h hL hS hZ
  case sipush n => exact an_pn_go an_of16 h hL hS hZ
  case lconst n => exact an_k_go h hL ⟨⟨_, rfl⟩, hS⟩ hZ
  case ldc n =>
    have h : cond (Nat.beq a 9998) (an_iof b pc ls st Z) (an_pa a 2 pc ls st Z) = some L := h
    show an_Go ρ h0 L (if a = 9998 then sm_iof lc b pc sc hp else sm_n (pc + 2) lc (.int (Int32.ofNat a) :: sc) hp)
    cases e : Nat.beq a 9998 with
    | true =>
      rw [e] at h
      have h : an_iof b pc ls st Z = some L := h
      rw [if_pos (Nat.eq_of_beq_eq_true e)]
      unfold an_iof at h
      split at h
      · rename_i a0 ha
        obtain ⟨v, h1, h2⟩ := an_ld_c hL ha
        obtain ⟨x, rfl⟩ := an_isint h2
        obtain ⟨hw, h⟩ := an_cg h
        unfold sm_iof
        rw [h1]
        dsimp only
        rw [if_pos (by rw [an_w_ok hS]; exact Nat.le_of_ble_eq_true hw)]
        exact an_ki_go h (an_new_ok hZ.1 (fun _ => sx_ixF_b _ sx_b 0 (by decide))) hL hS hZ
      · cases h
    | false =>
      rw [e] at h
      rw [if_neg (fun z => by rw [z] at e; cases e)]
      exact an_pa_go h hL hS hZ
  case ldc_w n => exact an_pa_go h hL hS hZ
  case ldc2_w n => exact an_k_go h hL ⟨⟨_, rfl⟩, hS⟩ hZ
  case iload i => exact (an_ldk_go h hL hS hZ).1 rfl
  case iload_n i => exact (an_ldk_go h hL hS hZ).1 rfl
  case lload i => exact (an_ldk_go h hL hS hZ).2.2 rfl
  case lload_n i => exact (an_ldk_go h hL hS hZ).2.2 rfl
  case aload i => exact (an_ldk_go h hL hS hZ).2.1 rfl
  case aload_n i => exact (an_ldk_go h hL hS hZ).2.1 rfl
  case istore i => exact (an_stk_go h hL hS hZ).1 rfl
  case istore_n i => exact (an_stk_go h hL hS hZ).1 rfl
  case lstore i => exact (an_stk_go h hL hS hZ).2.2 rfl
  case lstore_n i => exact (an_stk_go h hL hS hZ).2.2 rfl
  case astore i => exact (an_stk_go h hL hS hZ).2.1 rfl
  case astore_n i => exact (an_stk_go h hL hS hZ).2.1 rfl
  case iinc i n => exact an_inc_go h hL hS hZ
  case iadd => exact an_add2_go (f := fun x y => x + y) (fun T a b x y o hT ha hb h => an_add_ok hT ha hb h) (fun T a b o h => an_add_iv h) h hL hS hZ
  case isub => exact an_sub3_go h hL hS hZ
  case imul => exact an_op2_go an_bmul_ok h hL hS hZ
  case idiv => exact an_dv_go an_bdiv_ok (fun x y hy => ⟨_, by rw [if_neg hy]⟩) h hL hS hZ
  case irem => exact an_dv_go an_brem_ok (fun x y hy => ⟨_, by rw [if_neg hy]⟩) h hL hS hZ
  case iand => exact an_and_go an_band_ok h hL hS hZ
  case ior => exact an_op2_go an_bor_ok h hL hS hZ
  case ixor => exact an_op2_go (an_btop_ok (f := fun x y => x ^^^ y)) h hL hS hZ
  case ishl => exact an_op2_go an_bshl_ok h hL hS hZ
  case ishr => exact an_op2_go an_bshr_ok h hL hS hZ
  case iushr => exact an_op2_go (an_btop_ok (f := fun x y => (x.toUInt32 >>> (y.toUInt32 &&& Int32.toUInt32 31)).toInt32)) h hL hS hZ
  case ineg => exact an_u1_go (fun x => ⟨_, rfl, an_top _⟩) h hL hS hZ
  case i2l => exact an_u2l_go (f := fun x => x.toInt64) h hL hS hZ
  case i2b => exact an_u1_go (fun x => ⟨_, rfl, an_top _⟩) h hL hS hZ
  case i2c => exact an_u1_go (fun x => ⟨_, rfl, an_top _⟩) h hL hS hZ
  case l2i => exact an_l2i_go h hL hS hZ
  case ladd => exact an_l2_go (f := fun x y => x + y) h hL hS hZ
  case lsub => exact an_l2_go (f := fun x y => x - y) h hL hS hZ
  case land => exact an_l2_go (f := fun x y => x &&& y) h hL hS hZ
  case lor => exact an_l2_go (f := fun x y => x ||| y) h hL hS hZ
  case lcmp => exact an_lc_go h hL hS hZ
  case lushr => exact an_lsh_go (f := fun x y => (x.toUInt64 >>> (y.toInt64.toUInt64 &&& Int64.toUInt64 63)).toInt64) h hL hS hZ
  case lshl => exact an_lsh_go (f := fun x y => x <<< (y.toInt64 &&& 63)) h hL hS hZ
  case dup => exact an_dup_go h hL hS hZ
  case pop => exact an_pop_go h hL hS hZ
  case dup2 => exact an_dup2_go h hL hS hZ
  case ifCond c _ => exact an_if_go h hL hS hZ
  case if_icmp c _ => exact an_icmp_go h hL hS hZ
  case goto _ => exact an_k_go h hL hS hZ
  case tableswitch d lo hi offs => exact an_tsw_go h hL hS hZ
  case lookupswitch d ps => exact an_lsw_go h hL hS hZ
  case getfield _ => exact an_gf_go h hL hS hZ
  case putfield _ => exact an_pf_go (an_cg h).1 (an_cg h).2 hL hS hZ
  case iaload => exact an_al_go (by decide) h hL hS hZ
  case baload => exact an_al_go (by decide) h hL hS hZ
  case laload => exact an_ll_go h hL hS hZ
  case iastore => exact an_as_go (an_cg h).1 (Or.inl rfl) (an_cg h).2 hL hS hZ
  case bastore => exact an_as_go (an_cg h).1 (Or.inr rfl) (an_cg h).2 hL hS hZ
  case lastore => exact an_lls_go (an_cg h).1 (an_cg h).2 hL hS hZ
  case arraylength => exact an_alen_go h hL hS hZ
  case invokestatic _ =>
    have h : cond (Nat.beq a 9997 && (an_guard st && an_gi st)) (an_ac pc ls st Z) none = some L := h
    show an_Go ρ h0 L (if a = 9998 then none else if a = 9997 then sm_ac sc pc lc hp else sm_cS sc a)
    obtain ⟨e, h⟩ := an_cg h
    rw [Bool.and_eq_true] at e
    have e1 := Nat.beq_eq.mp e.1
    rw [if_neg (by omega), if_pos e1]
    have e2 := e.2
    rw [Bool.and_eq_true] at e2
    exact an_ac_go e2.1 e2.2 h hL hS hZ
  all_goals (first | cases h | exact absurd h (by simp [an_x0]))
end ANS
