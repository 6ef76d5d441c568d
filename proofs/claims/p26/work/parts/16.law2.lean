noncomputable def lw_bc (pc : Nat) : Bool := match lw_cd pc with
  | some q => (match q.1 with
    | .if_icmp .eq _ => true
    | _ => false) && Nat.beq q.2.2.1 lw_pcI
  | none => false
noncomputable def lw_gt (pc : Nat) : Bool := match lw_cd pc with
  | some q => (match q.1 with
    | .goto _ => true
    | _ => false) && Nat.beq q.2.2.1 lw_pcI
  | none => false
theorem lw_bc_spec {pc : Nat} (h : lw_bc pc = true) : ∃ off : Int, decode code pc = .ok (.if_icmp .eq off, 3) ∧ (pc : Int) + off = ((lw_pcI : Nat) : Int) := by
  unfold lw_bc at h
  split at h
  · rename_i q hq
    obtain ⟨h1, h2, h3⟩ := sm_at0 (E := mmL) ⟨trL, rfl⟩ ckL hq
    simp only [Bool.and_eq_true, Nat.beq_eq] at h
    obtain ⟨g1, g2⟩ := h
    obtain ⟨i, n, a, b⟩ := q
    dsimp only at g1 g2 h1 h2 h3
    split at g1
    · rename_i off
      subst g2
      exact ⟨off, sm_d h1 h2 rfl, of_decide_eq_true h3⟩
    · cases g1
  · cases h
theorem lw_gt_spec {pc : Nat} (h : lw_gt pc = true) : ∃ off : Int, decode code pc = .ok (.goto off, 3) ∧ (pc : Int) + off = ((lw_pcI : Nat) : Int) := by
  unfold lw_gt at h
  split at h
  · rename_i q hq
    obtain ⟨h1, h2, h3⟩ := sm_at0 (E := mmL) ⟨trL, rfl⟩ ckL hq
    simp only [Bool.and_eq_true, Nat.beq_eq] at h
    obtain ⟨g1, g2⟩ := h
    obtain ⟨i, n, a, b⟩ := q
    dsimp only at g1 g2 h1 h2 h3
    split at g1
    · rename_i off
      subst g2
      exact ⟨off, sm_d h1 h2 rfl, of_decide_eq_true h3⟩
    · cases g1
  · cases h
abbrev lw_D : Type := Nat × Nat × Nat × Nat × Nat × Nat × Bool
noncomputable def lw_ckC (q : lw_D) : Bool := lw_i q.1 (.aload_n 1) && lw_ckA q.2.1 1 (q.1 + 1) && lw_iv (q.1 + 1 + 5 * q.2.1) q.2.2.1 q.2.2.2.1 && lw_mk q.2.2.2.1 q.2.1 7 && lw_mk q.2.2.2.2.2.1 q.2.1 8 && Nat.ble q.2.1 5 &&
  (cond q.2.2.2.2.2.2 (lw_i (q.1 + 1 + 5 * q.2.1 + 3) (.aload_n 2) && lw_ckA q.2.1 1 (q.1 + 1 + 5 * q.2.1 + 3 + 1) && lw_iv (q.1 + 1 + 5 * q.2.1 + 3 + 1 + 5 * q.2.1) q.2.2.2.2.1 q.2.2.2.2.2.1 && lw_bc (q.1 + 1 + 5 * q.2.1 + 3 + 1 + 5 * q.2.1 + 3))
    (lw_i (q.1 + 1 + 5 * q.2.1 + 3) .pop && lw_i (q.1 + 1 + 5 * q.2.1 + 3 + 1) (.aload_n 2) && lw_ckA q.2.1 1 (q.1 + 1 + 5 * q.2.1 + 3 + 1 + 1) && lw_iv (q.1 + 1 + 5 * q.2.1 + 3 + 1 + 1 + 5 * q.2.1) q.2.2.2.2.1 q.2.2.2.2.2.1 && lw_i (q.1 + 1 + 5 * q.2.1 + 3 + 1 + 1 + 5 * q.2.1 + 3) .pop && (Nat.beq (q.1 + 1 + 5 * q.2.1 + 3 + 1 + 1 + 5 * q.2.1 + 3 + 1) lw_pcI || lw_gt (q.1 + 1 + 5 * q.2.1 + 3 + 1 + 1 + 5 * q.2.1 + 3 + 1))))
set_option maxRecDepth 100000 in
theorem lw_ops_ok : lw_ops.all lw_ckC = true := by decide +kernel
theorem lw_offs_ok : ∀ j, j < 36 → (lw_ops[j]?).map (fun q : lw_D => ((q.1 : Nat) : Int)) = (lw_offs[j]?).map (fun off => (33 : Int) + off) := by decide +kernel
theorem lw_ops_in : ∀ j, j < 36 → (lw_ops[j]?).isSome = true := by decide +kernel
theorem lw_ts : lw_cd 33 = some (.tableswitch lw_dflt 0 35 lw_offs, lw_tsl, 0, 0) := rfl
theorem lw_tsI : (33 : Int) + lw_dflt = ((lw_pcI : Nat) : Int) := by decide
/-- what one call of the script must do: both answers, alike where they are compared, and what holds behind it -/
noncomputable def lw_good (kM D : Nat) (q : lw_D) (as : List Int32) (hp : sm_H) (J : sm_H → Prop) : Prop := (∃ fs, hp[0]? = some (.inr (7, fs))) ∧ ∃ (r1 r2 : Int32) (hp1 hp2 : sm_H), EM D q.2.2.2.1 (.ref 0 :: as.map Value.int) hp (some (.int r1)) hp1 ∧ (∃ fs, hp1[kM]? = some (.inr (8, fs))) ∧ EM D q.2.2.2.2.2.1 (.ref kM :: as.map Value.int) hp1 (some (.int r2)) hp2 ∧ (q.2.2.2.2.2.2 = true → r1 = r2) ∧ J hp2
section LAWB
variable {p : Program} {l : Launch} {e : Env} {s : State} {m : MethodId} {below : List Frame} {meth : Method} {c : Code} {H : Heap} {locs : List Loc} {cells slots : Nat} {Q : State → Prop}
variable {G : va_G} {cA : Nat → ClassId} {ad : Nat → Nat} {arr : Array Slot} {pc b L : Nat} {xs : Nat → Int32} {hp : sm_H}
theorem lw_vs_len (xs : Nat → Int32) (k j n : Nat) : (lw_vs xs k j n).length = n := by unfold lw_vs; simp
theorem lw_case (X : lw_Cx p s m meth c b L xs G cA) {q : lw_D} {kM D k : Nat} {J : sm_H → Prop} (hq : lw_ckC q = true) (hk : 6 * k + 6 ≤ L) (hL : L < 2 ^ 30) (hD0 : D ≤ 1000) (hsz : arr.size = 4) (hwf : lv_wf arr) (h0 : arr[0]? = some (.val (.ref b))) (h1 : arr[1]? = some (.val (.ref (ad 0)))) (h2 : arr[2]? = some (.val (.ref (ad kM)))) (h3 : arr[3]? = some (.val (.int (nI (6 * k))))) (hc : cells ≤ room_1.cells) (hs : slots ≤ room_1.slots)
    (hP : va_P G sm_cl (sm_pic cA ad hp) H) (hD : va_D (fun q : Nat => s.heap.size ≤ q) (sm_pic cA ad hp)) (hS : va_S (fun q : Nat => s.heap.size ≤ q) s.heap H locs) (hg : lw_good kM D q (lw_vs xs k 1 q.2.1) hp J)
    (kk : ∀ (hp2 : sm_H) (H' : Heap) (locs' : List Loc), J hp2 → va_P G sm_cl (sm_pic cA ad hp2) H' → va_D (fun q : Nat => s.heap.size ≤ q) (sm_pic cA ad hp2) → va_S (fun q : Nat => s.heap.size ≤ q) s.heap H' locs' → W p l e room_1 s m #[Value.ref b] below meth c H' locs' cells slots Q (F0 m lw_pcI arr [])) : W p l e room_1 s m #[Value.ref b] below meth c H locs cells slots Q (F0 m q.1 arr []) := by
  obtain ⟨p0, n, i1, μ1, i2, μ2, cmp⟩ := q
  obtain ⟨hz0, r1, r2, hp1, hp2, m1, hz1, m2, hcmp, hJ⟩ := hg
  dsimp only at hcmp m1 m2 ⊢
  simp only [lw_ckC, Bool.and_eq_true, Nat.ble_eq] at hq
  obtain ⟨⟨⟨⟨⟨⟨c0, c1⟩, c2⟩, c3⟩, c4⟩, c5⟩, c6⟩ := hq
  have hx := X.1.1
  have hb : c.code = code := X.1.2.1
  refine lv_aload_n hx hb (lw_dec c0 rfl) rfl h1 ?_
  refine lw_args X hk hL h0 h3 hS n 1 (p0 + 1) _ c1 (by omega) ?_
  refine lw_call X (rs := []) c2 c3 hz0 (lw_vs_len xs k 1 n) (by decide) hD0 m1 hsz hwf hc hs hP hD hS (fun H1 locs1 hP1 hD1 hS1 => ?_)
  cases cmp with
  | true =>
    simp only [cond_true, Bool.and_eq_true] at c6
    obtain ⟨⟨⟨e0, e1⟩, e2⟩, e3⟩ := c6
    refine lv_aload_n hx hb (lw_dec e0 rfl) rfl h2 ?_
    refine lw_args X hk hL h0 h3 hS1 n 1 _ _ e1 (by omega) ?_
    refine lw_call X (rs := [r1]) e2 c4 hz1 (lw_vs_len xs k 1 n) (Nat.le_of_ble_eq_true rfl) hD0 m2 hsz hwf hc hs hP1 hD1 hS1 (fun H2 locs2 hP2 hD2 hS2 => ?_)
    obtain ⟨off, d1, d2⟩ := lw_bc_spec e3
    have e12 := hcmp rfl
    exact lv_icmp_eq hx hb d1 d2 (fun _ => kk hp2 H2 locs2 hJ hP2 hD2 hS2) (fun z => absurd e12 z)
  | false =>
    simp only [cond_false, Bool.and_eq_true, Bool.or_eq_true, Nat.beq_eq] at c6
    obtain ⟨⟨⟨⟨⟨e0, e1⟩, e2⟩, e3⟩, e4⟩, e5⟩ := c6
    refine lv_pop hx hb (lw_dec e0 rfl) rfl ?_
    refine lv_aload_n hx hb (lw_dec e1 rfl) rfl h2 ?_
    refine lw_args X hk hL h0 h3 hS1 n 1 _ _ e2 (by omega) ?_
    refine lw_call X (rs := []) e3 c4 hz1 (lw_vs_len xs k 1 n) (by decide) hD0 m2 hsz hwf hc hs hP1 hD1 hS1 (fun H2 locs2 hP2 hD2 hS2 => ?_)
    refine lv_pop hx hb (lw_dec e4 rfl) rfl ?_
    rcases e5 with e5 | e5
    · rw [e5]
      exact kk hp2 H2 locs2 hJ hP2 hD2 hS2
    · obtain ⟨off, d1, d2⟩ := lw_gt_spec e5
      exact lv_goto hx hb d1 d2 (kk hp2 H2 locs2 hJ hP2 hD2 hS2)
theorem lw_i18 : lw_i 18 (.iload_n 3) = true ∧ lw_i 19 (.aload_n 0) = true ∧ lw_i 20 .arraylength = true ∧ lw_i 21 (.bipush 6) = true ∧ lw_i 23 .isub = true ∧ lw_i 27 (.aload_n 0) = true ∧ lw_i 28 (.iload_n 3) = true ∧ lw_i 29 .iaload = true ∧ lw_i 30 (.bipush 63) = true ∧ lw_i 32 .iand = true := by decide +kernel
noncomputable def lw_x24 : Bool := match lw_cd 24 with
  | some q => (match q.1 with
    | .if_icmp .gt _ => true
    | _ => false) && Nat.beq q.2.2.1 lw_pcE
  | none => false
theorem lw_24 : ∃ off : Int, decode code 24 = .ok (.if_icmp .gt off, 3) ∧ ((24 : Nat) : Int) + off = ((lw_pcE : Nat) : Int) := by
  have h : lw_x24 = true := by decide +kernel
  unfold lw_x24 at h
  split at h
  · rename_i q hq
    obtain ⟨h1, h2, h3⟩ := sm_at0 (E := mmL) (pc := 24) (q := q) ⟨trL, rfl⟩ ckL hq
    simp only [Bool.and_eq_true, Nat.beq_eq] at h
    obtain ⟨g1, g2⟩ := h
    obtain ⟨i, n, a, b⟩ := q
    dsimp only at g1 g2 h1 h2 h3
    split at g1
    · rename_i off
      subst g2
      exact ⟨off, sm_d h1 h2 rfl, of_decide_eq_true h3⟩
    · cases g1
  · cases h
theorem lw_iI : lw_i lw_pcI (.iinc 3 6) = true ∧ lw_i lw_pcE (.iconst 1) = true ∧ lw_i (lw_pcE + 1) .ireturn = true := by decide +kernel
theorem lw_gI : ∃ off : Int, decode code (lw_pcI + 3) = .ok (.goto off, 3) ∧ ((lw_pcI + 3 : Nat) : Int) + off = ((18 : Nat) : Int) := by
  have h : (match lw_cd (lw_pcI + 3) with
    | some q => (match q.1 with
      | .goto _ => true
      | _ => false) && Nat.beq q.2.2.1 18
    | none => false) = true := by decide +kernel
  split at h
  · rename_i q hq
    obtain ⟨h1, h2, h3⟩ := sm_at0 (E := mmL) (pc := lw_pcI + 3) (q := q) ⟨trL, rfl⟩ ckL hq
    simp only [Bool.and_eq_true, Nat.beq_eq] at h
    obtain ⟨g1, g2⟩ := h
    obtain ⟨i, n, a, b⟩ := q
    dsimp only at g1 g2 h1 h2 h3
    split at g1
    · rename_i off
      subst g2
      exact ⟨off, sm_d h1 h2 rfl, of_decide_eq_true h3⟩
    · cases g1
  · cases h
set_option maxHeartbeats 4000000 in
theorem lw_loop (X : lw_Cx p s m meth c b L xs G cA) {kM D Lm : Nat} (Inv : Nat → sm_H → Prop) (hL : L ≤ Lm) (hLm : Lm < 2 ^ 30) (hD0 : D ≤ 1000) (hstep : ∀ (k : Nat) (hp : sm_H), 6 * k + 6 ≤ Lm → Inv k hp → (∀ (q : lw_D), q ∈ lw_ops → ∀ as : List Int32, as.length = q.2.1 → lw_good kM D q as hp (Inv (k + 1))) ∧ Inv (k + 1) hp) (hc : cells ≤ 600000) (hs : slots ≤ 7302250) :
    ∀ (n k : Nat) (hp : sm_H) (arr : Array Slot) (H : Heap) (locs : List Loc), L + 1 ≤ 6 * k + 6 * n → Inv k hp → lv_has arr 4 [(3, .int (nI (6 * k))), (2, .ref (ad kM)), (1, .ref (ad 0)), (0, .ref b)] → 6 * k ≤ L → va_P G sm_cl (sm_pic cA ad hp) H → va_D (fun q : Nat => s.heap.size ≤ q) (sm_pic cA ad hp) → va_S (fun q : Nat => s.heap.size ≤ q) s.heap H locs → W p l e room_1 s m #[Value.ref b] below meth c H locs cells slots (lw_Z below #[Value.ref b] s) (F0 m 18 arr []) := by
  have hx := X.1.1
  have hb : c.code = code := X.1.2.1
  have hbA : ¬ (fun q : Nat => s.heap.size ≤ q) b := Nat.not_le.mpr X.2.2.1
  obtain ⟨i18, i19, i20, i21, i23, i27, i28, i29, i30, i32⟩ := lw_i18
  intro n
  induction n with
  | zero => intro k hp arr H locs h1 _ _ h2; exact absurd h1 (by omega)
  | succ n ih =>
    intro k hp arr H locs hn hI hl hkL hP hD hS
    have a3 := lv_at hl 0 rfl
    have a0 := lv_at hl 3 rfl
    refine lv_iload_n hx hb (lw_dec i18 rfl) rfl a3 ?_
    refine lv_aload_n hx hb (lw_dec i19 rfl) rfl a0 ?_
    refine va_slen hx hb X.2.1 X.2.2.1 hbA hS (lw_dec i20 rfl) ?_
    refine lv_bipush (v := nI 6) hx hb (lw_dec i21 rfl) (by decide) ?_
    refine lv_isub hx hb (lw_dec i23 rfl) ?_
    obtain ⟨off, d24, t24⟩ := lw_24
    have eI : (Int32.ofNat L - nI 6).toInt = (L : Int) - 6 := pk_sub_toInt (a := L) (b := 6) (by omega) (by omega)
    have eK : (nI (6 * k)).toInt = ((6 * k : Nat) : Int) := nI_toInt (by omega)
    refine lv_icmp_gt hx hb d24 t24 (fun z => ?_) (fun z => ?_)
    · refine lv_iconst (v := 1) hx hb (lw_dec lw_iI.2.1 rfl) (by decide) ?_
      refine va_forget (fun q hq => hS.2.2 q hq) ?_
      refine W.widen (k := 600000) (n := 7302250) hc hs ?_
      exact lw_ret hx hb X.2.2.2.2 X.2.2.2.1 (lw_dec lw_iI.2.2 rfl)
    · have hk6 : 6 * k + 6 ≤ L := by
        rw [Int32.lt_iff_toInt_lt, eI, eK] at z
        omega
      refine lv_aload_n hx hb (lw_dec i27 rfl) rfl a0 ?_
      refine lv_iload_n hx hb (lw_dec i28 rfl) rfl a3 ?_
      refine va_sld hx hb X.2.1 X.2.2.1 hbA hS (vp_in_nI (by omega) (by omega)) (lw_dec i29 rfl) ?_
      refine lv_bipush (v := 63) hx hb (lw_dec i30 rfl) (by decide) ?_
      refine lv_iand hx hb (lw_dec i32 rfl) ?_
      obtain ⟨j, hj, ej⟩ := pk_andE (xs (nI (6 * k)).toNatClampNeg) (m := 63) 6 (by decide)
      rw [ej]
      have eJ : (nI j).toInt = (j : Int) := nI_toInt (by omega)
      obtain ⟨t1, -, -⟩ := sm_at0 (E := mmL) (pc := 33) ⟨trL, rfl⟩ ckL lw_ts
      obtain ⟨st1, st2⟩ := hstep k hp (by omega) hI
      have fin : ∀ (hp2 : sm_H) (H' : Heap) (locs' : List Loc), Inv (k + 1) hp2 → va_P G sm_cl (sm_pic cA ad hp2) H' → va_D (fun q : Nat => s.heap.size ≤ q) (sm_pic cA ad hp2) → va_S (fun q : Nat => s.heap.size ≤ q) s.heap H' locs' → W p l e room_1 s m #[Value.ref b] below meth c H' locs' cells slots (lw_Z below #[Value.ref b] s) (F0 m lw_pcI arr []) := by
        intro hp2 H' locs' hJ hP2 hD2 hS2
        obtain ⟨off2, d1, d2⟩ := lw_gI
        refine lv_iinc (k := 0) (v := nI (6 * (k + 1))) (lv' := [(3, .int (nI (6 * (k + 1)))), (2, .ref (ad kM)), (1, .ref (ad 0)), (0, .ref b)]) hx hb (lw_dec lw_iI.1 rfl) hl rfl ?_ (by decide) rfl (fun arr2 hl2 => ?_)
        · rw [show Int32.ofInt 6 = nI 6 by decide, nI_add]
          rfl
        · refine lv_goto hx hb d1 d2 ?_
          exact ih (k + 1) hp2 arr2 H' locs' (by omega) hJ hl2 (by omega) hP2 hD2 hS2
      by_cases hj36 : j < 36
      · have hs1 := lw_ops_in j hj36
        have hs2 := lw_offs_ok j hj36
        cases ho : lw_ops[j]? with
        | none => rw [ho] at hs1; cases hs1
        | some q =>
          rw [ho] at hs2
          cases hf : lw_offs[j]? with
          | none => rw [hf] at hs2; cases hs2
          | some off =>
            rw [hf] at hs2
            have hs2 : ((q.1 : Nat) : Int) = 33 + off := Option.some.inj hs2
            have hqi : q ∈ lw_ops := List.mem_of_getElem? ho
            have hqc := List.all_eq_true.mp lw_ops_ok q hqi
            refine lv_tableIn (off := off) (tgt := q.1) hx hb t1 (by rw [eJ]; omega) (by rw [eJ]; omega) ?_ hs2.symm ?_
            · rw [eJ]
              have : ((j : Int) - 0).toNat = j := by omega
              rw [this]
              exact hf
            · exact lw_case X hqc hk6 (by omega) hD0 hl.1 hl.2.1 a0 (lv_at hl 2 rfl) (lv_at hl 1 rfl) a3 hc hs hP hD hS (st1 q hqi _ (lw_vs_len xs k 1 q.2.1)) fin
      · refine lv_tableOut (tgt := lw_pcI) hx hb t1 (by rw [eJ]; omega) lw_tsI ?_
        exact fin hp H locs st2 hP hD hS
end LAWB
