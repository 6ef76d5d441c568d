noncomputable abbrev lw_kM : Nat := 67
noncomputable def lw_c7 : sm_C := .inr (7, [.null, .null, .null, .null, .null, .null, .null, .null, .null, .null, .null, .int 0])
noncomputable def lw_c8 : sm_C := .inr (8, [.null, .null, .null, .int 0, .int 0, .int 0, .int 0, .null, .int 0, .int 0, .int 0, .int 0, .int 0, .int 0, .int 0, .int 0, .int 0, .int 0, .null, .null, .null, .null, .null, .null, .null, .null, .null, .null, .null, .null, .null, .null, .int 0, .int 0, .null, .null, .null, .null, .null, .null, .null, .null, .null, .null, .null, .null, .null])
noncomputable def lw_hA : sm_H := [.inr (7, [.ref 1, .ref 3, .ref 12, .ref 21, .ref 30, .ref 43, .ref 52, .ref 62, .ref 63, .ref 65, .ref 66, .int 0]), .inr (5, [.ref 2, .int 0, .int 0, .int 0, .int 0]), .inl (0, .inl (List.replicate 260 0)), .inr (4, [.int 4, .int 0, .int (-1), .int 0, .int 0, .int 0, .int 1, .ref 4, .ref 5, .ref 6, .ref 7, .ref 8, .ref 9, .ref 10, .ref 11]), .inl (0, .inl (List.replicate 12 (-1))), .inl (0, .inl (List.replicate 12 0)), .inl (0, .inl (List.replicate 12 0)), .inl (0, .inl (List.replicate 12 0)), .inl (0, .inl (List.replicate 12 0)), .inl (0, .inl (List.replicate 12 0)), .inl (0, .inl (List.replicate 12 0)), .inl (1, .inr (List.replicate 12 0)), .inr (4, [.int 4, .int 0, .int (-1), .int 0, .int 0, .int 0, .int 1, .ref 13, .ref 14, .ref 15, .ref 16, .ref 17, .ref 18, .ref 19, .ref 20]), .inl (0, .inl (List.replicate 12 (-1))), .inl (0, .inl (List.replicate 12 0)), .inl (0, .inl (List.replicate 12 0)), .inl (0, .inl (List.replicate 12 0)), .inl (0, .inl (List.replicate 12 0)), .inl (0, .inl (List.replicate 12 0)), .inl (0, .inl (List.replicate 12 0)), .inl (1, .inr (List.replicate 12 0)), .inr (4, [.int 4, .int 0, .int (-1), .int 0, .int 0, .int 0, .int 1, .ref 22, .ref 23, .ref 24, .ref 25, .ref 26, .ref 27, .ref 28, .ref 29]), .inl (0, .inl (List.replicate 12 (-1))), .inl (0, .inl (List.replicate 12 0)), .inl (0, .inl (List.replicate 12 0)), .inl (0, .inl (List.replicate 12 0)), .inl (0, .inl (List.replicate 12 0)), .inl (0, .inl (List.replicate 12 0)), .inl (0, .inl (List.replicate 12 0)), .inl (1, .inr (List.replicate 12 0)), .inr (6, [.ref 3, .ref 31, .ref 32, .ref 33, .ref 34, .ref 35, .ref 36, .ref 37, .ref 38, .ref 39, .ref 40, .ref 41, .ref 42]), .inl (0, .inl (List.replicate 6 0)), .inl (0, .inl (List.replicate 36 0)), .inl (0, .inl (List.replicate 6 0)), .inl (0, .inl (List.replicate 36 0)), .inl (0, .inl (List.replicate 384 0)), .inl (0, .inl (List.replicate 6 0)), .inl (0, .inl (List.replicate 384 0)), .inl (0, .inl (List.replicate 6 0)), .inl (0, .inl (List.replicate 6 0)), .inl (0, .inl (List.replicate 241 0)), .inl (0, .inl (List.replicate 12 0)), .inl (0, .inl (List.replicate 6 0)), .inr (1, [.int 0, .int 0, .ref 44, .ref 45, .ref 46, .ref 47, .ref 48, .ref 49, .ref 50, .ref 51, .int 0]), .inl (0, .inl (List.replicate 16 0)), .inl (0, .inl (List.replicate 16 0)), .inl (0, .inl (List.replicate 16 0)), .inl (0, .inl (List.replicate 16 0)), .inl (0, .inl (List.replicate 240 0)), .inl (0, .inl (List.replicate 240 0)), .inl (0, .inl (List.replicate 8 0)), .inl (0, .inl (List.replicate 40 0)), .inr (2, [.ref 1, .ref 53, .int 0]), .inr (1, [.int 0, .int 0, .ref 54, .ref 55, .ref 56, .ref 57, .ref 58, .ref 59, .ref 60, .ref 61, .int 0]), .inl (0, .inl (List.replicate 16 0)), .inl (0, .inl (List.replicate 16 0)), .inl (0, .inl (List.replicate 16 0)), .inl (0, .inl (List.replicate 16 0)), .inl (0, .inl (List.replicate 240 0)), .inl (0, .inl (List.replicate 240 0)), .inl (0, .inl (List.replicate 8 0)), .inl (0, .inl (List.replicate 40 0)), .inr (0, [.ref 1, .ref 30]), .inr (3, [.ref 43, .ref 64, .int 80, .int 12]), .inl (0, .inl (List.replicate 12 0)), .inl (0, .inl (List.replicate 12 0)), .inl (0, .inl (List.replicate 12 0))]
noncomputable def lw_h0 : sm_H := [.inr (7, [.ref 1, .ref 3, .ref 12, .ref 21, .ref 30, .ref 43, .ref 52, .ref 62, .ref 63, .ref 65, .ref 66, .int 0]), .inr (5, [.ref 2, .int 0, .int 0, .int 0, .int 0]), .inl (0, .inl (List.replicate 260 0)), .inr (4, [.int 4, .int 0, .int (-1), .int 0, .int 0, .int 0, .int 1, .ref 4, .ref 5, .ref 6, .ref 7, .ref 8, .ref 9, .ref 10, .ref 11]), .inl (0, .inl (List.replicate 12 (-1))), .inl (0, .inl (List.replicate 12 0)), .inl (0, .inl (List.replicate 12 0)), .inl (0, .inl (List.replicate 12 0)), .inl (0, .inl (List.replicate 12 0)), .inl (0, .inl (List.replicate 12 0)), .inl (0, .inl (List.replicate 12 0)), .inl (1, .inr (List.replicate 12 0)), .inr (4, [.int 4, .int 0, .int (-1), .int 0, .int 0, .int 0, .int 1, .ref 13, .ref 14, .ref 15, .ref 16, .ref 17, .ref 18, .ref 19, .ref 20]), .inl (0, .inl (List.replicate 12 (-1))), .inl (0, .inl (List.replicate 12 0)), .inl (0, .inl (List.replicate 12 0)), .inl (0, .inl (List.replicate 12 0)), .inl (0, .inl (List.replicate 12 0)), .inl (0, .inl (List.replicate 12 0)), .inl (0, .inl (List.replicate 12 0)), .inl (1, .inr (List.replicate 12 0)), .inr (4, [.int 4, .int 0, .int (-1), .int 0, .int 0, .int 0, .int 1, .ref 22, .ref 23, .ref 24, .ref 25, .ref 26, .ref 27, .ref 28, .ref 29]), .inl (0, .inl (List.replicate 12 (-1))), .inl (0, .inl (List.replicate 12 0)), .inl (0, .inl (List.replicate 12 0)), .inl (0, .inl (List.replicate 12 0)), .inl (0, .inl (List.replicate 12 0)), .inl (0, .inl (List.replicate 12 0)), .inl (0, .inl (List.replicate 12 0)), .inl (1, .inr (List.replicate 12 0)), .inr (6, [.ref 3, .ref 31, .ref 32, .ref 33, .ref 34, .ref 35, .ref 36, .ref 37, .ref 38, .ref 39, .ref 40, .ref 41, .ref 42]), .inl (0, .inl (List.replicate 6 0)), .inl (0, .inl (List.replicate 36 0)), .inl (0, .inl (List.replicate 6 0)), .inl (0, .inl (List.replicate 36 0)), .inl (0, .inl (List.replicate 384 0)), .inl (0, .inl (List.replicate 6 0)), .inl (0, .inl (List.replicate 384 0)), .inl (0, .inl (List.replicate 6 0)), .inl (0, .inl (List.replicate 6 0)), .inl (0, .inl (List.replicate 241 0)), .inl (0, .inl (List.replicate 12 0)), .inl (0, .inl (List.replicate 6 0)), .inr (1, [.int 0, .int 0, .ref 44, .ref 45, .ref 46, .ref 47, .ref 48, .ref 49, .ref 50, .ref 51, .int 0]), .inl (0, .inl (List.replicate 16 0)), .inl (0, .inl (List.replicate 16 0)), .inl (0, .inl (List.replicate 16 0)), .inl (0, .inl (List.replicate 16 0)), .inl (0, .inl (List.replicate 240 0)), .inl (0, .inl (List.replicate 240 0)), .inl (0, .inl (List.replicate 8 0)), .inl (0, .inl (List.replicate 40 0)), .inr (2, [.ref 1, .ref 53, .int 0]), .inr (1, [.int 0, .int 0, .ref 54, .ref 55, .ref 56, .ref 57, .ref 58, .ref 59, .ref 60, .ref 61, .int 0]), .inl (0, .inl (List.replicate 16 0)), .inl (0, .inl (List.replicate 16 0)), .inl (0, .inl (List.replicate 16 0)), .inl (0, .inl (List.replicate 16 0)), .inl (0, .inl (List.replicate 240 0)), .inl (0, .inl (List.replicate 240 0)), .inl (0, .inl (List.replicate 8 0)), .inl (0, .inl (List.replicate 40 0)), .inr (0, [.ref 1, .ref 30]), .inr (3, [.ref 43, .ref 64, .int 80, .int 12]), .inl (0, .inl (List.replicate 12 0)), .inl (0, .inl (List.replicate 12 0)), .inl (0, .inl (List.replicate 12 0)), .inr (8, [.ref 68, .ref 69, .ref 70, .int 4, .int 80, .int 12, .int 0, .ref 71, .int 0, .int 0, .int 0, .int 0, .int 0, .int 0, .int 0, .int 0, .int 0, .int 0, .ref 72, .ref 73, .ref 74, .ref 75, .ref 76, .ref 77, .ref 78, .ref 79, .ref 80, .ref 81, .ref 82, .ref 83, .ref 84, .ref 85, .int 0, .int 0, .ref 86, .ref 87, .ref 88, .ref 89, .ref 90, .ref 91, .ref 92, .ref 93, .ref 94, .ref 95, .ref 96, .ref 97, .ref 98]), .inl (0, .inl ([0, 0, 0, 0, 0, 0, 0, 0, 0, 0, 0, 0, 0, 0, 0, 0, 0, 0, 0, 0, 0, 0, 0, 0, 0, 0, 0, 0, 0, 0, 0, 0, 0, 0, 0, 0, 0, 0, 0, 0, 0, 0, 0, 0, 0, 0, 0, 0, 0, 0, 0, 0, 0, 0, 0, 0, 0, 0, 0, 0, 0, 0, 0, 0, 0, 0, 0, 0, 0, 0, 0, 0, 0, 0, 0, 0, 0, 0, 0, 0, 0, 0, 0, 0, 0, 0, 0, 0, 0, 0, 0, 0, 0, 0, 0, 0, 0, 0, 0, 0, 0, 0, 0, 0, 0, 0, 0, 0, 0, 0, 0, 0, 0, 0, 0, 0, 0, 0, 0, 0, 0, 0, 0, 0, 0, 0, 0, 0, 0, 0, 0, 0, 0, 0, 0, 0, 0, 0, 0, 0, 0, 0, 0, 0, 0, -2, 0, 0, 0, 1])), .inl (0, .inl (List.replicate 150 0)), .inl (0, .inl (List.replicate 150 0)), .inl (2, .inl (List.replicate 260 0)), .inl (0, .inl (List.replicate 260 0)), .inl (0, .inl (List.replicate 260 0)), .inl (0, .inl (List.replicate 16 0)), .inl (0, .inl (List.replicate 16 0)), .inl (0, .inl (List.replicate 16 0)), .inl (0, .inl (List.replicate 16 0)), .inl (0, .inl (List.replicate 260 0)), .inl (0, .inl (List.replicate 16 0)), .inl (0, .inl (List.replicate 16 0)), .inl (0, .inl (List.replicate 16 0)), .inl (0, .inl (List.replicate 16 0)), .inl (0, .inl (List.replicate 260 0)), .inl (0, .inl (List.replicate 8 0)), .inl (0, .inl (List.replicate 6 0)), .inl (0, .inl (List.replicate 12 0)), .inl (0, .inl (List.replicate 6 0)), .inl (0, .inl (List.replicate 6 0)), .inl (0, .inl (List.replicate 6 0)), .inl (0, .inl (List.replicate 36 0)), .inl (0, .inl (List.replicate 9 0)), .inl (0, .inl (List.replicate 6 0)), .inl (0, .inl (List.replicate 6 0)), .inl (0, .inl (List.replicate 6 0)), .inl (0, .inl (List.replicate 12 0)), .inl (0, .inl (List.replicate 6 0)), .inl (0, .inl (List.replicate 12 0)), .inl (0, .inl (List.replicate 12 0))]
noncomputable def sm_eqC (a b : sm_C) : Bool := match a, b with
  | .inl (k, .inl l), .inl (j, .inl r) => Nat.beq k j && decide (l = r)
  | .inl (k, .inr l), .inl (j, .inr r) => Nat.beq k j && decide (l = r)
  | .inr (k, l), .inr (j, r) => Nat.beq k j && decide (l = r)
  | _, _ => false
theorem sm_eqC_eq {a b : sm_C} (h : sm_eqC a b = true) : a = b := by
  unfold sm_eqC at h
  split at h
  · simp only [Bool.and_eq_true, Nat.beq_eq, decide_eq_true_eq] at h
    rw [h.1, h.2]
  · simp only [Bool.and_eq_true, Nat.beq_eq, decide_eq_true_eq] at h
    rw [h.1, h.2]
  · simp only [Bool.and_eq_true, Nat.beq_eq, decide_eq_true_eq] at h
    rw [h.1, h.2]
  · cases h
noncomputable def sm_eqH : sm_H → sm_H → Bool
  | [], [] => true
  | a :: l, b :: r => sm_eqC a b && sm_eqH l r
  | _, _ => false
theorem sm_eqH_eq : ∀ {a b : sm_H}, sm_eqH a b = true → a = b
  | [], [], _ => rfl
  | a :: l, b :: r, h => by
    simp only [sm_eqH, Bool.and_eq_true] at h
    rw [sm_eqC_eq h.1, sm_eqH_eq h.2]
  | [], _ :: _, h => by cases h
  | _ :: _, [], h => by cases h
noncomputable def sm_eqO (x : Option sm_O) (v : Option Value) (hp : sm_H) (c s : Nat) : Bool := match x with
  | some o => decide (o.1 = v) && sm_eqH o.2.1 hp && Nat.beq o.2.2.1 c && Nat.beq o.2.2.2 s
  | none => false
theorem sm_eqO_eq {x : Option sm_O} {v : Option Value} {hp : sm_H} {c s : Nat} (h : sm_eqO x v hp c s = true) : x = some (v, hp, c, s) := by
  unfold sm_eqO at h
  split at h
  · rename_i o
    simp only [Bool.and_eq_true, Nat.beq_eq, decide_eq_true_eq] at h
    obtain ⟨⟨⟨h1, h2⟩, h3⟩, h4⟩ := h
    obtain ⟨o1, o2, o3, o4⟩ := o
    dsimp only at h1 h2 h3 h4
    rw [h1, sm_eqH_eq h2, h3, h4]
  · cases h
set_option maxRecDepth 100000 in
theorem lw_rub1 : sm_eqO (sm_call 3000 4 lw_m1 [.ref 0] [lw_c7]) none lw_hA 66 2991 = true := by decide +kernel
theorem lw_ru1 : sm_call 3000 4 lw_m1 [.ref 0] [lw_c7] = some (none, lw_hA, 66, 2991) := sm_eqO_eq lw_rub1
set_option maxRecDepth 100000 in
theorem lw_rub2 : sm_eqO (sm_call 3000 4 lw_m2 [.ref 67] (lw_hA ++ [lw_c8])) none lw_h0 31 2027 = true := by decide +kernel
theorem lw_ru2 : sm_call 3000 4 lw_m2 [.ref 67] (lw_hA ++ [lw_c8]) = some (none, lw_h0, 31, 2027) := sm_eqO_eq lw_rub2
theorem lw_hA_ok : sm_rh lw_hA.length lw_hA = true ∧ lw_hA.length = 67 ∧ lw_h0.length = 99 := by decide +kernel
noncomputable abbrev lw_n1 : Nat × Nat × Nat × Nat := (66, 2991, 31, 2027)
theorem lw_iS : lw_i 0 (.new 7) = true ∧ lw_i 3 .dup = true ∧ lw_i 7 (.astore_n 1) = true ∧ lw_i 8 (.new 10) = true ∧ lw_i 11 .dup = true ∧ lw_i 15 (.astore_n 2) = true ∧ lw_i 16 (.iconst 0) = true ∧ lw_i 17 (.istore_n 3) = true := by decide +kernel
theorem lw_q4 : lw_cd 4 = some (.invokespecial 9, 3, lw_m1, 0) := rfl
theorem lw_q12 : lw_cd 12 = some (.invokespecial 12, 3, lw_m2, 0) := rfl
theorem lw_known {s : State} {args : Array Value} (hts : ∀ w ∈ sm_W, w.before args s = true) : ∃ (G : va_G) (cA : Nat → ClassId), va_K G sm_cl (sm_ty cA) s := by
  have h : ∀ a : Nat, ∃ (cC : ClassId) (iS : Nat → Nat), ∀ r : vw_C, sm_cl[a]? = some r → u_Kn s r.1 r.2.1 r.2.2 cC iS := by
    intro a
    cases hr : sm_cl[a]? with
    | none => exact ⟨0, fun _ => 0, fun r z => by cases z⟩
    | some r =>
      obtain ⟨w1, w2, -⟩ := sm_cw hr
      obtain ⟨cC, iS, hu⟩ := u_known (n := r.2.2) hts w1 (hts _ w2)
      exact ⟨cC, iS, fun r' z => by cases z; exact hu⟩
  have ha : ∀ ty : FieldType, (∀ z, ty ≠ .object z) → Jvm.Cond.arrayClass ty ∈ sm_W → ∃ cA : ClassId, ArrOfT s cA ty ∧ va_RA s cA ty := by
    intro ty hne hw
    obtain ⟨cA, kA, comp, h1, h2, h3⟩ := Cond.arrayClass_spec (hts _ hw)
    refine ⟨cA, fun n z => ⟨fun k h => (by cases h), kA, h2, comp, h3⟩, ?_⟩
    cases ty with
    | object z => exact absurd rfl (hne z)
    | _ => exact h1
  obtain ⟨cI, hI⟩ := ha .int (fun z h => by cases h) (sm_inW sm_wa_int rfl)
  obtain ⟨cL, hL⟩ := ha .long (fun z h => by cases h) (sm_inW sm_wa_long rfl)
  obtain ⟨cB, hB⟩ := ha .byte (fun z h => by cases h) (sm_inW sm_wa_byte rfl)
  refine ⟨(fun a => Classical.choose (h a), fun a => Classical.choose (Classical.choose_spec (h a))), fun j => if j = 0 then cI else if j = 1 then cL else cB, fun a r hr => Classical.choose_spec (Classical.choose_spec (h a)) r hr, fun k q hq => ?_⟩
  match k, hq with
  | 0, hq => cases hq; exact hI
  | 1, hq => cases hq; exact hL
  | 2, hq => cases hq; exact hB
  | k + 3, hq => cases hq
theorem lw_C7 : Jvm.Cond.classLink (sm_o mmL.2.2.2.2.1) 7 "TeaCabinet" ∈ sm_W := by
  obtain ⟨r, h1, h2⟩ := sm_cl' (o := mmL.2.2.2.2.1) (idx := 7) (a := 7) (by decide +kernel)
  cases h1
  exact h2
theorem lw_C8 : Jvm.Cond.classLink (sm_o mmL.2.2.2.2.1) 10 "TeaCabinetModel" ∈ sm_W := by
  obtain ⟨r, h1, h2⟩ := sm_cl' (o := mmL.2.2.2.2.1) (idx := 10) (a := 8) (by decide +kernel)
  cases h1
  exact h2
set_option maxHeartbeats 8000000 in
set_option maxRecDepth 100000 in
/-- the claim out of the shadow machine -/
theorem lw_from {p : Program} {e : Env} {s : State} {m : MethodId} {below : List Frame} {meth : Method} {c : Code} (l : Launch) {b L D : Nat} {xs : Nat → Int32} (hL : L ≤ 3072) (hD0 : D ≤ 1000) (Inv : Nat → sm_H → Prop) (hI0 : Inv 0 lw_h0) (hstep : ∀ (k : Nat) (hp : sm_H), 6 * k + 6 ≤ 3072 → Inv k hp → (∀ (q : lw_D), q ∈ lw_ops → ∀ as : List Int32, as.length = q.2.1 → lw_good lw_kM D q as hp (Inv (k + 1))) ∧ Inv (k + 1) hp) (C0 : lw_At p s m meth c b L xs) : W p l e room_1 s m #[Value.ref b] below meth c s.heap [] 0 0 (lw_Z below #[Value.ref b] s) (entryFrame m ([Value.ref b] : List Value).toArray 4) := by
  have hSx := sx_start C0
  obtain ⟨hx, hb, hr, hml, hown, htsA, hX, hbl, hlocks, hgv⟩ := C0
  have hts : ∀ w ∈ sm_W, w.before #[Value.ref b] s = true := fun w hw => htsA w (List.mem_filter.mp hw).1
  have hNw : ∀ w ∈ sm_NW, va_Nw w s := fun w hw => by
    have h1 := htsA w (List.mem_filter.mp hw).1
    obtain ⟨a, i, x, h, rfl⟩ := sm_isN_of hw
    exact va_Nw.of rfl h1
  obtain ⟨G, cA, hK⟩ := lw_known hts
  have hA : ∀ q : Nat, s.heap.size ≤ q → (fun q : Nat => s.heap.size ≤ q) q := fun _ h => h
  have SX : sm_Cx p s m #[Value.ref b] meth c G cA (fun q : Nat => s.heap.size ≤ q) room_1 mmL := ⟨hx, hb, hml, hown, hts, ⟨hNw, hSx⟩, hK, hA, fun z => absurd z (by decide +kernel), by decide, by decide⟩
  have X : lw_Cx p s m meth c b L xs G cA := ⟨SX, hX, hbl, hlocks, hr⟩
  obtain ⟨i0, i3, i7, i8, i11, i15, i16, i17⟩ := lw_iS
  have hS : va_S (fun q : Nat => s.heap.size ≤ q) s.heap s.heap [] := va_S.rf
  have hP : va_P G sm_cl [] s.heap := fun k q h => by simp at h
  have hD : va_D (fun q : Nat => s.heap.size ≤ q) ([] : va_W) := ⟨fun i j x y h => by simp at h, fun k q h => by simp at h⟩
  have hl := lv_entry ([.ref b]) (n := 4) (Nat.le_of_ble_eq_true rfl)
  rw [lg_entry_eq]
  generalize (lg_sl ([.ref b]) ++ List.replicate (4 - (lg_sl ([.ref b])).length) Slot.unset).toArray = arr at hl ⊢
  have hl : lv_has arr 4 [(0, .ref b)] := hl
  obtain ⟨u1, u2, u3, u4, u5, u6, u7⟩ := sm_cw (a := 7) (r := ("TeaCabinet", fT7, 12)) rfl
  obtain ⟨v1, v2, v3, v4, v5, v6, v7⟩ := sm_cw (a := 8) (r := ("TeaCabinetModel", fT8, 47)) rfl
  refine va_new (D := G) (ci := 7) (fs := (List.range 12).map (fun k => defaultValue (sm_ft 7 k))) (C := "TeaCabinet") (T := fT7) (N := 12) hx hb hts u1 (sm_ft 7) u5 hown (hts _ lw_C7) (hts _ u2) (hts _ u3) hK hP hD hS hA rfl (fun j hj => ?_) (by decide) (by decide) (lw_dec i0 rfl) (fun q1 H hP hD hS => ?_)
  · unfold vp_V
    rw [List.getD_eq_getElem?_getD, List.getElem?_map, List.getElem?_range hj]
    rfl
  have hP : va_P G sm_cl (sm_pic cA (fun _ => q1) [lw_c7]) H := hP
  have hD : va_D (fun q : Nat => s.heap.size ≤ q) (sm_pic cA (fun _ => q1) [lw_c7]) := hD
  refine lv_dup hx hb (lw_dec i3 rfl) rfl ?_
  obtain ⟨d1, d2, d3⟩ := sm_at0 (E := mmL) (pc := 4) (q := (.invokespecial 9, 3, lw_m1, 0)) ⟨trL, rfl⟩ ckL lw_q4
  have nLc : ∀ (ad : Nat → Nat) (arr : Array Slot) (lv : List (Nat × Value)), lv_has arr 4 lv → sm_Lc ad (List.replicate 4 none) mmL.2.2.1 arr := fun ad arr lv hl => ⟨hl.1, hl.2.1, rfl, fun i v z => by
    rw [List.getElem?_replicate] at z
    split at z <;> cases z⟩
  refine sm_s_call (ls := List.replicate 4 none) (st := [.ref 0, .ref 0]) (ad := fun _ => q1) (f := (lw_m1, [.ref 0], [.ref 0])) (sm_meets (l := l) 3000 4) SX ⟨by decide, by decide⟩ d1 d2 d3 rfl lw_ru1 (by decide) (by decide) (nLc _ _ _ hl) hP hD hS (fun ad1 H1 locs1 g1 g2 g3 hP1 hD1 hS1 => ?_)
  have ad10 : ad1 0 = q1 := g1 0 (by decide)
  refine lv_astore_n (x := q1) (lv' := [(1, .ref q1), (0, .ref b)]) hx hb (lw_dec i7 rfl) rfl hl (by decide) rfl (fun arr hl => ?_)
  refine va_new (D := G) (ci := 8) (fs := (List.range 47).map (fun k => defaultValue (sm_ft 8 k))) (C := "TeaCabinetModel") (T := fT8) (N := 47) hx hb hts v1 (sm_ft 8) v5 hown (hts _ lw_C8) (hts _ v2) (hts _ v3) hK hP1 hD1 hS1 hA rfl (fun j hj => ?_) (by decide) (by decide) (lw_dec i8 rfl) (fun q2 H2 hP2 hD2 hS2 => ?_)
  · unfold vp_V
    rw [List.getD_eq_getElem?_getD, List.getElem?_map, List.getElem?_range hj]
    rfl
  have ha2 : ∀ k, k < lw_hA.length → (fun j => if j = 67 then q2 else ad1 j) k = ad1 k := fun k hk => if_neg (by rw [lw_hA_ok.2.1] at hk; omega)
  have ep : sm_pic cA (fun j => if j = 67 then q2 else ad1 j) (lw_hA ++ [lw_c8]) = sm_pic cA ad1 lw_hA ++ [(q2, .inr (8, (List.range 47).map (fun k => defaultValue (sm_ft 8 k))))] := by
    rw [sm_pic_app, sm_pic_ext lw_hA_ok.1 ha2, lw_hA_ok.2.1]
    rfl
  have hP2 : va_P G sm_cl (sm_pic cA (fun j => if j = 67 then q2 else ad1 j) (lw_hA ++ [lw_c8])) H2 := by rw [ep]; exact hP2
  have hD2 : va_D (fun q : Nat => s.heap.size ≤ q) (sm_pic cA (fun j => if j = 67 then q2 else ad1 j) (lw_hA ++ [lw_c8])) := by rw [ep]; exact hD2
  refine lv_dup hx hb (lw_dec i11 rfl) rfl ?_
  obtain ⟨d1, d2, d3⟩ := sm_at0 (E := mmL) (pc := 12) (q := (.invokespecial 12, 3, lw_m2, 0)) ⟨trL, rfl⟩ ckL lw_q12
  refine sm_s_call (ls := List.replicate 4 none) (st := [.ref 67, .ref 67]) (ad := fun j => if j = 67 then q2 else ad1 j) (f := (lw_m2, [.ref 67], [.ref 67])) (sm_meets (l := l) 3000 4) SX ⟨by decide, by decide⟩ d1 d2 d3 rfl lw_ru2 (by decide) (by decide) (nLc _ _ _ hl) hP2 hD2 hS2 (fun ad3 H3 locs3 g1 g2 g3 hP3 hD3 hS3 => ?_)
  have hlen2 : (lw_hA ++ [lw_c8]).length = 67 + 1 := by rw [List.length_append, lw_hA_ok.2.1]; rfl
  have ad30 : ad3 0 = q1 := by
    rw [g1 0 (by rw [hlen2]; omega)]
    exact ad10
  have ad3k : ad3 67 = q2 := g1 67 (by rw [hlen2]; omega)
  refine lv_astore_n (x := q2) (lv' := [(2, .ref q2), (1, .ref q1), (0, .ref b)]) hx hb (lw_dec i15 rfl) rfl hl (by decide) rfl (fun arr hl => ?_)
  refine lv_iconst (v := 0) hx hb (lw_dec i16 rfl) (by decide) ?_
  refine lv_istore_n (lv' := [(3, .int 0), (2, .ref q2), (1, .ref q1), (0, .ref b)]) hx hb (lw_dec i17 rfl) rfl hl (by decide) rfl (fun arr hl => ?_)
  have hl : lv_has arr 4 [(3, .int (nI (6 * 0))), (2, .ref (ad3 lw_kM)), (1, .ref (ad3 0)), (0, .ref b)] := by
    rw [ad30, show ad3 lw_kM = q2 from ad3k]
    exact hl
  exact lw_loop X (kM := lw_kM) (D := D) (Lm := 3072) Inv hL (by decide) hD0 hstep (by decide) (by decide) (L + 1) 0 lw_h0 arr H3 locs3 (by omega) hI0 hl (by omega) hP3 hD3 hS3

