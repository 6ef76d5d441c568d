/-! a condition -/
section PS5
variable {d : Nat} {F : Nat → Nat → Int32} {A : Nat → List Int32} {L : Nat → List Int64} {Q : Option Value → sm_H → Prop}
/-- the loops of a condition: F0, A0 as they were at its start -/
noncomputable def csI (F0 : Nat → Nat → Int32) (A0 : Nat → List Int32) (a : Nat) (F : Nat → Nat → Int32) (A : Nat → List Int32) (k w e : Nat) : Prop := conI a F A k w e ∧ conB F0 A0 F A ∧ (∀ i, i < a → (A 72)[i]? = (A0 72)[i]?) ∧ 1 ≤ w ∧ opn (A 73) 0 = 13 ∧ (F0 67 9).toInt < (F 67 9).toInt
theorem cs_push {F0 : Nat → Nat → Int32} {A0 : Nat → List Int32} {a k w : Nat} {o : Int32} (h : csI F0 A0 a F A k w 0) (hlt : (F 67 9).toInt < (F 67 10).toInt) (ho : o.toInt = 10 ∨ o.toInt = 13) : csI F0 A0 a (uF (uF (uF F 67 13 ((F 67 13) + 1)) 67 15 ((F 67 15) + 1)) 67 9 ((F 67 9) + 1)) (uA A 73 ((A 73).set w (1048576 * o))) k (w + 1) 0 := by
  obtain ⟨⟨i1, i2, i3, i4, i5, i6, i7, i8, i9, i10, i11, i12⟩, hB, hL, h1, h0, hP⟩ := h
  have p1 : (F 67 9 + 1).toInt = (F 67 9).toInt + 1 := i_1 (by omega)
  have w1 : (F 67 15 + 1).toInt = ((w + 1 : Nat) : Int) := by rw [i_1 (by omega), i4]; omega
  have hl : w < (A 73).length := by omega
  have ht : ∀ i, i < w → ((A 73).set w (1048576 * o))[i]? = (A 73)[i]? := fun i hi => set_ne (by omega)
  have hop : opn ((A 73).set w (1048576 * o)) w = o.toInt := by rw [opn_set hl]; exact (kcode0 ⟨by omega, by omega⟩).1
  have hB2 : conB F A (uF (uF (uF F 67 13 ((F 67 13) + 1)) 67 15 ((F 67 15) + 1)) 67 9 ((F 67 9) + 1)) (uA A 73 ((A 73).set w (1048576 * o))) := ⟨frF_u (frF_u (frF_u frF_rf (by decide)) (by decide)) (by decide), frA_u frA_rf (by decide), by show _ ≤ (F 67 9 + 1).toInt; omega, by show (F 67 9 + 1).toInt ≤ _; omega, i9, by show ((A 73).set w _).length = 260; rw [List.length_set]; exact i10⟩
  refine ⟨⟨?_, ?_, i3, w1, i5, ?_, ?_, i8, i9, by show ((A 73).set w _).length = 260; rw [List.length_set]; exact i10, ?_, ?_⟩, conB_tr hB hB2, hL, by omega, ?_, by show _ < (F 67 9 + 1).toInt; omega⟩
  · show 0 ≤ (F 67 9 + 1).toInt
    omega
  · show (F 67 9 + 1).toInt ≤ (F 67 10).toInt
    omega
  · show ((w + 1 : Nat) : Int) ≤ (F 67 9 + 1).toInt
    omega
  · show ((k + (nn ((A 73).set w (1048576 * o)) w + (if opn ((A 73).set w (1048576 * o)) w = 10 then 1 else 0)) : Nat) : Int) ≤ (F 67 9 + 1).toInt
    rw [nn_ext w (fun i hi => opn_of (ht i hi))]
    split <;> omega
  · show jin ((A 73).set w (1048576 * o)) (A 72) a k (w + 1)
    intro i hi
    by_cases e : i = w
    · subst e
      rw [hop]
      exact Or.inl (by omega)
    · exact jin_ext i11 ht (fun _ _ _ => rfl) (Nat.le_refl _) i (by omega)
  · show cwp (A 72) (jP ((A 73).set w (1048576 * o)) (w + 1)) a k 0
    refine cwp_ext i12 (fun _ _ _ => rfl) (fun j hj => ?_)
    obtain ⟨i, q1, q2, q3⟩ := jP_ext ht j hj
    exact ⟨i, by omega, q2, q3⟩
  · show opn ((A 73).set w (1048576 * o)) 0 = 13
    rw [opn_of (ht 0 (by omega))]
    exact h0
theorem cs_jump {F0 : Nat → Nat → Int32} {A0 : Nat → List Int32} {a k w : Nat} {o : Int32} (h : csI F0 A0 a F A k w 1) (hlt : (F 67 9).toInt < (F 67 10).toInt) (ho : o.toInt = 11 ∨ o.toInt = 12) : csI F0 A0 a (uF (uF (uF F 67 15 ((F 67 15) + 1)) 67 14 ((F 67 14) + 1)) 67 9 ((F 67 9) + 1)) (uA (uA A 73 ((A 73).set w ((1048576 * o) + (F 67 14)))) 72 ((A 72).set k ((1048576 * o) + (0)))) (k + 1) (w + 1) 0 := by
  obtain ⟨⟨i1, i2, i3, i4, i5, i6, i7, i8, i9, i10, i11, i12⟩, hB, hL, h1, h0, hP⟩ := h
  have hak := i12.1
  have p1 : (F 67 9 + 1).toInt = (F 67 9).toInt + 1 := i_1 (by omega)
  have w1 : (F 67 15 + 1).toInt = ((w + 1 : Nat) : Int) := by rw [i_1 (by omega), i4]; omega
  have k1 : (F 67 14 + 1).toInt = ((k + 1 : Nat) : Int) := by rw [i_1 (by omega), i5]; omega
  have hl : w < (A 73).length := by omega
  obtain ⟨-, c1, c2⟩ := kcode (o := o) (v := F 67 14) ⟨by omega, by omega⟩ ⟨by omega, by omega⟩
  obtain ⟨-, c3, c4⟩ := kcode (o := o) (v := 0) ⟨by omega, by omega⟩ ⟨by decide, by decide⟩
  have ht : ∀ i, i < w → ((A 73).set w (1048576 * o + F 67 14))[i]? = (A 73)[i]? := fun i hi => set_ne (by omega)
  have hop : opn ((A 73).set w (1048576 * o + F 67 14)) w = o.toInt := by rw [opn_set hl]; exact c1
  have hgd : kvl (((A 73).set w (1048576 * o + F 67 14)).getD w 0) = (k : Int) := by
    rw [List.getD_eq_getElem?_getD, List.getElem?_set_self hl]
    show kvl (1048576 * o + F 67 14) = _
    rw [c2, i5]
  have hB2 : conB F A (uF (uF (uF F 67 15 ((F 67 15) + 1)) 67 14 ((F 67 14) + 1)) 67 9 ((F 67 9) + 1)) (uA (uA A 73 ((A 73).set w ((1048576 * o) + (F 67 14)))) 72 ((A 72).set k ((1048576 * o) + (0)))) := ⟨frF_u (frF_u (frF_u frF_rf (by decide)) (by decide)) (by decide), frA_u (frA_u frA_rf (by decide)) (by decide), by show _ ≤ (F 67 9 + 1).toInt; omega, by show (F 67 9 + 1).toInt ≤ _; omega, by show ((A 72).set k _).length = 260; rw [List.length_set]; exact i9, by show ((A 73).set w _).length = 260; rw [List.length_set]; exact i10⟩
  refine ⟨⟨?_, ?_, i3, w1, k1, ?_, ?_, i8, by show ((A 72).set k _).length = 260; rw [List.length_set]; exact i9, by show ((A 73).set w _).length = 260; rw [List.length_set]; exact i10, ?_, ?_⟩, conB_tr hB hB2, fun i hi => ?_, by omega, ?_, by show _ < (F 67 9 + 1).toInt; omega⟩
  · show 0 ≤ (F 67 9 + 1).toInt
    omega
  · show (F 67 9 + 1).toInt ≤ (F 67 10).toInt
    omega
  · show ((w + 1 : Nat) : Int) ≤ (F 67 9 + 1).toInt
    omega
  · show ((k + 1 + (nn ((A 73).set w (1048576 * o + F 67 14)) w + (if opn ((A 73).set w (1048576 * o + F 67 14)) w = 10 then 1 else 0)) : Nat) : Int) ≤ (F 67 9 + 1).toInt
    rw [nn_ext w (fun i hi => opn_of (ht i hi)), hop, if_neg (by omega)]
    omega
  · show jin ((A 73).set w (1048576 * o + F 67 14)) ((A 72).set k (1048576 * o + 0)) a (k + 1) (w + 1)
    intro i hi
    by_cases e : i = w
    · subst e
      refine Or.inr ⟨by unfold isJ; rw [hop]; exact ho, k, hgd, hak, by omega, ⟨_, List.getElem?_set_self (by omega), by rw [c3]; exact ho, by rw [c4]; rfl⟩, fun i' hi' hz => ?_⟩
      rw [gd_of (ht i' hi')]
      unfold isJ at hz
      rw [opn_of (ht i' hi')] at hz
      rcases i11 i' hi' with z | ⟨-, j, q1, q2, q3, -⟩
      · omega
      · rw [q1]
        omega
    · exact jin_ext i11 ht (fun j q1 q2 => set_ne (by omega)) (by omega) i (by omega)
  · show cwp ((A 72).set k (1048576 * o + 0)) (jP ((A 73).set w (1048576 * o + F 67 14)) (w + 1)) a (k + 1) 0
    refine cwp_ext (cwp_one (e' := 0) i12 (by omega) (Or.inr ⟨by rw [c3]; exact ho, by rw [c4]; rfl, rfl⟩)) (fun _ _ _ => rfl) (fun j hj => ?_)
    rcases hj with hj | ⟨hj, -⟩
    · obtain ⟨i, q1, q2, q3⟩ := jP_ext ht j hj
      exact ⟨i, by omega, q2, q3⟩
    · subst hj
      exact ⟨w, by omega, by unfold isJ; rw [hop]; exact ho, hgd⟩
  · show ((A 72).set k _)[i]? = _
    rw [set_ne (by omega)]
    exact hL i hi
  · show opn ((A 73).set w (1048576 * o + F 67 14)) 0 = 13
    rw [opn_of (ht 0 (by omega))]
    exact h0
/-- behind a condition -/
noncomputable def conP (F : Nat → Nat → Int32) (A : Nat → List Int32) (a : Nat) (r : Int32) (F' : Nat → Nat → Int32) (A' : Nat → List Int32) : Prop :=
  conB F A F' A' ∧ (r = 0 ∨ (r = 1 ∧ (∀ i, i < a → (A' 72)[i]? = (A 72)[i]?) ∧ (F 67 9).toInt < (F' 67 9).toInt ∧ ∃ k' : Nat, (F' 67 14).toInt = (k' : Int) ∧ (k' : Int) ≤ (F' 67 9).toInt ∧ cw_seg (A' 72) a k'))
set_option maxHeartbeats 2000000 in
theorem r_con_loop {F0 : Nat → Nat → Int32} {A0 : Nat → List Int32} {a : Nat} (hQ : ∀ (r : Int32) (F' : Nat → Nat → Int32) (A' : Nat → List Int32), conP F0 A0 a r F' A' → Q (some (.int r)) (hz F' A' L)) : ∀ m : Nat, (∀ (F : Nat → Nat → Int32) (A : Nat → List Int32) (k w : Nat), (F 67 10).toInt - (F 67 9).toInt ≤ (m : Int) → csI F0 A0 a F A k w 0 → wp_E (d + 6) mm166.2.2.2.2.2.2.2.2 40 [some (.ref 67)] [] (hz F A L) Q) ∧ (∀ (F : Nat → Nat → Int32) (A : Nat → List Int32) (k w : Nat), (F 67 10).toInt - (F 67 9).toInt ≤ (m : Int) → csI F0 A0 a F A k w 1 → wp_E (d + 6) mm166.2.2.2.2.2.2.2.2 92 [some (.ref 67)] [] (hz F A L) Q) := by
  intro m
  induction m with
  | zero =>
    constructor
    · intro F A k w hm hI
      obtain ⟨hc, hB, hL, h1, h0, hP⟩ := hI
      have hc' := hc
      obtain ⟨i1, i2, i3, i4, i5, i6, i7, i8, i9, i10, i11, i12⟩ := hc
      have hs : 0 ≤ (F 67 9).toInt ∧ (F 67 10).toInt ≤ ((A 71).length : Int) := ⟨i1, by omega⟩
      have hn : hV (F 67 9) (F 67 10) (A 71) = (-1) := if_neg (by omega)
      refine g_con2 ⟨hs, fun z => absurd (hn.symm.trans z) (by decide), fun _ => ⟨hs, fun _ => ?_, fun z => absurd (hn.symm.trans z) (by decide)⟩⟩
      refine r_cmp hc' (fun r F1 A1 g1 g2 => ?_)
      show wp_E (d + 6) mm166.2.2.2.2.2.2.2.2 87 [some (.ref 67)] [.int r] (hz F1 A1 L) Q
      rcases g2 with g2 | ⟨-, -, g3, -⟩
      · exact g_con3 ⟨fun z => absurd g2 z, fun _ => hQ 0 F1 A1 ⟨conB_tr hB g1, Or.inl rfl⟩⟩
      · have := g1.2.2.2.1
        omega
    · intro F A k w hm hI
      obtain ⟨⟨i1, i2, i3, i4, i5, i6, i7, i8, i9, i10, i11, i12⟩, hB, hL, h1, h0, hP⟩ := hI
      have hs : 0 ≤ (F 67 9).toInt ∧ (F 67 10).toInt ≤ ((A 71).length : Int) := ⟨i1, by omega⟩
      have hn : hV (F 67 9) (F 67 10) (A 71) = (-1) := if_neg (by omega)
      refine g_con4 ⟨hs, fun _ => ⟨hs, fun z => absurd (hn.symm.trans z) (by decide), fun _ => ⟨hs, fun z => absurd (hn.symm.trans z) (by decide), fun _ => ?_⟩⟩, fun z => absurd (hn.symm.trans z) (by decide)⟩
      exact hQ 0 _ A ⟨conB_tr hB ⟨frF_u frF_rf (by decide), frA_rf, Int.le_refl _, i2, i9, i10⟩, Or.inl rfl⟩
  | succ m ih =>
    obtain ⟨ih40, ih92⟩ := ih
    constructor
    · intro F A k w hm hI
      have hI' := hI
      obtain ⟨hc, hB, hL, h1, h0, hP⟩ := hI
      have hc' := hc
      obtain ⟨i1, i2, i3, i4, i5, i6, i7, i8, i9, i10, i11, i12⟩ := hc
      have hs : 0 ≤ (F 67 9).toInt ∧ (F 67 10).toInt ≤ ((A 71).length : Int) := ⟨i1, by omega⟩
      have hsw : 0 ≤ (F 67 15).toInt ∧ (F 67 15).toInt < ((A 73).length : Int) := ⟨by omega, by omega⟩
      have ew : (F 67 15).toInt.toNat = w := by omega
      have p1 : (F 67 9 + 1).toInt = (F 67 9).toInt + 1 := i_1 (by omega)
      have bad : Q (some (.int 0)) (hz (uF F 67 11 (((-1000) * (5)) - (F 67 9))) A L) := hQ 0 _ A ⟨conB_tr hB ⟨frF_u frF_rf (by decide), frA_rf, Int.le_refl _, i2, i9, i10⟩, Or.inl rfl⟩
      refine g_con2 ⟨hs, fun z => ⟨hs, fun y => absurd z y, fun _ => ⟨fun _ => ⟨hsw, ?_⟩, fun _ => bad⟩⟩, fun z => ⟨hs, fun _ => ?_, fun y => ⟨hs, fun _ => ⟨fun _ => ⟨hsw, ?_⟩, fun _ => bad⟩, fun u => absurd u z⟩⟩⟩
      · rw [ew]
        refine ih40 _ _ k (w + 1) ?_ (cs_push hI' (hV_c z (by decide)) (o := 10) (Or.inl rfl))
        show (F 67 10).toInt - (F 67 9 + 1).toInt ≤ _
        omega
      · refine r_cmp hc' (fun r F1 A1 g1 g2 => ?_)
        show wp_E (d + 6) mm166.2.2.2.2.2.2.2.2 87 [some (.ref 67)] [.int r] (hz F1 A1 L) Q
        rcases g2 with g2 | ⟨g2, g3, g4, k', w', g5, g6, g7, g8⟩
        · exact g_con3 ⟨fun z => absurd g2 z, fun _ => hQ 0 F1 A1 ⟨conB_tr hB g1, Or.inl rfl⟩⟩
        · refine g_con3 ⟨fun _ => ?_, fun z => absurd z (by rw [g2]; decide)⟩
          have hw' : 1 ≤ w' := by
            by_cases e : w' = 0
            · have := g8 0 (by omega) (by omega)
              omega
            · omega
          refine ih92 F1 A1 k' w' ?_ ⟨g6, conB_tr hB g1, fun i hi => by rw [g3 i hi]; exact hL i hi, hw', by rw [opn_of (g7 0 (by omega))]; exact h0, by omega⟩
          have := g1.1 67 10 (by decide)
          rw [this]
          omega
      · rw [ew]
        refine ih40 _ _ k (w + 1) ?_ (cs_push hI' (hV_c y (by decide)) (o := 13) (Or.inr rfl))
        show (F 67 10).toInt - (F 67 9 + 1).toInt ≤ _
        omega
    · intro F A k w hm hI
      obtain ⟨hc, hB, hL, h1, h0, hP⟩ := hI
      have hc' := hc
      obtain ⟨i1, i2, i3, i4, i5, i6, i7, i8, i9, i10, i11, i12⟩ := hc
      have hs : 0 ≤ (F 67 9).toInt ∧ (F 67 10).toInt ≤ ((A 71).length : Int) := ⟨i1, by omega⟩
      have p1 : (F 67 9 + 1).toInt = (F 67 9).toInt + 1 := i_1 (by omega)
      have bad : Q (some (.int 0)) (hz (uF F 67 11 (((-1000) * (1)) - (F 67 9))) A L) := hQ 0 _ A ⟨conB_tr hB ⟨frF_u frF_rf (by decide), frA_rf, Int.le_refl _, i2, i9, i10⟩, Or.inl rfl⟩
      have keep : ∀ (F1 : Nat → Nat → Int32) (A1 : Nat → List Int32) (w' : Nat), conF a F A F1 A1 → A1 73 = A 73 → conI a F1 A1 k w' 1 → F1 67 9 = F 67 9 → (∀ i, w' ≤ i → i < w → isJ (A 73) i) → csI F0 A0 a F1 A1 k w' 1 := by
        intro F1 A1 w' f2 f4 f5 f3 f7
        have hw' : 1 ≤ w' := by
          by_cases e : w' = 0
          · have := f7 0 (by omega) (by omega)
            unfold isJ at this
            omega
          · omega
        exact ⟨f5, conB_tr hB f2.1, fun i hi => by rw [f2.2 i hi]; exact hL i hi, hw', by rw [f4]; exact h0, by rw [f3]; exact hP⟩
      have jmp : (F 67 9).toInt < (F 67 10).toInt → ∀ q : Int32, wp_M (d + 6) 169 [.ref 67, .int q] (hz F A L) (fun w hp1 => wp_E (d + 6) mm166.2.2.2.2.2.2.2.2 198 [some (.ref 67)] (w.toList ++ []) hp1 Q) := by
        intro hlt q
        refine r_lan (d := d + 4) hc' (fun F1 A1 w' f1 f2 f3 f4 f5 f6 f7 => ?_)
        have hcs := keep F1 A1 w' f2 f4 f5 f3 f7
        have e10 : F1 67 10 = F 67 10 := f2.1.1 67 10 (by decide)
        have hs1 : 0 ≤ (F1 67 9).toInt ∧ (F1 67 10).toInt ≤ ((A1 71).length : Int) := ⟨f5.1, by have := f5.2.2.1; have := f5.2.2.2.2.2.2.2.1; omega⟩
        have hsw : 0 ≤ (F1 67 15).toInt ∧ (F1 67 15).toInt < ((A1 73).length : Int) := by
          have q4 := f5.2.2.2.1
          have q10 := f5.2.2.2.2.2.2.2.2.2.1
          have q6 := f5.2.2.2.2.2.1
          rw [f3] at q6
          omega
        have hsk : 0 ≤ (F1 67 14).toInt ∧ (F1 67 14).toInt < ((A1 72).length : Int) := by
          have q5 := f5.2.2.2.2.1
          have q9 := f5.2.2.2.2.2.2.2.2.1
          omega
        have ew1 : (F1 67 15).toInt.toNat = w' := by have := f5.2.2.2.1; omega
        have ek1 : (F1 67 14).toInt.toNat = k := by have := f5.2.2.2.2.1; omega
        refine g_con7 ⟨hs1, fun _ => ⟨hsw, hsk, ?_⟩, fun _ => ⟨hsw, hsk, ?_⟩⟩
        · rw [ew1, ek1]
          refine ih40 _ _ (k + 1) (w' + 1) ?_ (cs_jump hcs (by rw [f3, e10]; exact hlt) (o := 12) (Or.inr rfl))
          show (F1 67 10).toInt - (F1 67 9 + 1).toInt ≤ _
          rw [e10, f3]
          omega
        · rw [ew1, ek1]
          refine ih40 _ _ (k + 1) (w' + 1) ?_ (cs_jump hcs (by rw [f3, e10]; exact hlt) (o := 11) (Or.inl rfl))
          show (F1 67 10).toInt - (F1 67 9 + 1).toInt ≤ _
          rw [e10, f3]
          omega
      refine g_con4 ⟨hs, fun _ => ⟨hs, fun z => ⟨hs, fun _ => jmp (hV_c z (by decide)) 0, fun y => jmp (hV_c z (by decide)) 1⟩, fun _ => ⟨hs, fun z => ⟨hs, fun y => jmp (hV_c z (by decide)) 0, fun _ => jmp (hV_c z (by decide)) 1⟩, fun _ => bad⟩⟩, fun z => ?_⟩
      have hlt := hV_c z (by decide)
      refine r_lan (d := d + 4) hc' (fun F1 A1 w' f1 f2 f3 f4 f5 f6 f7 => ?_)
      have hcs := keep F1 A1 w' f2 f4 f5 f3 f7
      have hw' := hcs.2.2.2.1
      have hB1 := hcs.2.1
      obtain ⟨j1, j2, j3, j4, j5, j6, j7, j8, j9, j10, j11, j12⟩ := f5
      have e10 : F1 67 10 = F 67 10 := f2.1.1 67 10 (by decide)
      have w1 : (F1 67 15 - 1).toInt = ((w' - 1 : Nat) : Int) := by rw [i_m1 (by omega), j4]; omega
      have q1 : (F1 67 9 + 1).toInt = (F 67 9).toInt + 1 := by rw [f3]; exact p1
      have htop : ¬ isJ (A 73) (w' - 1) := by
        rcases f6 with z | ⟨z1, z2⟩
        · omega
        · unfold isJ
          intro q
          rcases q with q | q
          · exact z1 q
          · exact z2 (by decide) q
      have hcw : cwp (A1 72) (jP (A1 73) (w' - 1)) a k 1 := by
        refine cwp_ext j12 (fun _ _ _ => rfl) (fun j hj => ?_)
        obtain ⟨i, q1, q2, q3⟩ := hj
        refine ⟨i, ?_, q2, q3⟩
        by_cases e : i = w' - 1
        · subst e
          rw [f4] at q2
          exact absurd q2 htop
        · omega
      have hB2 : conB F1 A1 (uF (uF (uF F1 67 15 ((F1 67 15) - 1)) 67 13 ((F1 67 13) - 1)) 67 9 ((F1 67 9) + 1)) A1 := ⟨frF_u (frF_u (frF_u frF_rf (by decide)) (by decide)) (by decide), frA_rf, by show _ ≤ (F1 67 9 + 1).toInt; rw [q1, f3]; omega, by show (F1 67 9 + 1).toInt ≤ _; rw [q1, e10]; omega, j9, j10⟩
      show wp_E (d + 6) mm166.2.2.2.2.2.2.2.2 106 [some (.ref 67)] [] (hz F1 A1 L) Q
      refine g_con5 ⟨fun y => ?_, fun y => ?_⟩
      · have hIn : conI a (uF (uF (uF F1 67 15 ((F1 67 15) - 1)) 67 13 ((F1 67 13) - 1)) 67 9 ((F1 67 9) + 1)) A1 k (w' - 1) 1 := by
          refine ⟨?_, ?_, j3, w1, j5, ?_, ?_, j8, j9, j10, fun i hi => j11 i (by omega), hcw⟩
          · show 0 ≤ (F1 67 9 + 1).toInt
            omega
          · show (F1 67 9 + 1).toInt ≤ (F1 67 10).toInt
            rw [q1, e10]
            omega
          · show ((w' - 1 : Nat) : Int) ≤ (F1 67 9 + 1).toInt
            rw [f3] at j6
            omega
          · show ((k + nn (A1 73) (w' - 1) : Nat) : Int) ≤ (F1 67 9 + 1).toInt
            have := nn_le (t := A1 73) (show w' - 1 ≤ w' by omega)
            rw [f3] at j7
            omega
        refine r_end (d := d + 4) hIn (fun F2 A2 k' w'' g1 g2 g3 g4 g5 g6 g7 => ?_)
        refine g_con6 ?_
        have hne : ¬ w' - 1 = 0 := fun q => y (by rw [ie, w1, q]; rfl)
        have hw'' : 1 ≤ w'' := by
          by_cases e : w'' = 0
          · have := g7 0 (by omega) (by omega)
            rw [f4] at this
            omega
          · omega
        have g3 : F2 67 9 = F1 67 9 + 1 := g3
        have hBB : conB F0 A0 F2 A2 := conB_tr (conB_tr hB1 hB2) g2.1
        refine ih92 F2 A2 k' w'' ?_ ⟨g5, hBB, fun i hi => by rw [g2.2 i hi, hcs.2.2.1 i hi], hw'', by rw [g4, f4]; exact h0, by rw [g3, q1]; omega⟩
        rw [g2.1.1 67 10 (by decide), g3, q1]
        show (F1 67 10).toInt - _ ≤ _
        rw [e10]
        omega
      · have hw0 : w' - 1 = 0 := by
          rw [ie, w1, e0] at y
          omega
        rw [hw0] at hcw
        refine hQ 1 _ A1 ⟨conB_tr hB1 hB2, Or.inr ⟨rfl, hcs.2.2.1, by show _ < (F1 67 9 + 1).toInt; omega, k, j5, ?_, cwp_seg hcw (fun j hj => by obtain ⟨i, q1, -⟩ := hj; omega) (by omega)⟩⟩
        show (k : Int) ≤ (F1 67 9 + 1).toInt
        omega
theorem r_con {k : Nat} (h1 : 0 ≤ (F 67 9).toInt) (h2 : (F 67 9).toInt ≤ (F 67 10).toInt) (h3 : (F 67 10).toInt ≤ 240) (h5 : (F 67 14).toInt = (k : Int)) (h7 : (k : Int) ≤ (F 67 9).toInt) (a1 : (A 71).length = 260) (a2 : (A 72).length = 260) (a3 : (A 73).length = 260)
    (hQ : ∀ (r : Int32) (F' : Nat → Nat → Int32) (A' : Nat → List Int32), conP F A k r F' A' → Q (some (.int r)) (hz F' A' L)) : wp_M (d + 7) 166 [.ref 67] (hz F A L) Q := by
  refine q_m (E := mm166) rfl ⟨Nat.le_of_ble_eq_true rfl, Nat.le_of_ble_eq_true rfl⟩ ?_
  have hs : 0 ≤ (F 67 9).toInt ∧ (F 67 10).toInt ≤ ((A 71).length : Int) := ⟨h1, by omega⟩
  refine g_con0 ⟨hs, fun z => ?_, fun _ => hQ 0 _ A ⟨⟨frF_u frF_rf (by decide), frA_rf, Int.le_refl _, h2, a2, a3⟩, Or.inl rfl⟩⟩
  have hlt := hV_c z (by decide)
  have p1 : (F 67 9 + 1).toInt = (F 67 9).toInt + 1 := i_1 (by omega)
  refine s_m_opens (d := d + 4) ⟨fun _ => ⟨⟨by show 0 ≤ (0 : Int32).toInt; decide, by show (0 : Int32).toInt < ((A 73).length : Int); rw [a3]; decide⟩, ?_⟩, fun y => absurd y (by show ¬ (0 : Int32) = 6; decide)⟩
  show wp_E (d + 6) mm166.2.2.2.2.2.2.2.2 35 [some (.ref 67)] [.int 1] (hz (uF (uF (uF (uF (uF F 67 13 0) 67 15 0) 67 13 (0 + 1)) 67 15 (0 + 1)) 67 9 (F 67 9 + 1)) (uA A 73 ((A 73).set 0 (1048576 * 13))) L) Q
  refine g_con1 ⟨fun _ => ?_, fun y => absurd y (by decide)⟩
  have hop : opn ((A 73).set 0 (1048576 * 13)) 0 = 13 := by rw [opn_set (by omega)]; exact (kcode0 (o := 13) ⟨by decide, by decide⟩).1
  refine (r_con_loop (F0 := F) (A0 := A) (a := k) hQ ((F 67 10).toInt - (F 67 9).toInt).toNat).1 _ _ k 1 ?_ ⟨⟨?_, ?_, h3, ?_, h5, ?_, ?_, a1, a2, by show ((A 73).set 0 _).length = 260; rw [List.length_set]; exact a3, ?_, ?_⟩, ⟨frF_u (frF_u (frF_u (frF_u (frF_u frF_rf (by decide)) (by decide)) (by decide)) (by decide)) (by decide), frA_u frA_rf (by decide), ?_, ?_, a2, by show ((A 73).set 0 _).length = 260; rw [List.length_set]; exact a3⟩, fun _ _ => rfl, by omega, hop, ?_⟩
  · show (F 67 10).toInt - (F 67 9 + 1).toInt ≤ _
    omega
  · show 0 ≤ (F 67 9 + 1).toInt
    omega
  · show (F 67 9 + 1).toInt ≤ (F 67 10).toInt
    omega
  · show (0 + 1 : Int32).toInt = ((1 : Nat) : Int)
    decide
  · show ((1 : Nat) : Int) ≤ (F 67 9 + 1).toInt
    omega
  · show ((k + (0 + (if opn ((A 73).set 0 (1048576 * 13)) 0 = 10 then 1 else 0)) : Nat) : Int) ≤ (F 67 9 + 1).toInt
    rw [hop, if_neg (by decide)]
    omega
  · show jin ((A 73).set 0 (1048576 * 13)) (A 72) k k 1
    intro i hi
    obtain rfl : i = 0 := by omega
    exact Or.inl (Or.inr hop)
  · exact cwp_nil _ _ _
  · show _ ≤ (F 67 9 + 1).toInt
    omega
  · show (F 67 9 + 1).toInt ≤ _
    omega
  · show _ < (F 67 9 + 1).toInt
    omega
end PS5
