/-! conditions: what waits, and what is known of the codes -/
section PS4
variable {d : Nat} {F : Nat → Nat → Int32} {A : Nat → List Int32} {L : Nat → List Int64} {Q : Option Value → sm_H → Prop}
abbrev isJ (t : List Int32) (i : Nat) : Prop := opn t i = 11 ∨ opn t i = 12
noncomputable def jin (t l : List Int32) (a k w : Nat) : Prop := ∀ i, i < w → (opn t i = 10 ∨ opn t i = 13) ∨ (isJ t i ∧ ∃ j : Nat, kvl (t.getD i 0) = (j : Int) ∧ a ≤ j ∧ j < k ∧ (∃ c, l[j]? = some c ∧ (kop c = 11 ∨ kop c = 12) ∧ kvl c = 0) ∧ ∀ i', i' < i → isJ t i' → kvl (t.getD i' 0) < (j : Int))
noncomputable def jP (t : List Int32) (w : Nat) (j : Nat) : Prop := ∃ i, i < w ∧ isJ t i ∧ kvl (t.getD i 0) = (j : Int)
/-- how many NOTs wait -/
noncomputable def nn (t : List Int32) : Nat → Nat
  | 0 => 0
  | n + 1 => nn t n + (if opn t n = 10 then 1 else 0)
theorem nn_mono {t : List Int32} {w' : Nat} : ∀ m : Nat, nn t w' ≤ nn t (w' + m) := by
  intro m
  induction m with
  | zero => exact Nat.le_refl _
  | succ m ih =>
    show _ ≤ nn t (w' + m) + (if opn t (w' + m) = 10 then 1 else 0)
    omega
theorem nn_le {t : List Int32} {w' w : Nat} (h : w' ≤ w) : nn t w' ≤ nn t w := by
  have := nn_mono (t := t) (w' := w') (w - w')
  rw [show w' + (w - w') = w by omega] at this
  exact this
theorem nn_ext {t t' : List Int32} : ∀ w : Nat, (∀ i, i < w → opn t' i = opn t i) → nn t' w = nn t w := by
  intro w
  induction w with
  | zero => intro _; rfl
  | succ w ih =>
    intro h
    show nn t' w + (if opn t' w = 10 then 1 else 0) = nn t w + (if opn t w = 10 then 1 else 0)
    rw [ih (fun i hi => h i (by omega)), h w (by omega)]
theorem gd_of {t t' : List Int32} {i : Nat} (h : t'[i]? = t[i]?) : t'.getD i 0 = t.getD i 0 := by
  rw [List.getD_eq_getElem?_getD, List.getD_eq_getElem?_getD, h]
theorem jin_ext {t t' l l' : List Int32} {a k k' w : Nat} (h : jin t l a k w) (ht : ∀ i, i < w → t'[i]? = t[i]?) (hl : ∀ j, a ≤ j → j < k → l'[j]? = l[j]?) (hk : k ≤ k') : jin t' l' a k' w := by
  intro i hi
  have e1 := opn_of (ht i hi)
  have e2 := gd_of (ht i hi)
  rcases h i hi with z | ⟨z, j, j1, j2, j3, ⟨c, c1, c2⟩, j5⟩
  · rw [e1]; exact Or.inl z
  · refine Or.inr ⟨by unfold isJ; rw [e1]; exact z, j, by rw [e2]; exact j1, j2, by omega, ⟨c, by rw [hl j j2 j3]; exact c1, c2⟩, fun i' hi' hz => ?_⟩
    rw [gd_of (ht i' (by omega))]
    refine j5 i' hi' ?_
    unfold isJ at hz ⊢
    rw [opn_of (ht i' (by omega))] at hz
    exact hz
theorem jP_ext {t t' : List Int32} {w : Nat} (ht : ∀ i, i < w → t'[i]? = t[i]?) (j : Nat) (h : jP t w j) : jP t' w j := by
  obtain ⟨i, h1, h2, h3⟩ := h
  refine ⟨i, h1, ?_, by rw [gd_of (ht i h1)]; exact h3⟩
  unfold isJ at h2 ⊢
  rw [opn_of (ht i h1)]
  exact h2
/-- the state of a condition: begun at a, now at k, w wait; e 1 behind a piece -/
noncomputable def conI (a : Nat) (F : Nat → Nat → Int32) (A : Nat → List Int32) (k w e : Nat) : Prop :=
  0 ≤ (F 67 9).toInt ∧ (F 67 9).toInt ≤ (F 67 10).toInt ∧ (F 67 10).toInt ≤ 240 ∧ (F 67 15).toInt = (w : Int) ∧ (F 67 14).toInt = (k : Int) ∧ (w : Int) ≤ (F 67 9).toInt ∧ ((k + nn (A 73) w : Nat) : Int) ≤ (F 67 9).toInt ∧ (A 71).length = 260 ∧ (A 72).length = 260 ∧ (A 73).length = 260 ∧ jin (A 73) (A 72) a k w ∧ cwp (A 72) (jP (A 73) w) a k e
/-- what a step of it leaves as it was -/
noncomputable def conB (F : Nat → Nat → Int32) (A : Nat → List Int32) (F' : Nat → Nat → Int32) (A' : Nat → List Int32) : Prop :=
  frF [9, 11, 12, 13, 14, 15] F F' ∧ frA [72, 73] A A' ∧ (F 67 9).toInt ≤ (F' 67 9).toInt ∧ (F' 67 9).toInt ≤ (F 67 10).toInt ∧ (A' 72).length = 260 ∧ (A' 73).length = 260
noncomputable def conF (a : Nat) (F : Nat → Nat → Int32) (A : Nat → List Int32) (F' : Nat → Nat → Int32) (A' : Nat → List Int32) : Prop := conB F A F' A' ∧ ∀ i, i < a → (A' 72)[i]? = (A 72)[i]?
theorem conB_tr {F1 F2 : Nat → Nat → Int32} {A1 A2 : Nat → List Int32} (h : conB F A F1 A1) (h' : conB F1 A1 F2 A2) : conB F A F2 A2 := by
  obtain ⟨a1, a2, a3, a4, a5, a6⟩ := h
  obtain ⟨b1, b2, b3, b4, b5, b6⟩ := h'
  have eN : F1 67 10 = F 67 10 := a1 67 10 (by decide)
  exact ⟨frF_tr a1 b1 (fun _ z => z) (fun _ z => z), frA_tr a2 b2 (fun _ z => z) (fun _ z => z), by omega, by rw [eN] at b4; exact b4, b5, b6⟩
theorem conF_tr {a : Nat} {F1 F2 : Nat → Nat → Int32} {A1 A2 : Nat → List Int32} (h : conF a F A F1 A1) (h' : conF a F1 A1 F2 A2) : conF a F A F2 A2 := ⟨conB_tr h.1 h'.1, fun i hi => by rw [h'.2 i hi, h.2 i hi]⟩
theorem conF_rf {a k w e : Nat} (h : conI a F A k w e) : conF a F A F A := ⟨⟨frF_rf, frA_rf, Int.le_refl _, h.2.1, h.2.2.2.2.2.2.2.2.1, h.2.2.2.2.2.2.2.2.2.1⟩, fun _ _ => rfl⟩
/-- endsPiece -/
theorem r_end_loop {a : Nat} : ∀ (m : Nat) (F : Nat → Nat → Int32) (A : Nat → List Int32) (k w : Nat), w ≤ m → conI a F A k w 1 → (∀ (F' : Nat → Nat → Int32) (A' : Nat → List Int32) (k' w' : Nat), w' ≤ w → conF a F A F' A' → F' 67 9 = F 67 9 → A' 73 = A 73 → conI a F' A' k' w' 1 → (w' = 0 ∨ ¬ opn (A 73) (w' - 1) = 10) → (∀ i, w' ≤ i → i < w → opn (A 73) i = 10) → Q none (hz F' A' L)) → wp_E (d + 1) mm168.2.2.2.2.2.2.2.2 0 [some (.ref 67)] [] (hz F A L) Q := by
  intro m
  induction m with
  | zero =>
    intro F A k w hm hI hQ
    have hI' := hI
    obtain ⟨i1, i2, i3, i4, i5, i6, i7, i8, i9, i10, i11, i12⟩ := hI
    have hw : F 67 15 = 0 := by rw [ie, e0]; omega
    refine g_end ⟨⟨by omega, by omega⟩, fun _ => ?_, fun z => ?_⟩
    · exact hQ F A k w (Nat.le_refl _) (conF_rf hI') rfl rfl hI' (Or.inl (by omega)) (fun i j1 j2 => absurd j2 (by omega))
    · rw [hw, wV_0] at z
      exact absurd z (by decide)
  | succ m ih =>
    intro F A k w hm hI hQ
    have hI' := hI
    obtain ⟨i1, i2, i3, i4, i5, i6, i7, i8, i9, i10, i11, i12⟩ := hI
    by_cases hw0 : w = 0
    · have hw : F 67 15 = 0 := by rw [ie, e0]; omega
      refine g_end ⟨⟨by omega, by omega⟩, fun _ => ?_, fun z => ?_⟩
      · exact hQ F A k w (Nat.le_refl _) (conF_rf hI') rfl rfl hI' (Or.inl hw0) (fun i j1 j2 => absurd j2 (by omega))
      · rw [hw, wV_0] at z
        exact absurd z (by decide)
    · have ew := wV_s (w := F 67 15) (t := A 73) (by omega)
      rw [show ((F 67 15).toInt - 1).toNat = w - 1 by omega] at ew
      have ew : (wV (F 67 15) (A 73)).toInt = opn (A 73) (w - 1) := ew
      have hnn : nn (A 73) w = nn (A 73) (w - 1) + (if opn (A 73) (w - 1) = 10 then 1 else 0) := by
        rw [show w = (w - 1) + 1 by omega]
        rfl
      refine g_end ⟨⟨by omega, by omega⟩, fun z => ?_, fun z => ⟨⟨by omega, by omega⟩, ?_⟩⟩
      · refine hQ F A k w (Nat.le_refl _) (conF_rf hI') rfl rfl hI' (Or.inr (fun q => z ?_)) (fun i j1 j2 => absurd j2 (by omega))
        rw [ie, ew, q]
        rfl
      · rw [ie, ew, e10] at z
        rw [if_pos z] at hnn
        obtain ⟨-, c1, c2⟩ := kcode (o := 10) (v := 0) ⟨by decide, by decide⟩ ⟨by decide, by decide⟩
        have k1 : (F 67 14 + 1).toInt = ((k + 1 : Nat) : Int) := by rw [i_1 (by omega), i5]; omega
        have w1 : (F 67 15 - 1).toInt = ((w - 1 : Nat) : Int) := by rw [i_m1 (by omega), i4]; omega
        rw [show (F 67 14).toInt.toNat = k by omega]
        have hcw : cwp ((A 72).set k (1048576 * (10) + 0)) (jP (A 73) (w - 1)) a (k + 1) 1 := by
          refine cwp_ext (cwp_one (e' := 1) i12 (by omega) (Or.inl ⟨c1, rfl⟩)) (fun _ _ _ => rfl) (fun j hj => ?_)
          rcases hj with ⟨i, q1, q2, q3⟩ | ⟨-, q⟩
          · refine ⟨i, ?_, q2, q3⟩
            by_cases e : i = w - 1
            · subst e
              unfold isJ at q2
              omega
            · omega
          · cases q
        have hIn : conI a (uF (uF (uF F 67 14 (F 67 14 + 1)) 67 15 (F 67 15 - 1)) 67 13 (F 67 13 - 1)) (uA A 72 ((A 72).set k (1048576 * (10) + 0))) (k + 1) (w - 1) 1 := by
          refine ⟨i1, i2, i3, w1, k1, ?_, ?_, i8, by show ((A 72).set k _).length = 260; rw [List.length_set]; exact i9, i10, ?_, hcw⟩
          · show ((w - 1 : Nat) : Int) ≤ (F 67 9).toInt
            omega
          · show ((k + 1 + nn (A 73) (w - 1) : Nat) : Int) ≤ (F 67 9).toInt
            omega
          · exact jin_ext (fun i hi => i11 i (by omega)) (fun _ _ => rfl) (fun j q1 q2 => set_ne (by omega)) (by omega)
        refine ih _ _ (k + 1) (w - 1) (by omega) hIn (fun F' A' k' w' f1 f2 f3 f4 f5 f6 f7 => ?_)
        have hc : conF a F A (uF (uF (uF F 67 14 (F 67 14 + 1)) 67 15 (F 67 15 - 1)) 67 13 (F 67 13 - 1)) (uA A 72 ((A 72).set k (1048576 * (10) + 0))) := ⟨⟨frF_u (frF_u (frF_u frF_rf (by decide)) (by decide)) (by decide), frA_u frA_rf (by decide), Int.le_refl _, i2, by show ((A 72).set k _).length = 260; rw [List.length_set]; exact i9, i10⟩, fun i hi => by show ((A 72).set k _)[i]? = _; exact set_ne (by have := i12.1; omega)⟩
        refine hQ F' A' k' w' (by omega) (conF_tr hc f2) f3 f4 f5 f6 (fun i q1 q2 => ?_)
        by_cases e : i = w - 1
        · rw [e]; exact z
        · exact f7 i q1 (by omega)
theorem r_end {a k w : Nat} (hI : conI a F A k w 1) (hQ : ∀ (F' : Nat → Nat → Int32) (A' : Nat → List Int32) (k' w' : Nat), w' ≤ w → conF a F A F' A' → F' 67 9 = F 67 9 → A' 73 = A 73 → conI a F' A' k' w' 1 → (w' = 0 ∨ ¬ opn (A 73) (w' - 1) = 10) → (∀ i, w' ≤ i → i < w → opn (A 73) i = 10) → Q none (hz F' A' L)) : wp_M (d + 2) 168 [.ref 67] (hz F A L) Q := by
  refine q_m (E := mm168) rfl ⟨Nat.le_of_ble_eq_true rfl, Nat.le_of_ble_eq_true rfl⟩ ?_
  exact r_end_loop w F A k w (Nat.le_refl _) hI hQ
/-- lands -/
theorem krem (x : Int32) : (x - x / 1048576 * 1048576).toInt = kvl x := by rw [an_rem32 (by decide)]; rfl
theorem r_lan_loop {a : Nat} {x : Int32} : ∀ (m : Nat) (F : Nat → Nat → Int32) (A : Nat → List Int32) (k w : Nat) (v : Option Value), w ≤ m → conI a F A k w 1 → (∀ (F' : Nat → Nat → Int32) (A' : Nat → List Int32) (w' : Nat), w' ≤ w → conF a F A F' A' → F' 67 9 = F 67 9 → A' 73 = A 73 → conI a F' A' k w' 1 → (w' = 0 ∨ ¬ opn (A 73) (w' - 1) = 11 ∧ (¬ x = 0 → ¬ opn (A 73) (w' - 1) = 12)) → (∀ i, w' ≤ i → i < w → isJ (A 73) i) → Q none (hz F' A' L)) → wp_E (d + 1) mm169.2.2.2.2.2.2.2.2 0 [some (.ref 67), some (.int x), v] [] (hz F A L) Q := by
  intro m
  induction m with
  | zero =>
    intro F A k w v hm hI hQ
    have hI' := hI
    obtain ⟨i1, i2, i3, i4, i5, i6, i7, i8, i9, i10, i11, i12⟩ := hI
    have hw : F 67 15 = 0 := by rw [ie, e0]; omega
    have hs : 0 ≤ (F 67 15).toInt ∧ (F 67 15).toInt ≤ ((A 73).length : Int) := ⟨by omega, by omega⟩
    have fin := hQ F A w (Nat.le_refl _) (conF_rf hI') rfl rfl hI' (Or.inl (by omega)) (fun i j1 j2 => absurd j2 (by omega))
    refine g_lan ⟨hs, fun z => ?_, fun _ => ⟨fun _ => fin, fun _ => ⟨hs, fun _ => fin, fun z => ?_⟩⟩⟩
    · rw [hw, wV_0] at z
      exact absurd z (by decide)
    · rw [hw, wV_0] at z
      exact absurd z (by decide)
  | succ m ih =>
    intro F A k w v hm hI hQ
    have hI' := hI
    obtain ⟨i1, i2, i3, i4, i5, i6, i7, i8, i9, i10, i11, i12⟩ := hI
    have hs : 0 ≤ (F 67 15).toInt ∧ (F 67 15).toInt ≤ ((A 73).length : Int) := ⟨by omega, by omega⟩
    by_cases hw0 : w = 0
    · have hw : F 67 15 = 0 := by rw [ie, e0]; omega
      have fin := hQ F A w (Nat.le_refl _) (conF_rf hI') rfl rfl hI' (Or.inl hw0) (fun i j1 j2 => absurd j2 (by omega))
      refine g_lan ⟨hs, fun z => ?_, fun _ => ⟨fun _ => fin, fun _ => ⟨hs, fun _ => fin, fun z => ?_⟩⟩⟩
      · rw [hw, wV_0] at z
        exact absurd z (by decide)
      · rw [hw, wV_0] at z
        exact absurd z (by decide)
    · have ew := wV_s (w := F 67 15) (t := A 73) (by omega)
      rw [show ((F 67 15).toInt - 1).toNat = w - 1 by omega] at ew
      have ew : (wV (F 67 15) (A 73)).toInt = opn (A 73) (w - 1) := ew
      have e11 : wV (F 67 15) (A 73) = 11 ↔ opn (A 73) (w - 1) = 11 := by rw [ie, ew]; exact Iff.rfl
      have e12 : wV (F 67 15) (A 73) = 12 ↔ opn (A 73) (w - 1) = 12 := by rw [ie, ew]; exact Iff.rfl
      have w1 : (F 67 15 - 1).toInt = ((w - 1 : Nat) : Int) := by rw [i_m1 (by omega), i4]; omega
      have hsw : 0 ≤ (F 67 15 - 1).toInt ∧ (F 67 15 - 1).toInt < ((A 73).length : Int) := ⟨by omega, by omega⟩
      have stp : isJ (A 73) (w - 1) → (0 ≤ (((A 73).getD ((F 67 15) - 1).toInt.toNat 0) - ((A 73).getD ((F 67 15) - 1).toInt.toNat 0) / 1048576 * 1048576).toInt ∧ (((A 73).getD ((F 67 15) - 1).toInt.toNat 0) - ((A 73).getD ((F 67 15) - 1).toInt.toNat 0) / 1048576 * 1048576).toInt < ((A 72).length : Int)) ∧ (wp_E (d + 1) mm169.2.2.2.2.2.2.2.2 0 [some (.ref 67), some (.int x), some (.int (((A 73).getD ((F 67 15) - 1).toInt.toNat 0) - ((A 73).getD ((F 67 15) - 1).toInt.toNat 0) / 1048576 * 1048576))] [] (hz (uF F 67 15 ((F 67 15) - 1)) (uA A 72 ((A 72).set (((A 73).getD ((F 67 15) - 1).toInt.toNat 0) - ((A 73).getD ((F 67 15) - 1).toInt.toNat 0) / 1048576 * 1048576).toInt.toNat ((1048576 * (((A 72).getD (((A 73).getD ((F 67 15) - 1).toInt.toNat 0) - ((A 73).getD ((F 67 15) - 1).toInt.toNat 0) / 1048576 * 1048576).toInt.toNat 0) / 1048576)) + (F 67 14)))) L) Q) := by
        intro hJ
        rw [krem, w1, show (((w - 1 : Nat) : Int)).toNat = w - 1 by omega]
        rcases i11 (w - 1) (by omega) with z | ⟨-, j, j1, j2, j3, ⟨c, c1, c2, c3⟩, j5⟩
        · unfold isJ at hJ
          omega
        · rw [j1, show ((j : Int)).toNat = j by omega]
          have ec : (A 72).getD j 0 = c := by rw [List.getD_eq_getElem?_getD, c1]; rfl
          rw [ec]
          have hko : (c / 1048576).toInt = kop c := kdiv c
          obtain ⟨-, d1, d2⟩ := kcode (o := c / 1048576) (v := F 67 14) ⟨by rw [hko]; omega, by rw [hko]; omega⟩ ⟨by omega, by omega⟩
          rw [hko] at d1
          refine ⟨⟨by omega, by omega⟩, ?_⟩
          have hcw := cwp_land (c' := 1048576 * (c / 1048576) + F 67 14) i12 j2 j3 c1 c2 c3 d1 (by rw [d2, i5])
          have hIn : conI a (uF F 67 15 (F 67 15 - 1)) (uA A 72 ((A 72).set j (1048576 * (c / 1048576) + F 67 14))) k (w - 1) 1 := by
            refine ⟨i1, i2, i3, w1, i5, ?_, ?_, i8, by show ((A 72).set j _).length = 260; rw [List.length_set]; exact i9, i10, ?_, ?_⟩
            · show ((w - 1 : Nat) : Int) ≤ (F 67 9).toInt
              omega
            · show ((k + nn (A 73) (w - 1) : Nat) : Int) ≤ (F 67 9).toInt
              have := nn_le (t := A 73) (show w - 1 ≤ w by omega)
              omega
            · intro i hi
              rcases i11 i (by omega) with z | ⟨z, j', q1, q2, q3, ⟨c', x1, x2⟩, q5⟩
              · exact Or.inl z
              · have hne : j' < j := by
                  have := j5 i (by omega) z
                  rw [q1] at this
                  omega
                exact Or.inr ⟨z, j', q1, q2, q3, ⟨c', by show ((A 72).set j _)[j']? = _; rw [set_ne (by omega)]; exact x1, x2⟩, q5⟩
            · refine cwp_ext hcw (fun _ _ _ => rfl) (fun j' hj' => ?_)
              obtain ⟨⟨i, q1, q2, q3⟩, q4⟩ := hj'
              refine ⟨i, ?_, q2, q3⟩
              by_cases e : i = w - 1
              · subst e
                rw [j1] at q3
                omega
              · omega
          refine ih _ _ k (w - 1) _ (by omega) hIn (fun F' A' w' f1 f2 f3 f4 f5 f6 f7 => ?_)
          have hc : conF a F A (uF F 67 15 (F 67 15 - 1)) (uA A 72 ((A 72).set j (1048576 * (c / 1048576) + F 67 14))) := ⟨⟨frF_u frF_rf (by decide), frA_u frA_rf (by decide), Int.le_refl _, i2, by show ((A 72).set j _).length = 260; rw [List.length_set]; exact i9, i10⟩, fun i hi => by show ((A 72).set j _)[i]? = _; exact set_ne (by omega)⟩
          refine hQ F' A' w' (by omega) (conF_tr hc f2) f3 f4 f5 f6 (fun i q1 q2 => ?_)
          by_cases e : i = w - 1
          · rw [e]; exact hJ
          · exact f7 i q1 (by omega)
      have fin : (w = 0 ∨ ¬ opn (A 73) (w - 1) = 11 ∧ (¬ x = 0 → ¬ opn (A 73) (w - 1) = 12)) → Q none (hz F A L) := fun z => hQ F A w (Nat.le_refl _) (conF_rf hI') rfl rfl hI' z (fun i j1 j2 => absurd j2 (by omega))
      refine g_lan ⟨hs, fun z => ⟨hsw, (stp (Or.inl (e11.mp z))).1, stp (Or.inl (e11.mp z))⟩, fun z => ⟨fun y => fin (Or.inr ⟨fun q => z (e11.mpr q), fun q => absurd y q⟩), fun y => ⟨hs, fun u => fin (Or.inr ⟨fun q => z (e11.mpr q), fun _ q => u (e12.mpr q)⟩), fun u => ⟨hsw, (stp (Or.inr (e12.mp u))).1, stp (Or.inr (e12.mp u))⟩⟩⟩⟩
theorem r_lan {a k w : Nat} {x : Int32} (hI : conI a F A k w 1) (hQ : ∀ (F' : Nat → Nat → Int32) (A' : Nat → List Int32) (w' : Nat), w' ≤ w → conF a F A F' A' → F' 67 9 = F 67 9 → A' 73 = A 73 → conI a F' A' k w' 1 → (w' = 0 ∨ ¬ opn (A 73) (w' - 1) = 11 ∧ (¬ x = 0 → ¬ opn (A 73) (w' - 1) = 12)) → (∀ i, w' ≤ i → i < w → isJ (A 73) i) → Q none (hz F' A' L)) : wp_M (d + 2) 169 [.ref 67, .int x] (hz F A L) Q := by
  refine q_m (E := mm169) rfl ⟨Nat.le_of_ble_eq_true rfl, Nat.le_of_ble_eq_true rfl⟩ ?_
  exact r_lan_loop w F A k w none (Nat.le_refl _) hI hQ
/-- readsCompared -/
theorem jin_top {t l : List Int32} {a k w : Nat} (h : jin t l a k w) : w = 0 ∨ ¬ (2 ≤ opn t (w - 1) ∧ opn t (w - 1) ≤ 6) := by
  by_cases e : w = 0
  · exact Or.inl e
  · refine Or.inr (fun q => ?_)
    rcases h (w - 1) (by omega) with z | ⟨z, -⟩
    · omega
    · unfold isJ at z
      omega
set_option maxHeartbeats 1000000 in
theorem r_cmp {a k w : Nat} (hI : conI a F A k w 0) (hQ : ∀ (r : Int32) (F' : Nat → Nat → Int32) (A' : Nat → List Int32), conB F A F' A' → (r = 0 ∨ (r = 1 ∧ (∀ i, i < a → (A' 72)[i]? = (A 72)[i]?) ∧ (F 67 9).toInt < (F' 67 9).toInt ∧ ∃ k' w', w' ≤ w ∧ conI a F' A' k' w' 1 ∧ (∀ i, i < w' → (A' 73)[i]? = (A 73)[i]?) ∧ ∀ i, w' ≤ i → i < w → opn (A 73) i = 10)) → Q (some (.int r)) (hz F' A' L)) : wp_M (d + 6) 167 [.ref 67] (hz F A L) Q := by
  obtain ⟨i1, i2, i3, i4, i5, i6, i7, i8, i9, i10, i11, i12⟩ := hI
  have hak := i12.1
  refine q_m (E := mm167) rfl ⟨Nat.le_of_ble_eq_true rfl, Nat.le_of_ble_eq_true rfl⟩ ?_
  refine g_cmp0 ?_
  refine r_sum i1 i2 i3 i4 i5 i6 (by omega) i8 i9 i10 (jin_top i11) (fun r F1 A1 g => ?_)
  obtain ⟨g1, g2, g3, g4, g5, g6, g7⟩ := g
  have eN : F1 67 10 = F 67 10 := g1 67 10 (by decide)
  have eT : A1 71 = A 71 := g2 71 (by decide)
  show wp_E (d + 5) mm167.2.2.2.2.2.2.2.2 4 [some (.ref 67), none] [.int r] (hz F1 A1 L) Q
  have b1 : conB F A F1 A1 := ⟨g1, g2, g3, g4, g5, g6⟩
  rcases g7 with g7 | ⟨g7, s1, s2, k1, s3, s4, s5, s6, s7⟩
  · exact g_cmp1 ⟨fun z => absurd g7 z, fun _ => hQ 0 F1 A1 b1 (Or.inl rfl)⟩
  · have hs : 0 ≤ (F1 67 9).toInt ∧ (F1 67 10).toInt ≤ ((A1 71).length : Int) := ⟨by omega, by rw [eN, eT]; omega⟩
    have bad : Q (some (.int 0)) (hz (uF F1 67 11 (((-1000) * (1)) - (F1 67 9))) A1 L) := hQ 0 _ A1 ⟨frF_u g1 (by decide), g2, by show _ ≤ (F1 67 9).toInt; omega, g4, g5, g6⟩ (Or.inl rfl)
    have hkk := s6.1
    have cont : ∀ (x : Int32), (7 ≤ x.toInt ∧ x.toInt ≤ 9) → (F1 67 9).toInt < (F1 67 10).toInt → wp_M (d + 5) 155 [.ref 67] (hz (uF F1 67 9 ((F1 67 9) + 1)) A1 L) (fun w hp1 => wp_E (d + 5) mm167.2.2.2.2.2.2.2.2 82 [some (.ref 67), some (.int x)] (w.toList ++ []) hp1 Q) := by
      intro x hx hlt
      have p1 : (F1 67 9 + 1).toInt = (F1 67 9).toInt + 1 := i_1 (by omega)
      refine r_sum (w := w) (k := k1) ?_ ?_ ?_ s1 s3 ?_ ?_ (by rw [eT]; exact i8) g5 g6 ?_ (fun r F2 A2 h => ?_)
      · show 0 ≤ (F1 67 9 + 1).toInt
        omega
      · show (F1 67 9 + 1).toInt ≤ (F1 67 10).toInt
        omega
      · show (F1 67 10).toInt ≤ 240
        rw [eN]
        exact i3
      · show (w : Int) ≤ (F1 67 9 + 1).toInt
        omega
      · show (k1 : Int) ≤ (F1 67 9 + 1).toInt
        omega
      · rcases jin_top i11 with z | z
        · exact Or.inl z
        · by_cases e : w = 0
          · exact Or.inl e
          · exact Or.inr (by rw [opn_of (s2 (w - 1) (by omega))]; exact z)
      · obtain ⟨h1, h2, h3, h4, h5, h6, h7⟩ := h
        have h3 : (F1 67 9 + 1).toInt ≤ (F2 67 9).toInt := h3
        have h4 : (F2 67 9).toInt ≤ (F1 67 10).toInt := h4
        rw [eN] at h4
        have b2 : conB F A F2 A2 := ⟨frF_tr (frF_u g1 (by decide)) h1 (fun _ z => z) (fun _ z => z), frA_tr g2 h2 (fun _ z => z) (fun _ z => z), by omega, h4, h5, h6⟩
        show wp_E (d + 5) mm167.2.2.2.2.2.2.2.2 82 [some (.ref 67), some (.int x)] [.int r] (hz F2 A2 L) Q
        rcases h7 with h7 | ⟨h7, t1, t2, k2, t3, t4, t5, t6, t7⟩
        · exact g_cmp2 ⟨fun z => absurd h7 z, fun _ => hQ 0 F2 A2 b2 (Or.inl rfl)⟩
        · have t4 : (k2 : Int) - k1 ≤ (F2 67 9).toInt - (F1 67 9 + 1).toInt := t4
          have hkk2 := t6.1
          refine g_cmp2 ⟨fun _ => ⟨⟨by omega, by omega⟩, ?_⟩, fun z => absurd z (by rw [h7]; decide)⟩
          rw [show (F2 67 14).toInt.toNat = k2 by omega]
          obtain ⟨-, c1, c2⟩ := kcode (o := x) (v := 0) ⟨by omega, by omega⟩ ⟨by decide, by decide⟩
          have kk : (F2 67 14 + 1).toInt = ((k2 + 1 : Nat) : Int) := by rw [i_1 (by omega), t3]; omega
          have hlow : ∀ i, i < k → ((A2 72).set k2 (1048576 * x + 0))[i]? = (A 72)[i]? := fun i hi => by rw [set_ne (by omega), t7 i (by omega), s7 i hi]
          have hwt : ∀ i, i < w → (A2 73)[i]? = (A 73)[i]? := fun i hi => by rw [t2 i hi]; exact s2 i hi
          have hss : ss ((A2 72).set k2 (1048576 * x + 0)) k (k2 + 1) 1 := ss_one (ss_app (ss_ext s6 (fun i q1 q2 => t7 i q2)) t6) (by omega) (Or.inr ⟨⟨by rw [c1]; omega, by rw [c1]; omega⟩, by omega, by omega⟩)
          have hIn : conI a (uF F2 67 14 (F2 67 14 + 1)) (uA A2 72 ((A2 72).set k2 (1048576 * x + 0))) (k2 + 1) w 1 := by
            have e10' : F2 67 10 = F 67 10 := b2.1 67 10 (by decide)
            have enn : nn (A2 73) w = nn (A 73) w := nn_ext w (fun i hi => opn_of (hwt i hi))
            refine ⟨?_, ?_, ?_, t1, kk, ?_, ?_, ?_, by show ((A2 72).set k2 _).length = 260; rw [List.length_set]; exact h5, h6, ?_, ?_⟩
            · show 0 ≤ (F2 67 9).toInt
              omega
            · show (F2 67 9).toInt ≤ (F2 67 10).toInt
              rw [e10']
              exact h4
            · show (F2 67 10).toInt ≤ 240
              rw [e10']
              exact i3
            · show (w : Int) ≤ (F2 67 9).toInt
              omega
            · show ((k2 + 1 + nn (A2 73) w : Nat) : Int) ≤ (F2 67 9).toInt
              rw [enn]
              omega
            · show (A2 71).length = 260
              rw [b2.2.1 71 (by decide)]
              exact i8
            · exact jin_ext i11 hwt (fun j q1 q2 => hlow j q2) (by omega)
            · exact cwp_ss (cwp_ext i12 (fun j q1 q2 => hlow j q2) (fun j hj => jP_ext hwt j hj)) hss
          refine r_end (d := d + 3) hIn (fun F4 A4 k' w' f1 f2 f3 f4 f5 f6 f7 => ?_)
          refine g_cmp3 ?_
          have b3 : conB F2 A2 (uF F2 67 14 (F2 67 14 + 1)) (uA A2 72 ((A2 72).set k2 (1048576 * x + 0))) := ⟨frF_u frF_rf (by decide), frA_u frA_rf (by decide), Int.le_refl _, by show (F2 67 9).toInt ≤ (F2 67 10).toInt; rw [b2.1 67 10 (by decide)]; exact h4, by show ((A2 72).set k2 _).length = 260; rw [List.length_set]; exact h5, h6⟩
          have f3 : F4 67 9 = F2 67 9 := f3
          have f4 : A4 73 = A2 73 := f4
          have f7 : ∀ i, w' ≤ i → i < w → opn (A2 73) i = 10 := f7
          refine hQ 1 F4 A4 (conB_tr (conB_tr b2 b3) f2.1) (Or.inr ⟨rfl, fun i hi => ?_, by rw [f3]; omega, k', w', f1, f5, fun i hi => by rw [f4]; exact hwt i (by omega), fun i q1 q2 => by rw [← opn_of (hwt i q2)]; exact f7 i q1 q2⟩)
          rw [f2.2 i hi]
          show ((A2 72).set k2 _)[i]? = _
          exact hlow i (by omega)
    refine g_cmp1 ⟨fun _ => ⟨hs, fun _ => ⟨hs, fun _ => ⟨hs, fun _ => bad, fun z => ?_⟩, fun z => ?_⟩, fun z => ?_⟩, fun z => absurd z (by rw [g7]; decide)⟩
    · exact cont 9 ⟨by decide, by decide⟩ (hV_c z (by decide))
    · exact cont 8 ⟨by decide, by decide⟩ (hV_c z (by decide))
    · exact cont 7 ⟨by decide, by decide⟩ (hV_c z (by decide))
end PS4
