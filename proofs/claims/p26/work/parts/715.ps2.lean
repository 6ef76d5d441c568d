/-! a factor; whether a sum is open -/
section PS2
variable {d : Nat} {F : Nat → Nat → Int32} {A : Nat → List Int32} {L : Nat → List Int64} {Q : Option Value → sm_H → Prop}
theorem opn_of {t t' : List Int32} {i : Nat} (h : t'[i]? = t[i]?) : opn t' i = opn t i := by
  unfold opn
  rw [List.getD_eq_getElem?_getD, List.getD_eq_getElem?_getD, h]
theorem opn_set {t : List Int32} {i : Nat} {c : Int32} (h : i < t.length) : opn (t.set i c) i = kop c := by
  unfold opn
  rw [List.getD_eq_getElem?_getD, List.getElem?_set_self h]
  rfl
theorem kcode0 {o : Int32} (ho : 0 ≤ o.toInt ∧ o.toInt ≤ 14) : kop (1048576 * o) = o.toInt ∧ kvl (1048576 * o) = 0 := by
  have e1 : (1048576 * o).toInt = 1048576 * o.toInt := by
    have := an_mul32 (x := 1048576) (y := o) (by rw [e_unit]; omega) (by rw [e_unit]; omega)
    rw [this, e_unit]
  refine ⟨?_, ?_⟩
  · show (1048576 * o).toInt.tdiv 1048576 = _
    rw [e1, Int.tdiv_eq_ediv_of_nonneg (by omega)]
    omega
  · show (1048576 * o).toInt.tmod 1048576 = _
    rw [e1, Int.tmod_eq_emod_of_nonneg (by omega)]
    omega
/-- behind a factor -/
noncomputable def facP (F : Nat → Nat → Int32) (A : Nat → List Int32) (w k : Nat) (r : Int32) (F' : Nat → Nat → Int32) (A' : Nat → List Int32) : Prop :=
  frF [9, 11, 12, 13, 14, 15] F F' ∧ frA [72, 73] A A' ∧ (F 67 9).toInt ≤ (F' 67 9).toInt ∧ (F' 67 9).toInt ≤ (F 67 10).toInt ∧ (A' 72).length = 260 ∧ (A' 73).length = 260 ∧
  (r = 0 ∨ (r = 1 ∧ ∃ j : Nat, (F' 67 15).toInt = ((w + j : Nat) : Int) ∧ (F 67 9).toInt + j + 1 ≤ (F' 67 9).toInt ∧ (F' 67 14).toInt = ((k + 1 : Nat) : Int) ∧ (∃ c, psh c ∧ A' 72 = (A 72).set k c) ∧ (∀ i, i < w → (A' 73)[i]? = (A 73)[i]?) ∧ ∀ i, w ≤ i → i < w + j → opn (A' 73) i = 14))
theorem r_fac_loop : ∀ (m : Nat) (F : Nat → Nat → Int32) (A : Nat → List Int32) (w k : Nat), (F 67 10).toInt - (F 67 9).toInt = (m : Int) → 0 ≤ (F 67 9).toInt → (F 67 10).toInt ≤ 240 → (F 67 15).toInt = (w : Int) → (F 67 14).toInt = (k : Int) → (w : Int) ≤ (F 67 9).toInt → (k : Int) ≤ (F 67 9).toInt → (A 71).length = 260 → (A 72).length = 260 → (A 73).length = 260 →
    (∀ (r : Int32) (F' : Nat → Nat → Int32) (A' : Nat → List Int32), facP F A w k r F' A' → Q (some (.int r)) (hz F' A' L)) → wp_E (d + 3) mm156.2.2.2.2.2.2.2.2 0 [some (.ref 67), none] [] (hz F A L) Q := by
  intro m
  induction m with
  | zero =>
    intro F A w k h1 h2 h3 h4 h5 h6 h7 a1 a2 a3 hQ
    have hs : 0 ≤ (F 67 9).toInt ∧ (F 67 10).toInt ≤ ((A 71).length : Int) := ⟨h2, by omega⟩
    have hn : hV (F 67 9) (F 67 10) (A 71) = (-1) := if_neg (by omega)
    refine g_fac ⟨hs, fun _ => ?_, fun z => absurd (hn.symm.trans z) (by decide)⟩
    refine g_fac2 ⟨hs, fun _ => ⟨hs, fun z => absurd (by rw [hn]; decide) z, fun _ => ?_⟩, fun z => absurd (by rw [hn]; decide) z⟩
    exact hQ 0 _ A ⟨frF_u frF_rf (by decide), frA_rf, Int.le_refl _, by show (F 67 9).toInt ≤ _; omega, a2, a3, Or.inl rfl⟩
  | succ m ih =>
    intro F A w k h1 h2 h3 h4 h5 h6 h7 a1 a2 a3 hQ
    have hs : 0 ≤ (F 67 9).toInt ∧ (F 67 10).toInt ≤ ((A 71).length : Int) := ⟨h2, by omega⟩
    have p1 : (F 67 9 + 1).toInt = (F 67 9).toInt + 1 := i_1 (by omega)
    have hk0 : 0 ≤ (F 67 14).toInt ∧ (F 67 14).toInt < ((A 72).length : Int) := ⟨by omega, by omega⟩
    have ek : (F 67 14).toInt.toNat = k := by omega
    have k1 : (F 67 14 + 1).toInt = ((k + 1 : Nat) : Int) := by rw [i_1 (by omega), h5]; omega
    refine g_fac ⟨hs, fun _ => ?_, fun z => ⟨fun _ => ⟨⟨by omega, by omega⟩, ?_⟩, fun _ => ?_⟩⟩
    · refine g_fac2 ⟨hs, fun _ => ⟨hs, fun z => ⟨hk0, ?_⟩, fun _ => ?_⟩, fun z => ?_⟩
      · rw [ek]
        have hf := fV_b (hV (F 67 9) (F 67 10) (A 71))
        rcases hf with hf | hf
        · exact absurd hf z
        · obtain ⟨-, c1, c2⟩ := kcode (o := 1) (v := fV (hV (F 67 9) (F 67 10) (A 71))) ⟨by decide, by decide⟩ ⟨hf.1, by omega⟩
          refine hQ 1 _ _ ⟨frF_u (frF_u frF_rf (by decide)) (by decide), frA_u frA_rf (by decide), ?_, ?_, ?_, a3, Or.inr ⟨rfl, 0, h4, ?_, k1, ⟨_, Or.inr ⟨c1, by rw [c2]; exact hf.1, by rw [c2]; exact hf.2⟩, rfl⟩, fun _ _ => rfl, fun i i1 i2 => absurd i2 (by omega)⟩⟩
          · show (F 67 9).toInt ≤ (F 67 9 + 1).toInt
            omega
          · show (F 67 9 + 1).toInt ≤ (F 67 10).toInt
            omega
          · show ((A 72).set k _).length = 260
            rw [List.length_set]
            exact a2
          · show (F 67 9).toInt + ((0 : Nat) : Int) + 1 ≤ (F 67 9 + 1).toInt
            omega
      · exact hQ 0 _ A ⟨frF_u frF_rf (by decide), frA_rf, Int.le_refl _, by show (F 67 9).toInt ≤ _; omega, a2, a3, Or.inl rfl⟩
      · refine r_num a1 h2 (by omega) h3 (fun r F' f1 f2 f3 f4 => ?_)
        have ew : F' 67 15 = F 67 15 := f1 67 15 (by decide)
        have eq : F' 67 14 = F 67 14 := f1 67 14 (by decide)
        show wp_E (d + 3) mm156.2.2.2.2.2.2.2.2 31 [some (.ref 67), none] [.int r] (hz F' A L) Q
        have fr : frF [9, 11, 12, 13, 14, 15] F F' := frF_tr f1 frF_rf (S' := []) (by decide) (by decide)
        refine g_fac3 ⟨fun y => ⟨by rw [eq]; exact hk0, ?_⟩, fun y => ?_⟩
        · rw [eq, ek]
          rcases f4 with f4 | ⟨-, f5, f6, f7⟩
          · exact absurd f4 y
          · obtain ⟨-, c1, c2⟩ := kcode (o := 0) (v := F' 67 12) ⟨by decide, by decide⟩ ⟨f5, by omega⟩
            have f7 := f7 z
            refine hQ 1 _ _ ⟨frF_u fr (by decide), frA_u frA_rf (by decide), f2, f3, ?_, a3, Or.inr ⟨rfl, 0, by show (F' 67 15).toInt = _; rw [ew, h4]; rfl, ?_, by rw [← k1]; rfl, ⟨_, Or.inl c1, rfl⟩, fun _ _ => rfl, fun i i1 i2 => absurd i2 (by omega)⟩⟩
            · show ((A 72).set k _).length = 260
              rw [List.length_set]
              exact a2
            · show (F 67 9).toInt + ((0 : Nat) : Int) + 1 ≤ (F' 67 9).toInt
              omega
        · exact hQ 0 F' A ⟨fr, frA_rf, f2, f3, a2, a3, Or.inl rfl⟩
    · have hw : (F 67 15).toInt.toNat = w := by omega
      have w1 : (F 67 15 + 1).toInt = ((w + 1 : Nat) : Int) := by rw [i_1 (by omega), h4]; omega
      rw [hw]
      have hl : w < (A 73).length := by omega
      refine ih (uF (uF (uF F 67 13 (F 67 13 + 1)) 67 15 (F 67 15 + 1)) 67 9 (F 67 9 + 1)) (uA A 73 ((A 73).set w (1048576 * (14)))) (w + 1) k ?_ ?_ h3 w1 h5 ?_ ?_ a1 a2 (by show ((A 73).set w _).length = 260; rw [List.length_set]; exact a3) (fun r F' A' f => ?_)
      · show (F 67 10).toInt - (F 67 9 + 1).toInt = _
        omega
      · show 0 ≤ (F 67 9 + 1).toInt
        omega
      · show ((w + 1 : Nat) : Int) ≤ (F 67 9 + 1).toInt
        omega
      · show (k : Int) ≤ (F 67 9 + 1).toInt
        omega
      · obtain ⟨f1, f2, f3, f4, f5, f6, f7⟩ := f
        have f3 : (F 67 9 + 1).toInt ≤ (F' 67 9).toInt := f3
        refine hQ r F' A' ⟨frF_tr (frF_u (frF_u (frF_u frF_rf (by decide)) (by decide)) (by decide)) f1 (fun _ z => z) (fun _ z => z), frA_tr (frA_u frA_rf (by decide)) f2 (fun _ z => z) (fun _ z => z), by omega, f4, f5, f6, ?_⟩
        rcases f7 with f7 | ⟨f7, j, g1, g2, g3, g4, g5, g6⟩
        · exact Or.inl f7
        · have g2 : (F 67 9 + 1).toInt + (j : Int) + 1 ≤ (F' 67 9).toInt := g2
          have g5 : ∀ i, i < w + 1 → (A' 73)[i]? = ((A 73).set w (1048576 * (14)))[i]? := g5
          refine Or.inr ⟨f7, j + 1, by rw [g1]; omega, by omega, g3, g4, fun i hi => ?_, fun i i1 i2 => ?_⟩
          · rw [g5 i (by omega), set_ne (by omega)]
          · by_cases e : i = w
            · subst e
              rw [opn_of (g5 i (by omega)), opn_set hl]
              exact (kcode0 (o := 14) ⟨by decide, by decide⟩).1
            · exact g6 i (by omega) (by omega)
    · exact hQ 0 _ A ⟨frF_u frF_rf (by decide), frA_rf, Int.le_refl _, by show (F 67 9).toInt ≤ _; omega, a2, a3, Or.inl rfl⟩
theorem r_fac {w k : Nat} (h1 : 0 ≤ (F 67 9).toInt) (h2 : (F 67 9).toInt ≤ (F 67 10).toInt) (h3 : (F 67 10).toInt ≤ 240) (h4 : (F 67 15).toInt = (w : Int)) (h5 : (F 67 14).toInt = (k : Int)) (h6 : (w : Int) ≤ (F 67 9).toInt) (h7 : (k : Int) ≤ (F 67 9).toInt) (a1 : (A 71).length = 260) (a2 : (A 72).length = 260) (a3 : (A 73).length = 260)
    (hQ : ∀ (r : Int32) (F' : Nat → Nat → Int32) (A' : Nat → List Int32), facP F A w k r F' A' → Q (some (.int r)) (hz F' A' L)) : wp_M (d + 4) 156 [.ref 67] (hz F A L) Q := by
  refine q_m (E := mm156) rfl ⟨Nat.le_of_ble_eq_true rfl, Nat.le_of_ble_eq_true rfl⟩ ?_
  exact r_fac_loop ((F 67 10).toInt - (F 67 9).toInt).toNat F A w k (by omega) h1 h3 h4 h5 h6 h7 a1 a2 a3 hQ
/-- whether a sum is open -/
noncomputable def oV (b w : Int32) (t : List Int32) : Int32 := cond ((List.range w.toInt.toNat).any (fun i => decide (b.toInt ≤ (i : Int)) && decide (opn t i = 14))) 1 0
theorem oV_0 {b w : Int32} {t : List Int32} (h : oV b w t = 0) (i : Nat) (h1 : b.toInt ≤ (i : Int)) (h2 : (i : Int) < w.toInt) : ¬ opn t i = 14 := by
  intro z
  have e : (List.range w.toInt.toNat).any (fun i => decide (b.toInt ≤ (i : Int)) && decide (opn t i = 14)) = true := List.any_eq_true.mpr ⟨i, List.mem_range.mpr (by omega), by simp [h1, z]⟩
  unfold oV at h
  rw [e] at h
  exact absurd h (by decide)
theorem oV_1 {b w : Int32} {t : List Int32} (h : ¬ oV b w t = 0) : ∃ i : Nat, b.toInt ≤ (i : Int) ∧ (i : Int) < w.toInt ∧ opn t i = 14 := by
  cases e : (List.range w.toInt.toNat).any (fun i => decide (b.toInt ≤ (i : Int)) && decide (opn t i = 14)) with
  | true =>
    obtain ⟨i, h1, h2⟩ := List.any_eq_true.mp e
    have h1 := List.mem_range.mp h1
    simp only [Bool.and_eq_true, decide_eq_true_eq] at h2
    exact ⟨i, h2.1, by omega, h2.2⟩
  | false =>
    unfold oV at h
    rw [e] at h
    exact absurd rfl h
theorem oV_is1 {b w : Int32} {t : List Int32} {i : Nat} (h1 : b.toInt ≤ (i : Int)) (h2 : (i : Int) < w.toInt) (h3 : opn t i = 14) : oV b w t = 1 := by
  have e : (List.range w.toInt.toNat).any (fun i => decide (b.toInt ≤ (i : Int)) && decide (opn t i = 14)) = true := List.any_eq_true.mpr ⟨i, List.mem_range.mpr (by omega), by simp [h1, h3]⟩
  unfold oV
  rw [e]
  rfl
theorem oV_is0 {b w : Int32} {t : List Int32} (h : ∀ i : Nat, b.toInt ≤ (i : Int) → (i : Int) < w.toInt → ¬ opn t i = 14) : oV b w t = 0 := by
  cases e : (List.range w.toInt.toNat).any (fun i => decide (b.toInt ≤ (i : Int)) && decide (opn t i = 14)) with
  | true =>
    obtain ⟨i, h1, h2⟩ := List.any_eq_true.mp e
    have h1 := List.mem_range.mp h1
    simp only [Bool.and_eq_true, decide_eq_true_eq] at h2
    exact absurd h2.2 (h i h2.1 (by omega))
  | false =>
    unfold oV
    rw [e]
    rfl
theorem r_hos_loop {x : Int32} (h0 : 0 ≤ x.toInt) (h1 : (F 67 15).toInt ≤ ((A 73).length : Int)) (hl : (A 73).length ≤ 1000) (K : Q (some (.int (oV x (F 67 15) (A 73)))) (hz F A L)) : ∀ (m : Nat) (y : Int32), (F 67 15).toInt - y.toInt ≤ (m : Int) → x.toInt ≤ y.toInt → (∀ i : Nat, x.toInt ≤ (i : Int) → (i : Int) < y.toInt → ¬ opn (A 73) i = 14) → wp_E (d + 0) mm165.2.2.2.2.2.2.2.2 2 [some (.ref 67), some (.int x), some (.int y)] [] (hz F A L) Q := by
  intro m
  induction m with
  | zero =>
    intro y h2 h3 h4
    refine g_hos ⟨fun z => ?_, fun z => absurd z (by omega)⟩
    rw [oV_is0 (fun i i1 i2 => h4 i i1 (by omega))] at K
    exact K
  | succ m ih =>
    intro y h2 h3 h4
    refine g_hos ⟨fun z => ?_, fun z => ⟨⟨by omega, by omega⟩, fun u => ?_, fun u => ?_⟩⟩
    · rw [oV_is0 (fun i i1 i2 => h4 i i1 (by omega))] at K
      exact K
    · have y1 : (y + 1).toInt = y.toInt + 1 := i_1 (by omega)
      refine ih (y + 1) (by omega) (by omega) (fun i i1 i2 => ?_)
      by_cases e : i = y.toInt.toNat
      · subst e
        intro q
        apply u
        rw [ie, kdiv, e14]
        exact q
      · exact h4 i i1 (by omega)
    · have u : opn (A 73) y.toInt.toNat = 14 := by
        have : kop ((A 73).getD y.toInt.toNat 0) = 14 := by rw [← kdiv, u]; rfl
        exact this
      rw [oV_is1 (i := y.toInt.toNat) (by omega) (by omega) u] at K
      exact K
theorem a_m_hasOpenSum {x : Int32} (hs : (0 ≤ x.toInt ∧ (F 67 15).toInt ≤ ((A 73).length : Int)) ∧ (A 73).length ≤ 1000) (K : Q (some (.int (oV x (F 67 15) (A 73)))) (hz F A L)) : wp_M (d + 1) 165 [.ref 67, .int x] (hz F A L) Q := by
  refine q_m (E := mm165) rfl ⟨Nat.le_of_ble_eq_true rfl, Nat.le_of_ble_eq_true rfl⟩ ?_
  show wp_E (d + 0) mm165.2.2.2.2.2.2.2.2 0 [some (.ref 67), some (.int x), none] [] (hz F A L) Q
  refine q_n 2 (pc1 := 2) (ls1 := [some (.ref 67), some (.int x), some (.int x)]) (st1 := []) (hp1 := hz F A L) rfl ?_
  exact r_hos_loop hs.1.1 hs.1.2 hs.2 K ((F 67 15).toInt - x.toInt).toNat x (by omega) (Int.le_refl _) (fun i i1 i2 => absurd i2 (by omega))
end PS2
