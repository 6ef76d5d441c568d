/-! a sum -/
section PS3
variable {d : Nat} {F : Nat → Nat → Int32} {A : Nat → List Int32} {L : Nat → List Int64} {Q : Option Value → sm_H → Prop}
theorem cn_ext {t t' : List Int32} {b : Nat} : ∀ n : Nat, (∀ i, i < n → opn t' (b + i) = opn t (b + i)) → cn t' b n = cn t b n := by
  intro n
  induction n with
  | zero => intro _; rfl
  | succ n ih =>
    intro h
    show cn t' b n + (if opn t' (b + n) = 14 then 0 else 1) = cn t b n + (if opn t (b + n) = 14 then 0 else 1)
    rw [ih (fun i hi => h i (by omega)), h n (by omega)]
theorem cn_pop {t : List Int32} {b n' : Nat} : ∀ m : Nat, (∀ i, n' ≤ i → i < n' + m → ¬ opn t (b + i) = 14) → cn t b (n' + m) = cn t b n' + m := by
  intro m
  induction m with
  | zero => intro _; rfl
  | succ m ih =>
    intro h
    show cn t b (n' + m) + (if opn t (b + (n' + m)) = 14 then 0 else 1) = _
    rw [ih (fun i i1 i2 => h i i1 (by omega)), if_neg (h (n' + m) (by omega) (by omega))]
    omega
theorem cn_14 {t : List Int32} {b n' : Nat} : ∀ m : Nat, (∀ i, n' ≤ i → i < n' + m → opn t (b + i) = 14) → cn t b (n' + m) = cn t b n' := by
  intro m
  induction m with
  | zero => intro _; rfl
  | succ m ih =>
    intro h
    show cn t b (n' + m) + (if opn t (b + (n' + m)) = 14 then 0 else 1) = _
    rw [ih (fun i i1 i2 => h i i1 (by omega)), if_pos (h (n' + m) (by omega) (by omega))]
    rfl
theorem cn_le {t : List Int32} {b : Nat} : ∀ n : Nat, cn t b n ≤ n := by
  intro n
  induction n with
  | zero => exact Nat.le_refl _
  | succ n ih =>
    show cn t b n + (if opn t (b + n) = 14 then 0 else 1) ≤ n + 1
    split <;> omega
theorem sV_b (c : Int32) : sV c = (-1) ∨ (2 ≤ (sV c).toInt ∧ (sV c).toInt ≤ 6) := by
  unfold sV
  repeat' split
  all_goals first | (left; rfl) | (right; decide)
/-- behind a sum -/
noncomputable def sumP (F : Nat → Nat → Int32) (A : Nat → List Int32) (w k : Nat) (r : Int32) (F' : Nat → Nat → Int32) (A' : Nat → List Int32) : Prop :=
  frF [9, 11, 12, 13, 14, 15] F F' ∧ frA [72, 73] A A' ∧ (F 67 9).toInt ≤ (F' 67 9).toInt ∧ (F' 67 9).toInt ≤ (F 67 10).toInt ∧ (A' 72).length = 260 ∧ (A' 73).length = 260 ∧
  (r = 0 ∨ (r = 1 ∧ (F' 67 15).toInt = (w : Int) ∧ (∀ i, i < w → (A' 73)[i]? = (A 73)[i]?) ∧ ∃ k' : Nat, (F' 67 14).toInt = (k' : Int) ∧ (k' : Int) - k ≤ (F' 67 9).toInt - (F 67 9).toInt ∧ (F 67 9).toInt < (F' 67 9).toInt ∧ ss (A' 72) k k' 1 ∧ ∀ i, i < k → (A' 72)[i]? = (A 72)[i]?))
/-- where the loop of a sum stands: F0, A0 as they were at its start -/
noncomputable def sumI (F0 : Nat → Nat → Int32) (A0 : Nat → List Int32) (b k0 : Nat) (F : Nat → Nat → Int32) (A : Nat → List Int32) (n k : Nat) : Prop :=
  frF [9, 11, 12, 13, 14, 15] F0 F ∧ frA [72, 73] A0 A ∧ (F0 67 9).toInt < (F 67 9).toInt ∧ (F 67 9).toInt ≤ (F0 67 10).toInt ∧ (F 67 15).toInt = ((b + n : Nat) : Int) ∧ (F 67 14).toInt = (k : Int) ∧ (A 72).length = 260 ∧ (A 73).length = 260 ∧ wok (A 73) b n ∧ ss (A 72) k0 k (cn (A 73) b n + 1) ∧ (k : Int) + (cn (A 73) b n : Nat) - k0 ≤ (F 67 9).toInt - (F0 67 9).toInt ∧ (n : Int) ≤ (F 67 9).toInt - (F0 67 9).toInt ∧ (∀ i, i < b → (A 73)[i]? = (A0 73)[i]?) ∧ ∀ i, i < k0 → (A 72)[i]? = (A0 72)[i]?
theorem wok_ext {t t' : List Int32} {b n : Nat} (h : wok t b n) (he : ∀ i, i < b + n → opn t' i = opn t i) : wok t' b n := by
  refine ⟨fun i hi => by rw [he (b + i) (by omega)]; exact h.1 i hi, ?_⟩
  rcases h.2 with z | z
  · exact Or.inl z
  · by_cases hb : b = 0
    · exact Or.inl hb
    · exact Or.inr (by rw [he (b - 1) (by omega)]; exact z)
set_option maxHeartbeats 1000000 in
theorem r_sum_loop {F0 : Nat → Nat → Int32} {A0 : Nat → List Int32} {b k0 : Nat} {x : Int32} (hx : x.toInt = (b : Int)) (hb : (b : Int) ≤ (F0 67 9).toInt) (hk0 : (k0 : Int) ≤ (F0 67 9).toInt) (hN : (F0 67 10).toInt ≤ 240) (h71 : (A0 71).length = 260)
    (hQ : ∀ (r : Int32) (F' : Nat → Nat → Int32) (A' : Nat → List Int32), sumP F0 A0 b k0 r F' A' → Q (some (.int r)) (hz F' A' L)) : ∀ (m : Nat) (F : Nat → Nat → Int32) (A : Nat → List Int32) (n k : Nat) (v : Option Value), (F0 67 10).toInt - (F 67 9).toInt ≤ (m : Int) → sumI F0 A0 b k0 F A n k → wp_E (d + 4) mm155.2.2.2.2.2.2.2.2 14 [some (.ref 67), some (.int x), v] [] (hz F A L) Q := by
  intro m
  induction m with
  | zero =>
    intro F A n k v hm hI
    obtain ⟨i1, i2, i3, i4, i5, i6, i7, i8, i9, i10, i11, i12, i13, i14⟩ := hI
    have eN : F 67 10 = F0 67 10 := i1 67 10 (by decide)
    have eT : A 71 = A0 71 := i2 71 (by decide)
    have hs : 0 ≤ (F 67 9).toInt ∧ (F 67 10).toInt ≤ ((A 71).length : Int) := ⟨by omega, by rw [eN, eT]; omega⟩
    have hn : hV (F 67 9) (F 67 10) (A 71) = (-1) := if_neg (by rw [eN]; omega)
    have ho : (0 ≤ x.toInt ∧ (F 67 15).toInt ≤ ((A 73).length : Int)) ∧ (A 73).length ≤ 1000 := ⟨⟨by omega, by omega⟩, by omega⟩
    refine g_sum2 ⟨hs, fun _ => ⟨hs, fun _ => ⟨ho, fun z => ?_, fun z => ?_⟩, fun z => absurd (hn.symm.trans z) (by decide)⟩, fun z => absurd (by rw [hn]; decide) z⟩
    · refine r_cls (d := d + 2) (a := k0) (b := b) (n := n) (k := k) i5 i6 (by omega) (by omega) i7 i8 i9 i10 (fun F' A' n' f0 f1 f2 f3 f4 f5 f6 f7 f8 f9 => ?_)
      have hn0 : n' = 0 := by
        rcases f8 (by decide) with y | y
        · exact y
        · by_cases e : n' = 0
          · exact e
          · exact absurd y (oV_0 z (b + n' - 1) (by omega) (by omega))
      subst hn0
      refine g_sum6 ?_
      have c0 := cn_pop (t := A 73) (b := b) (n' := 0) n (fun i j1 j2 => f9 i j1 (by omega))
      have c1 : cn (A 73) b 0 = 0 := rfl
      simp only [c1, Nat.zero_add] at c0
      have eP : F' 67 9 = F 67 9 := f1 67 9 (by decide)
      refine hQ 1 F' A' ⟨frF_tr i1 f1 (fun _ z => z) (by decide), frA_tr i2 f2 (fun _ z => z) (by decide), by rw [eP]; omega, by rw [eP]; exact i4, f5, by rw [f2 73 (by decide)]; exact i8, Or.inr ⟨rfl, by rw [f3]; rfl, fun i hi => by rw [f2 73 (by decide)]; exact i13 i hi, k + (n - 0), f4, ?_, by rw [eP]; exact i3, f6, fun i hi => ?_⟩⟩
      · rw [eP]
        omega
      · have := i10.1
        rw [f7 i (by omega)]
        exact i14 i hi
    · exact hQ 0 _ A ⟨frF_u i1 (by decide), i2, by show _ ≤ (F 67 9).toInt; omega, i4, i7, i8, Or.inl rfl⟩
  | succ m ih =>
    intro F A n k v hm hI
    obtain ⟨i1, i2, i3, i4, i5, i6, i7, i8, i9, i10, i11, i12, i13, i14⟩ := hI
    have eN : F 67 10 = F0 67 10 := i1 67 10 (by decide)
    have eT : A 71 = A0 71 := i2 71 (by decide)
    have hs : 0 ≤ (F 67 9).toInt ∧ (F 67 10).toInt ≤ ((A 71).length : Int) := ⟨by omega, by rw [eN, eT]; omega⟩
    have ho : (0 ≤ x.toInt ∧ (F 67 15).toInt ≤ ((A 73).length : Int)) ∧ (A 73).length ≤ 1000 := ⟨⟨by omega, by omega⟩, by omega⟩
    have bad : Q (some (.int 0)) (hz (uF F 67 11 (((-1000) * (1)) - (F 67 9))) A L) := hQ 0 _ A ⟨frF_u i1 (by decide), i2, by show _ ≤ (F 67 9).toInt; omega, i4, i7, i8, Or.inl rfl⟩
    have fin : ∀ (y : Int32), oV x (F 67 15) (A 73) = 0 → wp_M (d + 4) 163 [.ref 67, .int 1] (hz F A L) (fun w hp1 => wp_E (d + 4) mm155.2.2.2.2.2.2.2.2 161 [some (.ref 67), some (.int x), some (.int y)] (w.toList ++ []) hp1 Q) := by
      intro y z
      refine r_cls (d := d + 2) (a := k0) (b := b) (n := n) (k := k) i5 i6 (by omega) (by omega) i7 i8 i9 i10 (fun F' A' n' f0 f1 f2 f3 f4 f5 f6 f7 f8 f9 => ?_)
      have hn0 : n' = 0 := by
        rcases f8 (by decide) with y | y
        · exact y
        · by_cases e : n' = 0
          · exact e
          · exact absurd y (oV_0 z (b + n' - 1) (by omega) (by omega))
      subst hn0
      refine g_sum6 ?_
      have c0 := cn_pop (t := A 73) (b := b) (n' := 0) n (fun i j1 j2 => f9 i j1 (by omega))
      have c1 : cn (A 73) b 0 = 0 := rfl
      simp only [c1, Nat.zero_add] at c0
      have eP : F' 67 9 = F 67 9 := f1 67 9 (by decide)
      refine hQ 1 F' A' ⟨frF_tr i1 f1 (fun _ z => z) (by decide), frA_tr i2 f2 (fun _ z => z) (by decide), by rw [eP]; omega, by rw [eP]; exact i4, f5, by rw [f2 73 (by decide)]; exact i8, Or.inr ⟨rfl, by rw [f3]; rfl, fun i hi => by rw [f2 73 (by decide)]; exact i13 i hi, k + (n - 0), f4, ?_, by rw [eP]; exact i3, f6, fun i hi => ?_⟩⟩
      · rw [eP]
        omega
      · have := i10.1
        rw [f7 i (by omega)]
        exact i14 i hi
    have nxt : ∀ (q y : Int32), (2 ≤ y.toInt ∧ y.toInt ≤ 6) → (F 67 9).toInt < (F0 67 10).toInt → wp_M (d + 4) 163 [.ref 67, .int q] (hz F A L) (fun w hp1 => wp_E (d + 4) mm155.2.2.2.2.2.2.2.2 41 [some (.ref 67), some (.int x), some (.int y)] (w.toList ++ []) hp1 Q) := by
      intro q y hy hlt
      refine r_cls (d := d + 2) (a := k0) (b := b) (n := n) (k := k) i5 i6 (by omega) (by omega) i7 i8 i9 i10 (fun F' A' n' f0 f1 f2 f3 f4 f5 f6 f7 f8 f9 => ?_)
      show wp_E (d + 4) mm155.2.2.2.2.2.2.2.2 41 [some (.ref 67), some (.int x), some (.int y)] [] (hz F' A' L) Q
      have eP : F' 67 9 = F 67 9 := f1 67 9 (by decide)
      have e73 : A' 73 = A 73 := f2 73 (by decide)
      have hcn := cn_pop (t := A 73) (b := b) (n' := n') (n - n') (fun i j1 j2 => f9 i j1 (by omega))
      rw [show n' + (n - n') = n by omega] at hcn
      have hl : b + n' < (A' 73).length := by rw [e73]; omega
      refine g_sum3 ⟨⟨by omega, by rw [e73]; omega⟩, ?_⟩
      rw [show (F' 67 15).toInt.toNat = b + n' by omega]
      have w1 : (F' 67 15 + 1).toInt = ((b + n' + 1 : Nat) : Int) := by rw [i_1 (by omega), f3]; omega
      have p1 : (F' 67 9 + 1).toInt = (F 67 9).toInt + 1 := by rw [eP]; exact i_1 (by omega)
      have hcy := (kcode0 (o := y) ⟨by omega, by omega⟩).1
      have lowt : ∀ i, i < b + n' → opn ((A' 73).set (b + n') (1048576 * y)) i = opn (A 73) i := fun i hi => by rw [opn_of (set_ne (by omega)), e73]
      have topt : opn ((A' 73).set (b + n') (1048576 * y)) (b + n') = y.toInt := by rw [opn_set hl]; exact hcy
      have fr1 : frF [9, 11, 12, 13, 14, 15] F0 (uF (uF F' 67 15 (F' 67 15 + 1)) 67 9 (F' 67 9 + 1)) := frF_u (frF_u (frF_tr i1 f1 (fun _ z => z) (by decide)) (by decide)) (by decide)
      have fA1 : frA [72, 73] A0 (uA A' 73 ((A' 73).set (b + n') (1048576 * y))) := frA_u (frA_tr i2 f2 (fun _ z => z) (by decide)) (by decide)
      refine r_fac (w := b + n' + 1) (k := k + (n - n')) ?_ ?_ ?_ w1 f4 ?_ ?_ ?_ f5 ?_ (fun r F2 A2 g => ?_)
      · show 0 ≤ (F' 67 9 + 1).toInt
        omega
      · show (F' 67 9 + 1).toInt ≤ (F' 67 10).toInt
        rw [f1 67 10 (by decide), eN, p1]
        omega
      · show (F' 67 10).toInt ≤ 240
        rw [f1 67 10 (by decide), eN]
        exact hN
      · show ((b + n' + 1 : Nat) : Int) ≤ (F' 67 9 + 1).toInt
        omega
      · show ((k + (n - n') : Nat) : Int) ≤ (F' 67 9 + 1).toInt
        omega
      · show (A' 71).length = 260
        rw [f2 71 (by decide), eT]
        exact h71
      · show ((A' 73).set _ _).length = 260
        rw [List.length_set, e73]
        exact i8
      · obtain ⟨g1, g2, g3, g4, g5, g6, g7⟩ := g
        have g3 : (F' 67 9 + 1).toInt ≤ (F2 67 9).toInt := g3
        have g4 : (F2 67 9).toInt ≤ (F' 67 10).toInt := g4
        rw [f1 67 10 (by decide), eN] at g4
        show wp_E (d + 4) mm155.2.2.2.2.2.2.2.2 78 [some (.ref 67), some (.int x), some (.int y)] [.int r] (hz F2 A2 L) Q
        have fr2 := frF_tr fr1 g1 (fun _ z => z) (fun _ z => z)
        have fA2 := frA_tr fA1 g2 (fun _ z => z) (fun _ z => z)
        refine g_sum4 ⟨fun hr => ?_, fun hr => ?_⟩
        · rcases g7 with g7 | ⟨-, j, j1, j2, j3, ⟨c, j4, j5⟩, j6, j7⟩
          · exact absurd g7 hr
          · have j2 : (F' 67 9 + 1).toInt + (j : Int) + 1 ≤ (F2 67 9).toInt := j2
            have j5 : A2 72 = (A' 72).set (k + (n - n')) c := j5
            have j6 : ∀ i, i < b + n' + 1 → (A2 73)[i]? = ((A' 73).set (b + n') (1048576 * y))[i]? := j6
            have low2 : ∀ i, i < b + n' → opn (A2 73) i = opn (A 73) i := fun i hi => by rw [opn_of (j6 i (by omega)), lowt i hi]
            have top2 : opn (A2 73) (b + n') = y.toInt := by rw [opn_of (j6 _ (by omega)), topt]
            have cnA : cn (A2 73) b n' = cn (A 73) b n' := cn_ext n' (fun i hi => low2 (b + i) (by omega))
            have cnB : cn (A2 73) b (n' + 1) = cn (A 73) b n' + 1 := by
              show cn (A2 73) b n' + (if opn (A2 73) (b + n') = 14 then 0 else 1) = _
              rw [top2, if_neg (by omega), cnA]
            have cnC : cn (A2 73) b (n' + 1 + j) = cn (A 73) b n' + 1 := by rw [cn_14 j (fun i q1 q2 => j7 (b + i) (by omega) (by omega)), cnB]
            refine ih F2 A2 (n' + 1 + j) (k + (n - n') + 1) (some (.int y)) (by omega) ⟨fr2, fA2, by omega, g4, by rw [j1]; omega, j3, g5, g6, ⟨fun i hi => ?_, ?_⟩, ?_, ?_, ?_, fun i hi => ?_, fun i hi => ?_⟩
            · by_cases c1 : i < n'
              · rw [low2 _ (by omega)]
                exact i9.1 i (by omega)
              · by_cases c2 : i = n'
                · subst c2
                  rw [top2]
                  exact Or.inr hy
                · exact Or.inl (j7 (b + i) (by omega) (by omega))
            · rcases i9.2 with z | z
              · exact Or.inl z
              · by_cases hb0 : b = 0
                · exact Or.inl hb0
                · exact Or.inr (by rw [low2 (b - 1) (by omega)]; exact z)
            · rw [cnC, j5]
              exact ss_one f6 (by rw [f5]; omega) (Or.inl ⟨j4, rfl⟩)
            · rw [cnC]
              omega
            · omega
            · rw [j6 i (by omega), set_ne (by omega), e73]
              exact i13 i hi
            · have h10 := i10.1
              rw [j5, set_ne (by omega), f7 i (by omega)]
              exact i14 i hi
        · exact hQ 0 F2 A2 ⟨fr2, fA2, by omega, g4, g5, g6, Or.inl rfl⟩
    refine g_sum2 ⟨hs, fun _ => ⟨hs, fun _ => ⟨ho, fun z => fin _ z, fun _ => bad⟩, fun h93 => ⟨ho, fun z => ⟨ho, fun z => fin _ z, fun _ => bad⟩, fun z => ?_⟩⟩, fun z => ⟨fun _ => ?_, fun _ => ?_⟩⟩
    · have hlt : (F 67 9).toInt < (F0 67 10).toInt := by rw [← eN]; exact hV_c h93 (by decide)
      refine r_cls (d := d + 2) (a := k0) (b := b) (n := n) (k := k) i5 i6 (by omega) (by omega) i7 i8 i9 i10 (fun F' A' n' f0 f1 f2 f3 f4 f5 f6 f7 f8 f9 => ?_)
      have eP : F' 67 9 = F 67 9 := f1 67 9 (by decide)
      have e73 : A' 73 = A 73 := f2 73 (by decide)
      obtain ⟨i0, o1, o2, o3⟩ := oV_1 z
      have hn' : 1 ≤ n' ∧ opn (A 73) (b + n' - 1) = 14 := by
        have h5 : i0 < b + n' := by
          by_cases q : i0 < b + n'
          · exact q
          · exact absurd o3 (by rw [show i0 = b + (i0 - b) by omega]; exact f9 (i0 - b) (by omega) (by omega))
        rcases f8 (by decide) with y | y
        · omega
        · exact ⟨by omega, y⟩
      have hcn := cn_pop (t := A 73) (b := b) (n' := n') (n - n') (fun i j1 j2 => f9 i j1 (by omega))
      rw [show n' + (n - n') = n by omega] at hcn
      have hc1 : cn (A 73) b n' = cn (A 73) b (n' - 1) := by
        have := cn_14 (t := A 73) (b := b) (n' := n' - 1) 1 (fun i q1 q2 => by rw [show b + i = b + n' - 1 by omega]; exact hn'.2)
        rw [show n' - 1 + 1 = n' by omega] at this
        exact this
      refine g_sum5 ?_
      have p1 : (F' 67 9 + 1).toInt = (F 67 9).toInt + 1 := by rw [eP]; exact i_1 (by omega)
      refine ih _ A' (n' - 1) (k + (n - n')) _ ?_ ⟨frF_u (frF_u (frF_u (frF_tr i1 f1 (fun _ z => z) (by decide)) (by decide)) (by decide)) (by decide), frA_tr i2 f2 (fun _ z => z) (by decide), ?_, ?_, ?_, f4, f5, by rw [e73]; exact i8, ?_, ?_, ?_, ?_, fun i hi => by rw [e73]; exact i13 i hi, fun i hi => ?_⟩
      · show _ - (F' 67 9 + 1).toInt ≤ _
        omega
      · show _ < (F' 67 9 + 1).toInt
        omega
      · show (F' 67 9 + 1).toInt ≤ _
        omega
      · show (F' 67 15 - 1).toInt = _
        rw [i_m1 (by omega), f3]
        omega
      · rw [e73]
        exact ⟨fun i hi => i9.1 i (by omega), i9.2⟩
      · rw [e73, ← hc1]
        exact f6
      · show ((k + (n - n') : Nat) : Int) + (cn (A' 73) b (n' - 1) : Nat) - k0 ≤ (F' 67 9 + 1).toInt - _
        rw [e73]
        omega
      · show ((n' - 1 : Nat) : Int) ≤ (F' 67 9 + 1).toInt - _
        omega
      · have h10 := i10.1
        rw [f7 i (by omega)]
        exact i14 i hi
    · have hlt : (F 67 9).toInt < (F0 67 10).toInt := by rw [← eN]; exact hV_lt (fun q => z (by rw [q]; decide))
      have hy := sV_b (hV (F 67 9) (F 67 10) (A 71))
      rcases hy with hy | hy
      · exact absurd hy z
      · exact nxt _ _ hy hlt
    · have hlt : (F 67 9).toInt < (F0 67 10).toInt := by rw [← eN]; exact hV_lt (fun q => z (by rw [q]; decide))
      have hy := sV_b (hV (F 67 9) (F 67 10) (A 71))
      rcases hy with hy | hy
      · exact absurd hy z
      · exact nxt _ _ hy hlt
theorem r_sum {w k : Nat} (h1 : 0 ≤ (F 67 9).toInt) (h2 : (F 67 9).toInt ≤ (F 67 10).toInt) (h3 : (F 67 10).toInt ≤ 240) (h4 : (F 67 15).toInt = (w : Int)) (h5 : (F 67 14).toInt = (k : Int)) (h6 : (w : Int) ≤ (F 67 9).toInt) (h7 : (k : Int) ≤ (F 67 9).toInt) (a1 : (A 71).length = 260) (a2 : (A 72).length = 260) (a3 : (A 73).length = 260) (hw : w = 0 ∨ ¬ (2 ≤ opn (A 73) (w - 1) ∧ opn (A 73) (w - 1) ≤ 6))
    (hQ : ∀ (r : Int32) (F' : Nat → Nat → Int32) (A' : Nat → List Int32), sumP F A w k r F' A' → Q (some (.int r)) (hz F' A' L)) : wp_M (d + 5) 155 [.ref 67] (hz F A L) Q := by
  refine q_m (E := mm155) rfl ⟨Nat.le_of_ble_eq_true rfl, Nat.le_of_ble_eq_true rfl⟩ ?_
  refine g_sum0 ?_
  refine r_fac h1 h2 h3 h4 h5 h6 h7 a1 a2 a3 (fun r F2 A2 g => ?_)
  obtain ⟨g1, g2, g3, g4, g5, g6, g7⟩ := g
  show wp_E (d + 4) mm155.2.2.2.2.2.2.2.2 9 [some (.ref 67), some (.int (F 67 15)), none] [.int r] (hz F2 A2 L) Q
  refine g_sum1 ⟨fun hr => ?_, fun hr => ?_⟩
  · rcases g7 with g7 | ⟨-, j, j1, j2, j3, ⟨c, j4, j5⟩, j6, j7⟩
    · exact absurd g7 hr
    · have cnC : cn (A2 73) w j = 0 := by
        have := cn_14 (t := A2 73) (b := w) (n' := 0) j (fun i q1 q2 => j7 (w + i) (by omega) (by omega))
        rw [Nat.zero_add] at this
        exact this
      refine r_sum_loop (F0 := F) (A0 := A) (b := w) (k0 := k) h4 h6 h7 h3 a1 hQ ((F 67 10).toInt - (F2 67 9).toInt).toNat F2 A2 j (k + 1) none (by omega) ⟨g1, g2, by omega, g4, j1, j3, g5, g6, ⟨fun i hi => Or.inl (j7 (w + i) (by omega) (by omega)), ?_⟩, ?_, ?_, ?_, j6, fun i hi => ?_⟩
      · rcases hw with z | z
        · exact Or.inl z
        · by_cases hb0 : w = 0
          · exact Or.inl hb0
          · exact Or.inr (by rw [opn_of (j6 (w - 1) (by omega))]; exact z)
      · rw [cnC, j5]
        exact ss_one (ss_nil _ _) (by omega) (Or.inl ⟨j4, rfl⟩)
      · rw [cnC]
        omega
      · omega
      · rw [j5, set_ne (by omega)]
  · exact hQ 0 F2 A2 ⟨g1, g2, g3, g4, g5, g6, Or.inl rfl⟩
end PS3
