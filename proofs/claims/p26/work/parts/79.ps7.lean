/-! the law: its loop, and its copies -/
section PS7
variable {d : Nat} {F : Nat → Nat → Int32} {A : Nat → List Int32} {L : Nat → List Int64} {Q : Option Value → sm_H → Prop}
noncomputable def len2 (A : Nat → List Int32) : Prop := (A 78).length = 260 ∧ (A 79).length = 16 ∧ (A 80).length = 16 ∧ (A 81).length = 16 ∧ (A 82).length = 16
/-- what was said, at work -/
theorem wf_of {q k : Nat} (hq : F 67 17 = nI q) (hq16 : q ≤ 16) (hs : said A q k) (hl : lens A) (h2 : len2 A) (hk : k ≤ 260) (hc : ∀ i, i < k → (A 78)[i]? = (A 72)[i]?) (hr : ∀ i, i < q → (A 80)[i]? = (A 75)[i]? ∧ (A 81)[i]? = (A 76)[i]? ∧ (A 82)[i]? = (A 77)[i]?) : an_WF (hz F A L) := by
  have eq : (nI q).toInt = (q : Int) := nI_toInt (by omega)
  refine ⟨nI q, A 78, A 80, A 81, A 82, by show some (Value.int (F 67 17)) = _; rw [hq], rfl, rfl, rfl, rfl, by rw [eq]; omega, fun c hcq => ?_⟩
  rw [eq] at hcq
  obtain ⟨a, m, b, g1, g2, g3, g4, g5, g6⟩ := hs c (by omega)
  obtain ⟨r1, r2, r3⟩ := hr c (by omega)
  have hm := g5.1
  exact ⟨a, m, b, by rw [r1]; exact g1, by rw [r2]; exact g2, by rw [r3]; exact g3, cw_seg_ext g4 (fun i _ hi => hc i (by omega)), cw_seg_ext g5 (fun i _ hi => hc i (by omega))⟩
theorem gd_some {l : List Int32} {i : Nat} (h : i < l.length) : some (l.getD i 0) = l[i]? := (q_gd h).symm
theorem r_law5 {x r : Int32} {q : Nat} (hq : (F 67 16).toInt = (q : Int)) (hq16 : q ≤ 16) : ∀ (m : Nat) (y : Int32) (A : Nat → List Int32) (j : Nat), y.toInt = (j : Int) → j + m = q → lens A → len2 A → (∀ i, i < j → (A 80)[i]? = (A 75)[i]? ∧ (A 81)[i]? = (A 76)[i]? ∧ (A 82)[i]? = (A 77)[i]?) →
    (∀ A', frA [79, 80, 81, 82] A A' → len2 A' → (∀ i, i < q → (A' 80)[i]? = (A 75)[i]? ∧ (A' 81)[i]? = (A 76)[i]? ∧ (A' 82)[i]? = (A 77)[i]?) → Q (some (.int (F 67 16))) (hz F A' L)) →
    wp_E (d + 8) mm151.2.2.2.2.2.2.2.2 138 [some (.ref 67), some (.int x), some (.int r), some (.int y)] [] (hz F A L) Q := by
  intro m
  induction m with
  | zero =>
    intro y A j hy hj hl h2 hr hQ
    refine g_law5 ⟨fun _ => hQ A frA_rf h2 (fun i hi => hr i (by omega)), fun z => absurd z (by omega)⟩
  | succ m ih =>
    intro y A j hy hj hl h2 hr hQ
    obtain ⟨l1, l2, l3, l4, l5, l6, l7⟩ := hl
    obtain ⟨m1, m2, m3, m4, m5⟩ := h2
    refine g_law5 ⟨fun z => absurd z (by omega), fun _ => ⟨⟨by omega, by omega⟩, ⟨by omega, by omega⟩, ⟨by omega, by omega⟩, ⟨by omega, by omega⟩, ⟨by omega, by omega⟩, ⟨by omega, by omega⟩, ⟨by omega, by omega⟩, ⟨by omega, by omega⟩, ?_⟩⟩
    rw [show y.toInt.toNat = j by omega]
    have y1 : (y + 1).toInt = ((j + 1 : Nat) : Int) := by rw [i_1 (by omega), hy]; omega
    refine ih (y + 1) _ (j + 1) y1 (by omega) ⟨l1, l2, l3, l4, l5, l6, l7⟩ ⟨m1, by show ((A 79).set j _).length = 16; rw [List.length_set]; exact m2, by show ((A 80).set j _).length = 16; rw [List.length_set]; exact m3, by show ((A 81).set j _).length = 16; rw [List.length_set]; exact m4, by show ((A 82).set j _).length = 16; rw [List.length_set]; exact m5⟩ (fun i hi => ?_) (fun A' f1 f2 f3 => hQ A' (frA_tr (frA_u (frA_u (frA_u (frA_u frA_rf (by decide)) (by decide)) (by decide)) (by decide)) f1 (fun _ z => z) (fun _ z => z)) f2 f3)
    by_cases e : i = j
    · subst e
      refine ⟨?_, ?_, ?_⟩
      · show ((A 80).set i ((A 75).getD i 0))[i]? = (A 75)[i]?
        rw [List.getElem?_set_self (by omega), gd_some (by omega)]
      · show ((A 81).set i ((A 76).getD i 0))[i]? = (A 76)[i]?
        rw [List.getElem?_set_self (by omega), gd_some (by omega)]
      · show ((A 82).set i ((A 77).getD i 0))[i]? = (A 77)[i]?
        rw [List.getElem?_set_self (by omega), gd_some (by omega)]
    · have h := hr i (by omega)
      refine ⟨?_, ?_, ?_⟩
      · show ((A 80).set j _)[i]? = (A 75)[i]?
        rw [set_ne e]
        exact h.1
      · show ((A 81).set j _)[i]? = (A 76)[i]?
        rw [set_ne e]
        exact h.2.1
      · show ((A 82).set j _)[i]? = (A 77)[i]?
        rw [set_ne e]
        exact h.2.2
theorem r_law4 {x r : Int32} {k : Nat} (hk : (F 67 14).toInt = (k : Int)) (hk260 : k ≤ 250) : ∀ (m : Nat) (y : Int32) (A : Nat → List Int32) (j : Nat), y.toInt = (j : Int) → j + m = k → lens A → len2 A → (∀ i, i < j → (A 78)[i]? = (A 72)[i]?) →
    (∀ A', frA [78] A A' → len2 A' → (∀ i, i < k → (A' 78)[i]? = (A 72)[i]?) → wp_E (d + 8) mm151.2.2.2.2.2.2.2.2 138 [some (.ref 67), some (.int x), some (.int r), some (.int 0)] [] (hz F A' L) Q) →
    wp_E (d + 8) mm151.2.2.2.2.2.2.2.2 110 [some (.ref 67), some (.int x), some (.int r), some (.int y)] [] (hz F A L) Q := by
  intro m
  induction m with
  | zero =>
    intro y A j hy hj hl h2 hr hQ
    refine g_law4 ⟨fun _ => hQ A frA_rf h2 (fun i hi => hr i (by omega)), fun z => absurd z (by omega)⟩
  | succ m ih =>
    intro y A j hy hj hl h2 hr hQ
    obtain ⟨l1, l2, l3, l4, l5, l6, l7⟩ := hl
    obtain ⟨m1, m2, m3, m4, m5⟩ := h2
    refine g_law4 ⟨fun z => absurd z (by omega), fun _ => ⟨⟨by omega, by omega⟩, ⟨by omega, by omega⟩, ?_⟩⟩
    rw [show y.toInt.toNat = j by omega]
    have y1 : (y + 1).toInt = ((j + 1 : Nat) : Int) := by rw [i_1 (by omega), hy]; omega
    refine ih (y + 1) _ (j + 1) y1 (by omega) ⟨l1, l2, l3, l4, l5, l6, l7⟩ ⟨by show ((A 78).set j _).length = 260; rw [List.length_set]; exact m1, m2, m3, m4, m5⟩ (fun i hi => ?_) (fun A' f1 f2 f3 => hQ A' (frA_tr (frA_u frA_rf (by decide)) f1 (fun _ z => z) (fun _ z => z)) f2 f3)
    by_cases e : i = j
    · subst e
      show ((A 78).set i ((A 72).getD i 0))[i]? = (A 72)[i]?
      rw [List.getElem?_set_self (by omega), gd_some (by omega)]
    · show ((A 78).set j _)[i]? = (A 72)[i]?
      rw [set_ne e]
      exact hr i (by omega)
/-- where the loop of the law stands -/
noncomputable def lawI (F0 : Nat → Nat → Int32) (A0 : Nat → List Int32) (F : Nat → Nat → Int32) (A : Nat → List Int32) : Prop :=
  frF [9, 10, 11, 12, 13, 14, 15, 16] F0 F ∧ frA [72, 73, 74, 75, 76, 77] A0 A ∧ 0 ≤ (F 67 9).toInt ∧ (F 67 9).toInt ≤ (F 67 10).toInt ∧ (F 67 10).toInt ≤ 240 ∧ lens A
theorem lawI_r {F0 : Nat → Nat → Int32} {A0 : Nat → List Int32} {F1 : Nat → Nat → Int32} {A1 : Nat → List Int32} (h : lawI F0 A0 F A) (h' : rulB F A F1 A1) : lawI F0 A0 F1 A1 := by
  obtain ⟨a1, a2, a3, a4, a5, a6⟩ := h
  obtain ⟨b1, b2, b3, b4, b5⟩ := h'
  have eN : F1 67 10 = F 67 10 := b1 67 10 (by decide)
  exact ⟨frF_tr a1 b1 (by decide) (by decide), frA_tr a2 b2 (fun _ z => z) (fun _ z => z), by omega, by rw [eN]; exact b4, by rw [eN]; exact a5, b5⟩
theorem said_r {F1 : Nat → Nat → Int32} {A1 : Nat → List Int32} {k q k' k'' : Nat} (h : said A q k) (hk : k' ≤ k'') (hkk : k ≤ k') (s1 : cw_seg (A1 72) k k') (s2 : cw_seg (A1 72) k' k'') (e1 : (A1 75)[q]? = some (nI k)) (e2 : (A1 76)[q]? = some (nI k')) (e3 : (A1 77)[q]? = some (nI k'')) (hl : ∀ i, i < k → (A1 72)[i]? = (A 72)[i]?) (hr : ∀ i, i < q → (A1 75)[i]? = (A 75)[i]? ∧ (A1 76)[i]? = (A 76)[i]? ∧ (A1 77)[i]? = (A 77)[i]?) : said A1 (q + 1) k'' := by
  intro c hc
  by_cases e : c = q
  · subst e
    exact ⟨k, k', k'', e1, e2, e3, s1, s2, Nat.le_refl _⟩
  · obtain ⟨a, m, b, g1, g2, g3, g4, g5, g6⟩ := h c (by omega)
    obtain ⟨r1, r2, r3⟩ := hr c (by omega)
    have := g5.1
    exact ⟨a, m, b, by rw [r1]; exact g1, by rw [r2]; exact g2, by rw [r3]; exact g3, cw_seg_ext g4 (fun i _ hi => hl i (by omega)), cw_seg_ext g5 (fun i _ hi => hl i (by omega)), by omega⟩
set_option maxHeartbeats 1000000 in
theorem r_law_loop {F0 : Nat → Nat → Int32} {A0 : Nat → List Int32} {x : Int32} (h2 : len2 A0) (hQ : ∀ (r : Int32) (F' : Nat → Nat → Int32) (A' : Nat → List Int32), lawP F0 A0 F' A' L → Q (some (.int r)) (hz F' A' L)) : ∀ (m : Nat) (F : Nat → Nat → Int32) (A : Nat → List Int32) (r : Int32), (F 67 10).toInt - (F 67 9).toInt ≤ (m : Int) → lawI F0 A0 F A → (r = 0 ∨ ∃ k q : Nat, (F 67 14).toInt = (k : Int) ∧ (k : Int) ≤ (F 67 9).toInt ∧ (F 67 16).toInt = (q : Int) ∧ q ≤ 16 ∧ said A q k) → wp_E (d + 8) mm151.2.2.2.2.2.2.2.2 46 [some (.ref 67), some (.int x), some (.int r), none] [] (hz F A L) Q := by
  have endB : ∀ (F : Nat → Nat → Int32) (A : Nat → List Int32), lawI F0 A0 F A → Q (some (.int (F 67 11))) (hz (uF F 67 8 0) A L) := by
    intro F A hI
    obtain ⟨a1, a2, a3, a4, a5, a6⟩ := hI
    refine hQ _ _ A ⟨frF_u (frF_tr a1 (frF_rf (S := [])) (by decide) (by decide)) (by decide), frA_tr a2 (frA_rf (S := [])) (by decide) (by decide), a3, by show (F 67 9).toInt ≤ 240; omega, by show 0 ≤ (F 67 10).toInt; omega, a5, rfl, a6, ?_, ?_, ?_, ?_, ?_, Or.inl ⟨?_, fun k k1 k2 => a2 k (fun z => ?_)⟩⟩
    · rw [a2 78 (by decide)]; exact h2.1
    · rw [a2 79 (by decide)]; exact h2.2.1
    · rw [a2 80 (by decide)]; exact h2.2.2.1
    · rw [a2 81 (by decide)]; exact h2.2.2.2.1
    · rw [a2 82 (by decide)]; exact h2.2.2.2.2
    · show F 67 17 = F0 67 17
      exact a1 67 17 (by decide)
    · simp at z
      omega
  have endG : ∀ (F : Nat → Nat → Int32) (A : Nat → List Int32) (r : Int32), lawI F0 A0 F A → (∃ k q : Nat, (F 67 14).toInt = (k : Int) ∧ (k : Int) ≤ (F 67 9).toInt ∧ (F 67 16).toInt = (q : Int) ∧ q ≤ 16 ∧ said A q k) → wp_E (d + 8) mm151.2.2.2.2.2.2.2.2 110 [some (.ref 67), some (.int x), some (.int r), some (.int 0)] [] (hz (uF (uF F 67 8 0) 67 17 (F 67 16)) A L) Q := by
    intro F A r hI hG
    obtain ⟨a1, a2, a3, a4, a5, a6⟩ := hI
    obtain ⟨k, q, g1, g2, g3, g4, g5⟩ := hG
    have l2A : len2 A := ⟨by rw [a2 78 (by decide)]; exact h2.1, by rw [a2 79 (by decide)]; exact h2.2.1, by rw [a2 80 (by decide)]; exact h2.2.2.1, by rw [a2 81 (by decide)]; exact h2.2.2.2.1, by rw [a2 82 (by decide)]; exact h2.2.2.2.2⟩
    refine r_law4 (F := uF (uF F 67 8 0) 67 17 (F 67 16)) (k := k) g1 (by omega) k 0 A 0 rfl (by omega) a6 l2A (fun i hi => absurd hi (by omega)) (fun A1 f1 f2 f3 => ?_)
    have e72 : A1 72 = A 72 := f1 72 (by decide)
    have e75 : A1 75 = A 75 := f1 75 (by decide)
    have e76 : A1 76 = A 76 := f1 76 (by decide)
    have e77 : A1 77 = A 77 := f1 77 (by decide)
    have lA1 : lens A1 := ⟨by rw [f1 71 (by decide)]; exact a6.1, by rw [e72]; exact a6.2.1, by rw [f1 73 (by decide)]; exact a6.2.2.1, by rw [f1 74 (by decide)]; exact a6.2.2.2.1, by rw [e75]; exact a6.2.2.2.2.1, by rw [e76]; exact a6.2.2.2.2.2.1, by rw [e77]; exact a6.2.2.2.2.2.2⟩
    refine r_law5 (F := uF (uF F 67 8 0) 67 17 (F 67 16)) (q := q) g3 g4 q 0 A1 0 rfl (by omega) lA1 f2 (fun i hi => absurd hi (by omega)) (fun A2 j1 j2 j3 => ?_)
    have e72' : A2 72 = A 72 := by rw [j1 72 (by decide), e72]
    have e75' : A2 75 = A 75 := by rw [j1 75 (by decide), e75]
    have e76' : A2 76 = A 76 := by rw [j1 76 (by decide), e76]
    have e77' : A2 77 = A 77 := by rw [j1 77 (by decide), e77]
    have e78' : A2 78 = A1 78 := j1 78 (by decide)
    have lA2 : lens A2 := ⟨by rw [j1 71 (by decide)]; exact lA1.1, by rw [j1 72 (by decide)]; exact lA1.2.1, by rw [j1 73 (by decide)]; exact lA1.2.2.1, by rw [j1 74 (by decide)]; exact lA1.2.2.2.1, by rw [j1 75 (by decide)]; exact lA1.2.2.2.2.1, by rw [j1 76 (by decide)]; exact lA1.2.2.2.2.2.1, by rw [j1 77 (by decide)]; exact lA1.2.2.2.2.2.2⟩
    have hw : an_WF (hz (uF (uF F 67 8 0) 67 17 (F 67 16)) A2 L) := by
      refine wf_of (q := q) (k := k) (is_nI g3 (by omega)) g4 (fun c hc => ?_) lA2 j2 (by omega) (fun i hi => ?_) (fun i hi => ?_)
      · obtain ⟨a, m, b, y1, y2, y3, y4, y5, y6⟩ := g5 c hc
        exact ⟨a, m, b, by rw [e75']; exact y1, by rw [e76']; exact y2, by rw [e77']; exact y3, by rw [e72']; exact y4, by rw [e72']; exact y5, y6⟩
      · rw [e78', e72']
        exact f3 i hi
      · have := j3 i hi
        rw [e75', e76', e77', ← e75, ← e76, ← e77]
        exact this
    refine hQ _ _ A2 ⟨frF_u (frF_u (frF_tr a1 (frF_rf (S := [])) (by decide) (by decide)) (by decide)) (by decide), frA_tr (frA_tr a2 f1 (T := [72, 73, 74, 75, 76, 77, 78]) (by decide) (by decide)) j1 (by decide) (by decide), a3, by show (F 67 9).toInt ≤ 240; omega, by show 0 ≤ (F 67 10).toInt; omega, a5, rfl, lA2, j2.1, j2.2.1, j2.2.2.1, j2.2.2.2.1, j2.2.2.2.2, Or.inr ⟨hw, ?_, ?_⟩⟩
    · show 0 ≤ (F 67 16).toInt
      omega
    · show (F 67 16).toInt ≤ 16
      omega
  have bad : ∀ (F : Nat → Nat → Int32) (A : Nat → List Int32), lawI F0 A0 F A → wp_E (d + 8) mm151.2.2.2.2.2.2.2.2 46 [some (.ref 67), some (.int x), some (.int 0), none] [] (hz F A L) Q := fun F A hI => g_law2 ⟨fun _ => ⟨fun z => absurd rfl z, fun _ => endB F A hI⟩, fun z => absurd rfl z⟩
  intro m
  induction m with
  | zero =>
    intro F A r hm hI hr
    have hI' := hI
    obtain ⟨a1, a2, a3, a4, a5, a6⟩ := hI
    refine g_law2 ⟨fun z => ⟨fun y => absurd z y, fun _ => endB F A hI'⟩, fun z => ⟨fun _ => ⟨fun _ => ?_, fun y => absurd y z⟩, fun y => absurd y (by omega)⟩⟩
    rcases hr with hr | hr
    · exact absurd hr z
    · exact endG F A r hI' hr
  | succ m ih =>
    intro F A r hm hI hr
    have hI' := hI
    obtain ⟨a1, a2, a3, a4, a5, a6⟩ := hI
    refine g_law2 ⟨fun z => ⟨fun y => absurd z y, fun _ => endB F A hI'⟩, fun z => ⟨fun _ => ⟨fun _ => ?_, fun y => absurd y z⟩, fun hlt => ⟨⟨a3, by have := a6.1; omega⟩, fun _ => ?_, fun _ => ?_⟩⟩⟩
    · rcases hr with hr | hr
      · exact absurd hr z
      · exact endG F A r hI' hr
    · rcases hr with hr | ⟨k, q, g1, g2, g3, g4, g5⟩
      · exact absurd hr z
      · have p1 : (F 67 9 + 1).toInt = (F 67 9).toInt + 1 := i_1 (by omega)
        have hI1 : lawI F0 A0 (uF F 67 9 (F 67 9 + 1)) A := ⟨frF_u a1 (by decide), a2, by show 0 ≤ (F 67 9 + 1).toInt; omega, by show (F 67 9 + 1).toInt ≤ (F 67 10).toInt; omega, a5, a6⟩
        refine r_rul (k := k) (q := q) hI1.2.2.1 hI1.2.2.2.1 a5 g1 (by show (k : Int) ≤ (F 67 9 + 1).toInt; omega) g3 g4 a6 (fun r' F1 A1 h => ?_)
        obtain ⟨hB, h⟩ := h
        show wp_E (d + 8) mm151.2.2.2.2.2.2.2.2 74 [some (.ref 67), some (.int x), some (.int r), none] [.int r'] (hz F1 A1 L) Q
        have hI2 := lawI_r hI1 hB
        refine g_law3 ⟨fun _ => bad F1 A1 hI2, fun hr' => ?_⟩
        rcases h with h | ⟨-, h16, hq', hp', k', k'', y1, y2, y3, y4, y5, y6, y7, y8, y9⟩
        · exact absurd h hr'
        · have hp' : (F 67 9 + 1).toInt < (F1 67 9).toInt := hp'
          refine ih F1 A1 1 ?_ hI2 (Or.inr ⟨k'', q + 1, y1, y2, hq', by omega, said_r (F1 := F1) g5 y4.1 y3.1 y3 y4 y5 y6 y7 y8 y9⟩)
          rw [hB.1 67 10 (by decide)]
          show (F 67 10).toInt - _ ≤ _
          omega
    · exact bad _ A ⟨frF_u a1 (by decide), a2, a3, a4, a5, a6⟩
theorem r_law {x : Int32} (hl : lens A) (h2 : len2 A) (hQ1 : Q (some (.int (-1))) (hz F A L)) (hQ : ∀ (r : Int32) (F' : Nat → Nat → Int32) (A' : Nat → List Int32), lawP F A F' A' L → Q (some (.int r)) (hz F' A' L)) : wp_M (d + 9) 151 [.ref 67, .int x] (hz F A L) Q := by
  refine q_m (E := mm151) rfl ⟨Nat.le_of_ble_eq_true rfl, Nat.le_of_ble_eq_true rfl⟩ ?_
  have e240 : (240 : Int32).toInt = 240 := rfl
  refine g_law0 ⟨fun _ => hQ1, fun h1 => ⟨fun _ => hQ1, fun h240 => ⟨fun _ => ?_, fun _ => hQ1⟩⟩⟩
  rw [e1'] at h1
  rw [e240] at h240
  have hI : lawI F A (uF (uF (uF (uF F 67 9 0) 67 10 x) 67 14 0) 67 16 0) A := ⟨frF_u (frF_u (frF_u (frF_u frF_rf (by decide)) (by decide)) (by decide)) (by decide), frA_rf, by show 0 ≤ (0 : Int32).toInt; decide, by show (0 : Int32).toInt ≤ x.toInt; rw [e0]; omega, h240, hl⟩
  refine r_rul (k := 0) (q := 0) hI.2.2.1 hI.2.2.2.1 h240 rfl (by show ((0 : Nat) : Int) ≤ (0 : Int32).toInt; decide) rfl (by omega) hl (fun r F1 A1 h => ?_)
  obtain ⟨hB, h⟩ := h
  refine g_law1 ?_
  refine r_law_loop (F0 := F) (A0 := A) h2 hQ ((F1 67 10).toInt - (F1 67 9).toInt).toNat F1 A1 r (by omega) (lawI_r hI hB) ?_
  rcases h with h | ⟨-, h16, hq', hp', k', k'', y1, y2, y3, y4, y5, y6, y7, y8, y9⟩
  · exact Or.inl h
  · exact Or.inr ⟨k'', 0 + 1, y1, y2, hq', by omega, said_r (A := A) (F1 := F1) (fun c hc => absurd hc (by omega)) y4.1 y3.1 y3 y4 y5 y6 y7 y8 y9⟩
end PS7
