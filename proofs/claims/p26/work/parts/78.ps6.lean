/-! a rule, and the law -/
section PS6
variable {d : Nat} {F : Nat → Nat → Int32} {A : Nat → List Int32} {L : Nat → List Int64} {Q : Option Value → sm_H → Prop}
noncomputable def lens (A : Nat → List Int32) : Prop := (A 71).length = 260 ∧ (A 72).length = 260 ∧ (A 73).length = 260 ∧ (A 74).length = 16 ∧ (A 75).length = 16 ∧ (A 76).length = 16 ∧ (A 77).length = 16
noncomputable def rulB (F : Nat → Nat → Int32) (A : Nat → List Int32) (F' : Nat → Nat → Int32) (A' : Nat → List Int32) : Prop :=
  frF [9, 11, 12, 13, 14, 15, 16] F F' ∧ frA [72, 73, 74, 75, 76, 77] A A' ∧ (F 67 9).toInt ≤ (F' 67 9).toInt ∧ (F' 67 9).toInt ≤ (F 67 10).toInt ∧ lens A'
theorem rulB_tr {F1 F2 : Nat → Nat → Int32} {A1 A2 : Nat → List Int32} (h : rulB F A F1 A1) (h' : rulB F1 A1 F2 A2) : rulB F A F2 A2 := by
  obtain ⟨a1, a2, a3, a4, a5⟩ := h
  obtain ⟨b1, b2, b3, b4, b5⟩ := h'
  have eN : F1 67 10 = F 67 10 := a1 67 10 (by decide)
  exact ⟨frF_tr a1 b1 (fun _ z => z) (fun _ z => z), frA_tr a2 b2 (fun _ z => z) (fun _ z => z), by omega, by rw [eN] at b4; exact b4, b5⟩
theorem lens_of {A' : Nat → List Int32} (h : lens A) (hA : frA [72, 73] A A') (h2 : (A' 72).length = 260) (h3 : (A' 73).length = 260) : lens A' := by
  obtain ⟨l1, l2, l3, l4, l5, l6, l7⟩ := h
  exact ⟨by rw [hA 71 (by decide)]; exact l1, h2, h3, by rw [hA 74 (by decide)]; exact l4, by rw [hA 75 (by decide)]; exact l5, by rw [hA 76 (by decide)]; exact l6, by rw [hA 77 (by decide)]; exact l7⟩
/-- behind a rule -/
noncomputable def rulP (F : Nat → Nat → Int32) (A : Nat → List Int32) (k q : Nat) (r : Int32) (F' : Nat → Nat → Int32) (A' : Nat → List Int32) : Prop :=
  rulB F A F' A' ∧ (r = 0 ∨ (r = 1 ∧ q < 16 ∧ (F' 67 16).toInt = ((q + 1 : Nat) : Int) ∧ (F 67 9).toInt < (F' 67 9).toInt ∧ ∃ k' k'' : Nat, (F' 67 14).toInt = (k'' : Int) ∧ (k'' : Int) ≤ (F' 67 9).toInt ∧ cw_seg (A' 72) k k' ∧ cw_seg (A' 72) k' k'' ∧ (A' 75)[q]? = some (nI k) ∧ (A' 76)[q]? = some (nI k') ∧ (A' 77)[q]? = some (nI k'') ∧ (∀ i, i < k → (A' 72)[i]? = (A 72)[i]?) ∧ ∀ i, i < q → (A' 75)[i]? = (A 75)[i]? ∧ (A' 76)[i]? = (A 76)[i]? ∧ (A' 77)[i]? = (A 77)[i]?))
theorem is_nI {x : Int32} {k : Nat} (h : x.toInt = (k : Int)) (hk : k < 1000) : x = nI k := by
  rw [ie, h, nI_toInt (by omega)]
/-- from the half of a rule on -/
theorem r_rul2 {F0 : Nat → Nat → Int32} {A0 : Nat → List Int32} {x : Int32} {k q k' : Nat} (hB : rulB F0 A0 F A) (h1 : (F0 67 9).toInt < (F 67 9).toInt) (h0 : 0 ≤ (F0 67 9).toInt) (h3 : (F0 67 10).toInt ≤ 240) (hk' : (F 67 14).toInt = (k' : Int)) (hkP : (k' : Int) ≤ (F 67 9).toInt) (hq : (F 67 16).toInt = (q : Int)) (hq16 : q < 16) (hseg : cw_seg (A 72) k k') (h75 : (A 75)[q]? = some (nI k)) (hlow : ∀ i, i < k → (A 72)[i]? = (A0 72)[i]?) (hrow : ∀ i, i < q → (A 75)[i]? = (A0 75)[i]? ∧ (A 76)[i]? = (A0 76)[i]? ∧ (A 77)[i]? = (A0 77)[i]?)
    (hQ : ∀ (r : Int32) (F' : Nat → Nat → Int32) (A' : Nat → List Int32), rulP F0 A0 k q r F' A' → Q (some (.int r)) (hz F' A' L)) : wp_E (d + 7) mm152.2.2.2.2.2.2.2.2 116 [some (.ref 67), some (.int x)] [] (hz F A L) Q := by
  have hB' := hB
  obtain ⟨b1, b2, b3, b4, l1, l2, l3, l4, l5, l6, l7⟩ := hB
  have eN : F 67 10 = F0 67 10 := b1 67 10 (by decide)
  refine g_rul2 ⟨⟨by omega, by omega⟩, ?_⟩
  rw [show (F 67 16).toInt.toNat = q by omega]
  refine r_con (k := k') (by omega) (by rw [eN]; exact b4) (by rw [eN]; exact h3) hk' hkP l1 l2 l3 (fun r F1 A1 h => ?_)
  obtain ⟨⟨c1, c2, c3, c4, c5, c6⟩, h⟩ := h
  have c4 : (F1 67 9).toInt ≤ (F 67 10).toInt := c4
  have e76 : A1 76 = (A 76).set q (F 67 14) := c2 76 (by decide)
  have e75 : A1 75 = A 75 := c2 75 (by decide)
  have e77 : A1 77 = A 77 := c2 77 (by decide)
  have e71 : A1 71 = A 71 := c2 71 (by decide)
  have e74 : A1 74 = A 74 := c2 74 (by decide)
  have e16 : F1 67 16 = F 67 16 := c1 67 16 (by decide)
  have lA1 : lens A1 := ⟨by rw [e71]; exact l1, c5, c6, by rw [e74]; exact l4, by rw [e75]; exact l5, by rw [e76, List.length_set]; exact l6, by rw [e77]; exact l7⟩
  have B1 : rulB F A F1 A1 := ⟨frF_tr c1 (frF_rf (S := [])) (by decide) (by decide), frA_tr (frA_u (j := 76) (frA_rf (S := [76])) (by decide)) c2 (by decide) (by decide), c3, c4, lA1⟩
  show wp_E (d + 7) mm152.2.2.2.2.2.2.2.2 133 [some (.ref 67), some (.int x)] [.int r] (hz F1 A1 L) Q
  rcases h with h | ⟨h, hl1, hp1, k'', g1, g2, g3⟩
  · exact g_rul3 ⟨fun z => absurd h z, fun _ => hQ 0 F1 A1 ⟨rulB_tr hB' B1, Or.inl rfl⟩⟩
  · refine g_rul3 ⟨fun _ => ⟨⟨by rw [e16]; omega, by rw [e16, e77]; omega⟩, ?_⟩, fun z => absurd z (by rw [h]; decide)⟩
    rw [e16, show (F 67 16).toInt.toNat = q by omega]
    have B2 : rulB F1 A1 (uF F1 67 16 (F 67 16 + 1)) (uA A1 77 ((A1 77).set q (F1 67 14))) := ⟨frF_u frF_rf (by decide), frA_u frA_rf (by decide), Int.le_refl _, by show (F1 67 9).toInt ≤ (F1 67 10).toInt; rw [c1 67 10 (by decide)]; exact c4, lA1.1, lA1.2.1, lA1.2.2.1, lA1.2.2.2.1, lA1.2.2.2.2.1, lA1.2.2.2.2.2.1, by show ((A1 77).set q _).length = 16; rw [List.length_set]; exact lA1.2.2.2.2.2.2⟩
    have hp1 : (F 67 9).toInt < (F1 67 9).toInt := hp1
    have hk260 := g3.2.1
    refine hQ 1 _ _ ⟨rulB_tr (rulB_tr hB' B1) B2, Or.inr ⟨rfl, hq16, ?_, ?_, k', k'', g1, g2, ?_, g3, ?_, ?_, ?_, ?_, ?_⟩⟩
    · show (F 67 16 + 1).toInt = _
      rw [i_1 (by omega), hq]
      omega
    · show _ < (F1 67 9).toInt
      omega
    · exact cw_seg_ext hseg (fun i q1 q2 => hl1 i q2)
    · show (A1 75)[q]? = _
      rw [e75]
      exact h75
    · show (A1 76)[q]? = _
      rw [e76, List.getElem?_set_self (by omega), is_nI hk' (by omega)]
    · show ((A1 77).set q (F1 67 14))[q]? = _
      rw [List.getElem?_set_self (by rw [e77]; omega), is_nI g1 (by omega)]
    · intro i hi
      have := hseg.1
      rw [show (uA A1 77 ((A1 77).set q (F1 67 14))) 72 = A1 72 from rfl, hl1 i (by omega)]
      exact hlow i hi
    · intro i hi
      have hr := hrow i hi
      refine ⟨?_, ?_, ?_⟩
      · show (A1 75)[i]? = _
        rw [e75]
        exact hr.1
      · show (A1 76)[i]? = _
        rw [e76, set_ne (by omega)]
        exact hr.2.1
      · show ((A1 77).set q _)[i]? = _
        rw [set_ne (by omega), e77]
        exact hr.2.2
theorem r_rul {k q : Nat} (h1 : 0 ≤ (F 67 9).toInt) (h2 : (F 67 9).toInt ≤ (F 67 10).toInt) (h3 : (F 67 10).toInt ≤ 240) (h5 : (F 67 14).toInt = (k : Int)) (h7 : (k : Int) ≤ (F 67 9).toInt) (hq : (F 67 16).toInt = (q : Int)) (hq16 : q ≤ 16) (hA : lens A)
    (hQ : ∀ (r : Int32) (F' : Nat → Nat → Int32) (A' : Nat → List Int32), rulP F A k q r F' A' → Q (some (.int r)) (hz F' A' L)) : wp_M (d + 8) 152 [.ref 67] (hz F A L) Q := by
  have hA' := hA
  obtain ⟨l1, l2, l3, l4, l5, l6, l7⟩ := hA
  refine q_m (E := mm152) rfl ⟨Nat.le_of_ble_eq_true rfl, Nat.le_of_ble_eq_true rfl⟩ ?_
  have hs : 0 ≤ (F 67 9).toInt ∧ (F 67 10).toInt ≤ ((A 71).length : Int) := ⟨h1, by omega⟩
  have bad : ∀ v : Int32, Q (some (.int 0)) (hz (uF F 67 11 v) A L) := fun v => hQ 0 _ A ⟨⟨frF_u frF_rf (by decide), frA_rf, Int.le_refl _, h2, hA'⟩, Or.inl rfl⟩
  have go : (F 67 9).toInt < (F 67 10).toInt → ∀ x : Int32, wp_E (d + 7) mm152.2.2.2.2.2.2.2.2 39 [some (.ref 67), some (.int x)] [] (hz F A L) Q := by
    intro hlt x
    have p1 : (F 67 9 + 1).toInt = (F 67 9).toInt + 1 := i_1 (by omega)
    refine g_rulA ⟨fun y => ?_, fun _ => bad _⟩
    have hq' : q < 16 := by
      by_cases e : q = 16
      · exact absurd (by rw [ie, hq, e]; rfl) y
      · omega
    have eq : (F 67 16).toInt.toNat = q := by omega
    have hnk := is_nI h5 (by omega)
    have B1 : rulB F A (uF (uF (uF F 67 9 ((F 67 9) + 1)) 67 13 0) 67 15 0) (uA (uA A 74 ((A 74).set q x)) 75 ((A 75).set q (F 67 14))) := ⟨frF_u (frF_u (frF_u frF_rf (by decide)) (by decide)) (by decide), frA_u (frA_u frA_rf (by decide)) (by decide), by show _ ≤ (F 67 9 + 1).toInt; omega, by show (F 67 9 + 1).toInt ≤ _; omega, l1, l2, l3, by show ((A 74).set q _).length = 16; rw [List.length_set]; exact l4, by show ((A 75).set q _).length = 16; rw [List.length_set]; exact l5, l6, l7⟩
    have h75 : ((A 75).set q (F 67 14))[q]? = some (nI k) := by rw [List.getElem?_set_self (by omega), hnk]
    have hrow : ∀ i, i < q → ((A 75).set q (F 67 14))[i]? = (A 75)[i]? ∧ (A 76)[i]? = (A 76)[i]? ∧ (A 77)[i]? = (A 77)[i]? := fun i hi => ⟨set_ne (by omega), rfl, rfl⟩
    refine ⟨⟨by omega, by omega⟩, ⟨by omega, by omega⟩, fun _ => ?_, fun _ => ?_⟩
    · rw [eq]
      exact r_rul2 (k := k) (q := q) (k' := k) B1 (by show _ < (F 67 9 + 1).toInt; omega) h1 h3 h5 (by show (k : Int) ≤ (F 67 9 + 1).toInt; omega) hq hq' (cw_seg_nil _ (by omega)) h75 (fun _ _ => rfl) hrow hQ
    · rw [eq]
      refine r_sum (d := d + 2) (w := 0) (k := k) ?_ ?_ h3 rfl h5 ?_ ?_ l1 l2 l3 (Or.inl rfl) (fun r F1 A1 h => ?_)
      · show 0 ≤ (F 67 9 + 1).toInt
        omega
      · show (F 67 9 + 1).toInt ≤ (F 67 10).toInt
        omega
      · show ((0 : Nat) : Int) ≤ (F 67 9 + 1).toInt
        omega
      · show (k : Int) ≤ (F 67 9 + 1).toInt
        omega
      · obtain ⟨g1, g2, g3, g4, g5, g6, g7⟩ := h
        have g4 : (F1 67 9).toInt ≤ (F 67 10).toInt := g4
        have B2 : rulB (uF (uF (uF F 67 9 ((F 67 9) + 1)) 67 13 0) 67 15 0) (uA (uA A 74 ((A 74).set q x)) 75 ((A 75).set q (F 67 14))) F1 A1 := ⟨frF_tr g1 (frF_rf (S := [])) (by decide) (by decide), frA_tr g2 (frA_rf (S := [])) (by decide) (by decide), g3, g4, lens_of B1.2.2.2.2 g2 g5 g6⟩
        show wp_E (d + 7) mm152.2.2.2.2.2.2.2.2 111 [some (.ref 67), some (.int x)] [.int r] (hz F1 A1 L) Q
        rcases g7 with g7 | ⟨g7, s1, s2, k1, s3, s4, s5, s6, s7⟩
        · exact g_rul1 ⟨fun z => absurd g7 z, fun _ => hQ 0 F1 A1 ⟨rulB_tr B1 B2, Or.inl rfl⟩⟩
        · refine g_rul1 ⟨fun _ => ?_, fun z => absurd z (by rw [g7]; decide)⟩
          have s4 : (k1 : Int) - k ≤ (F1 67 9).toInt - (F 67 9 + 1).toInt := s4
          have s5 : (F 67 9 + 1).toInt < (F1 67 9).toInt := s5
          have e75 : A1 75 = (A 75).set q (F 67 14) := g2 75 (by decide)
          have e76 : A1 76 = A 76 := g2 76 (by decide)
          have e77 : A1 77 = A 77 := g2 77 (by decide)
          exact r_rul2 (k := k) (q := q) (k' := k1) (rulB_tr B1 B2) (by omega) h1 h3 s3 (by omega) (by rw [g1 67 16 (by decide)]; exact hq) hq' (ss_seg s6 (by omega)) (by rw [e75]; exact h75) s7 (fun i hi => by rw [e75, e76, e77]; exact hrow i hi) hQ
  refine g_rul0 ⟨hs, fun z => go (hV_c z (by decide)) _, fun _ => ⟨fun z => go (hV_c z (by decide)) _, fun _ => ⟨fun z => go (hV_c z (by decide)) _, fun _ => ⟨fun z => go (hV_c z (by decide)) _, fun _ => bad _⟩⟩⟩⟩
/-- RULES said so far -/
noncomputable def said (A : Nat → List Int32) (q k : Nat) : Prop := ∀ c, c < q → ∃ a m b : Nat, (A 75)[c]? = some (nI a) ∧ (A 76)[c]? = some (nI m) ∧ (A 77)[c]? = some (nI b) ∧ cw_seg (A 72) a m ∧ cw_seg (A 72) m b ∧ b ≤ k
/-- behind the law -/
noncomputable def lawP (F : Nat → Nat → Int32) (A : Nat → List Int32) (F' : Nat → Nat → Int32) (A' : Nat → List Int32) (L : Nat → List Int64) : Prop :=
  frF [8, 9, 10, 11, 12, 13, 14, 15, 16, 17] F F' ∧ frA [72, 73, 74, 75, 76, 77, 78, 79, 80, 81, 82] A A' ∧ 0 ≤ (F' 67 9).toInt ∧ (F' 67 9).toInt ≤ 240 ∧ 0 ≤ (F' 67 10).toInt ∧ (F' 67 10).toInt ≤ 240 ∧ (F' 67 8 = 0) ∧ lens A' ∧ (A' 78).length = 260 ∧ (A' 79).length = 16 ∧ (A' 80).length = 16 ∧ (A' 81).length = 16 ∧ (A' 82).length = 16 ∧ ((F' 67 17 = F 67 17 ∧ (∀ k, 78 ≤ k → k ≤ 82 → A' k = A k)) ∨ (an_WF (hz F' A' L) ∧ 0 ≤ (F' 67 17).toInt ∧ (F' 67 17).toInt ≤ 16))
end PS6
