/-! teas: THE TEA and whether there is a MOTHER, on both sides -/
theorem nl_c {a4 a5 : List Int32} {x : Int32} (hx : ¬ x = -1) : ¬ kt_nextLeft a4 a5 x = -1 := by
  unfold kt_nextLeft
  have loop : ∀ (m : Nat) (y : Int32), ¬ kt_nextLeft_2 a4 a5 x m y = -1 := by
    intro m
    induction m with
    | zero => intro y; rw [e0_kt_nextLeft_2]; exact hx
    | succ m ih =>
      intro y
      rw [e_kt_nextLeft_2]
      split
      · exact ih _
      · rename_i h; exact h
  exact loop 11 1
theorem pp_c {w : Int32} {a4 a5 a64 : List Int32} : ∀ (m : Nat) (y3 y4 y5 : Int32), ¬ y3 = -1 → ¬ ks_passPot_63_3_76 w a4 a5 a64 m y3 y4 y5 = -1
  | 0, y3, _, _, h => by rw [e0_ks_passPot_63_3_76]; exact h
  | m + 1, y3, y4, y5, h => by
    rw [e_ks_passPot_63_3_76]
    split
    · exact pp_c m _ _ _ h
    · rename_i h2
      split
      · exact pp_c m _ _ _ h2
      · exact pp_c m _ _ _ h
theorem serve_k {f : Nat} {f3_0 : Int32} {f3_1 : Int32} {f3_2 : Int32} {f3_3 : Int32} {f3_4 : Int32} {f3_5 : Int32} {f3_6 : Int32} {f43_0 : Int32} {f43_10 : Int32} {f63_2 : Int32} {f63_3 : Int32} {a4 : List Int32} {a5 : List Int32} {a6 : List Int32} {a7 : List Int32} {a8 : List Int32} {a9 : List Int32} {a10 : List Int32} {a44 : List Int32} {a45 : List Int32} {a46 : List Int32} {a47 : List Int32} {a48 : List Int32} {a49 : List Int32} {a50 : List Int32} {a51 : List Int32} {a64 : List Int32} {l11 : List Int64} (hm : ¬ f3_2 = -1) {S : Int32 × Int32 × Int32 × Int32 × Int32 × Int32 × Int32 × List Int32 × List Int32 × List Int32 × List Int32 × List Int32 × List Int32} (hS : ks_serve_63_3 f f3_0 f3_1 f3_2 f3_3 f3_4 f3_5 f3_6 f43_0 f43_10 f63_2 f63_3 a4 a5 a6 a7 a8 a9 a10 a44 a45 a46 a47 a48 a49 a50 a51 a64 l11 = S) : (f3_4.toInt < 9999 → ¬ S.1 = 0 ∧ ¬ S.2.1 = -1 ∧ S.2.2.2.1 = f3_4 + 1) ∧ (¬ f3_4.toInt < 9999 → S.1 = 0 ∧ S.2.1 = f3_2 ∧ S.2.2.2.1 = f3_4) := by
  unfold ks_serve_63_3 at hS
  rw [if_neg hm] at hS
  refine ⟨fun c => ?_, fun c => ?_⟩
  · rw [if_pos c] at hS
    split at hS
    · subst hS
      exact ⟨by show ¬ (1 : Int32) = 0; decide, nl_c hm, rfl⟩
    · subst hS
      refine ⟨by show ¬ (1 : Int32) = 0; decide, ?_, rfl⟩
      unfold ks_passPot_63_3
      exact pp_c 12 _ _ _ hm
  · rw [if_neg c] at hS
    subst hS
    exact ⟨rfl, rfl, rfl⟩
theorem teas_c {f : Nat} {f3_0 : Int32} {f3_1 : Int32} {f43_0 : Int32} {f63_2 : Int32} {f63_3 : Int32} {a4 : List Int32} {a5 : List Int32} {a6 : List Int32} {a7 : List Int32} {a44 : List Int32} {a45 : List Int32} {a46 : List Int32} {a47 : List Int32} {a48 : List Int32} {a49 : List Int32} {l11 : List Int64} : ∀ (m : Nat) (y2 : Int32) (y3 : Int32) (f3_2 : Int32) (f3_3 : Int32) (f3_4 : Int32) (f3_5 : Int32) (f3_6 : Int32) (f43_10 : Int32) (a8 : List Int32) (a9 : List Int32) (a10 : List Int32) (a50 : List Int32) (a51 : List Int32) (a64 : List Int32) (T k : Nat), ¬ f3_2 = -1 → f3_4 = nI T → T ≤ 9999 → y2 = nI k → k + m ≤ 60 → (kc_teas_30 f f3_0 f3_1 f43_0 f63_2 f63_3 a4 a5 a6 a7 a44 a45 a46 a47 a48 a49 l11 m y2 y3 f3_2 f3_3 f3_4 f3_5 f3_6 f43_10 a8 a9 a10 a50 a51 a64).1 = nI (k + min m (9999 - T)) ∧ ¬ (kc_teas_30 f f3_0 f3_1 f43_0 f63_2 f63_3 a4 a5 a6 a7 a44 a45 a46 a47 a48 a49 l11 m y2 y3 f3_2 f3_3 f3_4 f3_5 f3_6 f43_10 a8 a9 a10 a50 a51 a64).2.1 = -1 ∧ (kc_teas_30 f f3_0 f3_1 f43_0 f63_2 f63_3 a4 a5 a6 a7 a44 a45 a46 a47 a48 a49 l11 m y2 y3 f3_2 f3_3 f3_4 f3_5 f3_6 f43_10 a8 a9 a10 a50 a51 a64).2.2.2.1 = nI (T + min m (9999 - T)) := by
  intro m
  induction m with
  | zero =>
    intro y2 y3 f3_2 f3_3 f3_4 f3_5 f3_6 f43_10 a8 a9 a10 a50 a51 a64 T k h1 h2 h3 h4 h5
    rw [e0_kc_teas_30, show k + min 0 (9999 - T) = k by omega, show T + min 0 (9999 - T) = T by omega]
    exact ⟨h4, h1, h2⟩
  | succ m ih =>
    intro y2 y3 f3_2 f3_3 f3_4 f3_5 f3_6 f43_10 a8 a9 a10 a50 a51 a64 T k h1 h2 h3 h4 h5
    rw [e_kc_teas_30]
    generalize hS : ks_serve_63_3 f f3_0 f3_1 f3_2 f3_3 f3_4 f3_5 f3_6 f43_0 f43_10 f63_2 f63_3 a4 a5 a6 a7 a8 a9 a10 a44 a45 a46 a47 a48 a49 a50 a51 a64 l11 = S
    obtain ⟨s1, s2⟩ := serve_k h1 hS
    have eT := nI_toInt (n := T) (by omega)
    by_cases c : T < 9999
    · obtain ⟨p1, p2, p3⟩ := s1 (by rw [h2]; omega)
      rw [if_neg p1]
      have q := ih (y2 + 1) (y3 + 1) S.2.1 S.2.2.1 S.2.2.2.1 S.2.2.2.2.1 S.2.2.2.2.2.1 S.2.2.2.2.2.2.1 S.2.2.2.2.2.2.2.1 S.2.2.2.2.2.2.2.2.1 S.2.2.2.2.2.2.2.2.2.1 S.2.2.2.2.2.2.2.2.2.2.1 S.2.2.2.2.2.2.2.2.2.2.2.1 S.2.2.2.2.2.2.2.2.2.2.2.2 (T + 1) (k + 1) p2 (by rw [p3, h2, nJ_1 (by omega)]) (by omega) (by rw [h4, nJ_1 (by omega)]) (by omega)
      rw [show k + 1 + min m (9999 - (T + 1)) = k + min (m + 1) (9999 - T) by omega, show T + 1 + min m (9999 - (T + 1)) = T + min (m + 1) (9999 - T) by omega] at q
      exact q
    · obtain ⟨p1, p2, p3⟩ := s2 (by rw [h2]; omega)
      rw [if_pos p1, show k + min (m + 1) (9999 - T) = k by omega, show T + min (m + 1) (9999 - T) = T by omega]
      exact ⟨h4, by rw [p2]; exact h1, by rw [p3]; exact h2⟩
/-! the reference -/
theorem po_k {p q x : Int32} : ∀ (m g : Nat) (y f : Int32) (l : List Int32), g + m = 12 → l.length = 150 → (km_pours_4 p q x m y (nI g) f l).2.2.length = 150 ∧ ∀ j, 72 ≤ j → (km_pours_4 p q x m y (nI g) f l).2.2.getD j 0 = l.getD j 0
  | 0, g, y, f, l, _, hl => by
    rw [e0_km_pours_4]
    exact ⟨hl, fun _ _ => rfl⟩
  | m + 1, g, y, f, l, hg, hl => by
    rw [e_km_pours_4, nJ_1 (n := g) (by omega)]
    split
    · exact po_k m (g + 1) _ _ _ (by omega) hl
    · split
      · split
        · rw [nJ_ad (a := 48) (k := 48) (n := g) rfl (by omega), nJ_ad (a := 36) (k := 36) (n := g) rfl (by omega)]
          obtain ⟨q1, q2⟩ := po_k (p := p) (q := q) (x := x) m (g + 1) y (f + 1) ((l.set (48 + g) (l.getD (48 + g) 0 + 1)).set (36 + g) (km_max 0 ((l.set (48 + g) (l.getD (48 + g) 0 + 1)).getD (36 + g) 0 - 1))) (by omega) (by rw [List.length_set, List.length_set]; exact hl)
          refine ⟨q1, fun j hj => (q2 j hj).trans ?_⟩
          rw [gd_set (by rw [List.length_set]; omega), if_neg (by omega), gd_set (by omega), if_neg (by omega)]
        · exact po_k m (g + 1) _ _ _ (by omega) hl
      · exact po_k m (g + 1) _ _ _ (by omega) hl
theorem nl_m {l : List Int32} {x : Int32} (hx : 0 ≤ x.toInt ∧ x.toInt ≤ 11) : 0 ≤ (km_nextLeft l x).toInt ∧ (km_nextLeft l x).toInt ≤ 11 := by
  unfold km_nextLeft
  have loop : ∀ (m g : Nat) (v n : Int32), g + m = 12 → (0 ≤ v.toInt ∧ v.toInt ≤ 11) → 0 ≤ (km_nextLeft_8 l x m v n (nI g)).toInt ∧ (km_nextLeft_8 l x m v n (nI g)).toInt ≤ 11 := by
    intro m
    induction m with
    | zero => intro g v n _ h; rw [e0_km_nextLeft_8]; exact h
    | succ m ih =>
      intro g v n hg h
      have eg := nI_toInt (n := g) (by omega)
      rw [e_km_nextLeft_8, nJ_1 (n := g) (by omega)]
      split
      · exact ih (g + 1) _ _ (by omega) h
      · split
        · exact ih (g + 1) _ _ (by omega) ⟨by omega, by omega⟩
        · exact ih (g + 1) _ _ (by omega) h
  exact loop 12 0 x 12 rfl hx
theorem cm_m {l a : List Int32} : ∀ (m g : Nat) (v p q : Int32), g + m = 12 → (0 ≤ v.toInt ∧ v.toInt ≤ 11) → 0 ≤ (km_changesMother_95 l a m v p q (nI g)).toInt ∧ (km_changesMother_95 l a m v p q (nI g)).toInt ≤ 11
  | 0, g, v, p, q, _, h => by rw [e0_km_changesMother_95]; exact h
  | m + 1, g, v, p, q, hg, h => by
    have eg := nI_toInt (n := g) (by omega)
    have h2 : 0 ≤ (nI g).toInt ∧ (nI g).toInt ≤ 11 := ⟨by omega, by omega⟩
    rw [e_km_changesMother_95, nJ_1 (n := g) (by omega)]
    repeat' split
    all_goals first | exact cm_m m (g + 1) _ _ _ (by omega) h | exact cm_m m (g + 1) _ _ _ (by omega) h2
theorem fin_147 {Y now : List Int32} {k : Nat} {v : Int32} (hl : Y.length = 150) (h1 : 60 ≤ k) (h2 : k < 72) (h7 : Y.getD 147 0 = now.getD 147 0) (h5 : 0 ≤ (Y.getD 145 0).toInt ∧ (Y.getD 145 0).toInt ≤ 11) : ((Y.set k v).set 147 ((Y.set k v).getD 147 0 + 1)).length = 150 ∧ ((Y.set k v).set 147 ((Y.set k v).getD 147 0 + 1)).getD 147 0 = now.getD 147 0 + 1 ∧ 0 ≤ (((Y.set k v).set 147 ((Y.set k v).getD 147 0 + 1)).getD 145 0).toInt ∧ (((Y.set k v).set 147 ((Y.set k v).getD 147 0 + 1)).getD 145 0).toInt ≤ 11 := by
  have l2 : (Y.set k v).length = 150 := by rw [List.length_set]; exact hl
  have z7 : (Y.set k v).getD 147 0 = now.getD 147 0 := by
    rw [gd_set (by omega), if_neg (by omega)]
    exact h7
  have z5 : 0 ≤ ((Y.set k v).getD 145 0).toInt ∧ ((Y.set k v).getD 145 0).toInt ≤ 11 := by
    rw [gd_set (by omega), if_neg (by omega)]
    exact h5
  generalize Y.set k v = Z at l2 z7 z5 ⊢
  refine ⟨by rw [List.length_set]; exact l2, ?_, ?_⟩
  · rw [gd_set (by omega), if_pos rfl, z7]
  · rw [gd_set (by omega), if_neg (by omega)]
    exact z5
theorem tg_m {f : Nat} {f67_3 : Int32} {f67_4 : Int32} {f67_5 : Int32} {f67_17 : Int32} {f67_32 : Int32} {f67_33 : Int32} {a68 : List Int32} {a78 : List Int32} {a79 : List Int32} {a80 : List Int32} {a81 : List Int32} {a82 : List Int32} {a83 : List Int32} {a84 : List Int32} {a86 : List Int32} (hl : a68.length = 150) (hm : 0 ≤ (a68.getD 145 0).toInt ∧ (a68.getD 145 0).toInt ≤ 11) {T : List Int32} (hT : (km_teaGoes f f67_3 f67_4 f67_5 f67_17 f67_32 f67_33 a68 a78 a79 a80 a81 a82 a83 a84 a86).2.2.2.1 = T) : T.length = 150 ∧ T.getD 147 0 = a68.getD 147 0 + 1 ∧ 0 ≤ (T.getD 145 0).toInt ∧ (T.getD 145 0).toInt ≤ 11 := by
  have hw : (60 + a68.getD 145 0).toInt.toNat = 60 + (a68.getD 145 0).toInt.toNat := by
    have e60 : (60 : Int32).toInt = 60 := rfl
    rw [an_add32 (by omega) (by omega), e60]
    omega
  unfold km_teaGoes at hT
  rw [hw] at hT
  generalize km_spillsBy f f67_17 a68 a78 a79 a80 a81 a82 a83 a84 = S at hT
  generalize km_coolsBy f f67_17 a68 a78 a79 a80 a81 a82 S.2.1 S.2.2 = C at hT
  have hP : (km_pours f67_4 f67_5 f67_32 a68 C.1).2.2.length = 150 ∧ ∀ j, 72 ≤ j → (km_pours f67_4 f67_5 f67_32 a68 C.1).2.2.getD j 0 = a68.getD j 0 := po_k 12 0 0 f67_32 a68 rfl hl
  generalize km_pours f67_4 f67_5 f67_32 a68 C.1 = P at hT hP
  generalize (((25173 * (P.2.2.getD 149 0)) + 13849) - ((25173 * (P.2.2.getD 149 0)) + 13849) / 65536 * 65536) = z at hT
  have hX : (P.2.2.set 149 z).length = 150 ∧ ∀ j, 72 ≤ j → j < 149 → (P.2.2.set 149 z).getD j 0 = a68.getD j 0 := ⟨by rw [List.length_set]; exact hP.1, fun j h1 h2 => by rw [gd_set (by omega), if_neg (by omega)]; exact hP.2 j h1⟩
  generalize P.2.2.set 149 z = X at hT hX
  split at hT
  · subst hT
    refine fin_147 (by rw [List.length_set, List.length_set]; exact hX.1) (by omega) (by omega) ?_ ?_
    · rw [gd_set (by rw [List.length_set]; omega), if_neg (by omega), gd_set (by omega), if_neg (by omega)]
      exact hX.2 147 (by omega) (by omega)
    · rw [gd_set (by rw [List.length_set]; omega), if_pos rfl]
      exact nl_m hm
  · subst hT
    have hD : (km_decides f67_3 X).length = 150 ∧ ∀ j, 72 ≤ j → j < 149 → j ≠ 146 → (km_decides f67_3 X).getD j 0 = a68.getD j 0 := by
      unfold km_decides
      split
      · exact ⟨by rw [List.length_set]; exact hX.1, fun j h1 h2 h3 => by rw [gd_set (by omega), if_neg h3]; exact hX.2 j h1 h2⟩
      · exact ⟨by rw [List.length_set]; exact hX.1, fun j h1 h2 h3 => by rw [gd_set (by omega), if_neg h3]; exact hX.2 j h1 h2⟩
    generalize km_decides f67_3 X = D at hD ⊢
    have d5 := hD.2 145 (by omega) (by omega) (by omega)
    refine fin_147 (Y := (km_changesMother f f67_3 f67_17 D a78 a79 a80 a81 a82 C.2.1 C.2.2 a86 P.1).1) ?_ (by omega) (by omega) ?_ ?_
    · show (D.set 145 _).length = 150
      rw [List.length_set]
      exact hD.1
    · show (D.set 145 _).getD 147 0 = _
      rw [gd_set (by omega), if_neg (by omega)]
      exact hD.2 147 (by omega) (by omega) (by omega)
    · show 0 ≤ ((D.set 145 _).getD 145 0).toInt ∧ ((D.set 145 _).getD 145 0).toInt ≤ 11
      rw [gd_set (by omega), if_pos rfl]
      exact cm_m 12 0 _ _ _ rfl (by rw [d5]; exact hm)
theorem teas_m {f : Nat} {f67_3 : Int32} {f67_4 : Int32} {f67_5 : Int32} {f67_17 : Int32} {a78 : List Int32} {a79 : List Int32} {a80 : List Int32} {a81 : List Int32} {a82 : List Int32} : ∀ (m : Nat) (y2 : Int32) (f67_32 : Int32) (f67_33 : Int32) (a68 : List Int32) (a83 : List Int32) (a84 : List Int32) (a86 : List Int32) (T k : Nat), a68.length = 150 → (0 ≤ (a68.getD 145 0).toInt ∧ (a68.getD 145 0).toInt ≤ 11) → a68.getD 147 0 = nI T → T ≤ 9999 → y2 = nI k → k + m ≤ 60 → (km_teasGo_12 f f67_3 f67_4 f67_5 f67_17 a78 a79 a80 a81 a82 m y2 f67_32 f67_33 a68 a83 a84 a86).1 = nI (k + min m (9999 - T)) ∧ 0 ≤ ((km_teasGo_12 f f67_3 f67_4 f67_5 f67_17 a78 a79 a80 a81 a82 m y2 f67_32 f67_33 a68 a83 a84 a86).2.2.2.1.getD 145 0).toInt ∧ (km_teasGo_12 f f67_3 f67_4 f67_5 f67_17 a78 a79 a80 a81 a82 m y2 f67_32 f67_33 a68 a83 a84 a86).2.2.2.1.getD 147 0 = nI (T + min m (9999 - T)) := by
  intro m
  induction m with
  | zero =>
    intro y2 f67_32 f67_33 a68 a83 a84 a86 T k h0 h1 h2 h3 h4 h5
    rw [e0_km_teasGo_12, show k + min 0 (9999 - T) = k by omega, show T + min 0 (9999 - T) = T by omega]
    exact ⟨h4, h1.1, h2⟩
  | succ m ih =>
    intro y2 f67_32 f67_33 a68 a83 a84 a86 T k h0 h1 h2 h3 h4 h5
    have eT := nI_toInt (n := T) (by omega)
    rw [e_km_teasGo_12, h2]
    have tg := fun T' h => tg_m (f := f) (f67_3 := f67_3) (f67_4 := f67_4) (f67_5 := f67_5) (f67_17 := f67_17) (f67_32 := f67_32) (f67_33 := f67_33) (a68 := a68) (a78 := a78) (a79 := a79) (a80 := a80) (a81 := a81) (a82 := a82) (a83 := a83) (a84 := a84) (a86 := a86) h0 h1 (T := T') h
    generalize km_teaGoes f f67_3 f67_4 f67_5 f67_17 f67_32 f67_33 a68 a78 a79 a80 a81 a82 a83 a84 a86 = G at tg
    obtain ⟨g1, g2, g3, g4⟩ := tg _ rfl
    by_cases c : T < 9999
    · rw [if_pos (by omega)]
      have q := ih (y2 + 1) G.2.1 G.2.2.1 G.2.2.2.1 G.2.2.2.2.1 G.2.2.2.2.2.1 G.2.2.2.2.2.2 (T + 1) (k + 1) g1 ⟨g3, g4⟩ (by rw [g2, h2, nJ_1 (by omega)]) (by omega) (by rw [h4, nJ_1 (by omega)]) (by omega)
      rw [show k + 1 + min m (9999 - (T + 1)) = k + min (m + 1) (9999 - T) by omega, show T + 1 + min m (9999 - (T + 1)) = T + min (m + 1) (9999 - T) by omega] at q
      exact q
    · rw [if_neg (by omega), show k + min (m + 1) (9999 - T) = k by omega, show T + min (m + 1) (9999 - T) = T by omega]
      exact ⟨h4, h1.1, h2⟩
/-! the relation -/
noncomputable def R4v (m te : Int32) (now : List Int32) : Prop := (m = -1 ↔ (now.getD 145 0).toInt < 0) ∧ te = now.getD 147 0
noncomputable def R4 (hp : sm_H) : Prop := R4v (exF hp 3 2) (exF hp 3 4) (exA hp 68) ∧ (exF hp 0 11 = 1 → R4v (exF hp 12 2) (exF hp 12 4) (exA hp 70))
noncomputable def R4c (M : List (Nat × Nat)) (W : List Nat) : Bool := [(3, 2), (3, 4), (0, 11), (12, 2), (12, 4)].all (fun q => !M.contains q) && [1008, 1010, 1048, 1050].all (fun q => !W.contains q)
noncomputable def R4d (M : List (Nat × Nat)) (W : List Nat) : Bool := [(3, 2), (3, 4), (0, 11), (12, 2), (12, 4)].all (fun q => !M.contains q) && [1048, 1050].all (fun q => !W.contains q)
theorem R4_fr {M : List (Nat × Nat)} {W : List Nat} {hp hp' : sm_H} (hc : R4c M W = true) (f : fRm M W hp hp') (h : R4 hp) : R4 hp' := by
  unfold R4c at hc
  simp only [List.all_cons, List.all_nil, Bool.and_true, Bool.and_eq_true, Bool.not_eq_true', List.contains_eq_mem, decide_eq_false_iff_not] at hc
  obtain ⟨⟨c1, c2, c3, c4, c5⟩, d1, d2, d3, d4⟩ := hc
  obtain ⟨f1, f2, f3⟩ := f
  unfold R4 R4v
  rw [f1 _ _ c1, f1 _ _ c2, f1 _ _ c3, f1 _ _ c4, f1 _ _ c5, gd_eq (f3 68 145 rfl d1), gd_eq (f3 68 147 rfl d2), gd_eq (f3 70 145 rfl d3), gd_eq (f3 70 147 rfl d4)]
  exact h
theorem R4_fr68 {M : List (Nat × Nat)} {W : List Nat} {hp hp' : sm_H} (hc : R4d M W = true) (f : fRm M W hp hp') (e : exA hp' 68 = exA hp 68) (h : R4 hp) : R4 hp' := by
  unfold R4d at hc
  simp only [List.all_cons, List.all_nil, Bool.and_true, Bool.and_eq_true, Bool.not_eq_true', List.contains_eq_mem, decide_eq_false_iff_not] at hc
  obtain ⟨⟨c1, c2, c3, c4, c5⟩, d3, d4⟩ := hc
  obtain ⟨f1, f2, f3⟩ := f
  unfold R4 R4v
  rw [f1 _ _ c1, f1 _ _ c2, f1 _ _ c3, f1 _ _ c4, f1 _ _ c5, e, gd_eq (f3 70 145 rfl d3), gd_eq (f3 70 147 rfl d4)]
  exact h
theorem R4_n {P : sm_H → Prop} {q : lw_D} {M M' : List (Nat × Nat)} {W W' : List Nat} (f : fRet q.2.2.2.1 q.2.1 0 M W) (f' : fRet q.2.2.2.2.2.1 q.2.1 67 M' W') (hc : (R4c M W && R4c M' W') = true) : opP P R4 q := fun as hp hp1 hp2 r1 r2 hl hW hI _ hR m1 hW1 hI1 m2 hW2 hI2 => by
  rw [Bool.and_eq_true] at hc
  exact R4_fr hc.2 (fr_use f' hl hW1 hI1 m2) (R4_fr hc.1 (fr_use f hl hW hI m1) hR)
theorem R4_t {P : sm_H → Prop} {q : lw_D} {M M' : List (Nat × Nat)} {W W' : List Nat} (f : fRet q.2.2.2.1 q.2.1 0 M W) (f' : fRet q.2.2.2.2.2.1 q.2.1 67 M' W') (hc : (R4c M W && R4d M' W') = true) (h : ∀ (as : List Int32) (hp1 hp2 : sm_H) (r2 : Int32), as.length = q.2.1 → ivH IV hp1 → EM 400 q.2.2.2.2.2.1 (.ref 67 :: as.map Value.int) hp1 (some (.int r2)) hp2 → ivH IV hp2 → exA hp2 68 = exA hp1 68) : opP P R4 q := fun as hp hp1 hp2 r1 r2 hl hW hI _ hR m1 hW1 hI1 m2 hW2 hI2 => by
  rw [Bool.and_eq_true] at hc
  exact R4_fr68 hc.2 (fr_use f' hl hW1 hI1 m2) (h as hp1 hp2 r2 hl hI1 m2 hI2) (R4_fr hc.1 (fr_use f hl hW hI m1) hR)
section R4O
variable {as : List Int32} {hp hp1 hp2 : sm_H} {r1 r2 : Int32}
theorem bd_145 (hI : ivH IV hp) : (-2 : Int) ≤ ((exA hp 68).getD 145 0).toInt ∧ ((exA hp 68).getD 145 0).toInt ≤ 11 := iv_ab hI (k := 68) (i := 145) (b := (-2, 11)) rfl (by decide) (by decide +kernel)
theorem R4_measures (hl : as.length = 1) (hW : an_WF hp) (hI : ivH IV hp) (hR : R4 hp) (m1 : EM 400 9 (.ref 0 :: as.map Value.int) hp (some (.int r1)) hp1) (hW1 : an_WF hp1) (hI1 : ivH IV hp1) (m2 : EM 400 140 (.ref 67 :: as.map Value.int) hp1 (some (.int r2)) hp2) : R4 hp2 := by
  have f1 := fr_use fr_c9 hl hW hI m1
  have f2 := fr_use fr_m140 hl hW1 hI1 m2
  obtain ⟨x, rfl⟩ := ln1 hl
  obtain ⟨-, h1⟩ := u_kc_measures hI m1
  have k : exF hp1 0 11 = exF hp 0 11 ∨ exF hp1 0 11 = 0 := by
    unfold kc_measures at h1
    by_cases c : kc_within x 2 6 = 0
    · rw [if_pos c] at h1
      exact Or.inl (by rw [h1]; rfl)
    · rw [if_neg c] at h1
      exact Or.inr (by rw [h1]; rfl)
  have e1 : exF hp2 0 11 = exF hp1 0 11 := f2.1 0 11 (by decide)
  obtain ⟨a, b⟩ := hR
  have g : ∀ kk i, an_is kk = true → an_sc kk i ∉ [68, 1006, 1009] → (exA hp2 kk).getD i 0 = (exA hp kk).getD i 0 := fun kk i h1 h2 => (gd_eq (f2.2.2 kk i h1 h2)).trans (gd_eq (f1.2.2 kk i h1 (fun z => by
    have z : an_sc kk i ∈ [11] := z
    rw [List.mem_singleton] at z
    unfold an_sc at z
    omega)))
  have F : ∀ p q, (p, q) ∉ [(0, 11), (3, 0), (3, 3)] → (p, q) ∉ [(67, 3), (67, 6)] → exF hp2 p q = exF hp p q := fun p q h1 h2 => (f2.1 p q h2).trans (f1.1 p q h1)
  unfold R4 R4v
  rw [e1, F 3 2 (by decide) (by decide), F 3 4 (by decide) (by decide), F 12 2 (by decide) (by decide), F 12 4 (by decide) (by decide), g 68 145 rfl (by decide), g 68 147 rfl (by decide), g 70 145 rfl (by decide), g 70 147 rfl (by decide)]
  refine ⟨a, fun z => ?_⟩
  rcases k with k | k
  · exact b (k.symm.trans z)
  · rw [k] at z
    exact absurd z (by decide)
theorem R4_mother (hl : as.length = 1) (hI : ivH IV hp) (hR1 : R1 hp) (hR : R4 hp) (m1 : EM 400 16 (.ref 0 :: as.map Value.int) hp (some (.int r1)) hp1) (hI1 : ivH IV hp1) (m2 : EM 400 148 (.ref 67 :: as.map Value.int) hp1 (some (.int r2)) hp2) : R4 hp2 := by
  obtain ⟨x, rfl⟩ := ln1 hl
  obtain ⟨-, h1⟩ := u_kc_mother hI m1
  obtain ⟨-, h2⟩ := u_km_mother hI1 m2
  have w : exA hp1 68 = exA hp 68 := by rw [h1]; rfl
  have l68 : (exA hp 68).length = 150 := iv_len hI rfl (by decide)
  rw [w] at h2
  obtain ⟨a, b⟩ := hR
  unfold kc_mother at h1
  unfold km_mother at h2
  rw [told_same hR1.1.2.1] at h1
  rcases km_told (exA hp 68) x with ⟨c, -⟩ | ⟨c, hx, -⟩
  · rw [if_pos c] at h1 h2
    subst h2
    subst h1
    exact ⟨a, b⟩
  · rw [if_neg (by rw [c]; decide)] at h1 h2
    have r : R4v x (exF hp 3 4) ((exA hp 68).set 145 x) := by
      unfold R4v
      rw [gd_set (by omega), gd_set (by omega), if_pos rfl, if_neg (by omega)]
      refine ⟨⟨fun z => ?_, fun z => ?_⟩, a.2⟩
      · have e : (-1 : Int32).toInt = -1 := rfl
        rw [z, e] at hx
        omega
      · omega
    generalize (exA hp 68).set 145 x = nw at h2 r
    subst h2
    subst h1
    exact ⟨r, b⟩
theorem R4_keep (hl : as.length = 0) (hI : ivH IV hp) (hR : R4 hp) (m1 : EM 400 135 (.ref 0 :: as.map Value.int) hp (some (.int r1)) hp1) (hI1 : ivH IV hp1) (m2 : EM 400 247 (.ref 67 :: as.map Value.int) hp1 (some (.int r2)) hp2) : r1 = r2 ∧ R4 hp2 := by
  obtain rfl := ln0 hl
  obtain ⟨e1, h1⟩ := u_kc_keep hI m1
  obtain ⟨e2, h2⟩ := u_km_keep hI1 m2
  have w : exA hp1 68 = exA hp 68 := by rw [h1]; rfl
  have w2 : exA hp1 70 = exA hp 70 := by rw [h1]; rfl
  rw [w, w2] at h2 e2
  unfold km_keep at h2 e2
  unfold kc_keep kt_copyFrom_12_3 at h1 e1
  rw [co_68_70 (iv_len hI rfl (by decide)) (iv_len hI rfl (by decide))] at h2
  refine ⟨?_, ?_⟩
  · rw [e1, e2]
    exact hR.1.2
  · subst h2
    subst h1
    exact ⟨hR.1, fun _ => hR.1⟩
theorem R4_undo (hl : as.length = 0) (hI : ivH IV hp) (hR1 : R1 hp) (hR : R4 hp) (m1 : EM 400 136 (.ref 0 :: as.map Value.int) hp (some (.int r1)) hp1) (hI1 : ivH IV hp1) (m2 : EM 400 248 (.ref 67 :: as.map Value.int) hp1 (some (.int r2)) hp2) : R4 hp2 := by
  obtain rfl := ln0 hl
  obtain ⟨-, h1⟩ := u_kc_undo hI m1
  obtain ⟨-, h2⟩ := u_km_undo hI1 m2
  have w : exA hp1 68 = exA hp 68 := by rw [h1]; rfl
  have w2 : exA hp1 70 = exA hp 70 := by rw [h1]; rfl
  have w3 : exF hp1 67 6 = exF hp 0 11 := by rw [hR1.2.1, h1]; rfl
  rw [w, w2, w3] at h2
  have b := iv_fb (k := 0) (j := 11) (b := (0, 1)) hI rfl
  unfold km_undo at h2
  unfold kc_undo kt_copyFrom_3_12 at h1
  by_cases c : exF hp 0 11 = 0
  · rw [if_pos c] at h1 h2
    subst h2
    subst h1
    exact hR
  · rw [if_neg c] at h1 h2
    have c1 : exF hp 0 11 = 1 := Int32.toInt_inj.mp (by
      have c' : (exF hp 0 11).toInt ≠ 0 := fun n => c (Int32.toInt_inj.mp n)
      have e1 : (1 : Int32).toInt = 1 := rfl
      have b1 := b.1
      have b2 := b.2
      dsimp only at b1 b2
      omega)
    have p' := hR.2 c1
    rw [co_70_68 (iv_len hI rfl (by decide)) (iv_len hI rfl (by decide))] at h2
    subst h2
    subst h1
    exact ⟨p', fun _ => p'⟩
theorem R4_teas (hl : as.length = 1) (hI : ivH IV hp) (hR : R4 hp) (m1 : EM 400 47 (.ref 0 :: as.map Value.int) hp (some (.int r1)) hp1) (hI1 : ivH IV hp1) (m2 : EM 400 175 (.ref 67 :: as.map Value.int) hp1 (some (.int r2)) hp2) : r1 = r2 ∧ R4 hp2 := by
  obtain ⟨x, rfl⟩ := ln1 hl
  obtain ⟨N, h1⟩ := u_kc_teas hI m1
  obtain ⟨e1, h1⟩ := h1 N (Nat.le_refl _)
  obtain ⟨N', h2⟩ := u_km_teas hI1 m2
  obtain ⟨e2, h2⟩ := h2 N' (Nat.le_refl _)
  have w : exA hp1 68 = exA hp 68 := by rw [h1]; rfl
  have l68 : (exA hp 68).length = 150 := iv_len hI rfl (by decide)
  have b145 := bd_145 hI
  have bt := iv_fb (k := 3) (j := 4) (b := (0, 9999)) hI rfl
  have b1 := bt.1
  have b2 := bt.2
  dsimp only at b1 b2
  rw [w] at e2 h2
  obtain ⟨⟨a1, a2⟩, b⟩ := hR
  have eT : exF hp 3 4 = nI (exF hp 3 4).toInt.toNat := nJ_of (by omega)
  unfold kc_teas at e1 h1
  unfold km_teas at e2 h2
  rw [within_in] at e1 h1
  by_cases c : km_in x 1 60 = 0
  · rw [if_pos c] at e1 h1 e2 h2
    refine ⟨by rw [e1, e2], ?_⟩
    subst h2
    subst h1
    exact ⟨⟨a1, a2⟩, b⟩
  · rw [if_neg c] at e1 h1 e2 h2
    by_cases d : exF hp 3 2 = -1
    · rw [if_pos d] at e1 h1
      rw [if_pos (a1.mp d)] at e2 h2
      refine ⟨by rw [e1, e2], ?_⟩
      subst h2
      subst h1
      exact ⟨⟨a1, a2⟩, b⟩
    · rw [if_neg d] at e1 h1
      have d2 : ¬ ((exA hp 68).getD 145 0).toInt < 0 := fun z => d (a1.mpr z)
      rw [if_neg d2] at e2 h2
      have e1' : (1 : Int32).toInt = 1 := rfl
      have e60 : (60 : Int32).toInt = 60 := rfl
      rw [in_0, e1', e60, Decidable.not_not] at c
      unfold km_teasGo at e2 h2
      have tc := teas_c (f := N) (f3_0 := exF hp 3 0) (f3_1 := exF hp 3 1) (f43_0 := exF hp 43 0) (f63_2 := exF hp 63 2) (f63_3 := exF hp 63 3) (a4 := exA hp 4) (a5 := exA hp 5) (a6 := exA hp 6) (a7 := exA hp 7) (a44 := exA hp 44) (a45 := exA hp 45) (a46 := exA hp 46) (a47 := exA hp 47) (a48 := exA hp 48) (a49 := exA hp 49) (l11 := exL hp 11) x.toInt.toNat 0 0 (exF hp 3 2) (exF hp 3 3) (exF hp 3 4) (exF hp 3 5) (exF hp 3 6) (exF hp 43 10) (exA hp 8) (exA hp 9) (exA hp 10) (exA hp 50) (exA hp 51) (exA hp 64) (exF hp 3 4).toInt.toNat 0 d eT (by omega) rfl (by omega)
      have tm := teas_m (f := N') (f67_3 := exF hp1 67 3) (f67_4 := exF hp1 67 4) (f67_5 := exF hp1 67 5) (f67_17 := exF hp1 67 17) (a78 := exA hp1 78) (a79 := exA hp1 79) (a80 := exA hp1 80) (a81 := exA hp1 81) (a82 := exA hp1 82) x.toInt.toNat 0 0 0 (exA hp 68) (exA hp1 83) (exA hp1 84) (exA hp1 86) (exF hp 3 4).toInt.toNat 0 l68 ⟨by omega, b145.2⟩ (by rw [← a2]; exact eT) (by omega) rfl (by omega)
      generalize kc_teas_30 N (exF hp 3 0) (exF hp 3 1) (exF hp 43 0) (exF hp 63 2) (exF hp 63 3) (exA hp 4) (exA hp 5) (exA hp 6) (exA hp 7) (exA hp 44) (exA hp 45) (exA hp 46) (exA hp 47) (exA hp 48) (exA hp 49) (exL hp 11) x.toInt.toNat 0 0 (exF hp 3 2) (exF hp 3 3) (exF hp 3 4) (exF hp 3 5) (exF hp 3 6) (exF hp 43 10) (exA hp 8) (exA hp 9) (exA hp 10) (exA hp 50) (exA hp 51) (exA hp 64) = K at tc e1 h1
      generalize km_teasGo_12 N' (exF hp1 67 3) (exF hp1 67 4) (exF hp1 67 5) (exF hp1 67 17) (exA hp1 78) (exA hp1 79) (exA hp1 80) (exA hp1 81) (exA hp1 82) x.toInt.toNat 0 0 0 (exA hp 68) (exA hp1 83) (exA hp1 84) (exA hp1 86) = G at tm e2 h2
      obtain ⟨t1, t2, t3⟩ := tc
      obtain ⟨u1, u2, u3⟩ := tm
      refine ⟨by rw [e1, e2]; exact t1.trans u1.symm, ?_⟩
      have r : R4v K.2.1 K.2.2.2.1 G.2.2.2.1 := ⟨⟨fun z => absurd z t2, fun z => by omega⟩, t3.trans u3.symm⟩
      subst h2
      subst h1
      exact ⟨r, b⟩
end R4O
set_option maxRecDepth 100000 in
theorem R4_all : ∀ q ∈ lw_ops, opP R1 R4 q := (al_c (fun as hp hp1 hp2 r1 r2 hl hW hI hP hR m1 hW1 hI1 m2 hW2 hI2 => R4_measures hl hW hI hR m1 hW1 hI1 m2) (al_c (R4_n fr_c12 fr_m143 (by decide +kernel)) (al_c (R4_n fr_c15 fr_m147 (by decide +kernel)) (al_c (fun as hp hp1 hp2 r1 r2 hl hW hI hP hR m1 hW1 hI1 m2 hW2 hI2 => R4_mother hl hI hP hR m1 hI1 m2) (al_c (R4_n fr_c17 fr_m149 (by decide +kernel)) (al_c (R4_n fr_c19 fr_m151 (by decide +kernel)) (al_c (R4_n fr_c42 fr_m172 (by decide +kernel)) (al_c (fun as hp hp1 hp2 r1 r2 hl hW hI hP hR m1 hW1 hI1 m2 hW2 hI2 => (R4_teas hl hI hR m1 hI1 m2).2) (al_c (R4_t fr_c68 fr_m198 (by decide +kernel) (fun as hp1 hp2 r2 hl hI m hI2 => m_tried hl hI m hI2)) (al_c (R4_n fr_c71 fr_m200 (by decide +kernel)) (al_c (R4_n fr_c73 fr_m201 (by decide +kernel)) (al_c (R4_n fr_c74 fr_m202 (by decide +kernel)) (al_c (R4_n fr_c76 fr_m204 (by decide +kernel)) (al_c (R4_n fr_c80 fr_m208 (by decide +kernel)) (al_c (R4_n fr_c82 fr_m209 (by decide +kernel)) (al_c (R4_n fr_c85 fr_m211 (by decide +kernel)) (al_c (R4_n fr_c87 fr_m214 (by decide +kernel)) (al_c (R4_n fr_c90 fr_m217 (by decide +kernel)) (al_c (R4_n fr_c93 fr_m220 (by decide +kernel)) (al_c (R4_n fr_c95 fr_m221 (by decide +kernel)) (al_c (R4_n fr_c99 fr_m223 (by decide +kernel)) (al_c (R4_n fr_c103 fr_m228 (by decide +kernel)) (al_c (R4_n fr_c111 fr_m232 (by decide +kernel)) (al_c (R4_n fr_c114 fr_m234 (by decide +kernel)) (al_c (R4_n fr_c120 fr_m235 (by decide +kernel)) (al_c (R4_n fr_c122 fr_m236 (by decide +kernel)) (al_c (R4_t fr_c124 fr_m237 (by decide +kernel) (fun as hp1 hp2 r2 hl hI m hI2 => m_where68 hl hI m)) (al_c (R4_t fr_c126 fr_m238 (by decide +kernel) (fun as hp1 hp2 r2 hl hI m hI2 => m_end hl hI m hI2)) (al_c (R4_n fr_c127 fr_m239 (by decide +kernel)) (al_c (R4_n fr_c128 fr_m240 (by decide +kernel)) (al_c (R4_n fr_c131 fr_m243 (by decide +kernel)) (al_c (R4_n fr_c134 fr_m246 (by decide +kernel)) (al_c (fun as hp hp1 hp2 r1 r2 hl hW hI hP hR m1 hW1 hI1 m2 hW2 hI2 => (R4_keep hl hI hR m1 hI1 m2).2) (al_c (fun as hp hp1 hp2 r1 r2 hl hW hI hP hR m1 hW1 hI1 m2 hW2 hI2 => R4_undo hl hI hP hR m1 hI1 m2) (al_c (R4_n fr_c137 fr_m249 (by decide +kernel)) (al_c (R4_n fr_c138 fr_m250 (by decide +kernel)) al_n))))))))))))))))))))))))))))))))))))
noncomputable def R14 (hp : sm_H) : Prop := R1 hp ∧ R4 hp
theorem R14_all : ∀ q ∈ lw_ops, opQ R14 q := opP_and R1_all R4_all
theorem R14_0 : R14 lw_h0 := ⟨R1_0, ⟨⟨fun _ => by decide +kernel, fun _ => rfl⟩, by decide +kernel⟩, fun z => absurd z (by decide +kernel)⟩
