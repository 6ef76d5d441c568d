/-! methods of the reference without loops, by what must hold ahead of them -/
theorem s_m_here {d : Nat} {F : Nat → Nat → Int32} {A : Nat → List Int32} {L : Nat → List Int64} {Q : Option Value → sm_H → Prop} (K : (((F 67 10).toInt ≤ (F 67 9).toInt → (Q (some (.int (-1))) (hz F A L))) ∧ ((F 67 9).toInt < (F 67 10).toInt → ((0 ≤ (F 67 9).toInt ∧ (F 67 9).toInt < ((A 71).length : Int)) ∧ (Q (some (.int (((A 71).getD (F 67 9).toInt.toNat 0) &&& 255))) (hz F A L)))))) : wp_M (d + 1) 153 [.ref 67] (hz F A L) Q := by
  refine q_m (E := mm153) rfl ⟨Nat.le_of_ble_eq_true rfl, Nat.le_of_ble_eq_true rfl⟩ ?_
  show wp_E (d + 0) mm153.2.2.2.2.2.2.2.2 0 [some (.ref 67)] [] (hz F A L) Q
  refine q_n 4 (pc1 := 8) (ls1 := [some (.ref 67)]) (st1 := [.int (F 67 10), .int (F 67 9)]) (hp1 := (hz F A L)) rfl ?_
  refine q_ge (p3 := 11) rfl rfl (fun h => ?_) (fun h => ?_)
  · have K := K.1 h
    refine q_n 1 (pc1 := 28) (ls1 := [some (.ref 67)]) (st1 := [.int (-1)]) (hp1 := (hz F A L)) rfl ?_
    exact q_ri rfl K
  · have K := K.2 h
    refine q_n 4 (pc1 := 19) (ls1 := [some (.ref 67)]) (st1 := [.int (F 67 9), .ref 71]) (hp1 := (hz F A L)) rfl ?_
    refine q_bl (k := 71) (l := (A 71)) (p1 := 20) rfl rfl rfl K.1 ?_
    have K := K.2
    refine q_n 3 (pc1 := 28) (ls1 := [some (.ref 67)]) (st1 := [.int (((A 71).getD (F 67 9).toInt.toNat 0) &&& 255)]) (hp1 := (hz F A L)) rfl ?_
    exact q_ri rfl K
noncomputable def hV (p n : Int32) (t : List Int32) : Int32 := if p.toInt < n.toInt then (t.getD p.toInt.toNat 0 &&& 255) else (-1)
theorem a_m_here {d : Nat} {F : Nat → Nat → Int32} {A : Nat → List Int32} {L : Nat → List Int64} {Q : Option Value → sm_H → Prop} (hs : 0 ≤ (F 67 9).toInt ∧ (F 67 10).toInt ≤ ((A 71).length : Int)) (K : Q (some (.int (hV (F 67 9) (F 67 10) (A 71)))) (hz F A L)) : wp_M (d + 1) 153 [.ref 67] (hz F A L) Q :=
  s_m_here ⟨fun h => by rw [hV, if_neg (by omega)] at K; exact K, fun h => ⟨⟨hs.1, by omega⟩, by rw [hV, if_pos h] at K; exact K⟩⟩
noncomputable def dV (c : Int32) : Int32 := if 48 ≤ c.toInt ∧ c.toInt ≤ 57 then 1 else 0
theorem s_m_isDigit {d : Nat} {F : Nat → Nat → Int32} {A : Nat → List Int32} {L : Nat → List Int64} {Q : Option Value → sm_H → Prop} (K : ((0 ≤ (F 67 9).toInt ∧ (F 67 10).toInt ≤ ((A 71).length : Int)) ∧ (((hV (F 67 9) (F 67 10) (A 71)).toInt < (48 : Int32).toInt → (Q (some (.int 0)) (hz F A L))) ∧ ((48 : Int32).toInt ≤ (hV (F 67 9) (F 67 10) (A 71)).toInt → ((0 ≤ (F 67 9).toInt ∧ (F 67 10).toInt ≤ ((A 71).length : Int)) ∧ (((57 : Int32).toInt < (hV (F 67 9) (F 67 10) (A 71)).toInt → (Q (some (.int 0)) (hz F A L))) ∧ ((hV (F 67 9) (F 67 10) (A 71)).toInt ≤ (57 : Int32).toInt → (Q (some (.int 1)) (hz F A L))))))))) : wp_M (d + 2) 158 [.ref 67] (hz F A L) Q := by
  refine q_m (E := mm158) rfl ⟨Nat.le_of_ble_eq_true rfl, Nat.le_of_ble_eq_true rfl⟩ ?_
  show wp_E (d + 1) mm158.2.2.2.2.2.2.2.2 0 [some (.ref 67)] [] (hz F A L) Q
  refine q_n 1 (pc1 := 1) (ls1 := [some (.ref 67)]) (st1 := [.ref 67]) (hp1 := (hz F A L)) rfl ?_
  refine q_c rfl rfl (a_m_here (d := d + 0) K.1 ?_)
  have K := K.2
  show wp_E _ mm158.2.2.2.2.2.2.2.2 4 [some (.ref 67)] [.int (hV (F 67 9) (F 67 10) (A 71))] (hz F A L) _
  refine q_n 1 (pc1 := 6) (ls1 := [some (.ref 67)]) (st1 := [.int 48, .int (hV (F 67 9) (F 67 10) (A 71))]) (hp1 := (hz F A L)) rfl ?_
  refine q_lt (p3 := 9) rfl rfl (fun h => ?_) (fun h => ?_)
  · have K := K.1 h
    refine q_n 1 (pc1 := 23) (ls1 := [some (.ref 67)]) (st1 := [.int 0]) (hp1 := (hz F A L)) rfl ?_
    exact q_rz rfl (by decide) K
  · have K := K.2 h
    refine q_n 1 (pc1 := 10) (ls1 := [some (.ref 67)]) (st1 := [.ref 67]) (hp1 := (hz F A L)) rfl ?_
    refine q_c rfl rfl (a_m_here (d := d + 0) K.1 ?_)
    have K := K.2
    show wp_E _ mm158.2.2.2.2.2.2.2.2 13 [some (.ref 67)] [.int (hV (F 67 9) (F 67 10) (A 71))] (hz F A L) _
    refine q_n 1 (pc1 := 15) (ls1 := [some (.ref 67)]) (st1 := [.int 57, .int (hV (F 67 9) (F 67 10) (A 71))]) (hp1 := (hz F A L)) rfl ?_
    refine q_gt (p3 := 18) rfl rfl (fun h => ?_) (fun h => ?_)
    · have K := K.1 h
      refine q_n 1 (pc1 := 23) (ls1 := [some (.ref 67)]) (st1 := [.int 0]) (hp1 := (hz F A L)) rfl ?_
      exact q_rz rfl (by decide) K
    · have K := K.2 h
      refine q_n 2 (pc1 := 23) (ls1 := [some (.ref 67)]) (st1 := [.int 1]) (hp1 := (hz F A L)) rfl ?_
      exact q_rz rfl (by decide) K
theorem a_m_isDigit {d : Nat} {F : Nat → Nat → Int32} {A : Nat → List Int32} {L : Nat → List Int64} {Q : Option Value → sm_H → Prop} (hs : 0 ≤ (F 67 9).toInt ∧ (F 67 10).toInt ≤ ((A 71).length : Int)) (K : Q (some (.int (dV (hV (F 67 9) (F 67 10) (A 71))))) (hz F A L)) : wp_M (d + 2) 158 [.ref 67] (hz F A L) Q := by
  have e48 : (48 : Int32).toInt = 48 := rfl
  have e57 : (57 : Int32).toInt = 57 := rfl
  refine s_m_isDigit ⟨hs, fun h => ?_, fun h => ⟨hs, fun h2 => ?_, fun h2 => ?_⟩⟩
  · rw [dV, if_neg (by omega)] at K; exact K
  · rw [dV, if_neg (by omega)] at K; exact K
  · rw [dV, if_pos (by omega)] at K; exact K
theorem s_m_waitTop {d : Nat} {F : Nat → Nat → Int32} {A : Nat → List Int32} {L : Nat → List Int64} {Q : Option Value → sm_H → Prop} (K : ((¬ (F 67 15) = 0 → ((0 ≤ ((F 67 15) - 1).toInt ∧ ((F 67 15) - 1).toInt < ((A 73).length : Int)) ∧ (Q (some (.int (((A 73).getD ((F 67 15) - 1).toInt.toNat 0) / 1048576))) (hz F A L)))) ∧ ((F 67 15) = 0 → (Q (some (.int (-1))) (hz F A L))))) : wp_M (d + 1) 164 [.ref 67] (hz F A L) Q := by
  refine q_m (E := mm164) rfl ⟨Nat.le_of_ble_eq_true rfl, Nat.le_of_ble_eq_true rfl⟩ ?_
  show wp_E (d + 0) mm164.2.2.2.2.2.2.2.2 0 [some (.ref 67)] [] (hz F A L) Q
  refine q_n 2 (pc1 := 4) (ls1 := [some (.ref 67)]) (st1 := [.int (F 67 15)]) (hp1 := (hz F A L)) rfl ?_
  refine q_zne (p3 := 7) rfl rfl (fun h => ?_) (fun h => ?_)
  · have K := K.1 h
    refine q_n 6 (pc1 := 21) (ls1 := [some (.ref 67)]) (st1 := [.int ((F 67 15) - 1), .ref 73]) (hp1 := (hz F A L)) rfl ?_
    refine q_al (k := 73) (l := (A 73)) (p1 := 22) rfl rfl rfl K.1 ?_
    have K := K.2
    refine q_n 1 (pc1 := 24) (ls1 := [some (.ref 67)]) (st1 := [.int 1048576, .int ((A 73).getD ((F 67 15) - 1).toInt.toNat 0)]) (hp1 := (hz F A L)) rfl ?_
    refine q_dv (p1 := 25) rfl rfl (by decide) ?_
    exact q_ri rfl K
  · have K := K.2 h
    refine q_n 2 (pc1 := 25) (ls1 := [some (.ref 67)]) (st1 := [.int (-1)]) (hp1 := (hz F A L)) rfl ?_
    exact q_ri rfl K
noncomputable def wV (w : Int32) (t : List Int32) : Int32 := if w = 0 then (-1) else t.getD (w - 1).toInt.toNat 0 / 1048576
theorem a_m_waitTop {d : Nat} {F : Nat → Nat → Int32} {A : Nat → List Int32} {L : Nat → List Int64} {Q : Option Value → sm_H → Prop} (hs : 0 ≤ (F 67 15).toInt ∧ (F 67 15).toInt ≤ ((A 73).length : Int)) (K : Q (some (.int (wV (F 67 15) (A 73)))) (hz F A L)) : wp_M (d + 1) 164 [.ref 67] (hz F A L) Q := by
  refine s_m_waitTop ⟨fun h => ?_, fun h => ?_⟩
  · have h0 : (F 67 15).toInt ≠ 0 := fun z => h (Int32.toInt_inj.mp z)
    have e1 : ((F 67 15) - 1).toInt = (F 67 15).toInt - 1 := an_sub32 (y := 1) (by have := an_top (F 67 15); show _ ≤ _ - (1 : Int); omega) (by have := an_top (F 67 15); show _ - (1 : Int) ≤ _; omega)
    refine ⟨⟨by omega, by omega⟩, ?_⟩
    rw [wV, if_neg h] at K
    exact K
  · rw [wV, if_pos h] at K
    exact K
theorem s_m_sumSign {d : Nat} {F : Nat → Nat → Int32} {A : Nat → List Int32} {L : Nat → List Int64} {Q : Option Value → sm_H → Prop} {x0 : Int32} (K : ((¬ x0 = 43 → ((¬ x0 = 45 → ((¬ x0 = 42 → ((¬ x0 = 47 → ((¬ x0 = 37 → (Q (some (.int (-1))) (hz F A L))) ∧ (x0 = 37 → (Q (some (.int 6)) (hz F A L))))) ∧ (x0 = 47 → (Q (some (.int 5)) (hz F A L))))) ∧ (x0 = 42 → (Q (some (.int 4)) (hz F A L))))) ∧ (x0 = 45 → (Q (some (.int 3)) (hz F A L))))) ∧ (x0 = 43 → (Q (some (.int 2)) (hz F A L))))) : wp_M (d + 1) 162 [.int x0] (hz F A L) Q := by
  refine q_m (E := mm162) rfl ⟨Nat.le_of_ble_eq_true rfl, Nat.le_of_ble_eq_true rfl⟩ ?_
  show wp_E (d + 0) mm162.2.2.2.2.2.2.2.2 0 [some (.int x0)] [] (hz F A L) Q
  refine q_n 2 (pc1 := 3) (ls1 := [some (.int x0)]) (st1 := [.int 43, .int x0]) (hp1 := (hz F A L)) rfl ?_
  refine q_ne (p3 := 6) rfl rfl (fun h => ?_) (fun h => ?_)
  · have K := K.1 h
    refine q_n 2 (pc1 := 13) (ls1 := [some (.int x0)]) (st1 := [.int 45, .int x0]) (hp1 := (hz F A L)) rfl ?_
    refine q_ne (p3 := 16) rfl rfl (fun h => ?_) (fun h => ?_)
    · have K := K.1 h
      refine q_n 2 (pc1 := 23) (ls1 := [some (.int x0)]) (st1 := [.int 42, .int x0]) (hp1 := (hz F A L)) rfl ?_
      refine q_ne (p3 := 26) rfl rfl (fun h => ?_) (fun h => ?_)
      · have K := K.1 h
        refine q_n 2 (pc1 := 33) (ls1 := [some (.int x0)]) (st1 := [.int 47, .int x0]) (hp1 := (hz F A L)) rfl ?_
        refine q_ne (p3 := 36) rfl rfl (fun h => ?_) (fun h => ?_)
        · have K := K.1 h
          refine q_n 2 (pc1 := 43) (ls1 := [some (.int x0)]) (st1 := [.int 37, .int x0]) (hp1 := (hz F A L)) rfl ?_
          refine q_ne (p3 := 46) rfl rfl (fun h => ?_) (fun h => ?_)
          · have K := K.1 h
            refine q_n 1 (pc1 := 52) (ls1 := [some (.int x0)]) (st1 := [.int (-1)]) (hp1 := (hz F A L)) rfl ?_
            exact q_ri rfl K
          · have K := K.2 h
            refine q_n 2 (pc1 := 52) (ls1 := [some (.int x0)]) (st1 := [.int 6]) (hp1 := (hz F A L)) rfl ?_
            exact q_ri rfl K
        · have K := K.2 h
          refine q_n 2 (pc1 := 52) (ls1 := [some (.int x0)]) (st1 := [.int 5]) (hp1 := (hz F A L)) rfl ?_
          exact q_ri rfl K
      · have K := K.2 h
        refine q_n 2 (pc1 := 52) (ls1 := [some (.int x0)]) (st1 := [.int 4]) (hp1 := (hz F A L)) rfl ?_
        exact q_ri rfl K
    · have K := K.2 h
      refine q_n 2 (pc1 := 52) (ls1 := [some (.int x0)]) (st1 := [.int 3]) (hp1 := (hz F A L)) rfl ?_
      exact q_ri rfl K
  · have K := K.2 h
    refine q_n 2 (pc1 := 52) (ls1 := [some (.int x0)]) (st1 := [.int 2]) (hp1 := (hz F A L)) rfl ?_
    exact q_ri rfl K
noncomputable def sV (c : Int32) : Int32 := if c = 43 then 2 else if c = 45 then 3 else if c = 42 then 4 else if c = 47 then 5 else if c = 37 then 6 else (-1)
theorem a_m_sumSign {d : Nat} {F : Nat → Nat → Int32} {A : Nat → List Int32} {L : Nat → List Int64} {Q : Option Value → sm_H → Prop} {c : Int32} (K : Q (some (.int (sV c))) (hz F A L)) : wp_M (d + 1) 162 [.int c] (hz F A L) Q := by
  unfold sV at K
  refine s_m_sumSign ⟨fun h => ?_, fun h => ?_⟩
  · rw [if_neg h] at K
    refine ⟨fun h => ?_, fun h => ?_⟩
    · rw [if_neg h] at K
      refine ⟨fun h => ?_, fun h => ?_⟩
      · rw [if_neg h] at K
        refine ⟨fun h => ?_, fun h => ?_⟩
        · rw [if_neg h] at K
          refine ⟨fun h => ?_, fun h => ?_⟩
          · rw [if_neg h] at K; exact K
          · rw [if_pos h] at K; exact K
        · rw [if_pos h] at K; exact K
      · rw [if_pos h] at K; exact K
    · rw [if_pos h] at K; exact K
  · rw [if_pos h] at K; exact K
noncomputable def fV (c : Int32) : Int32 := if c = 97 then 3 else if c = 98 then 4 else if c = 99 then 1 else if c = 103 then 0 else if c = 108 then 2 else if c = 109 then 5 else if c = 116 then 7 else if c = 118 then 6 else (-1)
theorem fV_b (c : Int32) : fV c = (-1) ∨ (0 ≤ (fV c).toInt ∧ (fV c).toInt < 8) := by
  unfold fV
  repeat' split
  all_goals first | (left; rfl) | (right; decide)
theorem a_m_factOf {d : Nat} {F : Nat → Nat → Int32} {A : Nat → List Int32} {L : Nat → List Int64} {Q : Option Value → sm_H → Prop} {c : Int32} (K : Q (some (.int (fV c))) (hz F A L)) : wp_M (d + 1) 161 [.int c] (hz F A L) Q := by
  refine q_m (E := mm161) rfl ⟨Nat.le_of_ble_eq_true rfl, Nat.le_of_ble_eq_true rfl⟩ ?_
  show wp_E (d + 0) mm161.2.2.2.2.2.2.2.2 0 [some (.int c)] [] (hz F A L) Q
  refine q_n 1 (pc1 := 1) (ls1 := [some (.int c)]) (st1 := [.int c]) (hp1 := hz F A L) rfl ?_
  unfold fV at K
  by_cases h0 : c = 97
  · subst h0
    rw [if_pos rfl] at K
    refine q_s (pc1 := 110) (ls1 := [some (.int 97)]) (st1 := []) (hp1 := hz F A L) rfl rfl ?_
    refine q_n 1 (pc1 := 111) (ls1 := [some (.int 97)]) (st1 := [.int 3]) (hp1 := hz F A L) rfl ?_
    exact q_ri rfl K
  by_cases h1 : c = 98
  · subst h1
    rw [if_neg (by decide), if_pos rfl] at K
    refine q_s (pc1 := 112) (ls1 := [some (.int 98)]) (st1 := []) (hp1 := hz F A L) rfl rfl ?_
    refine q_n 1 (pc1 := 113) (ls1 := [some (.int 98)]) (st1 := [.int 4]) (hp1 := hz F A L) rfl ?_
    exact q_ri rfl K
  by_cases h2 : c = 99
  · subst h2
    rw [if_neg (by decide), if_neg (by decide), if_pos rfl] at K
    refine q_s (pc1 := 106) (ls1 := [some (.int 99)]) (st1 := []) (hp1 := hz F A L) rfl rfl ?_
    refine q_n 1 (pc1 := 107) (ls1 := [some (.int 99)]) (st1 := [.int 1]) (hp1 := hz F A L) rfl ?_
    exact q_ri rfl K
  by_cases h3 : c = 103
  · subst h3
    rw [if_neg (by decide), if_neg (by decide), if_neg (by decide), if_pos rfl] at K
    refine q_s (pc1 := 104) (ls1 := [some (.int 103)]) (st1 := []) (hp1 := hz F A L) rfl rfl ?_
    refine q_n 1 (pc1 := 105) (ls1 := [some (.int 103)]) (st1 := [.int 0]) (hp1 := hz F A L) rfl ?_
    exact q_ri rfl K
  by_cases h4 : c = 108
  · subst h4
    rw [if_neg (by decide), if_neg (by decide), if_neg (by decide), if_neg (by decide), if_pos rfl] at K
    refine q_s (pc1 := 108) (ls1 := [some (.int 108)]) (st1 := []) (hp1 := hz F A L) rfl rfl ?_
    refine q_n 1 (pc1 := 109) (ls1 := [some (.int 108)]) (st1 := [.int 2]) (hp1 := hz F A L) rfl ?_
    exact q_ri rfl K
  by_cases h5 : c = 109
  · subst h5
    rw [if_neg (by decide), if_neg (by decide), if_neg (by decide), if_neg (by decide), if_neg (by decide), if_pos rfl] at K
    refine q_s (pc1 := 114) (ls1 := [some (.int 109)]) (st1 := []) (hp1 := hz F A L) rfl rfl ?_
    refine q_n 1 (pc1 := 115) (ls1 := [some (.int 109)]) (st1 := [.int 5]) (hp1 := hz F A L) rfl ?_
    exact q_ri rfl K
  by_cases h6 : c = 116
  · subst h6
    rw [if_neg (by decide), if_neg (by decide), if_neg (by decide), if_neg (by decide), if_neg (by decide), if_neg (by decide), if_pos rfl] at K
    refine q_s (pc1 := 119) (ls1 := [some (.int 116)]) (st1 := []) (hp1 := hz F A L) rfl rfl ?_
    refine q_n 1 (pc1 := 121) (ls1 := [some (.int 116)]) (st1 := [.int 7]) (hp1 := hz F A L) rfl ?_
    exact q_ri rfl K
  by_cases h7 : c = 118
  · subst h7
    rw [if_neg (by decide), if_neg (by decide), if_neg (by decide), if_neg (by decide), if_neg (by decide), if_neg (by decide), if_neg (by decide), if_pos rfl] at K
    refine q_s (pc1 := 116) (ls1 := [some (.int 118)]) (st1 := []) (hp1 := hz F A L) rfl rfl ?_
    refine q_n 1 (pc1 := 118) (ls1 := [some (.int 118)]) (st1 := [.int 6]) (hp1 := hz F A L) rfl ?_
    exact q_ri rfl K
  by_cases hr : c.toInt < 97 ∨ 118 < c.toInt
  · rw [if_neg h0, if_neg h1, if_neg h2, if_neg h3, if_neg h4, if_neg h5, if_neg h6, if_neg h7] at K
    refine q_s (pc1 := 122) (ls1 := [some (.int c)]) (st1 := []) (hp1 := hz F A L) rfl (show sm_tsw [.int c] 121 97 118 _ _ _ _ = _ by unfold sm_tsw; dsimp only; rw [if_pos hr]; rfl) ?_
    refine q_n 1 (pc1 := 123) (ls1 := [some (.int c)]) (st1 := [.int (-1)]) (hp1 := hz F A L) rfl ?_
    exact q_ri rfl K
  · have hc : c.toInt = 97 ∨ c.toInt = 98 ∨ c.toInt = 99 ∨ c.toInt = 100 ∨ c.toInt = 101 ∨ c.toInt = 102 ∨ c.toInt = 103 ∨ c.toInt = 104 ∨ c.toInt = 105 ∨ c.toInt = 106 ∨ c.toInt = 107 ∨ c.toInt = 108 ∨ c.toInt = 109 ∨ c.toInt = 110 ∨ c.toInt = 111 ∨ c.toInt = 112 ∨ c.toInt = 113 ∨ c.toInt = 114 ∨ c.toInt = 115 ∨ c.toInt = 116 ∨ c.toInt = 117 ∨ c.toInt = 118 := by omega
    rcases hc with z | z | z | z | z | z | z | z | z | z | z | z | z | z | z | z | z | z | z | z | z | z
    · exact absurd (Int32.toInt_inj.mp z) h0
    · exact absurd (Int32.toInt_inj.mp z) h1
    · exact absurd (Int32.toInt_inj.mp z) h2
    · have z : c = 100 := Int32.toInt_inj.mp z
      subst z
      rw [if_neg h0, if_neg h1, if_neg h2, if_neg h3, if_neg h4, if_neg h5, if_neg h6, if_neg h7] at K
      refine q_s (pc1 := 122) (ls1 := [some (.int 100)]) (st1 := []) (hp1 := hz F A L) rfl rfl ?_
      refine q_n 1 (pc1 := 123) (ls1 := [some (.int 100)]) (st1 := [.int (-1)]) (hp1 := hz F A L) rfl ?_
      exact q_ri rfl K
    · have z : c = 101 := Int32.toInt_inj.mp z
      subst z
      rw [if_neg h0, if_neg h1, if_neg h2, if_neg h3, if_neg h4, if_neg h5, if_neg h6, if_neg h7] at K
      refine q_s (pc1 := 122) (ls1 := [some (.int 101)]) (st1 := []) (hp1 := hz F A L) rfl rfl ?_
      refine q_n 1 (pc1 := 123) (ls1 := [some (.int 101)]) (st1 := [.int (-1)]) (hp1 := hz F A L) rfl ?_
      exact q_ri rfl K
    · have z : c = 102 := Int32.toInt_inj.mp z
      subst z
      rw [if_neg h0, if_neg h1, if_neg h2, if_neg h3, if_neg h4, if_neg h5, if_neg h6, if_neg h7] at K
      refine q_s (pc1 := 122) (ls1 := [some (.int 102)]) (st1 := []) (hp1 := hz F A L) rfl rfl ?_
      refine q_n 1 (pc1 := 123) (ls1 := [some (.int 102)]) (st1 := [.int (-1)]) (hp1 := hz F A L) rfl ?_
      exact q_ri rfl K
    · exact absurd (Int32.toInt_inj.mp z) h3
    · have z : c = 104 := Int32.toInt_inj.mp z
      subst z
      rw [if_neg h0, if_neg h1, if_neg h2, if_neg h3, if_neg h4, if_neg h5, if_neg h6, if_neg h7] at K
      refine q_s (pc1 := 122) (ls1 := [some (.int 104)]) (st1 := []) (hp1 := hz F A L) rfl rfl ?_
      refine q_n 1 (pc1 := 123) (ls1 := [some (.int 104)]) (st1 := [.int (-1)]) (hp1 := hz F A L) rfl ?_
      exact q_ri rfl K
    · have z : c = 105 := Int32.toInt_inj.mp z
      subst z
      rw [if_neg h0, if_neg h1, if_neg h2, if_neg h3, if_neg h4, if_neg h5, if_neg h6, if_neg h7] at K
      refine q_s (pc1 := 122) (ls1 := [some (.int 105)]) (st1 := []) (hp1 := hz F A L) rfl rfl ?_
      refine q_n 1 (pc1 := 123) (ls1 := [some (.int 105)]) (st1 := [.int (-1)]) (hp1 := hz F A L) rfl ?_
      exact q_ri rfl K
    · have z : c = 106 := Int32.toInt_inj.mp z
      subst z
      rw [if_neg h0, if_neg h1, if_neg h2, if_neg h3, if_neg h4, if_neg h5, if_neg h6, if_neg h7] at K
      refine q_s (pc1 := 122) (ls1 := [some (.int 106)]) (st1 := []) (hp1 := hz F A L) rfl rfl ?_
      refine q_n 1 (pc1 := 123) (ls1 := [some (.int 106)]) (st1 := [.int (-1)]) (hp1 := hz F A L) rfl ?_
      exact q_ri rfl K
    · have z : c = 107 := Int32.toInt_inj.mp z
      subst z
      rw [if_neg h0, if_neg h1, if_neg h2, if_neg h3, if_neg h4, if_neg h5, if_neg h6, if_neg h7] at K
      refine q_s (pc1 := 122) (ls1 := [some (.int 107)]) (st1 := []) (hp1 := hz F A L) rfl rfl ?_
      refine q_n 1 (pc1 := 123) (ls1 := [some (.int 107)]) (st1 := [.int (-1)]) (hp1 := hz F A L) rfl ?_
      exact q_ri rfl K
    · exact absurd (Int32.toInt_inj.mp z) h4
    · exact absurd (Int32.toInt_inj.mp z) h5
    · have z : c = 110 := Int32.toInt_inj.mp z
      subst z
      rw [if_neg h0, if_neg h1, if_neg h2, if_neg h3, if_neg h4, if_neg h5, if_neg h6, if_neg h7] at K
      refine q_s (pc1 := 122) (ls1 := [some (.int 110)]) (st1 := []) (hp1 := hz F A L) rfl rfl ?_
      refine q_n 1 (pc1 := 123) (ls1 := [some (.int 110)]) (st1 := [.int (-1)]) (hp1 := hz F A L) rfl ?_
      exact q_ri rfl K
    · have z : c = 111 := Int32.toInt_inj.mp z
      subst z
      rw [if_neg h0, if_neg h1, if_neg h2, if_neg h3, if_neg h4, if_neg h5, if_neg h6, if_neg h7] at K
      refine q_s (pc1 := 122) (ls1 := [some (.int 111)]) (st1 := []) (hp1 := hz F A L) rfl rfl ?_
      refine q_n 1 (pc1 := 123) (ls1 := [some (.int 111)]) (st1 := [.int (-1)]) (hp1 := hz F A L) rfl ?_
      exact q_ri rfl K
    · have z : c = 112 := Int32.toInt_inj.mp z
      subst z
      rw [if_neg h0, if_neg h1, if_neg h2, if_neg h3, if_neg h4, if_neg h5, if_neg h6, if_neg h7] at K
      refine q_s (pc1 := 122) (ls1 := [some (.int 112)]) (st1 := []) (hp1 := hz F A L) rfl rfl ?_
      refine q_n 1 (pc1 := 123) (ls1 := [some (.int 112)]) (st1 := [.int (-1)]) (hp1 := hz F A L) rfl ?_
      exact q_ri rfl K
    · have z : c = 113 := Int32.toInt_inj.mp z
      subst z
      rw [if_neg h0, if_neg h1, if_neg h2, if_neg h3, if_neg h4, if_neg h5, if_neg h6, if_neg h7] at K
      refine q_s (pc1 := 122) (ls1 := [some (.int 113)]) (st1 := []) (hp1 := hz F A L) rfl rfl ?_
      refine q_n 1 (pc1 := 123) (ls1 := [some (.int 113)]) (st1 := [.int (-1)]) (hp1 := hz F A L) rfl ?_
      exact q_ri rfl K
    · have z : c = 114 := Int32.toInt_inj.mp z
      subst z
      rw [if_neg h0, if_neg h1, if_neg h2, if_neg h3, if_neg h4, if_neg h5, if_neg h6, if_neg h7] at K
      refine q_s (pc1 := 122) (ls1 := [some (.int 114)]) (st1 := []) (hp1 := hz F A L) rfl rfl ?_
      refine q_n 1 (pc1 := 123) (ls1 := [some (.int 114)]) (st1 := [.int (-1)]) (hp1 := hz F A L) rfl ?_
      exact q_ri rfl K
    · have z : c = 115 := Int32.toInt_inj.mp z
      subst z
      rw [if_neg h0, if_neg h1, if_neg h2, if_neg h3, if_neg h4, if_neg h5, if_neg h6, if_neg h7] at K
      refine q_s (pc1 := 122) (ls1 := [some (.int 115)]) (st1 := []) (hp1 := hz F A L) rfl rfl ?_
      refine q_n 1 (pc1 := 123) (ls1 := [some (.int 115)]) (st1 := [.int (-1)]) (hp1 := hz F A L) rfl ?_
      exact q_ri rfl K
    · exact absurd (Int32.toInt_inj.mp z) h6
    · have z : c = 117 := Int32.toInt_inj.mp z
      subst z
      rw [if_neg h0, if_neg h1, if_neg h2, if_neg h3, if_neg h4, if_neg h5, if_neg h6, if_neg h7] at K
      refine q_s (pc1 := 122) (ls1 := [some (.int 117)]) (st1 := []) (hp1 := hz F A L) rfl rfl ?_
      refine q_n 1 (pc1 := 123) (ls1 := [some (.int 117)]) (st1 := [.int (-1)]) (hp1 := hz F A L) rfl ?_
      exact q_ri rfl K
    · exact absurd (Int32.toInt_inj.mp z) h7
theorem s_m_wrongAt {d : Nat} {F : Nat → Nat → Int32} {A : Nat → List Int32} {L : Nat → List Int64} {Q : Option Value → sm_H → Prop} {x0 : Int32} {x1 : Int32} (K : (Q (some (.int 0)) (hz (uF F 67 11 (((-1000) * x0) - x1)) A L))) : wp_M (d + 1) 154 [.ref 67, .int x0, .int x1] (hz F A L) Q := by
  refine q_m (E := mm154) rfl ⟨Nat.le_of_ble_eq_true rfl, Nat.le_of_ble_eq_true rfl⟩ ?_
  show wp_E (d + 0) mm154.2.2.2.2.2.2.2.2 0 [some (.ref 67), some (.int x0), some (.int x1)] [] (hz F A L) Q
  refine q_n 6 (pc1 := 8) (ls1 := [some (.ref 67), some (.int x0), some (.int x1)]) (st1 := [.int (((-1000) * x0) - x1), .ref 67]) (hp1 := (hz F A L)) rfl ?_
  refine q_pf (k := 67) (fs := hz_f67 F) (p3 := 11) rfl rfl rfl (Nat.le_of_ble_eq_true rfl) rfl (hz_p67_11 _) ?_
  refine q_n 1 (pc1 := 12) (ls1 := [some (.ref 67), some (.int x0), some (.int x1)]) (st1 := [.int 0]) (hp1 := (hz (uF F 67 11 (((-1000) * x0) - x1)) A L)) rfl ?_
  exact q_rz rfl (by decide) K
theorem s_m_takes {d : Nat} {F : Nat → Nat → Int32} {A : Nat → List Int32} {L : Nat → List Int64} {Q : Option Value → sm_H → Prop} {x0 : Int32} (K : ((0 ≤ (F 67 9).toInt ∧ (F 67 10).toInt ≤ ((A 71).length : Int)) ∧ (((hV (F 67 9) (F 67 10) (A 71)) = x0 → (Q (some (.int 1)) (hz (uF F 67 9 ((F 67 9) + 1)) A L))) ∧ (¬ (hV (F 67 9) (F 67 10) (A 71)) = x0 → (Q (some (.int 0)) (hz (uF F 67 11 (((-1000) * (1 : Int32)) - (F 67 9))) A L)))))) : wp_M (d + 2) 171 [.ref 67, .int x0] (hz F A L) Q := by
  refine q_m (E := mm171) rfl ⟨Nat.le_of_ble_eq_true rfl, Nat.le_of_ble_eq_true rfl⟩ ?_
  show wp_E (d + 1) mm171.2.2.2.2.2.2.2.2 0 [some (.ref 67), some (.int x0)] [] (hz F A L) Q
  refine q_n 1 (pc1 := 1) (ls1 := [some (.ref 67), some (.int x0)]) (st1 := [.ref 67]) (hp1 := (hz F A L)) rfl ?_
  refine q_c rfl rfl (a_m_here (d := d + 0) K.1 ?_)
  have K := K.2
  show wp_E _ mm171.2.2.2.2.2.2.2.2 4 [some (.ref 67), some (.int x0)] [.int (hV (F 67 9) (F 67 10) (A 71))] (hz F A L) _
  refine q_n 1 (pc1 := 5) (ls1 := [some (.ref 67), some (.int x0)]) (st1 := [.int x0, .int (hV (F 67 9) (F 67 10) (A 71))]) (hp1 := (hz F A L)) rfl ?_
  refine q_eq (p3 := 8) rfl rfl (fun h => ?_) (fun h => ?_)
  · have K := K.1 h
    refine q_n 5 (pc1 := 25) (ls1 := [some (.ref 67), some (.int x0)]) (st1 := [.int ((F 67 9) + 1), .ref 67]) (hp1 := (hz F A L)) rfl ?_
    refine q_pf (k := 67) (fs := hz_f67 F) (p3 := 28) rfl rfl rfl (Nat.le_of_ble_eq_true rfl) rfl (hz_p67_9 _) ?_
    refine q_n 1 (pc1 := 29) (ls1 := [some (.ref 67), some (.int x0)]) (st1 := [.int 1]) (hp1 := (hz (uF F 67 9 ((F 67 9) + 1)) A L)) rfl ?_
    exact q_rz rfl (by decide) K
  · have K := K.2 h
    refine q_n 4 (pc1 := 14) (ls1 := [some (.ref 67), some (.int x0)]) (st1 := [.int (F 67 9), .int 1, .ref 67]) (hp1 := (hz F A L)) rfl ?_
    refine q_c rfl rfl (s_m_wrongAt (d := d + 0) ?_)
    show wp_E _ mm171.2.2.2.2.2.2.2.2 17 [some (.ref 67), some (.int x0)] [.int 0] (hz (uF F 67 11 (((-1000) * (1 : Int32)) - (F 67 9))) A L) _
    exact q_rz rfl (by decide) K
theorem s_m_notes {d : Nat} {F : Nat → Nat → Int32} {A : Nat → List Int32} {L : Nat → List Int64} {Q : Option Value → sm_H → Prop} {x0 : Int32} {x1 : Int32} (K : ((0 ≤ (F 67 14).toInt ∧ (F 67 14).toInt < ((A 72).length : Int)) ∧ (Q none (hz (uF F 67 14 ((F 67 14) + 1)) (uA A 72 ((A 72).set (F 67 14).toInt.toNat ((1048576 * x0) + x1))) L)))) : wp_M (d + 1) 160 [.ref 67, .int x0, .int x1] (hz F A L) Q := by
  refine q_m (E := mm160) rfl ⟨Nat.le_of_ble_eq_true rfl, Nat.le_of_ble_eq_true rfl⟩ ?_
  show wp_E (d + 0) mm160.2.2.2.2.2.2.2.2 0 [some (.ref 67), some (.int x0), some (.int x1)] [] (hz F A L) Q
  refine q_n 9 (pc1 := 14) (ls1 := [some (.ref 67), some (.int x0), some (.int x1)]) (st1 := [.int ((1048576 * x0) + x1), .int (F 67 14), .ref 72]) (hp1 := (hz F A L)) rfl ?_
  refine q_as (k := 72) (l := (A 72)) (p1 := 15) rfl rfl rfl K.1 (hz_s72 _) ?_
  have K := K.2
  refine q_n 5 (pc1 := 22) (ls1 := [some (.ref 67), some (.int x0), some (.int x1)]) (st1 := [.int ((F 67 14) + 1), .ref 67]) (hp1 := (hz F (uA A 72 ((A 72).set (F 67 14).toInt.toNat ((1048576 * x0) + x1))) L)) rfl ?_
  refine q_pf (k := 67) (fs := hz_f67 F) (p3 := 25) rfl rfl rfl (Nat.le_of_ble_eq_true rfl) rfl (hz_p67_14 _) ?_
  exact q_r rfl rfl K
theorem s_m_opens {d : Nat} {F : Nat → Nat → Int32} {A : Nat → List Int32} {L : Nat → List Int64} {Q : Option Value → sm_H → Prop} {x0 : Int32} (K : ((¬ (F 67 13) = 6 → ((0 ≤ (F 67 15).toInt ∧ (F 67 15).toInt < ((A 73).length : Int)) ∧ (Q (some (.int 1)) (hz (uF (uF (uF F 67 13 ((F 67 13) + 1)) 67 15 ((F 67 15) + 1)) 67 9 ((F 67 9) + 1)) (uA A 73 ((A 73).set (F 67 15).toInt.toNat (1048576 * x0))) L)))) ∧ ((F 67 13) = 6 → (Q (some (.int 0)) (hz (uF F 67 11 (((-1000) * (5 : Int32)) - (F 67 9))) A L))))) : wp_M (d + 2) 157 [.ref 67, .int x0] (hz F A L) Q := by
  refine q_m (E := mm157) rfl ⟨Nat.le_of_ble_eq_true rfl, Nat.le_of_ble_eq_true rfl⟩ ?_
  show wp_E (d + 1) mm157.2.2.2.2.2.2.2.2 0 [some (.ref 67), some (.int x0)] [] (hz F A L) Q
  refine q_n 3 (pc1 := 6) (ls1 := [some (.ref 67), some (.int x0)]) (st1 := [.int 6, .int (F 67 13)]) (hp1 := (hz F A L)) rfl ?_
  refine q_ne (p3 := 9) rfl rfl (fun h => ?_) (fun h => ?_)
  · have K := K.1 h
    refine q_n 5 (pc1 := 26) (ls1 := [some (.ref 67), some (.int x0)]) (st1 := [.int ((F 67 13) + 1), .ref 67]) (hp1 := (hz F A L)) rfl ?_
    refine q_pf (k := 67) (fs := hz_f67 F) (p3 := 29) rfl rfl rfl (Nat.le_of_ble_eq_true rfl) rfl (hz_p67_13 _) ?_
    refine q_n 7 (pc1 := 41) (ls1 := [some (.ref 67), some (.int x0)]) (st1 := [.int (1048576 * x0), .int (F 67 15), .ref 73]) (hp1 := (hz (uF F 67 13 ((F 67 13) + 1)) A L)) rfl ?_
    refine q_as (k := 73) (l := (A 73)) (p1 := 42) rfl rfl rfl K.1 (hz_s73 _) ?_
    have K := K.2
    refine q_n 5 (pc1 := 49) (ls1 := [some (.ref 67), some (.int x0)]) (st1 := [.int ((F 67 15) + 1), .ref 67]) (hp1 := (hz (uF F 67 13 ((F 67 13) + 1)) (uA A 73 ((A 73).set (F 67 15).toInt.toNat (1048576 * x0))) L)) rfl ?_
    refine q_pf (k := 67) (fs := hz_f67 (uF F 67 13 ((F 67 13) + 1))) (p3 := 52) rfl rfl rfl (Nat.le_of_ble_eq_true rfl) rfl (hz_p67_15 _) ?_
    refine q_n 5 (pc1 := 59) (ls1 := [some (.ref 67), some (.int x0)]) (st1 := [.int ((F 67 9) + 1), .ref 67]) (hp1 := (hz (uF (uF F 67 13 ((F 67 13) + 1)) 67 15 ((F 67 15) + 1)) (uA A 73 ((A 73).set (F 67 15).toInt.toNat (1048576 * x0))) L)) rfl ?_
    refine q_pf (k := 67) (fs := hz_f67 (uF (uF F 67 13 ((F 67 13) + 1)) 67 15 ((F 67 15) + 1))) (p3 := 62) rfl rfl rfl (Nat.le_of_ble_eq_true rfl) rfl (hz_p67_9 _) ?_
    refine q_n 1 (pc1 := 63) (ls1 := [some (.ref 67), some (.int x0)]) (st1 := [.int 1]) (hp1 := (hz (uF (uF (uF F 67 13 ((F 67 13) + 1)) 67 15 ((F 67 15) + 1)) 67 9 ((F 67 9) + 1)) (uA A 73 ((A 73).set (F 67 15).toInt.toNat (1048576 * x0))) L)) rfl ?_
    exact q_rz rfl (by decide) K
  · have K := K.2 h
    refine q_n 4 (pc1 := 15) (ls1 := [some (.ref 67), some (.int x0)]) (st1 := [.int (F 67 9), .int 5, .ref 67]) (hp1 := (hz F A L)) rfl ?_
    refine q_c rfl rfl (s_m_wrongAt (d := d + 0) ?_)
    show wp_E _ mm157.2.2.2.2.2.2.2.2 18 [some (.ref 67), some (.int x0)] [.int 0] (hz (uF F 67 11 (((-1000) * (5 : Int32)) - (F 67 9))) A L) _
    exact q_rz rfl (by decide) K
theorem s_m_jumps {d : Nat} {F : Nat → Nat → Int32} {A : Nat → List Int32} {L : Nat → List Int64} {Q : Option Value → sm_H → Prop} {x0 : Int32} (K : ((0 ≤ (F 67 15).toInt ∧ (F 67 15).toInt < ((A 73).length : Int)) ∧ ((0 ≤ (F 67 14).toInt ∧ (F 67 14).toInt < ((A 72).length : Int)) ∧ (Q none (hz (uF (uF (uF F 67 15 ((F 67 15) + 1)) 67 14 ((F 67 14) + 1)) 67 9 ((F 67 9) + 1)) (uA (uA A 73 ((A 73).set (F 67 15).toInt.toNat ((1048576 * x0) + (F 67 14)))) 72 ((A 72).set (F 67 14).toInt.toNat ((1048576 * x0) + (0 : Int32)))) L))))) : wp_M (d + 2) 170 [.ref 67, .int x0] (hz F A L) Q := by
  refine q_m (E := mm170) rfl ⟨Nat.le_of_ble_eq_true rfl, Nat.le_of_ble_eq_true rfl⟩ ?_
  show wp_E (d + 1) mm170.2.2.2.2.2.2.2.2 0 [some (.ref 67), some (.int x0)] [] (hz F A L) Q
  refine q_n 10 (pc1 := 17) (ls1 := [some (.ref 67), some (.int x0)]) (st1 := [.int ((1048576 * x0) + (F 67 14)), .int (F 67 15), .ref 73]) (hp1 := (hz F A L)) rfl ?_
  refine q_as (k := 73) (l := (A 73)) (p1 := 18) rfl rfl rfl K.1 (hz_s73 _) ?_
  have K := K.2
  refine q_n 5 (pc1 := 25) (ls1 := [some (.ref 67), some (.int x0)]) (st1 := [.int ((F 67 15) + 1), .ref 67]) (hp1 := (hz F (uA A 73 ((A 73).set (F 67 15).toInt.toNat ((1048576 * x0) + (F 67 14)))) L)) rfl ?_
  refine q_pf (k := 67) (fs := hz_f67 F) (p3 := 28) rfl rfl rfl (Nat.le_of_ble_eq_true rfl) rfl (hz_p67_15 _) ?_
  refine q_n 3 (pc1 := 31) (ls1 := [some (.ref 67), some (.int x0)]) (st1 := [.int 0, .int x0, .ref 67]) (hp1 := (hz (uF F 67 15 ((F 67 15) + 1)) (uA A 73 ((A 73).set (F 67 15).toInt.toNat ((1048576 * x0) + (F 67 14)))) L)) rfl ?_
  refine q_c rfl rfl (s_m_notes (d := d + 0) ?_)
  refine ⟨K.1, ?_⟩
  have K := K.2
  show wp_E _ mm170.2.2.2.2.2.2.2.2 34 [some (.ref 67), some (.int x0)] [] (hz (uF (uF F 67 15 ((F 67 15) + 1)) 67 14 ((F 67 14) + 1)) (uA (uA A 73 ((A 73).set (F 67 15).toInt.toNat ((1048576 * x0) + (F 67 14)))) 72 ((A 72).set (F 67 14).toInt.toNat ((1048576 * x0) + (0 : Int32)))) L) _
  refine q_n 5 (pc1 := 41) (ls1 := [some (.ref 67), some (.int x0)]) (st1 := [.int ((F 67 9) + 1), .ref 67]) (hp1 := (hz (uF (uF F 67 15 ((F 67 15) + 1)) 67 14 ((F 67 14) + 1)) (uA (uA A 73 ((A 73).set (F 67 15).toInt.toNat ((1048576 * x0) + (F 67 14)))) 72 ((A 72).set (F 67 14).toInt.toNat ((1048576 * x0) + (0 : Int32)))) L)) rfl ?_
  refine q_pf (k := 67) (fs := hz_f67 (uF (uF F 67 15 ((F 67 15) + 1)) 67 14 ((F 67 14) + 1))) (p3 := 44) rfl rfl rfl (Nat.le_of_ble_eq_true rfl) rfl (hz_p67_9 _) ?_
  exact q_r rfl rfl K
