/-! sums, piece by piece -/
theorem g_sum0 {d : Nat} {F : Nat → Nat → Int32} {A : Nat → List Int32} {L : Nat → List Int64} {Q : Option Value → sm_H → Prop} (K : (wp_M (d + 4) 156 [.ref 67] (hz F A L) (fun w hp1 => wp_E (d + 4) mm155.2.2.2.2.2.2.2.2 9 [some (.ref 67), some (.int (F 67 15)), none] (w.toList ++ []) hp1 Q))) : wp_E (d + 4) mm155.2.2.2.2.2.2.2.2 0 [some (.ref 67), none, none] [] (hz F A L) Q := by
  refine q_n 4 (pc1 := 6) (ls1 := [some (.ref 67), some (.int (F 67 15)), none]) (st1 := [.ref 67]) (hp1 := (hz F A L)) rfl ?_
  exact q_c rfl rfl K
theorem g_sum1 {d : Nat} {F : Nat → Nat → Int32} {A : Nat → List Int32} {L : Nat → List Int64} {Q : Option Value → sm_H → Prop} {x r : Int32} (K : ((¬ r = 0 → (wp_E (d + 4) mm155.2.2.2.2.2.2.2.2 14 [some (.ref 67), some (.int x), none] [] (hz F A L) Q)) ∧ (r = 0 → (Q (some (.int 0)) (hz F A L))))) : wp_E (d + 4) mm155.2.2.2.2.2.2.2.2 9 [some (.ref 67), some (.int x), none] [.int r] (hz F A L) Q := by
  refine q_zne (p3 := 12) rfl rfl (fun h => ?_) (fun h => ?_)
  · have K := K.1 h
    exact K
  · have K := K.2 h
    refine q_n 1 (pc1 := 13) (ls1 := [some (.ref 67), some (.int x), none]) (st1 := [.int 0]) (hp1 := (hz F A L)) rfl ?_
    exact q_rz rfl (by decide) K
theorem g_sum2 {d : Nat} {F : Nat → Nat → Int32} {A : Nat → List Int32} {L : Nat → List Int64} {Q : Option Value → sm_H → Prop} {x : Int32} {v : Option Value} (K : ((0 ≤ (F 67 9).toInt ∧ (F 67 10).toInt ≤ ((A 71).length : Int)) ∧ (((sV (hV (F 67 9) (F 67 10) (A 71))) = (-1) → ((0 ≤ (F 67 9).toInt ∧ (F 67 10).toInt ≤ ((A 71).length : Int)) ∧ ((¬ (hV (F 67 9) (F 67 10) (A 71)) = 93 → (((0 ≤ x.toInt ∧ (F 67 15).toInt ≤ ((A 73).length : Int)) ∧ (A 73).length ≤ 1000) ∧ (((oV x (F 67 15) (A 73)) = 0 → (wp_M (d + 4) 163 [.ref 67, .int 1] (hz F A L) (fun w hp1 => wp_E (d + 4) mm155.2.2.2.2.2.2.2.2 161 [some (.ref 67), some (.int x), some (.int (sV (hV (F 67 9) (F 67 10) (A 71))))] (w.toList ++ []) hp1 Q))) ∧ (¬ (oV x (F 67 15) (A 73)) = 0 → (Q (some (.int 0)) (hz (uF F 67 11 (((-1000) * (1 : Int32)) - (F 67 9))) A L)))))) ∧ ((hV (F 67 9) (F 67 10) (A 71)) = 93 → (((0 ≤ x.toInt ∧ (F 67 15).toInt ≤ ((A 73).length : Int)) ∧ (A 73).length ≤ 1000) ∧ (((oV x (F 67 15) (A 73)) = 0 → (((0 ≤ x.toInt ∧ (F 67 15).toInt ≤ ((A 73).length : Int)) ∧ (A 73).length ≤ 1000) ∧ (((oV x (F 67 15) (A 73)) = 0 → (wp_M (d + 4) 163 [.ref 67, .int 1] (hz F A L) (fun w hp1 => wp_E (d + 4) mm155.2.2.2.2.2.2.2.2 161 [some (.ref 67), some (.int x), some (.int (sV (hV (F 67 9) (F 67 10) (A 71))))] (w.toList ++ []) hp1 Q))) ∧ (¬ (oV x (F 67 15) (A 73)) = 0 → (Q (some (.int 0)) (hz (uF F 67 11 (((-1000) * (1 : Int32)) - (F 67 9))) A L)))))) ∧ (¬ (oV x (F 67 15) (A 73)) = 0 → (wp_M (d + 4) 163 [.ref 67, .int 1] (hz F A L) (fun w hp1 => wp_E (d + 4) mm155.2.2.2.2.2.2.2.2 105 [some (.ref 67), some (.int x), some (.int (sV (hV (F 67 9) (F 67 10) (A 71))))] (w.toList ++ []) hp1 Q))))))))) ∧ (¬ (sV (hV (F 67 9) (F 67 10) (A 71))) = (-1) → (((4 : Int32).toInt ≤ (sV (hV (F 67 9) (F 67 10) (A 71))).toInt → (wp_M (d + 4) 163 [.ref 67, .int 0] (hz F A L) (fun w hp1 => wp_E (d + 4) mm155.2.2.2.2.2.2.2.2 41 [some (.ref 67), some (.int x), some (.int (sV (hV (F 67 9) (F 67 10) (A 71))))] (w.toList ++ []) hp1 Q))) ∧ ((sV (hV (F 67 9) (F 67 10) (A 71))).toInt < (4 : Int32).toInt → (wp_M (d + 4) 163 [.ref 67, .int 1] (hz F A L) (fun w hp1 => wp_E (d + 4) mm155.2.2.2.2.2.2.2.2 41 [some (.ref 67), some (.int x), some (.int (sV (hV (F 67 9) (F 67 10) (A 71))))] (w.toList ++ []) hp1 Q)))))))) : wp_E (d + 4) mm155.2.2.2.2.2.2.2.2 14 [some (.ref 67), some (.int x), v] [] (hz F A L) Q := by
  refine q_n 1 (pc1 := 15) (ls1 := [some (.ref 67), some (.int x), v]) (st1 := [.ref 67]) (hp1 := (hz F A L)) rfl ?_
  refine q_c rfl rfl (a_m_here (d := d + 3) K.1 ?_)
  have K := K.2
  show wp_E _ mm155.2.2.2.2.2.2.2.2 18 [some (.ref 67), some (.int x), v] [.int (hV (F 67 9) (F 67 10) (A 71))] (hz F A L) _
  refine q_c rfl rfl (a_m_sumSign (d := d + 3) ?_)
  show wp_E _ mm155.2.2.2.2.2.2.2.2 21 [some (.ref 67), some (.int x), v] [.int (sV (hV (F 67 9) (F 67 10) (A 71)))] (hz F A L) _
  refine q_n 3 (pc1 := 24) (ls1 := [some (.ref 67), some (.int x), some (.int (sV (hV (F 67 9) (F 67 10) (A 71))))]) (st1 := [.int (-1), .int (sV (hV (F 67 9) (F 67 10) (A 71)))]) (hp1 := (hz F A L)) rfl ?_
  refine q_eq (p3 := 27) rfl rfl (fun h => ?_) (fun h => ?_)
  · have K := K.1 h
    refine q_n 1 (pc1 := 84) (ls1 := [some (.ref 67), some (.int x), some (.int (sV (hV (F 67 9) (F 67 10) (A 71))))]) (st1 := [.ref 67]) (hp1 := (hz F A L)) rfl ?_
    refine q_c rfl rfl (a_m_here (d := d + 3) K.1 ?_)
    have K := K.2
    show wp_E _ mm155.2.2.2.2.2.2.2.2 87 [some (.ref 67), some (.int x), some (.int (sV (hV (F 67 9) (F 67 10) (A 71))))] [.int (hV (F 67 9) (F 67 10) (A 71))] (hz F A L) _
    refine q_n 1 (pc1 := 89) (ls1 := [some (.ref 67), some (.int x), some (.int (sV (hV (F 67 9) (F 67 10) (A 71))))]) (st1 := [.int 93, .int (hV (F 67 9) (F 67 10) (A 71))]) (hp1 := (hz F A L)) rfl ?_
    refine q_ne (p3 := 92) rfl rfl (fun h => ?_) (fun h => ?_)
    · have K := K.1 h
      refine q_n 2 (pc1 := 140) (ls1 := [some (.ref 67), some (.int x), some (.int (sV (hV (F 67 9) (F 67 10) (A 71))))]) (st1 := [.int x, .ref 67]) (hp1 := (hz F A L)) rfl ?_
      refine q_c rfl rfl (a_m_hasOpenSum (d := d + 3) K.1 ?_)
      have K := K.2
      show wp_E _ mm155.2.2.2.2.2.2.2.2 143 [some (.ref 67), some (.int x), some (.int (sV (hV (F 67 9) (F 67 10) (A 71))))] [.int (oV x (F 67 15) (A 73))] (hz F A L) _
      refine q_zeq (p3 := 146) rfl rfl (fun h => ?_) (fun h => ?_)
      · have K := K.1 h
        refine q_n 2 (pc1 := 158) (ls1 := [some (.ref 67), some (.int x), some (.int (sV (hV (F 67 9) (F 67 10) (A 71))))]) (st1 := [.int 1, .ref 67]) (hp1 := (hz F A L)) rfl ?_
        exact q_c rfl rfl K
      · have K := K.2 h
        refine q_n 4 (pc1 := 152) (ls1 := [some (.ref 67), some (.int x), some (.int (sV (hV (F 67 9) (F 67 10) (A 71))))]) (st1 := [.int (F 67 9), .int 1, .ref 67]) (hp1 := (hz F A L)) rfl ?_
        refine q_c rfl rfl (s_m_wrongAt (d := d + 3) ?_)
        show wp_E _ mm155.2.2.2.2.2.2.2.2 155 [some (.ref 67), some (.int x), some (.int (sV (hV (F 67 9) (F 67 10) (A 71))))] [.int 0] (hz (uF F 67 11 (((-1000) * (1 : Int32)) - (F 67 9))) A L) _
        exact q_rz rfl (by decide) K
    · have K := K.2 h
      refine q_n 2 (pc1 := 94) (ls1 := [some (.ref 67), some (.int x), some (.int (sV (hV (F 67 9) (F 67 10) (A 71))))]) (st1 := [.int x, .ref 67]) (hp1 := (hz F A L)) rfl ?_
      refine q_c rfl rfl (a_m_hasOpenSum (d := d + 3) K.1 ?_)
      have K := K.2
      show wp_E _ mm155.2.2.2.2.2.2.2.2 97 [some (.ref 67), some (.int x), some (.int (sV (hV (F 67 9) (F 67 10) (A 71))))] [.int (oV x (F 67 15) (A 73))] (hz F A L) _
      refine q_zeq (p3 := 100) rfl rfl (fun h => ?_) (fun h => ?_)
      · have K := K.1 h
        refine q_n 2 (pc1 := 140) (ls1 := [some (.ref 67), some (.int x), some (.int (sV (hV (F 67 9) (F 67 10) (A 71))))]) (st1 := [.int x, .ref 67]) (hp1 := (hz F A L)) rfl ?_
        refine q_c rfl rfl (a_m_hasOpenSum (d := d + 3) K.1 ?_)
        have K := K.2
        show wp_E _ mm155.2.2.2.2.2.2.2.2 143 [some (.ref 67), some (.int x), some (.int (sV (hV (F 67 9) (F 67 10) (A 71))))] [.int (oV x (F 67 15) (A 73))] (hz F A L) _
        refine q_zeq (p3 := 146) rfl rfl (fun h => ?_) (fun h => ?_)
        · have K := K.1 h
          refine q_n 2 (pc1 := 158) (ls1 := [some (.ref 67), some (.int x), some (.int (sV (hV (F 67 9) (F 67 10) (A 71))))]) (st1 := [.int 1, .ref 67]) (hp1 := (hz F A L)) rfl ?_
          exact q_c rfl rfl K
        · have K := K.2 h
          refine q_n 4 (pc1 := 152) (ls1 := [some (.ref 67), some (.int x), some (.int (sV (hV (F 67 9) (F 67 10) (A 71))))]) (st1 := [.int (F 67 9), .int 1, .ref 67]) (hp1 := (hz F A L)) rfl ?_
          refine q_c rfl rfl (s_m_wrongAt (d := d + 3) ?_)
          show wp_E _ mm155.2.2.2.2.2.2.2.2 155 [some (.ref 67), some (.int x), some (.int (sV (hV (F 67 9) (F 67 10) (A 71))))] [.int 0] (hz (uF F 67 11 (((-1000) * (1 : Int32)) - (F 67 9))) A L) _
          exact q_rz rfl (by decide) K
      · have K := K.2 h
        refine q_n 2 (pc1 := 102) (ls1 := [some (.ref 67), some (.int x), some (.int (sV (hV (F 67 9) (F 67 10) (A 71))))]) (st1 := [.int 1, .ref 67]) (hp1 := (hz F A L)) rfl ?_
        exact q_c rfl rfl K
  · have K := K.2 h
    refine q_n 3 (pc1 := 30) (ls1 := [some (.ref 67), some (.int x), some (.int (sV (hV (F 67 9) (F 67 10) (A 71))))]) (st1 := [.int 4, .int (sV (hV (F 67 9) (F 67 10) (A 71))), .ref 67]) (hp1 := (hz F A L)) rfl ?_
    refine q_ge (p3 := 33) rfl rfl (fun h => ?_) (fun h => ?_)
    · have K := K.1 h
      refine q_n 1 (pc1 := 38) (ls1 := [some (.ref 67), some (.int x), some (.int (sV (hV (F 67 9) (F 67 10) (A 71))))]) (st1 := [.int 0, .ref 67]) (hp1 := (hz F A L)) rfl ?_
      exact q_c rfl rfl K
    · have K := K.2 h
      refine q_n 2 (pc1 := 38) (ls1 := [some (.ref 67), some (.int x), some (.int (sV (hV (F 67 9) (F 67 10) (A 71))))]) (st1 := [.int 1, .ref 67]) (hp1 := (hz F A L)) rfl ?_
      exact q_c rfl rfl K
theorem g_sum3 {d : Nat} {F : Nat → Nat → Int32} {A : Nat → List Int32} {L : Nat → List Int64} {Q : Option Value → sm_H → Prop} {x y : Int32} (K : ((0 ≤ (F 67 15).toInt ∧ (F 67 15).toInt < ((A 73).length : Int)) ∧ (wp_M (d + 4) 156 [.ref 67] (hz (uF (uF F 67 15 ((F 67 15) + 1)) 67 9 ((F 67 9) + 1)) (uA A 73 ((A 73).set (F 67 15).toInt.toNat (1048576 * y))) L) (fun w hp1 => wp_E (d + 4) mm155.2.2.2.2.2.2.2.2 78 [some (.ref 67), some (.int x), some (.int y)] (w.toList ++ []) hp1 Q)))) : wp_E (d + 4) mm155.2.2.2.2.2.2.2.2 41 [some (.ref 67), some (.int x), some (.int y)] [] (hz F A L) Q := by
  refine q_n 7 (pc1 := 53) (ls1 := [some (.ref 67), some (.int x), some (.int y)]) (st1 := [.int (1048576 * y), .int (F 67 15), .ref 73]) (hp1 := (hz F A L)) rfl ?_
  refine q_as (k := 73) (l := (A 73)) (p1 := 54) rfl rfl rfl K.1 (hz_s73 _) ?_
  have K := K.2
  refine q_n 5 (pc1 := 61) (ls1 := [some (.ref 67), some (.int x), some (.int y)]) (st1 := [.int ((F 67 15) + 1), .ref 67]) (hp1 := (hz F (uA A 73 ((A 73).set (F 67 15).toInt.toNat (1048576 * y))) L)) rfl ?_
  refine q_pf (k := 67) (fs := hz_f67 F) (p3 := 64) rfl rfl rfl (Nat.le_of_ble_eq_true rfl) rfl (hz_p67_15 _) ?_
  refine q_n 5 (pc1 := 71) (ls1 := [some (.ref 67), some (.int x), some (.int y)]) (st1 := [.int ((F 67 9) + 1), .ref 67]) (hp1 := (hz (uF F 67 15 ((F 67 15) + 1)) (uA A 73 ((A 73).set (F 67 15).toInt.toNat (1048576 * y))) L)) rfl ?_
  refine q_pf (k := 67) (fs := hz_f67 (uF F 67 15 ((F 67 15) + 1))) (p3 := 74) rfl rfl rfl (Nat.le_of_ble_eq_true rfl) rfl (hz_p67_9 _) ?_
  refine q_n 1 (pc1 := 75) (ls1 := [some (.ref 67), some (.int x), some (.int y)]) (st1 := [.ref 67]) (hp1 := (hz (uF (uF F 67 15 ((F 67 15) + 1)) 67 9 ((F 67 9) + 1)) (uA A 73 ((A 73).set (F 67 15).toInt.toNat (1048576 * y))) L)) rfl ?_
  exact q_c rfl rfl K
theorem g_sum4 {d : Nat} {F : Nat → Nat → Int32} {A : Nat → List Int32} {L : Nat → List Int64} {Q : Option Value → sm_H → Prop} {x y r : Int32} (K : ((¬ r = 0 → (wp_E (d + 4) mm155.2.2.2.2.2.2.2.2 14 [some (.ref 67), some (.int x), some (.int y)] [] (hz F A L) Q)) ∧ (r = 0 → (Q (some (.int 0)) (hz F A L))))) : wp_E (d + 4) mm155.2.2.2.2.2.2.2.2 78 [some (.ref 67), some (.int x), some (.int y)] [.int r] (hz F A L) Q := by
  refine q_zne (p3 := 81) rfl rfl (fun h => ?_) (fun h => ?_)
  · have K := K.1 h
    refine q_n 1 (pc1 := 14) (ls1 := [some (.ref 67), some (.int x), some (.int y)]) (st1 := []) (hp1 := (hz F A L)) rfl ?_
    exact K
  · have K := K.2 h
    refine q_n 1 (pc1 := 82) (ls1 := [some (.ref 67), some (.int x), some (.int y)]) (st1 := [.int 0]) (hp1 := (hz F A L)) rfl ?_
    exact q_rz rfl (by decide) K
theorem g_sum5 {d : Nat} {F : Nat → Nat → Int32} {A : Nat → List Int32} {L : Nat → List Int64} {Q : Option Value → sm_H → Prop} {x y : Int32} (K : (wp_E (d + 4) mm155.2.2.2.2.2.2.2.2 14 [some (.ref 67), some (.int x), some (.int y)] [] (hz (uF (uF (uF F 67 15 ((F 67 15) - 1)) 67 13 ((F 67 13) - 1)) 67 9 ((F 67 9) + 1)) A L) Q)) : wp_E (d + 4) mm155.2.2.2.2.2.2.2.2 105 [some (.ref 67), some (.int x), some (.int y)] [] (hz F A L) Q := by
  refine q_n 5 (pc1 := 112) (ls1 := [some (.ref 67), some (.int x), some (.int y)]) (st1 := [.int ((F 67 15) - 1), .ref 67]) (hp1 := (hz F A L)) rfl ?_
  refine q_pf (k := 67) (fs := hz_f67 F) (p3 := 115) rfl rfl rfl (Nat.le_of_ble_eq_true rfl) rfl (hz_p67_15 _) ?_
  refine q_n 5 (pc1 := 122) (ls1 := [some (.ref 67), some (.int x), some (.int y)]) (st1 := [.int ((F 67 13) - 1), .ref 67]) (hp1 := (hz (uF F 67 15 ((F 67 15) - 1)) A L)) rfl ?_
  refine q_pf (k := 67) (fs := hz_f67 (uF F 67 15 ((F 67 15) - 1))) (p3 := 125) rfl rfl rfl (Nat.le_of_ble_eq_true rfl) rfl (hz_p67_13 _) ?_
  refine q_n 5 (pc1 := 132) (ls1 := [some (.ref 67), some (.int x), some (.int y)]) (st1 := [.int ((F 67 9) + 1), .ref 67]) (hp1 := (hz (uF (uF F 67 15 ((F 67 15) - 1)) 67 13 ((F 67 13) - 1)) A L)) rfl ?_
  refine q_pf (k := 67) (fs := hz_f67 (uF (uF F 67 15 ((F 67 15) - 1)) 67 13 ((F 67 13) - 1))) (p3 := 135) rfl rfl rfl (Nat.le_of_ble_eq_true rfl) rfl (hz_p67_9 _) ?_
  refine q_n 2 (pc1 := 14) (ls1 := [some (.ref 67), some (.int x), some (.int y)]) (st1 := []) (hp1 := (hz (uF (uF (uF F 67 15 ((F 67 15) - 1)) 67 13 ((F 67 13) - 1)) 67 9 ((F 67 9) + 1)) A L)) rfl ?_
  exact K
theorem g_sum6 {d : Nat} {F : Nat → Nat → Int32} {A : Nat → List Int32} {L : Nat → List Int64} {Q : Option Value → sm_H → Prop} {x y : Int32} (K : (Q (some (.int 1)) (hz F A L))) : wp_E (d + 4) mm155.2.2.2.2.2.2.2.2 161 [some (.ref 67), some (.int x), some (.int y)] [] (hz F A L) Q := by
  refine q_n 1 (pc1 := 162) (ls1 := [some (.ref 67), some (.int x), some (.int y)]) (st1 := [.int 1]) (hp1 := (hz F A L)) rfl ?_
  exact q_rz rfl (by decide) K
