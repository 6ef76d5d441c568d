/-! the parser, piece by piece -/
theorem g_num0 {d : Nat} {F : Nat → Nat → Int32} {A : Nat → List Int32} {L : Nat → List Int64} {Q : Option Value → sm_H → Prop} (K : (wp_E (d + 2) mm159.2.2.2.2.2.2.2.2 10 [some (.ref 67), some (.int (F 67 9))] [] (hz (uF F 67 12 0) A L) Q)) : wp_E (d + 2) mm159.2.2.2.2.2.2.2.2 0 [some (.ref 67), none] [] (hz F A L) Q := by
  refine q_n 5 (pc1 := 7) (ls1 := [some (.ref 67), some (.int (F 67 9))]) (st1 := [.int 0, .ref 67]) (hp1 := (hz F A L)) rfl ?_
  refine q_pf (k := 67) (fs := hz_f67 F) (p3 := 10) rfl rfl rfl (Nat.le_of_ble_eq_true rfl) rfl (hz_p67_12 _) ?_
  exact K
theorem g_num {d : Nat} {F : Nat → Nat → Int32} {A : Nat → List Int32} {L : Nat → List Int64} {Q : Option Value → sm_H → Prop} {x : Int32} (K : ((0 ≤ (F 67 9).toInt ∧ (F 67 10).toInt ≤ ((A 71).length : Int)) ∧ (((dV (hV (F 67 9) (F 67 10) (A 71))) = 0 → (Q (some (.int 1)) (hz F A L))) ∧ (¬ (dV (hV (F 67 9) (F 67 10) (A 71))) = 0 → ((¬ (F 67 9) = (x + 5) → ((0 ≤ (F 67 9).toInt ∧ (F 67 10).toInt ≤ ((A 71).length : Int)) ∧ (wp_E (d + 2) mm159.2.2.2.2.2.2.2.2 10 [some (.ref 67), some (.int x)] [] (hz (uF (uF F 67 12 (((10 * (F 67 12)) + (hV (F 67 9) (F 67 10) (A 71))) - 48)) 67 9 ((F 67 9) + 1)) A L) Q))) ∧ ((F 67 9) = (x + 5) → (Q (some (.int 0)) (hz (uF F 67 11 (((-1000) * (2 : Int32)) - (F 67 9))) A L)))))))) : wp_E (d + 2) mm159.2.2.2.2.2.2.2.2 10 [some (.ref 67), some (.int x)] [] (hz F A L) Q := by
  refine q_n 1 (pc1 := 11) (ls1 := [some (.ref 67), some (.int x)]) (st1 := [.ref 67]) (hp1 := (hz F A L)) rfl ?_
  refine q_c rfl rfl (a_m_isDigit (d := d + 0) K.1 ?_)
  have K := K.2
  show wp_E _ mm159.2.2.2.2.2.2.2.2 14 [some (.ref 67), some (.int x)] [.int (dV (hV (F 67 9) (F 67 10) (A 71)))] (hz F A L) _
  refine q_zeq (p3 := 17) rfl rfl (fun h => ?_) (fun h => ?_)
  · have K := K.1 h
    refine q_n 1 (pc1 := 70) (ls1 := [some (.ref 67), some (.int x)]) (st1 := [.int 1]) (hp1 := (hz F A L)) rfl ?_
    exact q_rz rfl (by decide) K
  · have K := K.2 h
    refine q_n 5 (pc1 := 24) (ls1 := [some (.ref 67), some (.int x)]) (st1 := [.int (x + 5), .int (F 67 9)]) (hp1 := (hz F A L)) rfl ?_
    refine q_ne (p3 := 27) rfl rfl (fun h => ?_) (fun h => ?_)
    · have K := K.1 h
      refine q_n 6 (pc1 := 46) (ls1 := [some (.ref 67), some (.int x)]) (st1 := [.ref 67, .int (10 * (F 67 12)), .ref 67]) (hp1 := (hz F A L)) rfl ?_
      refine q_c rfl rfl (a_m_here (d := d + 1) K.1 ?_)
      have K := K.2
      show wp_E _ mm159.2.2.2.2.2.2.2.2 49 [some (.ref 67), some (.int x)] [.int (hV (F 67 9) (F 67 10) (A 71)), .int (10 * (F 67 12)), .ref 67] (hz F A L) _
      refine q_n 3 (pc1 := 53) (ls1 := [some (.ref 67), some (.int x)]) (st1 := [.int (((10 * (F 67 12)) + (hV (F 67 9) (F 67 10) (A 71))) - 48), .ref 67]) (hp1 := (hz F A L)) rfl ?_
      refine q_pf (k := 67) (fs := hz_f67 F) (p3 := 56) rfl rfl rfl (Nat.le_of_ble_eq_true rfl) rfl (hz_p67_12 _) ?_
      refine q_n 5 (pc1 := 63) (ls1 := [some (.ref 67), some (.int x)]) (st1 := [.int ((F 67 9) + 1), .ref 67]) (hp1 := (hz (uF F 67 12 (((10 * (F 67 12)) + (hV (F 67 9) (F 67 10) (A 71))) - 48)) A L)) rfl ?_
      refine q_pf (k := 67) (fs := hz_f67 (uF F 67 12 (((10 * (F 67 12)) + (hV (F 67 9) (F 67 10) (A 71))) - 48))) (p3 := 66) rfl rfl rfl (Nat.le_of_ble_eq_true rfl) rfl (hz_p67_9 _) ?_
      refine q_n 1 (pc1 := 10) (ls1 := [some (.ref 67), some (.int x)]) (st1 := []) (hp1 := (hz (uF (uF F 67 12 (((10 * (F 67 12)) + (hV (F 67 9) (F 67 10) (A 71))) - 48)) 67 9 ((F 67 9) + 1)) A L)) rfl ?_
      exact K
    · have K := K.2 h
      refine q_n 4 (pc1 := 33) (ls1 := [some (.ref 67), some (.int x)]) (st1 := [.int (F 67 9), .int 2, .ref 67]) (hp1 := (hz F A L)) rfl ?_
      refine q_c rfl rfl (s_m_wrongAt (d := d + 1) ?_)
      show wp_E _ mm159.2.2.2.2.2.2.2.2 36 [some (.ref 67), some (.int x)] [.int 0] (hz (uF F 67 11 (((-1000) * (2 : Int32)) - (F 67 9))) A L) _
      exact q_rz rfl (by decide) K
theorem g_cls {d : Nat} {F : Nat → Nat → Int32} {A : Nat → List Int32} {L : Nat → List Int64} {Q : Option Value → sm_H → Prop} {x : Int32} (K : ((0 ≤ (F 67 15).toInt ∧ (F 67 15).toInt ≤ ((A 73).length : Int)) ∧ (((wV (F 67 15) (A 73)).toInt < (4 : Int32).toInt → ((x = 0 → (Q none (hz F A L))) ∧ (¬ x = 0 → ((0 ≤ (F 67 15).toInt ∧ (F 67 15).toInt ≤ ((A 73).length : Int)) ∧ (((wV (F 67 15) (A 73)) = 2 → ((0 ≤ (F 67 15).toInt ∧ (F 67 15).toInt ≤ ((A 73).length : Int)) ∧ ((0 ≤ (F 67 14).toInt ∧ (F 67 14).toInt < ((A 72).length : Int)) ∧ (wp_E (d + 1) mm163.2.2.2.2.2.2.2.2 0 [some (.ref 67), some (.int x)] [] (hz (uF (uF F 67 14 ((F 67 14) + 1)) 67 15 ((F 67 15) - 1)) (uA A 72 ((A 72).set (F 67 14).toInt.toNat ((1048576 * (wV (F 67 15) (A 73))) + (0 : Int32)))) L) Q)))) ∧ (¬ (wV (F 67 15) (A 73)) = 2 → ((0 ≤ (F 67 15).toInt ∧ (F 67 15).toInt ≤ ((A 73).length : Int)) ∧ ((¬ (wV (F 67 15) (A 73)) = 3 → (Q none (hz F A L))) ∧ ((wV (F 67 15) (A 73)) = 3 → ((0 ≤ (F 67 15).toInt ∧ (F 67 15).toInt ≤ ((A 73).length : Int)) ∧ ((0 ≤ (F 67 14).toInt ∧ (F 67 14).toInt < ((A 72).length : Int)) ∧ (wp_E (d + 1) mm163.2.2.2.2.2.2.2.2 0 [some (.ref 67), some (.int x)] [] (hz (uF (uF F 67 14 ((F 67 14) + 1)) 67 15 ((F 67 15) - 1)) (uA A 72 ((A 72).set (F 67 14).toInt.toNat ((1048576 * (wV (F 67 15) (A 73))) + (0 : Int32)))) L) Q)))))))))))) ∧ ((4 : Int32).toInt ≤ (wV (F 67 15) (A 73)).toInt → ((0 ≤ (F 67 15).toInt ∧ (F 67 15).toInt ≤ ((A 73).length : Int)) ∧ (((wV (F 67 15) (A 73)).toInt ≤ (6 : Int32).toInt → ((0 ≤ (F 67 15).toInt ∧ (F 67 15).toInt ≤ ((A 73).length : Int)) ∧ ((0 ≤ (F 67 14).toInt ∧ (F 67 14).toInt < ((A 72).length : Int)) ∧ (wp_E (d + 1) mm163.2.2.2.2.2.2.2.2 0 [some (.ref 67), some (.int x)] [] (hz (uF (uF F 67 14 ((F 67 14) + 1)) 67 15 ((F 67 15) - 1)) (uA A 72 ((A 72).set (F 67 14).toInt.toNat ((1048576 * (wV (F 67 15) (A 73))) + (0 : Int32)))) L) Q)))) ∧ ((6 : Int32).toInt < (wV (F 67 15) (A 73)).toInt → ((x = 0 → (Q none (hz F A L))) ∧ (¬ x = 0 → ((0 ≤ (F 67 15).toInt ∧ (F 67 15).toInt ≤ ((A 73).length : Int)) ∧ (((wV (F 67 15) (A 73)) = 2 → ((0 ≤ (F 67 15).toInt ∧ (F 67 15).toInt ≤ ((A 73).length : Int)) ∧ ((0 ≤ (F 67 14).toInt ∧ (F 67 14).toInt < ((A 72).length : Int)) ∧ (wp_E (d + 1) mm163.2.2.2.2.2.2.2.2 0 [some (.ref 67), some (.int x)] [] (hz (uF (uF F 67 14 ((F 67 14) + 1)) 67 15 ((F 67 15) - 1)) (uA A 72 ((A 72).set (F 67 14).toInt.toNat ((1048576 * (wV (F 67 15) (A 73))) + (0 : Int32)))) L) Q)))) ∧ (¬ (wV (F 67 15) (A 73)) = 2 → ((0 ≤ (F 67 15).toInt ∧ (F 67 15).toInt ≤ ((A 73).length : Int)) ∧ ((¬ (wV (F 67 15) (A 73)) = 3 → (Q none (hz F A L))) ∧ ((wV (F 67 15) (A 73)) = 3 → ((0 ≤ (F 67 15).toInt ∧ (F 67 15).toInt ≤ ((A 73).length : Int)) ∧ ((0 ≤ (F 67 14).toInt ∧ (F 67 14).toInt < ((A 72).length : Int)) ∧ (wp_E (d + 1) mm163.2.2.2.2.2.2.2.2 0 [some (.ref 67), some (.int x)] [] (hz (uF (uF F 67 14 ((F 67 14) + 1)) 67 15 ((F 67 15) - 1)) (uA A 72 ((A 72).set (F 67 14).toInt.toNat ((1048576 * (wV (F 67 15) (A 73))) + (0 : Int32)))) L) Q)))))))))))))))))) : wp_E (d + 1) mm163.2.2.2.2.2.2.2.2 0 [some (.ref 67), some (.int x)] [] (hz F A L) Q := by
  refine q_n 1 (pc1 := 1) (ls1 := [some (.ref 67), some (.int x)]) (st1 := [.ref 67]) (hp1 := (hz F A L)) rfl ?_
  refine q_c rfl rfl (a_m_waitTop (d := d + 0) K.1 ?_)
  have K := K.2
  show wp_E _ mm163.2.2.2.2.2.2.2.2 4 [some (.ref 67), some (.int x)] [.int (wV (F 67 15) (A 73))] (hz F A L) _
  refine q_n 1 (pc1 := 5) (ls1 := [some (.ref 67), some (.int x)]) (st1 := [.int 4, .int (wV (F 67 15) (A 73))]) (hp1 := (hz F A L)) rfl ?_
  refine q_lt (p3 := 8) rfl rfl (fun h => ?_) (fun h => ?_)
  · have K := K.1 h
    refine q_n 1 (pc1 := 18) (ls1 := [some (.ref 67), some (.int x)]) (st1 := [.int x]) (hp1 := (hz F A L)) rfl ?_
    refine q_zeq (p3 := 21) rfl rfl (fun h => ?_) (fun h => ?_)
    · have K := K.1 h
      exact q_r rfl rfl K
    · have K := K.2 h
      refine q_n 1 (pc1 := 22) (ls1 := [some (.ref 67), some (.int x)]) (st1 := [.ref 67]) (hp1 := (hz F A L)) rfl ?_
      refine q_c rfl rfl (a_m_waitTop (d := d + 0) K.1 ?_)
      have K := K.2
      show wp_E _ mm163.2.2.2.2.2.2.2.2 25 [some (.ref 67), some (.int x)] [.int (wV (F 67 15) (A 73))] (hz F A L) _
      refine q_n 1 (pc1 := 26) (ls1 := [some (.ref 67), some (.int x)]) (st1 := [.int 2, .int (wV (F 67 15) (A 73))]) (hp1 := (hz F A L)) rfl ?_
      refine q_eq (p3 := 29) rfl rfl (fun h => ?_) (fun h => ?_)
      · have K := K.1 h
        refine q_n 2 (pc1 := 39) (ls1 := [some (.ref 67), some (.int x)]) (st1 := [.ref 67, .ref 67]) (hp1 := (hz F A L)) rfl ?_
        refine q_c rfl rfl (a_m_waitTop (d := d + 0) K.1 ?_)
        have K := K.2
        show wp_E _ mm163.2.2.2.2.2.2.2.2 42 [some (.ref 67), some (.int x)] [.int (wV (F 67 15) (A 73)), .ref 67] (hz F A L) _
        refine q_n 1 (pc1 := 43) (ls1 := [some (.ref 67), some (.int x)]) (st1 := [.int 0, .int (wV (F 67 15) (A 73)), .ref 67]) (hp1 := (hz F A L)) rfl ?_
        refine q_c rfl rfl (s_m_notes (d := d + 0) ?_)
        refine ⟨K.1, ?_⟩
        have K := K.2
        show wp_E _ mm163.2.2.2.2.2.2.2.2 46 [some (.ref 67), some (.int x)] [] (hz (uF F 67 14 ((F 67 14) + 1)) (uA A 72 ((A 72).set (F 67 14).toInt.toNat ((1048576 * (wV (F 67 15) (A 73))) + (0 : Int32)))) L) _
        refine q_n 5 (pc1 := 53) (ls1 := [some (.ref 67), some (.int x)]) (st1 := [.int ((F 67 15) - 1), .ref 67]) (hp1 := (hz (uF F 67 14 ((F 67 14) + 1)) (uA A 72 ((A 72).set (F 67 14).toInt.toNat ((1048576 * (wV (F 67 15) (A 73))) + (0 : Int32)))) L)) rfl ?_
        refine q_pf (k := 67) (fs := hz_f67 (uF F 67 14 ((F 67 14) + 1))) (p3 := 56) rfl rfl rfl (Nat.le_of_ble_eq_true rfl) rfl (hz_p67_15 _) ?_
        refine q_n 1 (pc1 := 0) (ls1 := [some (.ref 67), some (.int x)]) (st1 := []) (hp1 := (hz (uF (uF F 67 14 ((F 67 14) + 1)) 67 15 ((F 67 15) - 1)) (uA A 72 ((A 72).set (F 67 14).toInt.toNat ((1048576 * (wV (F 67 15) (A 73))) + (0 : Int32)))) L)) rfl ?_
        exact K
      · have K := K.2 h
        refine q_n 1 (pc1 := 30) (ls1 := [some (.ref 67), some (.int x)]) (st1 := [.ref 67]) (hp1 := (hz F A L)) rfl ?_
        refine q_c rfl rfl (a_m_waitTop (d := d + 0) K.1 ?_)
        have K := K.2
        show wp_E _ mm163.2.2.2.2.2.2.2.2 33 [some (.ref 67), some (.int x)] [.int (wV (F 67 15) (A 73))] (hz F A L) _
        refine q_n 1 (pc1 := 34) (ls1 := [some (.ref 67), some (.int x)]) (st1 := [.int 3, .int (wV (F 67 15) (A 73))]) (hp1 := (hz F A L)) rfl ?_
        refine q_ne (p3 := 37) rfl rfl (fun h => ?_) (fun h => ?_)
        · have K := K.1 h
          exact q_r rfl rfl K
        · have K := K.2 h
          refine q_n 2 (pc1 := 39) (ls1 := [some (.ref 67), some (.int x)]) (st1 := [.ref 67, .ref 67]) (hp1 := (hz F A L)) rfl ?_
          refine q_c rfl rfl (a_m_waitTop (d := d + 0) K.1 ?_)
          have K := K.2
          show wp_E _ mm163.2.2.2.2.2.2.2.2 42 [some (.ref 67), some (.int x)] [.int (wV (F 67 15) (A 73)), .ref 67] (hz F A L) _
          refine q_n 1 (pc1 := 43) (ls1 := [some (.ref 67), some (.int x)]) (st1 := [.int 0, .int (wV (F 67 15) (A 73)), .ref 67]) (hp1 := (hz F A L)) rfl ?_
          refine q_c rfl rfl (s_m_notes (d := d + 0) ?_)
          refine ⟨K.1, ?_⟩
          have K := K.2
          show wp_E _ mm163.2.2.2.2.2.2.2.2 46 [some (.ref 67), some (.int x)] [] (hz (uF F 67 14 ((F 67 14) + 1)) (uA A 72 ((A 72).set (F 67 14).toInt.toNat ((1048576 * (wV (F 67 15) (A 73))) + (0 : Int32)))) L) _
          refine q_n 5 (pc1 := 53) (ls1 := [some (.ref 67), some (.int x)]) (st1 := [.int ((F 67 15) - 1), .ref 67]) (hp1 := (hz (uF F 67 14 ((F 67 14) + 1)) (uA A 72 ((A 72).set (F 67 14).toInt.toNat ((1048576 * (wV (F 67 15) (A 73))) + (0 : Int32)))) L)) rfl ?_
          refine q_pf (k := 67) (fs := hz_f67 (uF F 67 14 ((F 67 14) + 1))) (p3 := 56) rfl rfl rfl (Nat.le_of_ble_eq_true rfl) rfl (hz_p67_15 _) ?_
          refine q_n 1 (pc1 := 0) (ls1 := [some (.ref 67), some (.int x)]) (st1 := []) (hp1 := (hz (uF (uF F 67 14 ((F 67 14) + 1)) 67 15 ((F 67 15) - 1)) (uA A 72 ((A 72).set (F 67 14).toInt.toNat ((1048576 * (wV (F 67 15) (A 73))) + (0 : Int32)))) L)) rfl ?_
          exact K
  · have K := K.2 h
    refine q_n 1 (pc1 := 9) (ls1 := [some (.ref 67), some (.int x)]) (st1 := [.ref 67]) (hp1 := (hz F A L)) rfl ?_
    refine q_c rfl rfl (a_m_waitTop (d := d + 0) K.1 ?_)
    have K := K.2
    show wp_E _ mm163.2.2.2.2.2.2.2.2 12 [some (.ref 67), some (.int x)] [.int (wV (F 67 15) (A 73))] (hz F A L) _
    refine q_n 1 (pc1 := 14) (ls1 := [some (.ref 67), some (.int x)]) (st1 := [.int 6, .int (wV (F 67 15) (A 73))]) (hp1 := (hz F A L)) rfl ?_
    refine q_le (p3 := 17) rfl rfl (fun h => ?_) (fun h => ?_)
    · have K := K.1 h
      refine q_n 2 (pc1 := 39) (ls1 := [some (.ref 67), some (.int x)]) (st1 := [.ref 67, .ref 67]) (hp1 := (hz F A L)) rfl ?_
      refine q_c rfl rfl (a_m_waitTop (d := d + 0) K.1 ?_)
      have K := K.2
      show wp_E _ mm163.2.2.2.2.2.2.2.2 42 [some (.ref 67), some (.int x)] [.int (wV (F 67 15) (A 73)), .ref 67] (hz F A L) _
      refine q_n 1 (pc1 := 43) (ls1 := [some (.ref 67), some (.int x)]) (st1 := [.int 0, .int (wV (F 67 15) (A 73)), .ref 67]) (hp1 := (hz F A L)) rfl ?_
      refine q_c rfl rfl (s_m_notes (d := d + 0) ?_)
      refine ⟨K.1, ?_⟩
      have K := K.2
      show wp_E _ mm163.2.2.2.2.2.2.2.2 46 [some (.ref 67), some (.int x)] [] (hz (uF F 67 14 ((F 67 14) + 1)) (uA A 72 ((A 72).set (F 67 14).toInt.toNat ((1048576 * (wV (F 67 15) (A 73))) + (0 : Int32)))) L) _
      refine q_n 5 (pc1 := 53) (ls1 := [some (.ref 67), some (.int x)]) (st1 := [.int ((F 67 15) - 1), .ref 67]) (hp1 := (hz (uF F 67 14 ((F 67 14) + 1)) (uA A 72 ((A 72).set (F 67 14).toInt.toNat ((1048576 * (wV (F 67 15) (A 73))) + (0 : Int32)))) L)) rfl ?_
      refine q_pf (k := 67) (fs := hz_f67 (uF F 67 14 ((F 67 14) + 1))) (p3 := 56) rfl rfl rfl (Nat.le_of_ble_eq_true rfl) rfl (hz_p67_15 _) ?_
      refine q_n 1 (pc1 := 0) (ls1 := [some (.ref 67), some (.int x)]) (st1 := []) (hp1 := (hz (uF (uF F 67 14 ((F 67 14) + 1)) 67 15 ((F 67 15) - 1)) (uA A 72 ((A 72).set (F 67 14).toInt.toNat ((1048576 * (wV (F 67 15) (A 73))) + (0 : Int32)))) L)) rfl ?_
      exact K
    · have K := K.2 h
      refine q_n 1 (pc1 := 18) (ls1 := [some (.ref 67), some (.int x)]) (st1 := [.int x]) (hp1 := (hz F A L)) rfl ?_
      refine q_zeq (p3 := 21) rfl rfl (fun h => ?_) (fun h => ?_)
      · have K := K.1 h
        exact q_r rfl rfl K
      · have K := K.2 h
        refine q_n 1 (pc1 := 22) (ls1 := [some (.ref 67), some (.int x)]) (st1 := [.ref 67]) (hp1 := (hz F A L)) rfl ?_
        refine q_c rfl rfl (a_m_waitTop (d := d + 0) K.1 ?_)
        have K := K.2
        show wp_E _ mm163.2.2.2.2.2.2.2.2 25 [some (.ref 67), some (.int x)] [.int (wV (F 67 15) (A 73))] (hz F A L) _
        refine q_n 1 (pc1 := 26) (ls1 := [some (.ref 67), some (.int x)]) (st1 := [.int 2, .int (wV (F 67 15) (A 73))]) (hp1 := (hz F A L)) rfl ?_
        refine q_eq (p3 := 29) rfl rfl (fun h => ?_) (fun h => ?_)
        · have K := K.1 h
          refine q_n 2 (pc1 := 39) (ls1 := [some (.ref 67), some (.int x)]) (st1 := [.ref 67, .ref 67]) (hp1 := (hz F A L)) rfl ?_
          refine q_c rfl rfl (a_m_waitTop (d := d + 0) K.1 ?_)
          have K := K.2
          show wp_E _ mm163.2.2.2.2.2.2.2.2 42 [some (.ref 67), some (.int x)] [.int (wV (F 67 15) (A 73)), .ref 67] (hz F A L) _
          refine q_n 1 (pc1 := 43) (ls1 := [some (.ref 67), some (.int x)]) (st1 := [.int 0, .int (wV (F 67 15) (A 73)), .ref 67]) (hp1 := (hz F A L)) rfl ?_
          refine q_c rfl rfl (s_m_notes (d := d + 0) ?_)
          refine ⟨K.1, ?_⟩
          have K := K.2
          show wp_E _ mm163.2.2.2.2.2.2.2.2 46 [some (.ref 67), some (.int x)] [] (hz (uF F 67 14 ((F 67 14) + 1)) (uA A 72 ((A 72).set (F 67 14).toInt.toNat ((1048576 * (wV (F 67 15) (A 73))) + (0 : Int32)))) L) _
          refine q_n 5 (pc1 := 53) (ls1 := [some (.ref 67), some (.int x)]) (st1 := [.int ((F 67 15) - 1), .ref 67]) (hp1 := (hz (uF F 67 14 ((F 67 14) + 1)) (uA A 72 ((A 72).set (F 67 14).toInt.toNat ((1048576 * (wV (F 67 15) (A 73))) + (0 : Int32)))) L)) rfl ?_
          refine q_pf (k := 67) (fs := hz_f67 (uF F 67 14 ((F 67 14) + 1))) (p3 := 56) rfl rfl rfl (Nat.le_of_ble_eq_true rfl) rfl (hz_p67_15 _) ?_
          refine q_n 1 (pc1 := 0) (ls1 := [some (.ref 67), some (.int x)]) (st1 := []) (hp1 := (hz (uF (uF F 67 14 ((F 67 14) + 1)) 67 15 ((F 67 15) - 1)) (uA A 72 ((A 72).set (F 67 14).toInt.toNat ((1048576 * (wV (F 67 15) (A 73))) + (0 : Int32)))) L)) rfl ?_
          exact K
        · have K := K.2 h
          refine q_n 1 (pc1 := 30) (ls1 := [some (.ref 67), some (.int x)]) (st1 := [.ref 67]) (hp1 := (hz F A L)) rfl ?_
          refine q_c rfl rfl (a_m_waitTop (d := d + 0) K.1 ?_)
          have K := K.2
          show wp_E _ mm163.2.2.2.2.2.2.2.2 33 [some (.ref 67), some (.int x)] [.int (wV (F 67 15) (A 73))] (hz F A L) _
          refine q_n 1 (pc1 := 34) (ls1 := [some (.ref 67), some (.int x)]) (st1 := [.int 3, .int (wV (F 67 15) (A 73))]) (hp1 := (hz F A L)) rfl ?_
          refine q_ne (p3 := 37) rfl rfl (fun h => ?_) (fun h => ?_)
          · have K := K.1 h
            exact q_r rfl rfl K
          · have K := K.2 h
            refine q_n 2 (pc1 := 39) (ls1 := [some (.ref 67), some (.int x)]) (st1 := [.ref 67, .ref 67]) (hp1 := (hz F A L)) rfl ?_
            refine q_c rfl rfl (a_m_waitTop (d := d + 0) K.1 ?_)
            have K := K.2
            show wp_E _ mm163.2.2.2.2.2.2.2.2 42 [some (.ref 67), some (.int x)] [.int (wV (F 67 15) (A 73)), .ref 67] (hz F A L) _
            refine q_n 1 (pc1 := 43) (ls1 := [some (.ref 67), some (.int x)]) (st1 := [.int 0, .int (wV (F 67 15) (A 73)), .ref 67]) (hp1 := (hz F A L)) rfl ?_
            refine q_c rfl rfl (s_m_notes (d := d + 0) ?_)
            refine ⟨K.1, ?_⟩
            have K := K.2
            show wp_E _ mm163.2.2.2.2.2.2.2.2 46 [some (.ref 67), some (.int x)] [] (hz (uF F 67 14 ((F 67 14) + 1)) (uA A 72 ((A 72).set (F 67 14).toInt.toNat ((1048576 * (wV (F 67 15) (A 73))) + (0 : Int32)))) L) _
            refine q_n 5 (pc1 := 53) (ls1 := [some (.ref 67), some (.int x)]) (st1 := [.int ((F 67 15) - 1), .ref 67]) (hp1 := (hz (uF F 67 14 ((F 67 14) + 1)) (uA A 72 ((A 72).set (F 67 14).toInt.toNat ((1048576 * (wV (F 67 15) (A 73))) + (0 : Int32)))) L)) rfl ?_
            refine q_pf (k := 67) (fs := hz_f67 (uF F 67 14 ((F 67 14) + 1))) (p3 := 56) rfl rfl rfl (Nat.le_of_ble_eq_true rfl) rfl (hz_p67_15 _) ?_
            refine q_n 1 (pc1 := 0) (ls1 := [some (.ref 67), some (.int x)]) (st1 := []) (hp1 := (hz (uF (uF F 67 14 ((F 67 14) + 1)) 67 15 ((F 67 15) - 1)) (uA A 72 ((A 72).set (F 67 14).toInt.toNat ((1048576 * (wV (F 67 15) (A 73))) + (0 : Int32)))) L)) rfl ?_
            exact K
theorem g_fac {d : Nat} {F : Nat → Nat → Int32} {A : Nat → List Int32} {L : Nat → List Int64} {Q : Option Value → sm_H → Prop} (K : ((0 ≤ (F 67 9).toInt ∧ (F 67 10).toInt ≤ ((A 71).length : Int)) ∧ ((¬ (hV (F 67 9) (F 67 10) (A 71)) = 91 → (wp_E (d + 3) mm156.2.2.2.2.2.2.2.2 20 [some (.ref 67), none] [] (hz F A L) Q)) ∧ ((hV (F 67 9) (F 67 10) (A 71)) = 91 → ((¬ (F 67 13) = 6 → ((0 ≤ (F 67 15).toInt ∧ (F 67 15).toInt < ((A 73).length : Int)) ∧ (wp_E (d + 3) mm156.2.2.2.2.2.2.2.2 0 [some (.ref 67), none] [] (hz (uF (uF (uF F 67 13 ((F 67 13) + 1)) 67 15 ((F 67 15) + 1)) 67 9 ((F 67 9) + 1)) (uA A 73 ((A 73).set (F 67 15).toInt.toNat (1048576 * (14 : Int32)))) L) Q))) ∧ ((F 67 13) = 6 → (Q (some (.int 0)) (hz (uF F 67 11 (((-1000) * (5 : Int32)) - (F 67 9))) A L)))))))) : wp_E (d + 3) mm156.2.2.2.2.2.2.2.2 0 [some (.ref 67), none] [] (hz F A L) Q := by
  refine q_n 1 (pc1 := 1) (ls1 := [some (.ref 67), none]) (st1 := [.ref 67]) (hp1 := (hz F A L)) rfl ?_
  refine q_c rfl rfl (a_m_here (d := d + 2) K.1 ?_)
  have K := K.2
  show wp_E _ mm156.2.2.2.2.2.2.2.2 4 [some (.ref 67), none] [.int (hV (F 67 9) (F 67 10) (A 71))] (hz F A L) _
  refine q_n 1 (pc1 := 6) (ls1 := [some (.ref 67), none]) (st1 := [.int 91, .int (hV (F 67 9) (F 67 10) (A 71))]) (hp1 := (hz F A L)) rfl ?_
  refine q_ne (p3 := 9) rfl rfl (fun h => ?_) (fun h => ?_)
  · have K := K.1 h
    exact K
  · have K := K.2 h
    refine q_n 2 (pc1 := 12) (ls1 := [some (.ref 67), none]) (st1 := [.int 14, .ref 67]) (hp1 := (hz F A L)) rfl ?_
    refine q_c rfl rfl (s_m_opens (d := d + 1) ?_)
    refine ⟨fun h => ?_, fun h => ?_⟩
    · have K := K.1 h
      refine ⟨K.1, ?_⟩
      have K := K.2
      show wp_E _ mm156.2.2.2.2.2.2.2.2 15 [some (.ref 67), none] [.int 1] (hz (uF (uF (uF F 67 13 ((F 67 13) + 1)) 67 15 ((F 67 15) + 1)) 67 9 ((F 67 9) + 1)) (uA A 73 ((A 73).set (F 67 15).toInt.toNat (1048576 * (14 : Int32)))) L) _
      refine q_zne (p3 := 18) rfl rfl (fun _ => ?_) (fun h => absurd h (by decide))
      exact K
    · have K := K.2 h
      show wp_E _ mm156.2.2.2.2.2.2.2.2 15 [some (.ref 67), none] [.int 0] (hz (uF F 67 11 (((-1000) * (5 : Int32)) - (F 67 9))) A L) _
      refine q_zne (p3 := 18) rfl rfl (fun h => absurd h (by decide)) (fun _ => ?_)
      refine q_n 1 (pc1 := 19) (ls1 := [some (.ref 67), none]) (st1 := [.int 0]) (hp1 := (hz (uF F 67 11 (((-1000) * (5 : Int32)) - (F 67 9))) A L)) rfl ?_
      exact q_rz rfl (by decide) K
theorem g_fac2 {d : Nat} {F : Nat → Nat → Int32} {A : Nat → List Int32} {L : Nat → List Int64} {Q : Option Value → sm_H → Prop} (K : ((0 ≤ (F 67 9).toInt ∧ (F 67 10).toInt ≤ ((A 71).length : Int)) ∧ (((dV (hV (F 67 9) (F 67 10) (A 71))) = 0 → ((0 ≤ (F 67 9).toInt ∧ (F 67 10).toInt ≤ ((A 71).length : Int)) ∧ ((¬ (fV (hV (F 67 9) (F 67 10) (A 71))) = (-1) → ((0 ≤ (F 67 14).toInt ∧ (F 67 14).toInt < ((A 72).length : Int)) ∧ (Q (some (.int 1)) (hz (uF (uF F 67 14 ((F 67 14) + 1)) 67 9 ((F 67 9) + 1)) (uA A 72 ((A 72).set (F 67 14).toInt.toNat ((1048576 * (1 : Int32)) + (fV (hV (F 67 9) (F 67 10) (A 71)))))) L)))) ∧ ((fV (hV (F 67 9) (F 67 10) (A 71))) = (-1) → (Q (some (.int 0)) (hz (uF F 67 11 (((-1000) * (1 : Int32)) - (F 67 9))) A L)))))) ∧ (¬ (dV (hV (F 67 9) (F 67 10) (A 71))) = 0 → (wp_M (d + 3) 159 [.ref 67] (hz F A L) (fun w hp1 => wp_E (d + 3) mm156.2.2.2.2.2.2.2.2 31 [some (.ref 67), none] (w.toList ++ []) hp1 Q)))))) : wp_E (d + 3) mm156.2.2.2.2.2.2.2.2 20 [some (.ref 67), none] [] (hz F A L) Q := by
  refine q_n 1 (pc1 := 21) (ls1 := [some (.ref 67), none]) (st1 := [.ref 67]) (hp1 := (hz F A L)) rfl ?_
  refine q_c rfl rfl (a_m_isDigit (d := d + 1) K.1 ?_)
  have K := K.2
  show wp_E _ mm156.2.2.2.2.2.2.2.2 24 [some (.ref 67), none] [.int (dV (hV (F 67 9) (F 67 10) (A 71)))] (hz F A L) _
  refine q_zeq (p3 := 27) rfl rfl (fun h => ?_) (fun h => ?_)
  · have K := K.1 h
    refine q_n 1 (pc1 := 48) (ls1 := [some (.ref 67), none]) (st1 := [.ref 67]) (hp1 := (hz F A L)) rfl ?_
    refine q_c rfl rfl (a_m_here (d := d + 2) K.1 ?_)
    have K := K.2
    show wp_E _ mm156.2.2.2.2.2.2.2.2 51 [some (.ref 67), none] [.int (hV (F 67 9) (F 67 10) (A 71))] (hz F A L) _
    refine q_c rfl rfl (a_m_factOf (d := d + 2) ?_)
    show wp_E _ mm156.2.2.2.2.2.2.2.2 54 [some (.ref 67), none] [.int (fV (hV (F 67 9) (F 67 10) (A 71)))] (hz F A L) _
    refine q_n 3 (pc1 := 57) (ls1 := [some (.ref 67), some (.int (fV (hV (F 67 9) (F 67 10) (A 71))))]) (st1 := [.int (-1), .int (fV (hV (F 67 9) (F 67 10) (A 71)))]) (hp1 := (hz F A L)) rfl ?_
    refine q_ne (p3 := 60) rfl rfl (fun h => ?_) (fun h => ?_)
    · have K := K.1 h
      refine q_n 3 (pc1 := 73) (ls1 := [some (.ref 67), some (.int (fV (hV (F 67 9) (F 67 10) (A 71))))]) (st1 := [.int (fV (hV (F 67 9) (F 67 10) (A 71))), .int 1, .ref 67]) (hp1 := (hz F A L)) rfl ?_
      refine q_c rfl rfl (s_m_notes (d := d + 2) ?_)
      refine ⟨K.1, ?_⟩
      have K := K.2
      show wp_E _ mm156.2.2.2.2.2.2.2.2 76 [some (.ref 67), some (.int (fV (hV (F 67 9) (F 67 10) (A 71))))] [] (hz (uF F 67 14 ((F 67 14) + 1)) (uA A 72 ((A 72).set (F 67 14).toInt.toNat ((1048576 * (1 : Int32)) + (fV (hV (F 67 9) (F 67 10) (A 71)))))) L) _
      refine q_n 5 (pc1 := 83) (ls1 := [some (.ref 67), some (.int (fV (hV (F 67 9) (F 67 10) (A 71))))]) (st1 := [.int ((F 67 9) + 1), .ref 67]) (hp1 := (hz (uF F 67 14 ((F 67 14) + 1)) (uA A 72 ((A 72).set (F 67 14).toInt.toNat ((1048576 * (1 : Int32)) + (fV (hV (F 67 9) (F 67 10) (A 71)))))) L)) rfl ?_
      refine q_pf (k := 67) (fs := hz_f67 (uF F 67 14 ((F 67 14) + 1))) (p3 := 86) rfl rfl rfl (Nat.le_of_ble_eq_true rfl) rfl (hz_p67_9 _) ?_
      refine q_n 1 (pc1 := 87) (ls1 := [some (.ref 67), some (.int (fV (hV (F 67 9) (F 67 10) (A 71))))]) (st1 := [.int 1]) (hp1 := (hz (uF (uF F 67 14 ((F 67 14) + 1)) 67 9 ((F 67 9) + 1)) (uA A 72 ((A 72).set (F 67 14).toInt.toNat ((1048576 * (1 : Int32)) + (fV (hV (F 67 9) (F 67 10) (A 71)))))) L)) rfl ?_
      exact q_rz rfl (by decide) K
    · have K := K.2 h
      refine q_n 4 (pc1 := 66) (ls1 := [some (.ref 67), some (.int (fV (hV (F 67 9) (F 67 10) (A 71))))]) (st1 := [.int (F 67 9), .int 1, .ref 67]) (hp1 := (hz F A L)) rfl ?_
      refine q_c rfl rfl (s_m_wrongAt (d := d + 2) ?_)
      show wp_E _ mm156.2.2.2.2.2.2.2.2 69 [some (.ref 67), some (.int (fV (hV (F 67 9) (F 67 10) (A 71))))] [.int 0] (hz (uF F 67 11 (((-1000) * (1 : Int32)) - (F 67 9))) A L) _
      exact q_rz rfl (by decide) K
  · have K := K.2 h
    refine q_n 1 (pc1 := 28) (ls1 := [some (.ref 67), none]) (st1 := [.ref 67]) (hp1 := (hz F A L)) rfl ?_
    exact q_c rfl rfl K
theorem g_fac3 {d : Nat} {F : Nat → Nat → Int32} {A : Nat → List Int32} {L : Nat → List Int64} {Q : Option Value → sm_H → Prop} {r : Int32} (K : ((¬ r = 0 → ((0 ≤ (F 67 14).toInt ∧ (F 67 14).toInt < ((A 72).length : Int)) ∧ (Q (some (.int 1)) (hz (uF F 67 14 ((F 67 14) + 1)) (uA A 72 ((A 72).set (F 67 14).toInt.toNat ((1048576 * (0 : Int32)) + (F 67 12)))) L)))) ∧ (r = 0 → (Q (some (.int 0)) (hz F A L))))) : wp_E (d + 3) mm156.2.2.2.2.2.2.2.2 31 [some (.ref 67), none] [.int r] (hz F A L) Q := by
  refine q_zne (p3 := 34) rfl rfl (fun h => ?_) (fun h => ?_)
  · have K := K.1 h
    refine q_n 4 (pc1 := 42) (ls1 := [some (.ref 67), none]) (st1 := [.int (F 67 12), .int 0, .ref 67]) (hp1 := (hz F A L)) rfl ?_
    refine q_c rfl rfl (s_m_notes (d := d + 2) ?_)
    refine ⟨K.1, ?_⟩
    have K := K.2
    show wp_E _ mm156.2.2.2.2.2.2.2.2 45 [some (.ref 67), none] [] (hz (uF F 67 14 ((F 67 14) + 1)) (uA A 72 ((A 72).set (F 67 14).toInt.toNat ((1048576 * (0 : Int32)) + (F 67 12)))) L) _
    refine q_n 1 (pc1 := 46) (ls1 := [some (.ref 67), none]) (st1 := [.int 1]) (hp1 := (hz (uF F 67 14 ((F 67 14) + 1)) (uA A 72 ((A 72).set (F 67 14).toInt.toNat ((1048576 * (0 : Int32)) + (F 67 12)))) L)) rfl ?_
    exact q_rz rfl (by decide) K
  · have K := K.2 h
    refine q_n 1 (pc1 := 35) (ls1 := [some (.ref 67), none]) (st1 := [.int 0]) (hp1 := (hz F A L)) rfl ?_
    exact q_rz rfl (by decide) K
theorem g_hos {d : Nat} {F : Nat → Nat → Int32} {A : Nat → List Int32} {L : Nat → List Int64} {Q : Option Value → sm_H → Prop} {x y : Int32} (K : (((F 67 15).toInt ≤ y.toInt → (Q (some (.int 0)) (hz F A L))) ∧ (y.toInt < (F 67 15).toInt → ((0 ≤ y.toInt ∧ y.toInt < ((A 73).length : Int)) ∧ ((¬ (((A 73).getD y.toInt.toNat 0) / 1048576) = 14 → (wp_E (d + 0) mm165.2.2.2.2.2.2.2.2 2 [some (.ref 67), some (.int x), some (.int (y + 1))] [] (hz F A L) Q)) ∧ ((((A 73).getD y.toInt.toNat 0) / 1048576) = 14 → (Q (some (.int 1)) (hz F A L)))))))) : wp_E (d + 0) mm165.2.2.2.2.2.2.2.2 2 [some (.ref 67), some (.int x), some (.int y)] [] (hz F A L) Q := by
  refine q_n 3 (pc1 := 7) (ls1 := [some (.ref 67), some (.int x), some (.int y)]) (st1 := [.int (F 67 15), .int y]) (hp1 := (hz F A L)) rfl ?_
  refine q_ge (p3 := 10) rfl rfl (fun h => ?_) (fun h => ?_)
  · have K := K.1 h
    refine q_n 1 (pc1 := 33) (ls1 := [some (.ref 67), some (.int x), some (.int y)]) (st1 := [.int 0]) (hp1 := (hz F A L)) rfl ?_
    exact q_rz rfl (by decide) K
  · have K := K.2 h
    refine q_n 3 (pc1 := 15) (ls1 := [some (.ref 67), some (.int x), some (.int y)]) (st1 := [.int y, .ref 73]) (hp1 := (hz F A L)) rfl ?_
    refine q_al (k := 73) (l := (A 73)) (p1 := 16) rfl rfl rfl K.1 ?_
    have K := K.2
    refine q_n 1 (pc1 := 18) (ls1 := [some (.ref 67), some (.int x), some (.int y)]) (st1 := [.int 1048576, .int ((A 73).getD y.toInt.toNat 0)]) (hp1 := (hz F A L)) rfl ?_
    refine q_dv (p1 := 19) rfl rfl (by decide) ?_
    refine q_n 1 (pc1 := 21) (ls1 := [some (.ref 67), some (.int x), some (.int y)]) (st1 := [.int 14, .int (((A 73).getD y.toInt.toNat 0) / 1048576)]) (hp1 := (hz F A L)) rfl ?_
    refine q_ne (p3 := 24) rfl rfl (fun h => ?_) (fun h => ?_)
    · have K := K.1 h
      refine q_n 2 (pc1 := 2) (ls1 := [some (.ref 67), some (.int x), some (.int (y + 1))]) (st1 := []) (hp1 := (hz F A L)) rfl ?_
      exact K
    · have K := K.2 h
      refine q_n 1 (pc1 := 25) (ls1 := [some (.ref 67), some (.int x), some (.int y)]) (st1 := [.int 1]) (hp1 := (hz F A L)) rfl ?_
      exact q_rz rfl (by decide) K
