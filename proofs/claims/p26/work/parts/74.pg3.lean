/-! conditions, piece by piece -/
theorem g_end {d : Nat} {F : Nat → Nat → Int32} {A : Nat → List Int32} {L : Nat → List Int64} {Q : Option Value → sm_H → Prop} (K : ((0 ≤ (F 67 15).toInt ∧ (F 67 15).toInt ≤ ((A 73).length : Int)) ∧ ((¬ (wV (F 67 15) (A 73)) = 10 → (Q none (hz F A L))) ∧ ((wV (F 67 15) (A 73)) = 10 → ((0 ≤ (F 67 14).toInt ∧ (F 67 14).toInt < ((A 72).length : Int)) ∧ (wp_E (d + 1) mm168.2.2.2.2.2.2.2.2 0 [some (.ref 67)] [] (hz (uF (uF (uF F 67 14 ((F 67 14) + 1)) 67 15 ((F 67 15) - 1)) 67 13 ((F 67 13) - 1)) (uA A 72 ((A 72).set (F 67 14).toInt.toNat ((1048576 * (10 : Int32)) + (0 : Int32)))) L) Q)))))) : wp_E (d + 1) mm168.2.2.2.2.2.2.2.2 0 [some (.ref 67)] [] (hz F A L) Q := by
  refine q_n 1 (pc1 := 1) (ls1 := [some (.ref 67)]) (st1 := [.ref 67]) (hp1 := (hz F A L)) rfl ?_
  refine q_c rfl rfl (a_m_waitTop (d := d + 0) K.1 ?_)
  have K := K.2
  show wp_E _ mm168.2.2.2.2.2.2.2.2 4 [some (.ref 67)] [.int (wV (F 67 15) (A 73))] (hz F A L) _
  refine q_n 1 (pc1 := 6) (ls1 := [some (.ref 67)]) (st1 := [.int 10, .int (wV (F 67 15) (A 73))]) (hp1 := (hz F A L)) rfl ?_
  refine q_ne (p3 := 9) rfl rfl (fun h => ?_) (fun h => ?_)
  · have K := K.1 h
    exact q_r rfl rfl K
  · have K := K.2 h
    refine q_n 3 (pc1 := 13) (ls1 := [some (.ref 67)]) (st1 := [.int 0, .int 10, .ref 67]) (hp1 := (hz F A L)) rfl ?_
    refine q_c rfl rfl (s_m_notes (d := d + 0) ?_)
    refine ⟨K.1, ?_⟩
    have K := K.2
    show wp_E _ mm168.2.2.2.2.2.2.2.2 16 [some (.ref 67)] [] (hz (uF F 67 14 ((F 67 14) + 1)) (uA A 72 ((A 72).set (F 67 14).toInt.toNat ((1048576 * (10 : Int32)) + (0 : Int32)))) L) _
    refine q_n 5 (pc1 := 23) (ls1 := [some (.ref 67)]) (st1 := [.int ((F 67 15) - 1), .ref 67]) (hp1 := (hz (uF F 67 14 ((F 67 14) + 1)) (uA A 72 ((A 72).set (F 67 14).toInt.toNat ((1048576 * (10 : Int32)) + (0 : Int32)))) L)) rfl ?_
    refine q_pf (k := 67) (fs := hz_f67 (uF F 67 14 ((F 67 14) + 1))) (p3 := 26) rfl rfl rfl (Nat.le_of_ble_eq_true rfl) rfl (hz_p67_15 _) ?_
    refine q_n 5 (pc1 := 33) (ls1 := [some (.ref 67)]) (st1 := [.int ((F 67 13) - 1), .ref 67]) (hp1 := (hz (uF (uF F 67 14 ((F 67 14) + 1)) 67 15 ((F 67 15) - 1)) (uA A 72 ((A 72).set (F 67 14).toInt.toNat ((1048576 * (10 : Int32)) + (0 : Int32)))) L)) rfl ?_
    refine q_pf (k := 67) (fs := hz_f67 (uF (uF F 67 14 ((F 67 14) + 1)) 67 15 ((F 67 15) - 1))) (p3 := 36) rfl rfl rfl (Nat.le_of_ble_eq_true rfl) rfl (hz_p67_13 _) ?_
    refine q_n 1 (pc1 := 0) (ls1 := [some (.ref 67)]) (st1 := []) (hp1 := (hz (uF (uF (uF F 67 14 ((F 67 14) + 1)) 67 15 ((F 67 15) - 1)) 67 13 ((F 67 13) - 1)) (uA A 72 ((A 72).set (F 67 14).toInt.toNat ((1048576 * (10 : Int32)) + (0 : Int32)))) L)) rfl ?_
    exact K
theorem g_lan {d : Nat} {F : Nat → Nat → Int32} {A : Nat → List Int32} {L : Nat → List Int64} {Q : Option Value → sm_H → Prop} {x : Int32} {v : Option Value} (K : ((0 ≤ (F 67 15).toInt ∧ (F 67 15).toInt ≤ ((A 73).length : Int)) ∧ (((wV (F 67 15) (A 73)) = 11 → ((0 ≤ ((F 67 15) - 1).toInt ∧ ((F 67 15) - 1).toInt < ((A 73).length : Int)) ∧ ((0 ≤ (((A 73).getD ((F 67 15) - 1).toInt.toNat 0) - ((A 73).getD ((F 67 15) - 1).toInt.toNat 0) / 1048576 * 1048576).toInt ∧ (((A 73).getD ((F 67 15) - 1).toInt.toNat 0) - ((A 73).getD ((F 67 15) - 1).toInt.toNat 0) / 1048576 * 1048576).toInt < ((A 72).length : Int)) ∧ ((0 ≤ (((A 73).getD ((F 67 15) - 1).toInt.toNat 0) - ((A 73).getD ((F 67 15) - 1).toInt.toNat 0) / 1048576 * 1048576).toInt ∧ (((A 73).getD ((F 67 15) - 1).toInt.toNat 0) - ((A 73).getD ((F 67 15) - 1).toInt.toNat 0) / 1048576 * 1048576).toInt < ((A 72).length : Int)) ∧ (wp_E (d + 1) mm169.2.2.2.2.2.2.2.2 0 [some (.ref 67), some (.int x), some (.int (((A 73).getD ((F 67 15) - 1).toInt.toNat 0) - ((A 73).getD ((F 67 15) - 1).toInt.toNat 0) / 1048576 * 1048576))] [] (hz (uF F 67 15 ((F 67 15) - 1)) (uA A 72 ((A 72).set (((A 73).getD ((F 67 15) - 1).toInt.toNat 0) - ((A 73).getD ((F 67 15) - 1).toInt.toNat 0) / 1048576 * 1048576).toInt.toNat ((1048576 * (((A 72).getD (((A 73).getD ((F 67 15) - 1).toInt.toNat 0) - ((A 73).getD ((F 67 15) - 1).toInt.toNat 0) / 1048576 * 1048576).toInt.toNat 0) / 1048576)) + (F 67 14)))) L) Q))))) ∧ (¬ (wV (F 67 15) (A 73)) = 11 → ((x = 0 → (Q none (hz F A L))) ∧ (¬ x = 0 → ((0 ≤ (F 67 15).toInt ∧ (F 67 15).toInt ≤ ((A 73).length : Int)) ∧ ((¬ (wV (F 67 15) (A 73)) = 12 → (Q none (hz F A L))) ∧ ((wV (F 67 15) (A 73)) = 12 → ((0 ≤ ((F 67 15) - 1).toInt ∧ ((F 67 15) - 1).toInt < ((A 73).length : Int)) ∧ ((0 ≤ (((A 73).getD ((F 67 15) - 1).toInt.toNat 0) - ((A 73).getD ((F 67 15) - 1).toInt.toNat 0) / 1048576 * 1048576).toInt ∧ (((A 73).getD ((F 67 15) - 1).toInt.toNat 0) - ((A 73).getD ((F 67 15) - 1).toInt.toNat 0) / 1048576 * 1048576).toInt < ((A 72).length : Int)) ∧ ((0 ≤ (((A 73).getD ((F 67 15) - 1).toInt.toNat 0) - ((A 73).getD ((F 67 15) - 1).toInt.toNat 0) / 1048576 * 1048576).toInt ∧ (((A 73).getD ((F 67 15) - 1).toInt.toNat 0) - ((A 73).getD ((F 67 15) - 1).toInt.toNat 0) / 1048576 * 1048576).toInt < ((A 72).length : Int)) ∧ (wp_E (d + 1) mm169.2.2.2.2.2.2.2.2 0 [some (.ref 67), some (.int x), some (.int (((A 73).getD ((F 67 15) - 1).toInt.toNat 0) - ((A 73).getD ((F 67 15) - 1).toInt.toNat 0) / 1048576 * 1048576))] [] (hz (uF F 67 15 ((F 67 15) - 1)) (uA A 72 ((A 72).set (((A 73).getD ((F 67 15) - 1).toInt.toNat 0) - ((A 73).getD ((F 67 15) - 1).toInt.toNat 0) / 1048576 * 1048576).toInt.toNat ((1048576 * (((A 72).getD (((A 73).getD ((F 67 15) - 1).toInt.toNat 0) - ((A 73).getD ((F 67 15) - 1).toInt.toNat 0) / 1048576 * 1048576).toInt.toNat 0) / 1048576)) + (F 67 14)))) L) Q))))))))))))) : wp_E (d + 1) mm169.2.2.2.2.2.2.2.2 0 [some (.ref 67), some (.int x), v] [] (hz F A L) Q := by
  refine q_n 1 (pc1 := 1) (ls1 := [some (.ref 67), some (.int x), v]) (st1 := [.ref 67]) (hp1 := (hz F A L)) rfl ?_
  refine q_c rfl rfl (a_m_waitTop (d := d + 0) K.1 ?_)
  have K := K.2
  show wp_E _ mm169.2.2.2.2.2.2.2.2 4 [some (.ref 67), some (.int x), v] [.int (wV (F 67 15) (A 73))] (hz F A L) _
  refine q_n 1 (pc1 := 6) (ls1 := [some (.ref 67), some (.int x), v]) (st1 := [.int 11, .int (wV (F 67 15) (A 73))]) (hp1 := (hz F A L)) rfl ?_
  refine q_eq (p3 := 9) rfl rfl (fun h => ?_) (fun h => ?_)
  · have K := K.1 h
    refine q_n 6 (pc1 := 32) (ls1 := [some (.ref 67), some (.int x), v]) (st1 := [.int ((F 67 15) - 1), .ref 73]) (hp1 := (hz F A L)) rfl ?_
    refine q_al (k := 73) (l := (A 73)) (p1 := 33) rfl rfl rfl K.1 ?_
    have K := K.2
    refine q_n 1 (pc1 := 35) (ls1 := [some (.ref 67), some (.int x), v]) (st1 := [.int 1048576, .int ((A 73).getD ((F 67 15) - 1).toInt.toNat 0)]) (hp1 := (hz F A L)) rfl ?_
    refine q_rm (p1 := 36) rfl rfl (by decide) ?_
    refine q_n 8 (pc1 := 49) (ls1 := [some (.ref 67), some (.int x), some (.int (((A 73).getD ((F 67 15) - 1).toInt.toNat 0) - ((A 73).getD ((F 67 15) - 1).toInt.toNat 0) / 1048576 * 1048576))]) (st1 := [.int (((A 73).getD ((F 67 15) - 1).toInt.toNat 0) - ((A 73).getD ((F 67 15) - 1).toInt.toNat 0) / 1048576 * 1048576), .ref 72, .int 1048576, .int (((A 73).getD ((F 67 15) - 1).toInt.toNat 0) - ((A 73).getD ((F 67 15) - 1).toInt.toNat 0) / 1048576 * 1048576), .ref 72]) (hp1 := (hz F A L)) rfl ?_
    refine q_al (k := 72) (l := (A 72)) (p1 := 50) rfl rfl rfl K.1 ?_
    have K := K.2
    refine q_n 1 (pc1 := 52) (ls1 := [some (.ref 67), some (.int x), some (.int (((A 73).getD ((F 67 15) - 1).toInt.toNat 0) - ((A 73).getD ((F 67 15) - 1).toInt.toNat 0) / 1048576 * 1048576))]) (st1 := [.int 1048576, .int ((A 72).getD (((A 73).getD ((F 67 15) - 1).toInt.toNat 0) - ((A 73).getD ((F 67 15) - 1).toInt.toNat 0) / 1048576 * 1048576).toInt.toNat 0), .int 1048576, .int (((A 73).getD ((F 67 15) - 1).toInt.toNat 0) - ((A 73).getD ((F 67 15) - 1).toInt.toNat 0) / 1048576 * 1048576), .ref 72]) (hp1 := (hz F A L)) rfl ?_
    refine q_dv (p1 := 53) rfl rfl (by decide) ?_
    refine q_n 4 (pc1 := 59) (ls1 := [some (.ref 67), some (.int x), some (.int (((A 73).getD ((F 67 15) - 1).toInt.toNat 0) - ((A 73).getD ((F 67 15) - 1).toInt.toNat 0) / 1048576 * 1048576))]) (st1 := [.int ((1048576 * (((A 72).getD (((A 73).getD ((F 67 15) - 1).toInt.toNat 0) - ((A 73).getD ((F 67 15) - 1).toInt.toNat 0) / 1048576 * 1048576).toInt.toNat 0) / 1048576)) + (F 67 14)), .int (((A 73).getD ((F 67 15) - 1).toInt.toNat 0) - ((A 73).getD ((F 67 15) - 1).toInt.toNat 0) / 1048576 * 1048576), .ref 72]) (hp1 := (hz F A L)) rfl ?_
    refine q_as (k := 72) (l := (A 72)) (p1 := 60) rfl rfl rfl K.1 (hz_s72 _) ?_
    have K := K.2
    refine q_n 5 (pc1 := 67) (ls1 := [some (.ref 67), some (.int x), some (.int (((A 73).getD ((F 67 15) - 1).toInt.toNat 0) - ((A 73).getD ((F 67 15) - 1).toInt.toNat 0) / 1048576 * 1048576))]) (st1 := [.int ((F 67 15) - 1), .ref 67]) (hp1 := (hz F (uA A 72 ((A 72).set (((A 73).getD ((F 67 15) - 1).toInt.toNat 0) - ((A 73).getD ((F 67 15) - 1).toInt.toNat 0) / 1048576 * 1048576).toInt.toNat ((1048576 * (((A 72).getD (((A 73).getD ((F 67 15) - 1).toInt.toNat 0) - ((A 73).getD ((F 67 15) - 1).toInt.toNat 0) / 1048576 * 1048576).toInt.toNat 0) / 1048576)) + (F 67 14)))) L)) rfl ?_
    refine q_pf (k := 67) (fs := hz_f67 F) (p3 := 70) rfl rfl rfl (Nat.le_of_ble_eq_true rfl) rfl (hz_p67_15 _) ?_
    refine q_n 1 (pc1 := 0) (ls1 := [some (.ref 67), some (.int x), some (.int (((A 73).getD ((F 67 15) - 1).toInt.toNat 0) - ((A 73).getD ((F 67 15) - 1).toInt.toNat 0) / 1048576 * 1048576))]) (st1 := []) (hp1 := (hz (uF F 67 15 ((F 67 15) - 1)) (uA A 72 ((A 72).set (((A 73).getD ((F 67 15) - 1).toInt.toNat 0) - ((A 73).getD ((F 67 15) - 1).toInt.toNat 0) / 1048576 * 1048576).toInt.toNat ((1048576 * (((A 72).getD (((A 73).getD ((F 67 15) - 1).toInt.toNat 0) - ((A 73).getD ((F 67 15) - 1).toInt.toNat 0) / 1048576 * 1048576).toInt.toNat 0) / 1048576)) + (F 67 14)))) L)) rfl ?_
    exact K
  · have K := K.2 h
    refine q_n 1 (pc1 := 10) (ls1 := [some (.ref 67), some (.int x), v]) (st1 := [.int x]) (hp1 := (hz F A L)) rfl ?_
    refine q_zeq (p3 := 13) rfl rfl (fun h => ?_) (fun h => ?_)
    · have K := K.1 h
      exact q_r rfl rfl K
    · have K := K.2 h
      refine q_n 1 (pc1 := 14) (ls1 := [some (.ref 67), some (.int x), v]) (st1 := [.ref 67]) (hp1 := (hz F A L)) rfl ?_
      refine q_c rfl rfl (a_m_waitTop (d := d + 0) K.1 ?_)
      have K := K.2
      show wp_E _ mm169.2.2.2.2.2.2.2.2 17 [some (.ref 67), some (.int x), v] [.int (wV (F 67 15) (A 73))] (hz F A L) _
      refine q_n 1 (pc1 := 19) (ls1 := [some (.ref 67), some (.int x), v]) (st1 := [.int 12, .int (wV (F 67 15) (A 73))]) (hp1 := (hz F A L)) rfl ?_
      refine q_ne (p3 := 22) rfl rfl (fun h => ?_) (fun h => ?_)
      · have K := K.1 h
        exact q_r rfl rfl K
      · have K := K.2 h
        refine q_n 6 (pc1 := 32) (ls1 := [some (.ref 67), some (.int x), v]) (st1 := [.int ((F 67 15) - 1), .ref 73]) (hp1 := (hz F A L)) rfl ?_
        refine q_al (k := 73) (l := (A 73)) (p1 := 33) rfl rfl rfl K.1 ?_
        have K := K.2
        refine q_n 1 (pc1 := 35) (ls1 := [some (.ref 67), some (.int x), v]) (st1 := [.int 1048576, .int ((A 73).getD ((F 67 15) - 1).toInt.toNat 0)]) (hp1 := (hz F A L)) rfl ?_
        refine q_rm (p1 := 36) rfl rfl (by decide) ?_
        refine q_n 8 (pc1 := 49) (ls1 := [some (.ref 67), some (.int x), some (.int (((A 73).getD ((F 67 15) - 1).toInt.toNat 0) - ((A 73).getD ((F 67 15) - 1).toInt.toNat 0) / 1048576 * 1048576))]) (st1 := [.int (((A 73).getD ((F 67 15) - 1).toInt.toNat 0) - ((A 73).getD ((F 67 15) - 1).toInt.toNat 0) / 1048576 * 1048576), .ref 72, .int 1048576, .int (((A 73).getD ((F 67 15) - 1).toInt.toNat 0) - ((A 73).getD ((F 67 15) - 1).toInt.toNat 0) / 1048576 * 1048576), .ref 72]) (hp1 := (hz F A L)) rfl ?_
        refine q_al (k := 72) (l := (A 72)) (p1 := 50) rfl rfl rfl K.1 ?_
        have K := K.2
        refine q_n 1 (pc1 := 52) (ls1 := [some (.ref 67), some (.int x), some (.int (((A 73).getD ((F 67 15) - 1).toInt.toNat 0) - ((A 73).getD ((F 67 15) - 1).toInt.toNat 0) / 1048576 * 1048576))]) (st1 := [.int 1048576, .int ((A 72).getD (((A 73).getD ((F 67 15) - 1).toInt.toNat 0) - ((A 73).getD ((F 67 15) - 1).toInt.toNat 0) / 1048576 * 1048576).toInt.toNat 0), .int 1048576, .int (((A 73).getD ((F 67 15) - 1).toInt.toNat 0) - ((A 73).getD ((F 67 15) - 1).toInt.toNat 0) / 1048576 * 1048576), .ref 72]) (hp1 := (hz F A L)) rfl ?_
        refine q_dv (p1 := 53) rfl rfl (by decide) ?_
        refine q_n 4 (pc1 := 59) (ls1 := [some (.ref 67), some (.int x), some (.int (((A 73).getD ((F 67 15) - 1).toInt.toNat 0) - ((A 73).getD ((F 67 15) - 1).toInt.toNat 0) / 1048576 * 1048576))]) (st1 := [.int ((1048576 * (((A 72).getD (((A 73).getD ((F 67 15) - 1).toInt.toNat 0) - ((A 73).getD ((F 67 15) - 1).toInt.toNat 0) / 1048576 * 1048576).toInt.toNat 0) / 1048576)) + (F 67 14)), .int (((A 73).getD ((F 67 15) - 1).toInt.toNat 0) - ((A 73).getD ((F 67 15) - 1).toInt.toNat 0) / 1048576 * 1048576), .ref 72]) (hp1 := (hz F A L)) rfl ?_
        refine q_as (k := 72) (l := (A 72)) (p1 := 60) rfl rfl rfl K.1 (hz_s72 _) ?_
        have K := K.2
        refine q_n 5 (pc1 := 67) (ls1 := [some (.ref 67), some (.int x), some (.int (((A 73).getD ((F 67 15) - 1).toInt.toNat 0) - ((A 73).getD ((F 67 15) - 1).toInt.toNat 0) / 1048576 * 1048576))]) (st1 := [.int ((F 67 15) - 1), .ref 67]) (hp1 := (hz F (uA A 72 ((A 72).set (((A 73).getD ((F 67 15) - 1).toInt.toNat 0) - ((A 73).getD ((F 67 15) - 1).toInt.toNat 0) / 1048576 * 1048576).toInt.toNat ((1048576 * (((A 72).getD (((A 73).getD ((F 67 15) - 1).toInt.toNat 0) - ((A 73).getD ((F 67 15) - 1).toInt.toNat 0) / 1048576 * 1048576).toInt.toNat 0) / 1048576)) + (F 67 14)))) L)) rfl ?_
        refine q_pf (k := 67) (fs := hz_f67 F) (p3 := 70) rfl rfl rfl (Nat.le_of_ble_eq_true rfl) rfl (hz_p67_15 _) ?_
        refine q_n 1 (pc1 := 0) (ls1 := [some (.ref 67), some (.int x), some (.int (((A 73).getD ((F 67 15) - 1).toInt.toNat 0) - ((A 73).getD ((F 67 15) - 1).toInt.toNat 0) / 1048576 * 1048576))]) (st1 := []) (hp1 := (hz (uF F 67 15 ((F 67 15) - 1)) (uA A 72 ((A 72).set (((A 73).getD ((F 67 15) - 1).toInt.toNat 0) - ((A 73).getD ((F 67 15) - 1).toInt.toNat 0) / 1048576 * 1048576).toInt.toNat ((1048576 * (((A 72).getD (((A 73).getD ((F 67 15) - 1).toInt.toNat 0) - ((A 73).getD ((F 67 15) - 1).toInt.toNat 0) / 1048576 * 1048576).toInt.toNat 0) / 1048576)) + (F 67 14)))) L)) rfl ?_
        exact K
theorem g_cmp0 {d : Nat} {F : Nat → Nat → Int32} {A : Nat → List Int32} {L : Nat → List Int64} {Q : Option Value → sm_H → Prop} (K : (wp_M (d + 5) 155 [.ref 67] (hz F A L) (fun w hp1 => wp_E (d + 5) mm167.2.2.2.2.2.2.2.2 4 [some (.ref 67), none] (w.toList ++ []) hp1 Q))) : wp_E (d + 5) mm167.2.2.2.2.2.2.2.2 0 [some (.ref 67), none] [] (hz F A L) Q := by
  refine q_n 1 (pc1 := 1) (ls1 := [some (.ref 67), none]) (st1 := [.ref 67]) (hp1 := (hz F A L)) rfl ?_
  exact q_c rfl rfl K
theorem g_cmp1 {d : Nat} {F : Nat → Nat → Int32} {A : Nat → List Int32} {L : Nat → List Int64} {Q : Option Value → sm_H → Prop} {r : Int32} (K : ((¬ r = 0 → ((0 ≤ (F 67 9).toInt ∧ (F 67 10).toInt ≤ ((A 71).length : Int)) ∧ ((¬ (hV (F 67 9) (F 67 10) (A 71)) = 60 → ((0 ≤ (F 67 9).toInt ∧ (F 67 10).toInt ≤ ((A 71).length : Int)) ∧ ((¬ (hV (F 67 9) (F 67 10) (A 71)) = 62 → ((0 ≤ (F 67 9).toInt ∧ (F 67 10).toInt ≤ ((A 71).length : Int)) ∧ ((¬ (hV (F 67 9) (F 67 10) (A 71)) = 61 → (Q (some (.int 0)) (hz (uF F 67 11 (((-1000) * (1 : Int32)) - (F 67 9))) A L))) ∧ ((hV (F 67 9) (F 67 10) (A 71)) = 61 → (wp_M (d + 5) 155 [.ref 67] (hz (uF F 67 9 ((F 67 9) + 1)) A L) (fun w hp1 => wp_E (d + 5) mm167.2.2.2.2.2.2.2.2 82 [some (.ref 67), some (.int 9)] (w.toList ++ []) hp1 Q)))))) ∧ ((hV (F 67 9) (F 67 10) (A 71)) = 62 → (wp_M (d + 5) 155 [.ref 67] (hz (uF F 67 9 ((F 67 9) + 1)) A L) (fun w hp1 => wp_E (d + 5) mm167.2.2.2.2.2.2.2.2 82 [some (.ref 67), some (.int 8)] (w.toList ++ []) hp1 Q)))))) ∧ ((hV (F 67 9) (F 67 10) (A 71)) = 60 → (wp_M (d + 5) 155 [.ref 67] (hz (uF F 67 9 ((F 67 9) + 1)) A L) (fun w hp1 => wp_E (d + 5) mm167.2.2.2.2.2.2.2.2 82 [some (.ref 67), some (.int 7)] (w.toList ++ []) hp1 Q)))))) ∧ (r = 0 → (Q (some (.int 0)) (hz F A L))))) : wp_E (d + 5) mm167.2.2.2.2.2.2.2.2 4 [some (.ref 67), none] [.int r] (hz F A L) Q := by
  refine q_zne (p3 := 7) rfl rfl (fun h => ?_) (fun h => ?_)
  · have K := K.1 h
    refine q_n 1 (pc1 := 10) (ls1 := [some (.ref 67), none]) (st1 := [.ref 67]) (hp1 := (hz F A L)) rfl ?_
    refine q_c rfl rfl (a_m_here (d := d + 4) K.1 ?_)
    have K := K.2
    show wp_E _ mm167.2.2.2.2.2.2.2.2 13 [some (.ref 67), none] [.int (hV (F 67 9) (F 67 10) (A 71))] (hz F A L) _
    refine q_n 1 (pc1 := 15) (ls1 := [some (.ref 67), none]) (st1 := [.int 60, .int (hV (F 67 9) (F 67 10) (A 71))]) (hp1 := (hz F A L)) rfl ?_
    refine q_ne (p3 := 18) rfl rfl (fun h => ?_) (fun h => ?_)
    · have K := K.1 h
      refine q_n 1 (pc1 := 24) (ls1 := [some (.ref 67), none]) (st1 := [.ref 67]) (hp1 := (hz F A L)) rfl ?_
      refine q_c rfl rfl (a_m_here (d := d + 4) K.1 ?_)
      have K := K.2
      show wp_E _ mm167.2.2.2.2.2.2.2.2 27 [some (.ref 67), none] [.int (hV (F 67 9) (F 67 10) (A 71))] (hz F A L) _
      refine q_n 1 (pc1 := 29) (ls1 := [some (.ref 67), none]) (st1 := [.int 62, .int (hV (F 67 9) (F 67 10) (A 71))]) (hp1 := (hz F A L)) rfl ?_
      refine q_ne (p3 := 32) rfl rfl (fun h => ?_) (fun h => ?_)
      · have K := K.1 h
        refine q_n 1 (pc1 := 38) (ls1 := [some (.ref 67), none]) (st1 := [.ref 67]) (hp1 := (hz F A L)) rfl ?_
        refine q_c rfl rfl (a_m_here (d := d + 4) K.1 ?_)
        have K := K.2
        show wp_E _ mm167.2.2.2.2.2.2.2.2 41 [some (.ref 67), none] [.int (hV (F 67 9) (F 67 10) (A 71))] (hz F A L) _
        refine q_n 1 (pc1 := 43) (ls1 := [some (.ref 67), none]) (st1 := [.int 61, .int (hV (F 67 9) (F 67 10) (A 71))]) (hp1 := (hz F A L)) rfl ?_
        refine q_ne (p3 := 46) rfl rfl (fun h => ?_) (fun h => ?_)
        · have K := K.1 h
          refine q_n 4 (pc1 := 55) (ls1 := [some (.ref 67), some (.int (-1))]) (st1 := [.int (-1), .int (-1)]) (hp1 := (hz F A L)) rfl ?_
          refine q_ne (p3 := 58) rfl rfl (fun h => absurd h (by decide)) (fun _ => ?_)
          refine q_n 4 (pc1 := 64) (ls1 := [some (.ref 67), some (.int (-1))]) (st1 := [.int (F 67 9), .int 1, .ref 67]) (hp1 := (hz F A L)) rfl ?_
          refine q_c rfl rfl (s_m_wrongAt (d := d + 4) ?_)
          show wp_E _ mm167.2.2.2.2.2.2.2.2 67 [some (.ref 67), some (.int (-1))] [.int 0] (hz (uF F 67 11 (((-1000) * (1 : Int32)) - (F 67 9))) A L) _
          exact q_rz rfl (by decide) K
        · have K := K.2 h
          refine q_n 5 (pc1 := 55) (ls1 := [some (.ref 67), some (.int 9)]) (st1 := [.int (-1), .int 9]) (hp1 := (hz F A L)) rfl ?_
          refine q_ne (p3 := 58) rfl rfl (fun _ => ?_) (fun h => absurd h (by decide))
          refine q_n 5 (pc1 := 75) (ls1 := [some (.ref 67), some (.int 9)]) (st1 := [.int ((F 67 9) + 1), .ref 67]) (hp1 := (hz F A L)) rfl ?_
          refine q_pf (k := 67) (fs := hz_f67 F) (p3 := 78) rfl rfl rfl (Nat.le_of_ble_eq_true rfl) rfl (hz_p67_9 _) ?_
          refine q_n 1 (pc1 := 79) (ls1 := [some (.ref 67), some (.int 9)]) (st1 := [.ref 67]) (hp1 := (hz (uF F 67 9 ((F 67 9) + 1)) A L)) rfl ?_
          exact q_c rfl rfl K
      · have K := K.2 h
        refine q_n 5 (pc1 := 55) (ls1 := [some (.ref 67), some (.int 8)]) (st1 := [.int (-1), .int 8]) (hp1 := (hz F A L)) rfl ?_
        refine q_ne (p3 := 58) rfl rfl (fun _ => ?_) (fun h => absurd h (by decide))
        refine q_n 5 (pc1 := 75) (ls1 := [some (.ref 67), some (.int 8)]) (st1 := [.int ((F 67 9) + 1), .ref 67]) (hp1 := (hz F A L)) rfl ?_
        refine q_pf (k := 67) (fs := hz_f67 F) (p3 := 78) rfl rfl rfl (Nat.le_of_ble_eq_true rfl) rfl (hz_p67_9 _) ?_
        refine q_n 1 (pc1 := 79) (ls1 := [some (.ref 67), some (.int 8)]) (st1 := [.ref 67]) (hp1 := (hz (uF F 67 9 ((F 67 9) + 1)) A L)) rfl ?_
        exact q_c rfl rfl K
    · have K := K.2 h
      refine q_n 5 (pc1 := 55) (ls1 := [some (.ref 67), some (.int 7)]) (st1 := [.int (-1), .int 7]) (hp1 := (hz F A L)) rfl ?_
      refine q_ne (p3 := 58) rfl rfl (fun _ => ?_) (fun h => absurd h (by decide))
      refine q_n 5 (pc1 := 75) (ls1 := [some (.ref 67), some (.int 7)]) (st1 := [.int ((F 67 9) + 1), .ref 67]) (hp1 := (hz F A L)) rfl ?_
      refine q_pf (k := 67) (fs := hz_f67 F) (p3 := 78) rfl rfl rfl (Nat.le_of_ble_eq_true rfl) rfl (hz_p67_9 _) ?_
      refine q_n 1 (pc1 := 79) (ls1 := [some (.ref 67), some (.int 7)]) (st1 := [.ref 67]) (hp1 := (hz (uF F 67 9 ((F 67 9) + 1)) A L)) rfl ?_
      exact q_c rfl rfl K
  · have K := K.2 h
    refine q_n 1 (pc1 := 8) (ls1 := [some (.ref 67), none]) (st1 := [.int 0]) (hp1 := (hz F A L)) rfl ?_
    exact q_rz rfl (by decide) K
theorem g_cmp2 {d : Nat} {F : Nat → Nat → Int32} {A : Nat → List Int32} {L : Nat → List Int64} {Q : Option Value → sm_H → Prop} {x r : Int32} (K : ((¬ r = 0 → ((0 ≤ (F 67 14).toInt ∧ (F 67 14).toInt < ((A 72).length : Int)) ∧ (wp_M (d + 5) 168 [.ref 67] (hz (uF F 67 14 ((F 67 14) + 1)) (uA A 72 ((A 72).set (F 67 14).toInt.toNat ((1048576 * x) + (0 : Int32)))) L) (fun w hp1 => wp_E (d + 5) mm167.2.2.2.2.2.2.2.2 97 [some (.ref 67), some (.int x)] (w.toList ++ []) hp1 Q)))) ∧ (r = 0 → (Q (some (.int 0)) (hz F A L))))) : wp_E (d + 5) mm167.2.2.2.2.2.2.2.2 82 [some (.ref 67), some (.int x)] [.int r] (hz F A L) Q := by
  refine q_zne (p3 := 85) rfl rfl (fun h => ?_) (fun h => ?_)
  · have K := K.1 h
    refine q_n 3 (pc1 := 90) (ls1 := [some (.ref 67), some (.int x)]) (st1 := [.int 0, .int x, .ref 67]) (hp1 := (hz F A L)) rfl ?_
    refine q_c rfl rfl (s_m_notes (d := d + 4) ?_)
    refine ⟨K.1, ?_⟩
    have K := K.2
    show wp_E _ mm167.2.2.2.2.2.2.2.2 93 [some (.ref 67), some (.int x)] [] (hz (uF F 67 14 ((F 67 14) + 1)) (uA A 72 ((A 72).set (F 67 14).toInt.toNat ((1048576 * x) + (0 : Int32)))) L) _
    refine q_n 1 (pc1 := 94) (ls1 := [some (.ref 67), some (.int x)]) (st1 := [.ref 67]) (hp1 := (hz (uF F 67 14 ((F 67 14) + 1)) (uA A 72 ((A 72).set (F 67 14).toInt.toNat ((1048576 * x) + (0 : Int32)))) L)) rfl ?_
    exact q_c rfl rfl K
  · have K := K.2 h
    refine q_n 1 (pc1 := 86) (ls1 := [some (.ref 67), some (.int x)]) (st1 := [.int 0]) (hp1 := (hz F A L)) rfl ?_
    exact q_rz rfl (by decide) K
theorem g_cmp3 {d : Nat} {F : Nat → Nat → Int32} {A : Nat → List Int32} {L : Nat → List Int64} {Q : Option Value → sm_H → Prop} {x : Int32} (K : (Q (some (.int 1)) (hz F A L))) : wp_E (d + 5) mm167.2.2.2.2.2.2.2.2 97 [some (.ref 67), some (.int x)] [] (hz F A L) Q := by
  refine q_n 1 (pc1 := 98) (ls1 := [some (.ref 67), some (.int x)]) (st1 := [.int 1]) (hp1 := (hz F A L)) rfl ?_
  exact q_rz rfl (by decide) K
theorem g_con0 {d : Nat} {F : Nat → Nat → Int32} {A : Nat → List Int32} {L : Nat → List Int64} {Q : Option Value → sm_H → Prop} (K : ((0 ≤ (F 67 9).toInt ∧ (F 67 10).toInt ≤ ((A 71).length : Int)) ∧ (((hV (F 67 9) (F 67 10) (A 71)) = 40 → (wp_M (d + 6) 157 [.ref 67, .int 13] (hz (uF (uF F 67 13 0) 67 15 0) A L) (fun w hp1 => wp_E (d + 6) mm166.2.2.2.2.2.2.2.2 35 [some (.ref 67)] (w.toList ++ []) hp1 Q))) ∧ (¬ (hV (F 67 9) (F 67 10) (A 71)) = 40 → (Q (some (.int 0)) (hz (uF F 67 11 (((-1000) * (1 : Int32)) - (F 67 9))) A L)))))) : wp_E (d + 6) mm166.2.2.2.2.2.2.2.2 0 [some (.ref 67)] [] (hz F A L) Q := by
  refine q_n 1 (pc1 := 1) (ls1 := [some (.ref 67)]) (st1 := [.ref 67]) (hp1 := (hz F A L)) rfl ?_
  refine q_c rfl rfl (a_m_here (d := d + 5) K.1 ?_)
  have K := K.2
  show wp_E _ mm166.2.2.2.2.2.2.2.2 4 [some (.ref 67)] [.int (hV (F 67 9) (F 67 10) (A 71))] (hz F A L) _
  refine q_n 1 (pc1 := 6) (ls1 := [some (.ref 67)]) (st1 := [.int 40, .int (hV (F 67 9) (F 67 10) (A 71))]) (hp1 := (hz F A L)) rfl ?_
  refine q_eq (p3 := 9) rfl rfl (fun h => ?_) (fun h => ?_)
  · have K := K.1 h
    refine q_n 2 (pc1 := 21) (ls1 := [some (.ref 67)]) (st1 := [.int 0, .ref 67]) (hp1 := (hz F A L)) rfl ?_
    refine q_pf (k := 67) (fs := hz_f67 F) (p3 := 24) rfl rfl rfl (Nat.le_of_ble_eq_true rfl) rfl (hz_p67_13 _) ?_
    refine q_n 2 (pc1 := 26) (ls1 := [some (.ref 67)]) (st1 := [.int 0, .ref 67]) (hp1 := (hz (uF F 67 13 0) A L)) rfl ?_
    refine q_pf (k := 67) (fs := hz_f67 (uF F 67 13 0)) (p3 := 29) rfl rfl rfl (Nat.le_of_ble_eq_true rfl) rfl (hz_p67_15 _) ?_
    refine q_n 2 (pc1 := 32) (ls1 := [some (.ref 67)]) (st1 := [.int 13, .ref 67]) (hp1 := (hz (uF (uF F 67 13 0) 67 15 0) A L)) rfl ?_
    exact q_c rfl rfl K
  · have K := K.2 h
    refine q_n 4 (pc1 := 15) (ls1 := [some (.ref 67)]) (st1 := [.int (F 67 9), .int 1, .ref 67]) (hp1 := (hz F A L)) rfl ?_
    refine q_c rfl rfl (s_m_wrongAt (d := d + 5) ?_)
    show wp_E _ mm166.2.2.2.2.2.2.2.2 18 [some (.ref 67)] [.int 0] (hz (uF F 67 11 (((-1000) * (1 : Int32)) - (F 67 9))) A L) _
    exact q_rz rfl (by decide) K
theorem g_con1 {d : Nat} {F : Nat → Nat → Int32} {A : Nat → List Int32} {L : Nat → List Int64} {Q : Option Value → sm_H → Prop} {r : Int32} (K : ((¬ r = 0 → (wp_E (d + 6) mm166.2.2.2.2.2.2.2.2 40 [some (.ref 67)] [] (hz F A L) Q)) ∧ (r = 0 → (Q (some (.int 0)) (hz F A L))))) : wp_E (d + 6) mm166.2.2.2.2.2.2.2.2 35 [some (.ref 67)] [.int r] (hz F A L) Q := by
  refine q_zne (p3 := 38) rfl rfl (fun h => ?_) (fun h => ?_)
  · have K := K.1 h
    exact K
  · have K := K.2 h
    refine q_n 1 (pc1 := 39) (ls1 := [some (.ref 67)]) (st1 := [.int 0]) (hp1 := (hz F A L)) rfl ?_
    exact q_rz rfl (by decide) K
theorem g_con2 {d : Nat} {F : Nat → Nat → Int32} {A : Nat → List Int32} {L : Nat → List Int64} {Q : Option Value → sm_H → Prop} (K : ((0 ≤ (F 67 9).toInt ∧ (F 67 10).toInt ≤ ((A 71).length : Int)) ∧ (((hV (F 67 9) (F 67 10) (A 71)) = 33 → ((0 ≤ (F 67 9).toInt ∧ (F 67 10).toInt ≤ ((A 71).length : Int)) ∧ ((¬ (hV (F 67 9) (F 67 10) (A 71)) = 33 → ((¬ (F 67 13) = 6 → ((0 ≤ (F 67 15).toInt ∧ (F 67 15).toInt < ((A 73).length : Int)) ∧ (wp_E (d + 6) mm166.2.2.2.2.2.2.2.2 40 [some (.ref 67)] [] (hz (uF (uF (uF F 67 13 ((F 67 13) + 1)) 67 15 ((F 67 15) + 1)) 67 9 ((F 67 9) + 1)) (uA A 73 ((A 73).set (F 67 15).toInt.toNat (1048576 * (13 : Int32)))) L) Q))) ∧ ((F 67 13) = 6 → (Q (some (.int 0)) (hz (uF F 67 11 (((-1000) * (5 : Int32)) - (F 67 9))) A L))))) ∧ ((hV (F 67 9) (F 67 10) (A 71)) = 33 → ((¬ (F 67 13) = 6 → ((0 ≤ (F 67 15).toInt ∧ (F 67 15).toInt < ((A 73).length : Int)) ∧ (wp_E (d + 6) mm166.2.2.2.2.2.2.2.2 40 [some (.ref 67)] [] (hz (uF (uF (uF F 67 13 ((F 67 13) + 1)) 67 15 ((F 67 15) + 1)) 67 9 ((F 67 9) + 1)) (uA A 73 ((A 73).set (F 67 15).toInt.toNat (1048576 * (10 : Int32)))) L) Q))) ∧ ((F 67 13) = 6 → (Q (some (.int 0)) (hz (uF F 67 11 (((-1000) * (5 : Int32)) - (F 67 9))) A L)))))))) ∧ (¬ (hV (F 67 9) (F 67 10) (A 71)) = 33 → ((0 ≤ (F 67 9).toInt ∧ (F 67 10).toInt ≤ ((A 71).length : Int)) ∧ ((¬ (hV (F 67 9) (F 67 10) (A 71)) = 40 → (wp_M (d + 6) 167 [.ref 67] (hz F A L) (fun w hp1 => wp_E (d + 6) mm166.2.2.2.2.2.2.2.2 87 [some (.ref 67)] (w.toList ++ []) hp1 Q))) ∧ ((hV (F 67 9) (F 67 10) (A 71)) = 40 → ((0 ≤ (F 67 9).toInt ∧ (F 67 10).toInt ≤ ((A 71).length : Int)) ∧ ((¬ (hV (F 67 9) (F 67 10) (A 71)) = 33 → ((¬ (F 67 13) = 6 → ((0 ≤ (F 67 15).toInt ∧ (F 67 15).toInt < ((A 73).length : Int)) ∧ (wp_E (d + 6) mm166.2.2.2.2.2.2.2.2 40 [some (.ref 67)] [] (hz (uF (uF (uF F 67 13 ((F 67 13) + 1)) 67 15 ((F 67 15) + 1)) 67 9 ((F 67 9) + 1)) (uA A 73 ((A 73).set (F 67 15).toInt.toNat (1048576 * (13 : Int32)))) L) Q))) ∧ ((F 67 13) = 6 → (Q (some (.int 0)) (hz (uF F 67 11 (((-1000) * (5 : Int32)) - (F 67 9))) A L))))) ∧ ((hV (F 67 9) (F 67 10) (A 71)) = 33 → ((¬ (F 67 13) = 6 → ((0 ≤ (F 67 15).toInt ∧ (F 67 15).toInt < ((A 73).length : Int)) ∧ (wp_E (d + 6) mm166.2.2.2.2.2.2.2.2 40 [some (.ref 67)] [] (hz (uF (uF (uF F 67 13 ((F 67 13) + 1)) 67 15 ((F 67 15) + 1)) 67 9 ((F 67 9) + 1)) (uA A 73 ((A 73).set (F 67 15).toInt.toNat (1048576 * (10 : Int32)))) L) Q))) ∧ ((F 67 13) = 6 → (Q (some (.int 0)) (hz (uF F 67 11 (((-1000) * (5 : Int32)) - (F 67 9))) A L)))))))))))))) : wp_E (d + 6) mm166.2.2.2.2.2.2.2.2 40 [some (.ref 67)] [] (hz F A L) Q := by
  refine q_n 1 (pc1 := 41) (ls1 := [some (.ref 67)]) (st1 := [.ref 67]) (hp1 := (hz F A L)) rfl ?_
  refine q_c rfl rfl (a_m_here (d := d + 5) K.1 ?_)
  have K := K.2
  show wp_E _ mm166.2.2.2.2.2.2.2.2 44 [some (.ref 67)] [.int (hV (F 67 9) (F 67 10) (A 71))] (hz F A L) _
  refine q_n 1 (pc1 := 46) (ls1 := [some (.ref 67)]) (st1 := [.int 33, .int (hV (F 67 9) (F 67 10) (A 71))]) (hp1 := (hz F A L)) rfl ?_
  refine q_eq (p3 := 49) rfl rfl (fun h => ?_) (fun h => ?_)
  · have K := K.1 h
    refine q_n 2 (pc1 := 60) (ls1 := [some (.ref 67)]) (st1 := [.ref 67, .ref 67]) (hp1 := (hz F A L)) rfl ?_
    refine q_c rfl rfl (a_m_here (d := d + 5) K.1 ?_)
    have K := K.2
    show wp_E _ mm166.2.2.2.2.2.2.2.2 63 [some (.ref 67)] [.int (hV (F 67 9) (F 67 10) (A 71)), .ref 67] (hz F A L) _
    refine q_n 1 (pc1 := 65) (ls1 := [some (.ref 67)]) (st1 := [.int 33, .int (hV (F 67 9) (F 67 10) (A 71)), .ref 67]) (hp1 := (hz F A L)) rfl ?_
    refine q_ne (p3 := 68) rfl rfl (fun h => ?_) (fun h => ?_)
    · have K := K.1 h
      refine q_n 1 (pc1 := 75) (ls1 := [some (.ref 67)]) (st1 := [.int 13, .ref 67]) (hp1 := (hz F A L)) rfl ?_
      refine q_c rfl rfl (s_m_opens (d := d + 4) ?_)
      refine ⟨fun h => ?_, fun h => ?_⟩
      · have K := K.1 h
        refine ⟨K.1, ?_⟩
        have K := K.2
        show wp_E _ mm166.2.2.2.2.2.2.2.2 78 [some (.ref 67)] [.int 1] (hz (uF (uF (uF F 67 13 ((F 67 13) + 1)) 67 15 ((F 67 15) + 1)) 67 9 ((F 67 9) + 1)) (uA A 73 ((A 73).set (F 67 15).toInt.toNat (1048576 * (13 : Int32)))) L) _
        refine q_zne (p3 := 81) rfl rfl (fun _ => ?_) (fun h => absurd h (by decide))
        exact K
      · have K := K.2 h
        show wp_E _ mm166.2.2.2.2.2.2.2.2 78 [some (.ref 67)] [.int 0] (hz (uF F 67 11 (((-1000) * (5 : Int32)) - (F 67 9))) A L) _
        refine q_zne (p3 := 81) rfl rfl (fun h => absurd h (by decide)) (fun _ => ?_)
        refine q_n 1 (pc1 := 82) (ls1 := [some (.ref 67)]) (st1 := [.int 0]) (hp1 := (hz (uF F 67 11 (((-1000) * (5 : Int32)) - (F 67 9))) A L)) rfl ?_
        exact q_rz rfl (by decide) K
    · have K := K.2 h
      refine q_n 2 (pc1 := 75) (ls1 := [some (.ref 67)]) (st1 := [.int 10, .ref 67]) (hp1 := (hz F A L)) rfl ?_
      refine q_c rfl rfl (s_m_opens (d := d + 4) ?_)
      refine ⟨fun h => ?_, fun h => ?_⟩
      · have K := K.1 h
        refine ⟨K.1, ?_⟩
        have K := K.2
        show wp_E _ mm166.2.2.2.2.2.2.2.2 78 [some (.ref 67)] [.int 1] (hz (uF (uF (uF F 67 13 ((F 67 13) + 1)) 67 15 ((F 67 15) + 1)) 67 9 ((F 67 9) + 1)) (uA A 73 ((A 73).set (F 67 15).toInt.toNat (1048576 * (10 : Int32)))) L) _
        refine q_zne (p3 := 81) rfl rfl (fun _ => ?_) (fun h => absurd h (by decide))
        exact K
      · have K := K.2 h
        show wp_E _ mm166.2.2.2.2.2.2.2.2 78 [some (.ref 67)] [.int 0] (hz (uF F 67 11 (((-1000) * (5 : Int32)) - (F 67 9))) A L) _
        refine q_zne (p3 := 81) rfl rfl (fun h => absurd h (by decide)) (fun _ => ?_)
        refine q_n 1 (pc1 := 82) (ls1 := [some (.ref 67)]) (st1 := [.int 0]) (hp1 := (hz (uF F 67 11 (((-1000) * (5 : Int32)) - (F 67 9))) A L)) rfl ?_
        exact q_rz rfl (by decide) K
  · have K := K.2 h
    refine q_n 1 (pc1 := 50) (ls1 := [some (.ref 67)]) (st1 := [.ref 67]) (hp1 := (hz F A L)) rfl ?_
    refine q_c rfl rfl (a_m_here (d := d + 5) K.1 ?_)
    have K := K.2
    show wp_E _ mm166.2.2.2.2.2.2.2.2 53 [some (.ref 67)] [.int (hV (F 67 9) (F 67 10) (A 71))] (hz F A L) _
    refine q_n 1 (pc1 := 55) (ls1 := [some (.ref 67)]) (st1 := [.int 40, .int (hV (F 67 9) (F 67 10) (A 71))]) (hp1 := (hz F A L)) rfl ?_
    refine q_ne (p3 := 58) rfl rfl (fun h => ?_) (fun h => ?_)
    · have K := K.1 h
      refine q_n 1 (pc1 := 84) (ls1 := [some (.ref 67)]) (st1 := [.ref 67]) (hp1 := (hz F A L)) rfl ?_
      exact q_c rfl rfl K
    · have K := K.2 h
      refine q_n 2 (pc1 := 60) (ls1 := [some (.ref 67)]) (st1 := [.ref 67, .ref 67]) (hp1 := (hz F A L)) rfl ?_
      refine q_c rfl rfl (a_m_here (d := d + 5) K.1 ?_)
      have K := K.2
      show wp_E _ mm166.2.2.2.2.2.2.2.2 63 [some (.ref 67)] [.int (hV (F 67 9) (F 67 10) (A 71)), .ref 67] (hz F A L) _
      refine q_n 1 (pc1 := 65) (ls1 := [some (.ref 67)]) (st1 := [.int 33, .int (hV (F 67 9) (F 67 10) (A 71)), .ref 67]) (hp1 := (hz F A L)) rfl ?_
      refine q_ne (p3 := 68) rfl rfl (fun h => ?_) (fun h => ?_)
      · have K := K.1 h
        refine q_n 1 (pc1 := 75) (ls1 := [some (.ref 67)]) (st1 := [.int 13, .ref 67]) (hp1 := (hz F A L)) rfl ?_
        refine q_c rfl rfl (s_m_opens (d := d + 4) ?_)
        refine ⟨fun h => ?_, fun h => ?_⟩
        · have K := K.1 h
          refine ⟨K.1, ?_⟩
          have K := K.2
          show wp_E _ mm166.2.2.2.2.2.2.2.2 78 [some (.ref 67)] [.int 1] (hz (uF (uF (uF F 67 13 ((F 67 13) + 1)) 67 15 ((F 67 15) + 1)) 67 9 ((F 67 9) + 1)) (uA A 73 ((A 73).set (F 67 15).toInt.toNat (1048576 * (13 : Int32)))) L) _
          refine q_zne (p3 := 81) rfl rfl (fun _ => ?_) (fun h => absurd h (by decide))
          exact K
        · have K := K.2 h
          show wp_E _ mm166.2.2.2.2.2.2.2.2 78 [some (.ref 67)] [.int 0] (hz (uF F 67 11 (((-1000) * (5 : Int32)) - (F 67 9))) A L) _
          refine q_zne (p3 := 81) rfl rfl (fun h => absurd h (by decide)) (fun _ => ?_)
          refine q_n 1 (pc1 := 82) (ls1 := [some (.ref 67)]) (st1 := [.int 0]) (hp1 := (hz (uF F 67 11 (((-1000) * (5 : Int32)) - (F 67 9))) A L)) rfl ?_
          exact q_rz rfl (by decide) K
      · have K := K.2 h
        refine q_n 2 (pc1 := 75) (ls1 := [some (.ref 67)]) (st1 := [.int 10, .ref 67]) (hp1 := (hz F A L)) rfl ?_
        refine q_c rfl rfl (s_m_opens (d := d + 4) ?_)
        refine ⟨fun h => ?_, fun h => ?_⟩
        · have K := K.1 h
          refine ⟨K.1, ?_⟩
          have K := K.2
          show wp_E _ mm166.2.2.2.2.2.2.2.2 78 [some (.ref 67)] [.int 1] (hz (uF (uF (uF F 67 13 ((F 67 13) + 1)) 67 15 ((F 67 15) + 1)) 67 9 ((F 67 9) + 1)) (uA A 73 ((A 73).set (F 67 15).toInt.toNat (1048576 * (10 : Int32)))) L) _
          refine q_zne (p3 := 81) rfl rfl (fun _ => ?_) (fun h => absurd h (by decide))
          exact K
        · have K := K.2 h
          show wp_E _ mm166.2.2.2.2.2.2.2.2 78 [some (.ref 67)] [.int 0] (hz (uF F 67 11 (((-1000) * (5 : Int32)) - (F 67 9))) A L) _
          refine q_zne (p3 := 81) rfl rfl (fun h => absurd h (by decide)) (fun _ => ?_)
          refine q_n 1 (pc1 := 82) (ls1 := [some (.ref 67)]) (st1 := [.int 0]) (hp1 := (hz (uF F 67 11 (((-1000) * (5 : Int32)) - (F 67 9))) A L)) rfl ?_
          exact q_rz rfl (by decide) K
theorem g_con3 {d : Nat} {F : Nat → Nat → Int32} {A : Nat → List Int32} {L : Nat → List Int64} {Q : Option Value → sm_H → Prop} {r : Int32} (K : ((¬ r = 0 → (wp_E (d + 6) mm166.2.2.2.2.2.2.2.2 92 [some (.ref 67)] [] (hz F A L) Q)) ∧ (r = 0 → (Q (some (.int 0)) (hz F A L))))) : wp_E (d + 6) mm166.2.2.2.2.2.2.2.2 87 [some (.ref 67)] [.int r] (hz F A L) Q := by
  refine q_zne (p3 := 90) rfl rfl (fun h => ?_) (fun h => ?_)
  · have K := K.1 h
    exact K
  · have K := K.2 h
    refine q_n 1 (pc1 := 91) (ls1 := [some (.ref 67)]) (st1 := [.int 0]) (hp1 := (hz F A L)) rfl ?_
    exact q_rz rfl (by decide) K
theorem g_con4 {d : Nat} {F : Nat → Nat → Int32} {A : Nat → List Int32} {L : Nat → List Int64} {Q : Option Value → sm_H → Prop} (K : ((0 ≤ (F 67 9).toInt ∧ (F 67 10).toInt ≤ ((A 71).length : Int)) ∧ ((¬ (hV (F 67 9) (F 67 10) (A 71)) = 41 → ((0 ≤ (F 67 9).toInt ∧ (F 67 10).toInt ≤ ((A 71).length : Int)) ∧ (((hV (F 67 9) (F 67 10) (A 71)) = 38 → ((0 ≤ (F 67 9).toInt ∧ (F 67 10).toInt ≤ ((A 71).length : Int)) ∧ ((¬ (hV (F 67 9) (F 67 10) (A 71)) = 124 → (wp_M (d + 6) 169 [.ref 67, .int 0] (hz F A L) (fun w hp1 => wp_E (d + 6) mm166.2.2.2.2.2.2.2.2 198 [some (.ref 67)] (w.toList ++ []) hp1 Q))) ∧ ((hV (F 67 9) (F 67 10) (A 71)) = 124 → (wp_M (d + 6) 169 [.ref 67, .int 1] (hz F A L) (fun w hp1 => wp_E (d + 6) mm166.2.2.2.2.2.2.2.2 198 [some (.ref 67)] (w.toList ++ []) hp1 Q)))))) ∧ (¬ (hV (F 67 9) (F 67 10) (A 71)) = 38 → ((0 ≤ (F 67 9).toInt ∧ (F 67 10).toInt ≤ ((A 71).length : Int)) ∧ (((hV (F 67 9) (F 67 10) (A 71)) = 124 → ((0 ≤ (F 67 9).toInt ∧ (F 67 10).toInt ≤ ((A 71).length : Int)) ∧ ((¬ (hV (F 67 9) (F 67 10) (A 71)) = 124 → (wp_M (d + 6) 169 [.ref 67, .int 0] (hz F A L) (fun w hp1 => wp_E (d + 6) mm166.2.2.2.2.2.2.2.2 198 [some (.ref 67)] (w.toList ++ []) hp1 Q))) ∧ ((hV (F 67 9) (F 67 10) (A 71)) = 124 → (wp_M (d + 6) 169 [.ref 67, .int 1] (hz F A L) (fun w hp1 => wp_E (d + 6) mm166.2.2.2.2.2.2.2.2 198 [some (.ref 67)] (w.toList ++ []) hp1 Q)))))) ∧ (¬ (hV (F 67 9) (F 67 10) (A 71)) = 124 → (Q (some (.int 0)) (hz (uF F 67 11 (((-1000) * (1 : Int32)) - (F 67 9))) A L))))))))) ∧ ((hV (F 67 9) (F 67 10) (A 71)) = 41 → (wp_M (d + 6) 169 [.ref 67, .int 1] (hz F A L) (fun w hp1 => wp_E (d + 6) mm166.2.2.2.2.2.2.2.2 106 [some (.ref 67)] (w.toList ++ []) hp1 Q)))))) : wp_E (d + 6) mm166.2.2.2.2.2.2.2.2 92 [some (.ref 67)] [] (hz F A L) Q := by
  refine q_n 1 (pc1 := 93) (ls1 := [some (.ref 67)]) (st1 := [.ref 67]) (hp1 := (hz F A L)) rfl ?_
  refine q_c rfl rfl (a_m_here (d := d + 5) K.1 ?_)
  have K := K.2
  show wp_E _ mm166.2.2.2.2.2.2.2.2 96 [some (.ref 67)] [.int (hV (F 67 9) (F 67 10) (A 71))] (hz F A L) _
  refine q_n 1 (pc1 := 98) (ls1 := [some (.ref 67)]) (st1 := [.int 41, .int (hV (F 67 9) (F 67 10) (A 71))]) (hp1 := (hz F A L)) rfl ?_
  refine q_ne (p3 := 101) rfl rfl (fun h => ?_) (fun h => ?_)
  · have K := K.1 h
    refine q_n 1 (pc1 := 153) (ls1 := [some (.ref 67)]) (st1 := [.ref 67]) (hp1 := (hz F A L)) rfl ?_
    refine q_c rfl rfl (a_m_here (d := d + 5) K.1 ?_)
    have K := K.2
    show wp_E _ mm166.2.2.2.2.2.2.2.2 156 [some (.ref 67)] [.int (hV (F 67 9) (F 67 10) (A 71))] (hz F A L) _
    refine q_n 1 (pc1 := 158) (ls1 := [some (.ref 67)]) (st1 := [.int 38, .int (hV (F 67 9) (F 67 10) (A 71))]) (hp1 := (hz F A L)) rfl ?_
    refine q_eq (p3 := 161) rfl rfl (fun h => ?_) (fun h => ?_)
    · have K := K.1 h
      refine q_n 2 (pc1 := 182) (ls1 := [some (.ref 67)]) (st1 := [.ref 67, .ref 67]) (hp1 := (hz F A L)) rfl ?_
      refine q_c rfl rfl (a_m_here (d := d + 5) K.1 ?_)
      have K := K.2
      show wp_E _ mm166.2.2.2.2.2.2.2.2 185 [some (.ref 67)] [.int (hV (F 67 9) (F 67 10) (A 71)), .ref 67] (hz F A L) _
      refine q_n 1 (pc1 := 187) (ls1 := [some (.ref 67)]) (st1 := [.int 124, .int (hV (F 67 9) (F 67 10) (A 71)), .ref 67]) (hp1 := (hz F A L)) rfl ?_
      refine q_ne (p3 := 190) rfl rfl (fun h => ?_) (fun h => ?_)
      · have K := K.1 h
        refine q_n 1 (pc1 := 195) (ls1 := [some (.ref 67)]) (st1 := [.int 0, .ref 67]) (hp1 := (hz F A L)) rfl ?_
        exact q_c rfl rfl K
      · have K := K.2 h
        refine q_n 2 (pc1 := 195) (ls1 := [some (.ref 67)]) (st1 := [.int 1, .ref 67]) (hp1 := (hz F A L)) rfl ?_
        exact q_c rfl rfl K
    · have K := K.2 h
      refine q_n 1 (pc1 := 162) (ls1 := [some (.ref 67)]) (st1 := [.ref 67]) (hp1 := (hz F A L)) rfl ?_
      refine q_c rfl rfl (a_m_here (d := d + 5) K.1 ?_)
      have K := K.2
      show wp_E _ mm166.2.2.2.2.2.2.2.2 165 [some (.ref 67)] [.int (hV (F 67 9) (F 67 10) (A 71))] (hz F A L) _
      refine q_n 1 (pc1 := 167) (ls1 := [some (.ref 67)]) (st1 := [.int 124, .int (hV (F 67 9) (F 67 10) (A 71))]) (hp1 := (hz F A L)) rfl ?_
      refine q_eq (p3 := 170) rfl rfl (fun h => ?_) (fun h => ?_)
      · have K := K.1 h
        refine q_n 2 (pc1 := 182) (ls1 := [some (.ref 67)]) (st1 := [.ref 67, .ref 67]) (hp1 := (hz F A L)) rfl ?_
        refine q_c rfl rfl (a_m_here (d := d + 5) K.1 ?_)
        have K := K.2
        show wp_E _ mm166.2.2.2.2.2.2.2.2 185 [some (.ref 67)] [.int (hV (F 67 9) (F 67 10) (A 71)), .ref 67] (hz F A L) _
        refine q_n 1 (pc1 := 187) (ls1 := [some (.ref 67)]) (st1 := [.int 124, .int (hV (F 67 9) (F 67 10) (A 71)), .ref 67]) (hp1 := (hz F A L)) rfl ?_
        refine q_ne (p3 := 190) rfl rfl (fun h => ?_) (fun h => ?_)
        · have K := K.1 h
          refine q_n 1 (pc1 := 195) (ls1 := [some (.ref 67)]) (st1 := [.int 0, .ref 67]) (hp1 := (hz F A L)) rfl ?_
          exact q_c rfl rfl K
        · have K := K.2 h
          refine q_n 2 (pc1 := 195) (ls1 := [some (.ref 67)]) (st1 := [.int 1, .ref 67]) (hp1 := (hz F A L)) rfl ?_
          exact q_c rfl rfl K
      · have K := K.2 h
        refine q_n 4 (pc1 := 176) (ls1 := [some (.ref 67)]) (st1 := [.int (F 67 9), .int 1, .ref 67]) (hp1 := (hz F A L)) rfl ?_
        refine q_c rfl rfl (s_m_wrongAt (d := d + 5) ?_)
        show wp_E _ mm166.2.2.2.2.2.2.2.2 179 [some (.ref 67)] [.int 0] (hz (uF F 67 11 (((-1000) * (1 : Int32)) - (F 67 9))) A L) _
        exact q_rz rfl (by decide) K
  · have K := K.2 h
    refine q_n 2 (pc1 := 103) (ls1 := [some (.ref 67)]) (st1 := [.int 1, .ref 67]) (hp1 := (hz F A L)) rfl ?_
    exact q_c rfl rfl K
theorem g_con5 {d : Nat} {F : Nat → Nat → Int32} {A : Nat → List Int32} {L : Nat → List Int64} {Q : Option Value → sm_H → Prop} (K : ((¬ ((F 67 15) - 1) = 0 → (wp_M (d + 6) 168 [.ref 67] (hz (uF (uF (uF F 67 15 ((F 67 15) - 1)) 67 13 ((F 67 13) - 1)) 67 9 ((F 67 9) + 1)) A L) (fun w hp1 => wp_E (d + 6) mm166.2.2.2.2.2.2.2.2 149 [some (.ref 67)] (w.toList ++ []) hp1 Q))) ∧ (((F 67 15) - 1) = 0 → (Q (some (.int 1)) (hz (uF (uF (uF F 67 15 ((F 67 15) - 1)) 67 13 ((F 67 13) - 1)) 67 9 ((F 67 9) + 1)) A L))))) : wp_E (d + 6) mm166.2.2.2.2.2.2.2.2 106 [some (.ref 67)] [] (hz F A L) Q := by
  refine q_n 5 (pc1 := 113) (ls1 := [some (.ref 67)]) (st1 := [.int ((F 67 15) - 1), .ref 67]) (hp1 := (hz F A L)) rfl ?_
  refine q_pf (k := 67) (fs := hz_f67 F) (p3 := 116) rfl rfl rfl (Nat.le_of_ble_eq_true rfl) rfl (hz_p67_15 _) ?_
  refine q_n 5 (pc1 := 123) (ls1 := [some (.ref 67)]) (st1 := [.int ((F 67 13) - 1), .ref 67]) (hp1 := (hz (uF F 67 15 ((F 67 15) - 1)) A L)) rfl ?_
  refine q_pf (k := 67) (fs := hz_f67 (uF F 67 15 ((F 67 15) - 1))) (p3 := 126) rfl rfl rfl (Nat.le_of_ble_eq_true rfl) rfl (hz_p67_13 _) ?_
  refine q_n 5 (pc1 := 133) (ls1 := [some (.ref 67)]) (st1 := [.int ((F 67 9) + 1), .ref 67]) (hp1 := (hz (uF (uF F 67 15 ((F 67 15) - 1)) 67 13 ((F 67 13) - 1)) A L)) rfl ?_
  refine q_pf (k := 67) (fs := hz_f67 (uF (uF F 67 15 ((F 67 15) - 1)) 67 13 ((F 67 13) - 1))) (p3 := 136) rfl rfl rfl (Nat.le_of_ble_eq_true rfl) rfl (hz_p67_9 _) ?_
  refine q_n 2 (pc1 := 140) (ls1 := [some (.ref 67)]) (st1 := [.int ((F 67 15) - 1)]) (hp1 := (hz (uF (uF (uF F 67 15 ((F 67 15) - 1)) 67 13 ((F 67 13) - 1)) 67 9 ((F 67 9) + 1)) A L)) rfl ?_
  refine q_zne (p3 := 143) rfl rfl (fun h => ?_) (fun h => ?_)
  · have K := K.1 h
    refine q_n 1 (pc1 := 146) (ls1 := [some (.ref 67)]) (st1 := [.ref 67]) (hp1 := (hz (uF (uF (uF F 67 15 ((F 67 15) - 1)) 67 13 ((F 67 13) - 1)) 67 9 ((F 67 9) + 1)) A L)) rfl ?_
    exact q_c rfl rfl K
  · have K := K.2 h
    refine q_n 1 (pc1 := 144) (ls1 := [some (.ref 67)]) (st1 := [.int 1]) (hp1 := (hz (uF (uF (uF F 67 15 ((F 67 15) - 1)) 67 13 ((F 67 13) - 1)) 67 9 ((F 67 9) + 1)) A L)) rfl ?_
    exact q_rz rfl (by decide) K
theorem g_con6 {d : Nat} {F : Nat → Nat → Int32} {A : Nat → List Int32} {L : Nat → List Int64} {Q : Option Value → sm_H → Prop} (K : (wp_E (d + 6) mm166.2.2.2.2.2.2.2.2 92 [some (.ref 67)] [] (hz F A L) Q)) : wp_E (d + 6) mm166.2.2.2.2.2.2.2.2 149 [some (.ref 67)] [] (hz F A L) Q := by
  refine q_n 1 (pc1 := 92) (ls1 := [some (.ref 67)]) (st1 := []) (hp1 := (hz F A L)) rfl ?_
  exact K
theorem g_con7 {d : Nat} {F : Nat → Nat → Int32} {A : Nat → List Int32} {L : Nat → List Int64} {Q : Option Value → sm_H → Prop} (K : ((0 ≤ (F 67 9).toInt ∧ (F 67 10).toInt ≤ ((A 71).length : Int)) ∧ ((¬ (hV (F 67 9) (F 67 10) (A 71)) = 38 → ((0 ≤ (F 67 15).toInt ∧ (F 67 15).toInt < ((A 73).length : Int)) ∧ ((0 ≤ (F 67 14).toInt ∧ (F 67 14).toInt < ((A 72).length : Int)) ∧ (wp_E (d + 6) mm166.2.2.2.2.2.2.2.2 40 [some (.ref 67)] [] (hz (uF (uF (uF F 67 15 ((F 67 15) + 1)) 67 14 ((F 67 14) + 1)) 67 9 ((F 67 9) + 1)) (uA (uA A 73 ((A 73).set (F 67 15).toInt.toNat ((1048576 * (12 : Int32)) + (F 67 14)))) 72 ((A 72).set (F 67 14).toInt.toNat ((1048576 * (12 : Int32)) + (0 : Int32)))) L) Q)))) ∧ ((hV (F 67 9) (F 67 10) (A 71)) = 38 → ((0 ≤ (F 67 15).toInt ∧ (F 67 15).toInt < ((A 73).length : Int)) ∧ ((0 ≤ (F 67 14).toInt ∧ (F 67 14).toInt < ((A 72).length : Int)) ∧ (wp_E (d + 6) mm166.2.2.2.2.2.2.2.2 40 [some (.ref 67)] [] (hz (uF (uF (uF F 67 15 ((F 67 15) + 1)) 67 14 ((F 67 14) + 1)) 67 9 ((F 67 9) + 1)) (uA (uA A 73 ((A 73).set (F 67 15).toInt.toNat ((1048576 * (11 : Int32)) + (F 67 14)))) 72 ((A 72).set (F 67 14).toInt.toNat ((1048576 * (11 : Int32)) + (0 : Int32)))) L) Q))))))) : wp_E (d + 6) mm166.2.2.2.2.2.2.2.2 198 [some (.ref 67)] [] (hz F A L) Q := by
  refine q_n 2 (pc1 := 200) (ls1 := [some (.ref 67)]) (st1 := [.ref 67, .ref 67]) (hp1 := (hz F A L)) rfl ?_
  refine q_c rfl rfl (a_m_here (d := d + 5) K.1 ?_)
  have K := K.2
  show wp_E _ mm166.2.2.2.2.2.2.2.2 203 [some (.ref 67)] [.int (hV (F 67 9) (F 67 10) (A 71)), .ref 67] (hz F A L) _
  refine q_n 1 (pc1 := 205) (ls1 := [some (.ref 67)]) (st1 := [.int 38, .int (hV (F 67 9) (F 67 10) (A 71)), .ref 67]) (hp1 := (hz F A L)) rfl ?_
  refine q_ne (p3 := 208) rfl rfl (fun h => ?_) (fun h => ?_)
  · have K := K.1 h
    refine q_n 1 (pc1 := 215) (ls1 := [some (.ref 67)]) (st1 := [.int 12, .ref 67]) (hp1 := (hz F A L)) rfl ?_
    refine q_c rfl rfl (s_m_jumps (d := d + 4) ?_)
    refine ⟨K.1, ?_⟩
    have K := K.2
    refine ⟨K.1, ?_⟩
    have K := K.2
    show wp_E _ mm166.2.2.2.2.2.2.2.2 218 [some (.ref 67)] [] (hz (uF (uF (uF F 67 15 ((F 67 15) + 1)) 67 14 ((F 67 14) + 1)) 67 9 ((F 67 9) + 1)) (uA (uA A 73 ((A 73).set (F 67 15).toInt.toNat ((1048576 * (12 : Int32)) + (F 67 14)))) 72 ((A 72).set (F 67 14).toInt.toNat ((1048576 * (12 : Int32)) + (0 : Int32)))) L) _
    refine q_n 1 (pc1 := 40) (ls1 := [some (.ref 67)]) (st1 := []) (hp1 := (hz (uF (uF (uF F 67 15 ((F 67 15) + 1)) 67 14 ((F 67 14) + 1)) 67 9 ((F 67 9) + 1)) (uA (uA A 73 ((A 73).set (F 67 15).toInt.toNat ((1048576 * (12 : Int32)) + (F 67 14)))) 72 ((A 72).set (F 67 14).toInt.toNat ((1048576 * (12 : Int32)) + (0 : Int32)))) L)) rfl ?_
    exact K
  · have K := K.2 h
    refine q_n 2 (pc1 := 215) (ls1 := [some (.ref 67)]) (st1 := [.int 11, .ref 67]) (hp1 := (hz F A L)) rfl ?_
    refine q_c rfl rfl (s_m_jumps (d := d + 4) ?_)
    refine ⟨K.1, ?_⟩
    have K := K.2
    refine ⟨K.1, ?_⟩
    have K := K.2
    show wp_E _ mm166.2.2.2.2.2.2.2.2 218 [some (.ref 67)] [] (hz (uF (uF (uF F 67 15 ((F 67 15) + 1)) 67 14 ((F 67 14) + 1)) 67 9 ((F 67 9) + 1)) (uA (uA A 73 ((A 73).set (F 67 15).toInt.toNat ((1048576 * (11 : Int32)) + (F 67 14)))) 72 ((A 72).set (F 67 14).toInt.toNat ((1048576 * (11 : Int32)) + (0 : Int32)))) L) _
    refine q_n 1 (pc1 := 40) (ls1 := [some (.ref 67)]) (st1 := []) (hp1 := (hz (uF (uF (uF F 67 15 ((F 67 15) + 1)) 67 14 ((F 67 14) + 1)) 67 9 ((F 67 9) + 1)) (uA (uA A 73 ((A 73).set (F 67 15).toInt.toNat ((1048576 * (11 : Int32)) + (F 67 14)))) 72 ((A 72).set (F 67 14).toInt.toNat ((1048576 * (11 : Int32)) + (0 : Int32)))) L)) rfl ?_
    exact K
