/-! rows, piece by piece -/
theorem s_m_isMeasure {d : Nat} {F : Nat → Nat → Int32} {A : Nat → List Int32} {L : Nat → List Int64} {Q : Option Value → sm_H → Prop} {x0 : Int32} (K : ((x0.toInt < (0 : Int32).toInt → (Q (some (.int 0)) (hz F A L))) ∧ ((0 : Int32).toInt ≤ x0.toInt → ((((F 67 3) - 1).toInt < x0.toInt → (Q (some (.int 0)) (hz F A L))) ∧ (x0.toInt ≤ ((F 67 3) - 1).toInt → (Q (some (.int 1)) (hz F A L))))))) : wp_M (d + 2) 174 [.ref 67, .int x0] (hz F A L) Q := by
  refine q_m (E := mm174) rfl ⟨Nat.le_of_ble_eq_true rfl, Nat.le_of_ble_eq_true rfl⟩ ?_
  show wp_E (d + 1) mm174.2.2.2.2.2.2.2.2 0 [some (.ref 67), some (.int x0)] [] (hz F A L) Q
  refine q_n 6 (pc1 := 8) (ls1 := [some (.ref 67), some (.int x0)]) (st1 := [.int ((F 67 3) - 1), .int 0, .int x0]) (hp1 := (hz F A L)) rfl ?_
  refine q_c rfl rfl (s_m_in (d := d + 0) ?_)
  refine ⟨fun h => ?_, fun h => ?_⟩
  · have K := K.1 h
    show wp_E _ mm174.2.2.2.2.2.2.2.2 11 [some (.ref 67), some (.int x0)] [.int 0] (hz F A L) _
    exact q_rz rfl (by decide) K
  · have K := K.2 h
    refine ⟨fun h => ?_, fun h => ?_⟩
    · have K := K.1 h
      show wp_E _ mm174.2.2.2.2.2.2.2.2 11 [some (.ref 67), some (.int x0)] [.int 0] (hz F A L) _
      exact q_rz rfl (by decide) K
    · have K := K.2 h
      show wp_E _ mm174.2.2.2.2.2.2.2.2 11 [some (.ref 67), some (.int x0)] [.int 1] (hz F A L) _
      exact q_rz rfl (by decide) K
noncomputable def mV (x m : Int32) : Int32 := if 0 ≤ x.toInt ∧ x.toInt ≤ (m - 1).toInt then 1 else 0
theorem a_m_isMeasure {d : Nat} {F : Nat → Nat → Int32} {A : Nat → List Int32} {L : Nat → List Int64} {Q : Option Value → sm_H → Prop} {x0 : Int32} (K : Q (some (.int (mV x0 (F 67 3)))) (hz F A L)) : wp_M (d + 2) 174 [.ref 67, .int x0] (hz F A L) Q := by
  have e0 : (0 : Int32).toInt = 0 := rfl
  refine s_m_isMeasure ⟨fun h => ?_, fun h => ⟨fun h2 => ?_, fun h2 => ?_⟩⟩
  · rw [mV, if_neg (by omega)] at K; exact K
  · rw [mV, if_neg (by omega)] at K; exact K
  · rw [mV, if_pos (by omega)] at K; exact K
theorem s_m_wrongOf {d : Nat} {F : Nat → Nat → Int32} {A : Nat → List Int32} {L : Nat → List Int64} {Q : Option Value → sm_H → Prop} {x0 : Int32} (K : (Q (some (.int (((-1000) * x0) - (F 67 9)))) (hz (uF F 67 11 (((-1000) * x0) - (F 67 9))) A L))) : wp_M (d + 2) 173 [.ref 67, .int x0] (hz F A L) Q := by
  refine q_m (E := mm173) rfl ⟨Nat.le_of_ble_eq_true rfl, Nat.le_of_ble_eq_true rfl⟩ ?_
  show wp_E (d + 1) mm173.2.2.2.2.2.2.2.2 0 [some (.ref 67), some (.int x0)] [] (hz F A L) Q
  refine q_n 4 (pc1 := 6) (ls1 := [some (.ref 67), some (.int x0)]) (st1 := [.int (F 67 9), .int x0, .ref 67]) (hp1 := (hz F A L)) rfl ?_
  refine q_c rfl rfl (s_m_wrongAt (d := d + 0) ?_)
  show wp_E _ mm173.2.2.2.2.2.2.2.2 9 [some (.ref 67), some (.int x0)] [.int 0] (hz (uF F 67 11 (((-1000) * x0) - (F 67 9))) A L) _
  refine q_n 3 (pc1 := 14) (ls1 := [some (.ref 67), some (.int x0)]) (st1 := [.int (((-1000) * x0) - (F 67 9))]) (hp1 := (hz (uF F 67 11 (((-1000) * x0) - (F 67 9))) A L)) rfl ?_
  exact q_ri rfl K
theorem s_m_changes {d : Nat} {F : Nat → Nat → Int32} {A : Nat → List Int32} {L : Nat → List Int64} {Q : Option Value → sm_H → Prop} {x0 : Int32} {x1 : Int32} (K : ((0 ≤ x0.toInt ∧ x0.toInt < ((A 92).length : Int)) ∧ ((0 ≤ x1.toInt ∧ x1.toInt < ((A 92).length : Int)) ∧ ((0 ≤ x0.toInt ∧ x0.toInt < ((A 92).length : Int)) ∧ ((0 ≤ x1.toInt ∧ x1.toInt < (((A 92).set x0.toInt.toNat ((A 92).getD x1.toInt.toNat 0)).length : Int)) ∧ (Q none (hz F (uA (uA A 92 ((A 92).set x0.toInt.toNat ((A 92).getD x1.toInt.toNat 0))) 92 (((A 92).set x0.toInt.toNat ((A 92).getD x1.toInt.toNat 0)).set x1.toInt.toNat ((A 92).getD x0.toInt.toNat 0))) L))))))) : wp_M (d + 1) 227 [.ref 67, .int x0, .int x1] (hz F A L) Q := by
  refine q_m (E := mm227) rfl ⟨Nat.le_of_ble_eq_true rfl, Nat.le_of_ble_eq_true rfl⟩ ?_
  show wp_E (d + 0) mm227.2.2.2.2.2.2.2.2 0 [some (.ref 67), some (.int x0), some (.int x1), none] [] (hz F A L) Q
  refine q_n 3 (pc1 := 5) (ls1 := [some (.ref 67), some (.int x0), some (.int x1), none]) (st1 := [.int x0, .ref 92]) (hp1 := (hz F A L)) rfl ?_
  refine q_al (k := 92) (l := (A 92)) (p1 := 6) rfl rfl rfl K.1 ?_
  have K := K.2
  refine q_n 7 (pc1 := 17) (ls1 := [some (.ref 67), some (.int x0), some (.int x1), some (.int ((A 92).getD x0.toInt.toNat 0))]) (st1 := [.int x1, .ref 92, .int x0, .ref 92]) (hp1 := (hz F A L)) rfl ?_
  refine q_al (k := 92) (l := (A 92)) (p1 := 18) rfl rfl rfl K.1 ?_
  have K := K.2
  refine q_as (k := 92) (l := (A 92)) (p1 := 19) rfl rfl rfl K.1 (hz_s92 _) ?_
  have K := K.2
  refine q_n 4 (pc1 := 25) (ls1 := [some (.ref 67), some (.int x0), some (.int x1), some (.int ((A 92).getD x0.toInt.toNat 0))]) (st1 := [.int ((A 92).getD x0.toInt.toNat 0), .int x1, .ref 92]) (hp1 := (hz F (uA A 92 ((A 92).set x0.toInt.toNat ((A 92).getD x1.toInt.toNat 0))) L)) rfl ?_
  refine q_as (k := 92) (l := ((A 92).set x0.toInt.toNat ((A 92).getD x1.toInt.toNat 0))) (p1 := 26) rfl rfl rfl K.1 (hz_s92 _) ?_
  have K := K.2
  exact q_r rfl rfl K
theorem g_pa {d : Nat} {F : Nat → Nat → Int32} {A : Nat → List Int32} {L : Nat → List Int64} {Q : Option Value → sm_H → Prop} {x y n i : Int32} (K : (((12 : Int32).toInt ≤ i.toInt → (Q (some (.int n)) (hz F A L))) ∧ (i.toInt < (12 : Int32).toInt → ((A 68).length = 150 ∧ (((gV i (A 68)) = 0 → (wp_E (d + 2) mm203.2.2.2.2.2.2.2.2 5 [some (.ref 67), some (.int x), some (.int y), some (.int n), some (.int (i + 1))] [] (hz F A L) Q)) ∧ (¬ (gV i (A 68)) = 0 → ((0 ≤ ((72 + (6 * i)) + x).toInt ∧ ((72 + (6 * i)) + x).toInt < ((A 68).length : Int)) ∧ ((0 ≤ ((72 + (6 * i)) + y).toInt ∧ ((72 + (6 * i)) + y).toInt < ((A 68).length : Int)) ∧ ((((A 68).getD ((72 + (6 * i)) + y).toInt.toNat 0).toInt ≤ ((A 68).getD ((72 + (6 * i)) + x).toInt.toNat 0).toInt → (wp_E (d + 2) mm203.2.2.2.2.2.2.2.2 5 [some (.ref 67), some (.int x), some (.int y), some (.int n), some (.int (i + 1))] [] (hz F A L) Q)) ∧ (((A 68).getD ((72 + (6 * i)) + x).toInt.toNat 0).toInt < ((A 68).getD ((72 + (6 * i)) + y).toInt.toNat 0).toInt → ((0 ≤ (12 + i).toInt ∧ (12 + i).toInt < ((A 68).length : Int)) ∧ (wp_E (d + 2) mm203.2.2.2.2.2.2.2.2 5 [some (.ref 67), some (.int x), some (.int y), some (.int (n + ((A 68).getD (12 + i).toInt.toNat 0))), some (.int (i + 1))] [] (hz F A L) Q)))))))))))) : wp_E (d + 2) mm203.2.2.2.2.2.2.2.2 5 [some (.ref 67), some (.int x), some (.int y), some (.int n), some (.int i)] [] (hz F A L) Q := by
  refine q_n 2 (pc1 := 9) (ls1 := [some (.ref 67), some (.int x), some (.int y), some (.int n), some (.int i)]) (st1 := [.int 12, .int i]) (hp1 := (hz F A L)) rfl ?_
  refine q_ge (p3 := 12) rfl rfl (fun h => ?_) (fun h => ?_)
  · have K := K.1 h
    refine q_n 1 (pc1 := 58) (ls1 := [some (.ref 67), some (.int x), some (.int y), some (.int n), some (.int i)]) (st1 := [.int n]) (hp1 := (hz F A L)) rfl ?_
    exact q_ri rfl K
  · have K := K.2 h
    refine q_n 2 (pc1 := 15) (ls1 := [some (.ref 67), some (.int x), some (.int y), some (.int n), some (.int i)]) (st1 := [.int i, .ref 67]) (hp1 := (hz F A L)) rfl ?_
    refine q_c rfl rfl (a_m_isGuest (d := d + 0) K.1 ?_)
    have K := K.2
    show wp_E _ mm203.2.2.2.2.2.2.2.2 18 [some (.ref 67), some (.int x), some (.int y), some (.int n), some (.int i)] [.int (gV i (A 68))] (hz F A L) _
    refine q_zeq (p3 := 21) rfl rfl (fun h => ?_) (fun h => ?_)
    · have K := K.1 h
      refine q_n 2 (pc1 := 5) (ls1 := [some (.ref 67), some (.int x), some (.int y), some (.int n), some (.int (i + 1))]) (st1 := []) (hp1 := (hz F A L)) rfl ?_
      exact K
    · have K := K.2 h
      refine q_n 3 (pc1 := 25) (ls1 := [some (.ref 67), some (.int x), some (.int y), some (.int n), some (.int i)]) (st1 := [.int x, .int i, .ref 67]) (hp1 := (hz F A L)) rfl ?_
      refine q_c rfl rfl (s_m_placeOf (d := d + 1) ?_)
      refine ⟨K.1, ?_⟩
      have K := K.2
      show wp_E _ mm203.2.2.2.2.2.2.2.2 28 [some (.ref 67), some (.int x), some (.int y), some (.int n), some (.int i)] [.int ((A 68).getD ((72 + (6 * i)) + x).toInt.toNat 0)] (hz F A L) _
      refine q_n 3 (pc1 := 32) (ls1 := [some (.ref 67), some (.int x), some (.int y), some (.int n), some (.int i)]) (st1 := [.int y, .int i, .ref 67, .int ((A 68).getD ((72 + (6 * i)) + x).toInt.toNat 0)]) (hp1 := (hz F A L)) rfl ?_
      refine q_c rfl rfl (s_m_placeOf (d := d + 1) ?_)
      refine ⟨K.1, ?_⟩
      have K := K.2
      show wp_E _ mm203.2.2.2.2.2.2.2.2 35 [some (.ref 67), some (.int x), some (.int y), some (.int n), some (.int i)] [.int ((A 68).getD ((72 + (6 * i)) + y).toInt.toNat 0), .int ((A 68).getD ((72 + (6 * i)) + x).toInt.toNat 0)] (hz F A L) _
      refine q_ge (p3 := 38) rfl rfl (fun h => ?_) (fun h => ?_)
      · have K := K.1 h
        refine q_n 2 (pc1 := 5) (ls1 := [some (.ref 67), some (.int x), some (.int y), some (.int n), some (.int (i + 1))]) (st1 := []) (hp1 := (hz F A L)) rfl ?_
        exact K
      · have K := K.2 h
        refine q_n 6 (pc1 := 48) (ls1 := [some (.ref 67), some (.int x), some (.int y), some (.int n), some (.int i)]) (st1 := [.int (12 + i), .ref 68, .int n]) (hp1 := (hz F A L)) rfl ?_
        refine q_al (k := 68) (l := (A 68)) (p1 := 49) rfl rfl rfl K.1 ?_
        have K := K.2
        refine q_n 4 (pc1 := 5) (ls1 := [some (.ref 67), some (.int x), some (.int y), some (.int (n + ((A 68).getD (12 + i).toInt.toNat 0))), some (.int (i + 1))]) (st1 := []) (hp1 := (hz F A L)) rfl ?_
        exact K
theorem g_be0 {d : Nat} {F : Nat → Nat → Int32} {A : Nat → List Int32} {L : Nat → List Int64} {Q : Option Value → sm_H → Prop} {x y : Int32} (K : (wp_M (d + 3) 203 [.ref 67, .int x, .int y] (hz F A L) (fun w hp1 => wp_E (d + 3) mm213.2.2.2.2.2.2.2.2 6 [some (.ref 67), some (.int x), some (.int y)] (w.toList ++ []) hp1 Q))) : wp_E (d + 3) mm213.2.2.2.2.2.2.2.2 0 [some (.ref 67), some (.int x), some (.int y)] [] (hz F A L) Q := by
  refine q_n 3 (pc1 := 3) (ls1 := [some (.ref 67), some (.int x), some (.int y)]) (st1 := [.int y, .int x, .ref 67]) (hp1 := (hz F A L)) rfl ?_
  exact q_c rfl rfl K
theorem g_be1 {d : Nat} {F : Nat → Nat → Int32} {A : Nat → List Int32} {L : Nat → List Int64} {Q : Option Value → sm_H → Prop} {x y r : Int32} (K : (wp_M (d + 3) 203 [.ref 67, .int y, .int x] (hz F A L) (fun w hp1 => wp_E (d + 3) mm213.2.2.2.2.2.2.2.2 12 [some (.ref 67), some (.int x), some (.int y)] (w.toList ++ [.int r]) hp1 Q))) : wp_E (d + 3) mm213.2.2.2.2.2.2.2.2 6 [some (.ref 67), some (.int x), some (.int y)] [.int r] (hz F A L) Q := by
  refine q_n 3 (pc1 := 9) (ls1 := [some (.ref 67), some (.int x), some (.int y)]) (st1 := [.int x, .int y, .ref 67, .int r]) (hp1 := (hz F A L)) rfl ?_
  exact q_c rfl rfl K
theorem g_be2 {d : Nat} {F : Nat → Nat → Int32} {A : Nat → List Int32} {L : Nat → List Int64} {Q : Option Value → sm_H → Prop} {x y r s : Int32} (K : ((r.toInt ≤ s.toInt → (Q (some (.int 0)) (hz F A L))) ∧ (s.toInt < r.toInt → (Q (some (.int 1)) (hz F A L))))) : wp_E (d + 3) mm213.2.2.2.2.2.2.2.2 12 [some (.ref 67), some (.int x), some (.int y)] [.int s, .int r] (hz F A L) Q := by
  refine q_le (p3 := 15) rfl rfl (fun h => ?_) (fun h => ?_)
  · have K := K.1 h
    refine q_n 1 (pc1 := 20) (ls1 := [some (.ref 67), some (.int x), some (.int y)]) (st1 := [.int 0]) (hp1 := (hz F A L)) rfl ?_
    exact q_rz rfl (by decide) K
  · have K := K.2 h
    refine q_n 2 (pc1 := 20) (ls1 := [some (.ref 67), some (.int x), some (.int y)]) (st1 := [.int 1]) (hp1 := (hz F A L)) rfl ?_
    exact q_rz rfl (by decide) K
theorem g_wi0 {d : Nat} {F : Nat → Nat → Int32} {A : Nat → List Int32} {L : Nat → List Int64} {Q : Option Value → sm_H → Prop} {x y : Int32} (K : (wp_M (d + 4) 213 [.ref 67, .int y, .int x] (hz F A L) (fun w hp1 => wp_E (d + 4) mm222.2.2.2.2.2.2.2.2 6 [some (.ref 67), some (.int x), some (.int y)] (w.toList ++ []) hp1 Q))) : wp_E (d + 4) mm222.2.2.2.2.2.2.2.2 0 [some (.ref 67), some (.int x), some (.int y)] [] (hz F A L) Q := by
  refine q_n 3 (pc1 := 3) (ls1 := [some (.ref 67), some (.int x), some (.int y)]) (st1 := [.int x, .int y, .ref 67]) (hp1 := (hz F A L)) rfl ?_
  exact q_c rfl rfl K
theorem g_wi1 {d : Nat} {F : Nat → Nat → Int32} {A : Nat → List Int32} {L : Nat → List Int64} {Q : Option Value → sm_H → Prop} {x y r : Int32} (K : ((r = 0 → (Q (some (.int x)) (hz F A L))) ∧ (¬ r = 0 → (Q (some (.int y)) (hz F A L))))) : wp_E (d + 4) mm222.2.2.2.2.2.2.2.2 6 [some (.ref 67), some (.int x), some (.int y)] [.int r] (hz F A L) Q := by
  refine q_zeq (p3 := 9) rfl rfl (fun h => ?_) (fun h => ?_)
  · have K := K.1 h
    refine q_n 1 (pc1 := 14) (ls1 := [some (.ref 67), some (.int x), some (.int y)]) (st1 := [.int x]) (hp1 := (hz F A L)) rfl ?_
    exact q_ri rfl K
  · have K := K.2 h
    refine q_n 2 (pc1 := 14) (ls1 := [some (.ref 67), some (.int x), some (.int y)]) (st1 := [.int y]) (hp1 := (hz F A L)) rfl ?_
    exact q_ri rfl K
theorem g_gn0 {d : Nat} {F : Nat → Nat → Int32} {A : Nat → List Int32} {L : Nat → List Int64} {Q : Option Value → sm_H → Prop} {x i : Int32} (K : ((i.toInt < 0 → ((0 ≤ i.toInt → (wp_E (d + 1) mm226.2.2.2.2.2.2.2.2 42 [some (.ref 67), some (.int x), some (.int i), some (.int (x - 1)), none, none] [] (hz F A L) Q)) ∧ (i.toInt < 0 → (Q (some (.int 0)) (hz F A L))))) ∧ (0 ≤ i.toInt → ((0 ≤ i.toInt ∧ i.toInt < ((A 92).length : Int)) ∧ ((0 ≤ (i + 1).toInt ∧ (i + 1).toInt < ((A 92).length : Int)) ∧ ((((A 92).getD i.toInt.toNat 0).toInt ≤ ((A 92).getD (i + 1).toInt.toNat 0).toInt → ((0 ≤ i.toInt → (wp_E (d + 1) mm226.2.2.2.2.2.2.2.2 42 [some (.ref 67), some (.int x), some (.int i), some (.int (x - 1)), none, none] [] (hz F A L) Q)) ∧ (i.toInt < 0 → (Q (some (.int 0)) (hz F A L))))) ∧ (((A 92).getD (i + 1).toInt.toNat 0).toInt < ((A 92).getD i.toInt.toNat 0).toInt → (wp_E (d + 1) mm226.2.2.2.2.2.2.2.2 4 [some (.ref 67), some (.int x), some (.int (i - 1)), none, none, none] [] (hz F A L) Q)))))))) : wp_E (d + 1) mm226.2.2.2.2.2.2.2.2 4 [some (.ref 67), some (.int x), some (.int i), none, none, none] [] (hz F A L) Q := by
  refine q_n 1 (pc1 := 5) (ls1 := [some (.ref 67), some (.int x), some (.int i), none, none, none]) (st1 := [.int i]) (hp1 := (hz F A L)) rfl ?_
  refine q_zlt (p3 := 8) rfl rfl (fun h => ?_) (fun h => ?_)
  · have K := K.1 h
    refine q_n 1 (pc1 := 33) (ls1 := [some (.ref 67), some (.int x), some (.int i), none, none, none]) (st1 := [.int i]) (hp1 := (hz F A L)) rfl ?_
    refine q_zge (p3 := 36) rfl rfl (fun h => ?_) (fun h => ?_)
    · have K := K.1 h
      refine q_n 4 (pc1 := 42) (ls1 := [some (.ref 67), some (.int x), some (.int i), some (.int (x - 1)), none, none]) (st1 := []) (hp1 := (hz F A L)) rfl ?_
      exact K
    · have K := K.2 h
      refine q_n 1 (pc1 := 37) (ls1 := [some (.ref 67), some (.int x), some (.int i), none, none, none]) (st1 := [.int 0]) (hp1 := (hz F A L)) rfl ?_
      exact q_rz rfl (by decide) K
  · have K := K.2 h
    refine q_n 3 (pc1 := 13) (ls1 := [some (.ref 67), some (.int x), some (.int i), none, none, none]) (st1 := [.int i, .ref 92]) (hp1 := (hz F A L)) rfl ?_
    refine q_al (k := 92) (l := (A 92)) (p1 := 14) rfl rfl rfl K.1 ?_
    have K := K.2
    refine q_n 5 (pc1 := 21) (ls1 := [some (.ref 67), some (.int x), some (.int i), none, none, none]) (st1 := [.int (i + 1), .ref 92, .int ((A 92).getD i.toInt.toNat 0)]) (hp1 := (hz F A L)) rfl ?_
    refine q_al (k := 92) (l := (A 92)) (p1 := 22) rfl rfl rfl K.1 ?_
    have K := K.2
    refine q_le (p3 := 25) rfl rfl (fun h => ?_) (fun h => ?_)
    · have K := K.1 h
      refine q_n 1 (pc1 := 33) (ls1 := [some (.ref 67), some (.int x), some (.int i), none, none, none]) (st1 := [.int i]) (hp1 := (hz F A L)) rfl ?_
      refine q_zge (p3 := 36) rfl rfl (fun h => ?_) (fun h => ?_)
      · have K := K.1 h
        refine q_n 4 (pc1 := 42) (ls1 := [some (.ref 67), some (.int x), some (.int i), some (.int (x - 1)), none, none]) (st1 := []) (hp1 := (hz F A L)) rfl ?_
        exact K
      · have K := K.2 h
        refine q_n 1 (pc1 := 37) (ls1 := [some (.ref 67), some (.int x), some (.int i), none, none, none]) (st1 := [.int 0]) (hp1 := (hz F A L)) rfl ?_
        exact q_rz rfl (by decide) K
    · have K := K.2 h
      refine q_n 5 (pc1 := 4) (ls1 := [some (.ref 67), some (.int x), some (.int (i - 1)), none, none, none]) (st1 := []) (hp1 := (hz F A L)) rfl ?_
      exact K
theorem g_gn1 {d : Nat} {F : Nat → Nat → Int32} {A : Nat → List Int32} {L : Nat → List Int64} {Q : Option Value → sm_H → Prop} {x i j : Int32} (K : ((0 ≤ j.toInt ∧ j.toInt < ((A 92).length : Int)) ∧ ((0 ≤ i.toInt ∧ i.toInt < ((A 92).length : Int)) ∧ ((((A 92).getD i.toInt.toNat 0).toInt ≤ ((A 92).getD j.toInt.toNat 0).toInt → ((0 ≤ i.toInt ∧ i.toInt < ((A 92).length : Int)) ∧ ((0 ≤ j.toInt ∧ j.toInt < ((A 92).length : Int)) ∧ ((0 ≤ i.toInt ∧ i.toInt < ((A 92).length : Int)) ∧ ((0 ≤ j.toInt ∧ j.toInt < (((A 92).set i.toInt.toNat ((A 92).getD j.toInt.toNat 0)).length : Int)) ∧ (wp_E (d + 1) mm226.2.2.2.2.2.2.2.2 80 [some (.ref 67), some (.int x), some (.int i), some (.int j), some (.int (i + 1)), some (.int (x - 1))] [] (hz F (uA (uA A 92 ((A 92).set i.toInt.toNat ((A 92).getD j.toInt.toNat 0))) 92 (((A 92).set i.toInt.toNat ((A 92).getD j.toInt.toNat 0)).set j.toInt.toNat ((A 92).getD i.toInt.toNat 0))) L) Q)))))) ∧ (((A 92).getD j.toInt.toNat 0).toInt < ((A 92).getD i.toInt.toNat 0).toInt → (wp_E (d + 1) mm226.2.2.2.2.2.2.2.2 42 [some (.ref 67), some (.int x), some (.int i), some (.int (j - 1)), none, none] [] (hz F A L) Q)))))) : wp_E (d + 1) mm226.2.2.2.2.2.2.2.2 42 [some (.ref 67), some (.int x), some (.int i), some (.int j), none, none] [] (hz F A L) Q := by
  refine q_n 3 (pc1 := 47) (ls1 := [some (.ref 67), some (.int x), some (.int i), some (.int j), none, none]) (st1 := [.int j, .ref 92]) (hp1 := (hz F A L)) rfl ?_
  refine q_al (k := 92) (l := (A 92)) (p1 := 48) rfl rfl rfl K.1 ?_
  have K := K.2
  refine q_n 3 (pc1 := 53) (ls1 := [some (.ref 67), some (.int x), some (.int i), some (.int j), none, none]) (st1 := [.int i, .ref 92, .int ((A 92).getD j.toInt.toNat 0)]) (hp1 := (hz F A L)) rfl ?_
  refine q_al (k := 92) (l := (A 92)) (p1 := 54) rfl rfl rfl K.1 ?_
  have K := K.2
  refine q_ge (p3 := 57) rfl rfl (fun h => ?_) (fun h => ?_)
  · have K := K.1 h
    refine q_n 3 (pc1 := 67) (ls1 := [some (.ref 67), some (.int x), some (.int i), some (.int j), none, none]) (st1 := [.int j, .int i, .ref 67]) (hp1 := (hz F A L)) rfl ?_
    refine q_c rfl rfl (s_m_changes (d := d + 0) ?_)
    refine ⟨K.1, ?_⟩
    have K := K.2
    refine ⟨K.1, ?_⟩
    have K := K.2
    refine ⟨K.1, ?_⟩
    have K := K.2
    refine ⟨K.1, ?_⟩
    have K := K.2
    show wp_E _ mm226.2.2.2.2.2.2.2.2 70 [some (.ref 67), some (.int x), some (.int i), some (.int j), none, none] [] (hz F (uA (uA A 92 ((A 92).set i.toInt.toNat ((A 92).getD j.toInt.toNat 0))) 92 (((A 92).set i.toInt.toNat ((A 92).getD j.toInt.toNat 0)).set j.toInt.toNat ((A 92).getD i.toInt.toNat 0))) L) _
    refine q_n 8 (pc1 := 80) (ls1 := [some (.ref 67), some (.int x), some (.int i), some (.int j), some (.int (i + 1)), some (.int (x - 1))]) (st1 := []) (hp1 := (hz F (uA (uA A 92 ((A 92).set i.toInt.toNat ((A 92).getD j.toInt.toNat 0))) 92 (((A 92).set i.toInt.toNat ((A 92).getD j.toInt.toNat 0)).set j.toInt.toNat ((A 92).getD i.toInt.toNat 0))) L)) rfl ?_
    exact K
  · have K := K.2 h
    refine q_n 5 (pc1 := 42) (ls1 := [some (.ref 67), some (.int x), some (.int i), some (.int (j - 1)), none, none]) (st1 := []) (hp1 := (hz F A L)) rfl ?_
    exact K
theorem g_gn2 {d : Nat} {F : Nat → Nat → Int32} {A : Nat → List Int32} {L : Nat → List Int64} {Q : Option Value → sm_H → Prop} {x i j a b : Int32} (K : ((b.toInt ≤ a.toInt → (Q (some (.int 1)) (hz F A L))) ∧ (a.toInt < b.toInt → ((0 ≤ a.toInt ∧ a.toInt < ((A 92).length : Int)) ∧ ((0 ≤ b.toInt ∧ b.toInt < ((A 92).length : Int)) ∧ ((0 ≤ a.toInt ∧ a.toInt < ((A 92).length : Int)) ∧ ((0 ≤ b.toInt ∧ b.toInt < (((A 92).set a.toInt.toNat ((A 92).getD b.toInt.toNat 0)).length : Int)) ∧ (wp_E (d + 1) mm226.2.2.2.2.2.2.2.2 80 [some (.ref 67), some (.int x), some (.int i), some (.int j), some (.int (a + 1)), some (.int (b + (-1)))] [] (hz F (uA (uA A 92 ((A 92).set a.toInt.toNat ((A 92).getD b.toInt.toNat 0))) 92 (((A 92).set a.toInt.toNat ((A 92).getD b.toInt.toNat 0)).set b.toInt.toNat ((A 92).getD a.toInt.toNat 0))) L) Q)))))))) : wp_E (d + 1) mm226.2.2.2.2.2.2.2.2 80 [some (.ref 67), some (.int x), some (.int i), some (.int j), some (.int a), some (.int b)] [] (hz F A L) Q := by
  refine q_n 2 (pc1 := 84) (ls1 := [some (.ref 67), some (.int x), some (.int i), some (.int j), some (.int a), some (.int b)]) (st1 := [.int b, .int a]) (hp1 := (hz F A L)) rfl ?_
  refine q_ge (p3 := 87) rfl rfl (fun h => ?_) (fun h => ?_)
  · have K := K.1 h
    refine q_n 1 (pc1 := 105) (ls1 := [some (.ref 67), some (.int x), some (.int i), some (.int j), some (.int a), some (.int b)]) (st1 := [.int 1]) (hp1 := (hz F A L)) rfl ?_
    exact q_rz rfl (by decide) K
  · have K := K.2 h
    refine q_n 3 (pc1 := 92) (ls1 := [some (.ref 67), some (.int x), some (.int i), some (.int j), some (.int a), some (.int b)]) (st1 := [.int b, .int a, .ref 67]) (hp1 := (hz F A L)) rfl ?_
    refine q_c rfl rfl (s_m_changes (d := d + 0) ?_)
    refine ⟨K.1, ?_⟩
    have K := K.2
    refine ⟨K.1, ?_⟩
    have K := K.2
    refine ⟨K.1, ?_⟩
    have K := K.2
    refine ⟨K.1, ?_⟩
    have K := K.2
    show wp_E _ mm226.2.2.2.2.2.2.2.2 95 [some (.ref 67), some (.int x), some (.int i), some (.int j), some (.int a), some (.int b)] [] (hz F (uA (uA A 92 ((A 92).set a.toInt.toNat ((A 92).getD b.toInt.toNat 0))) 92 (((A 92).set a.toInt.toNat ((A 92).getD b.toInt.toNat 0)).set b.toInt.toNat ((A 92).getD a.toInt.toNat 0))) L) _
    refine q_n 3 (pc1 := 80) (ls1 := [some (.ref 67), some (.int x), some (.int i), some (.int j), some (.int (a + 1)), some (.int (b + (-1)))]) (st1 := []) (hp1 := (hz F (uA (uA A 92 ((A 92).set a.toInt.toNat ((A 92).getD b.toInt.toNat 0))) 92 (((A 92).set a.toInt.toNat ((A 92).getD b.toInt.toNat 0)).set b.toInt.toNat ((A 92).getD a.toInt.toNat 0))) L)) rfl ?_
    exact K
theorem g_br {d : Nat} {F : Nat → Nat → Int32} {A : Nat → List Int32} {L : Nat → List Int64} {Q : Option Value → sm_H → Prop} {i : Int32} (K : (((F 67 3).toInt ≤ i.toInt → (Q none (hz F A L))) ∧ (i.toInt < (F 67 3).toInt → ((0 ≤ i.toInt ∧ i.toInt < ((A 92).length : Int)) ∧ (wp_E (d + 0) mm224.2.2.2.2.2.2.2.2 2 [some (.ref 67), some (.int (i + 1))] [] (hz F (uA A 92 ((A 92).set i.toInt.toNat i)) L) Q))))) : wp_E (d + 0) mm224.2.2.2.2.2.2.2.2 2 [some (.ref 67), some (.int i)] [] (hz F A L) Q := by
  refine q_n 3 (pc1 := 7) (ls1 := [some (.ref 67), some (.int i)]) (st1 := [.int (F 67 3), .int i]) (hp1 := (hz F A L)) rfl ?_
  refine q_ge (p3 := 10) rfl rfl (fun h => ?_) (fun h => ?_)
  · have K := K.1 h
    exact q_r rfl rfl K
  · have K := K.2 h
    refine q_n 4 (pc1 := 16) (ls1 := [some (.ref 67), some (.int i)]) (st1 := [.int i, .int i, .ref 92]) (hp1 := (hz F A L)) rfl ?_
    refine q_as (k := 92) (l := (A 92)) (p1 := 17) rfl rfl rfl K.1 (hz_s92 _) ?_
    have K := K.2
    refine q_n 2 (pc1 := 2) (ls1 := [some (.ref 67), some (.int (i + 1))]) (st1 := []) (hp1 := (hz F (uA A 92 ((A 92).set i.toInt.toNat i)) L)) rfl ?_
    exact K
theorem g_kr {d : Nat} {F : Nat → Nat → Int32} {A : Nat → List Int32} {L : Nat → List Int64} {Q : Option Value → sm_H → Prop} {i : Int32} (K : (((F 67 3).toInt ≤ i.toInt → (Q none (hz F A L))) ∧ (i.toInt < (F 67 3).toInt → ((0 ≤ i.toInt ∧ i.toInt < ((A 92).length : Int)) ∧ ((0 ≤ i.toInt ∧ i.toInt < ((A 93).length : Int)) ∧ (wp_E (d + 0) mm225.2.2.2.2.2.2.2.2 2 [some (.ref 67), some (.int (i + 1))] [] (hz F (uA A 93 ((A 93).set i.toInt.toNat ((A 92).getD i.toInt.toNat 0))) L) Q)))))) : wp_E (d + 0) mm225.2.2.2.2.2.2.2.2 2 [some (.ref 67), some (.int i)] [] (hz F A L) Q := by
  refine q_n 3 (pc1 := 7) (ls1 := [some (.ref 67), some (.int i)]) (st1 := [.int (F 67 3), .int i]) (hp1 := (hz F A L)) rfl ?_
  refine q_ge (p3 := 10) rfl rfl (fun h => ?_) (fun h => ?_)
  · have K := K.1 h
    exact q_r rfl rfl K
  · have K := K.2 h
    refine q_n 6 (pc1 := 20) (ls1 := [some (.ref 67), some (.int i)]) (st1 := [.int i, .ref 92, .int i, .ref 93]) (hp1 := (hz F A L)) rfl ?_
    refine q_al (k := 92) (l := (A 92)) (p1 := 21) rfl rfl rfl K.1 ?_
    have K := K.2
    refine q_as (k := 93) (l := (A 93)) (p1 := 22) rfl rfl rfl K.1 (hz_s93 _) ?_
    have K := K.2
    refine q_n 2 (pc1 := 2) (ls1 := [some (.ref 67), some (.int (i + 1))]) (st1 := []) (hp1 := (hz F (uA A 93 ((A 93).set i.toInt.toNat ((A 92).getD i.toInt.toNat 0))) L)) rfl ?_
    exact K
