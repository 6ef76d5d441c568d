/-! the run off, piece by piece -/
theorem s_m_has {d : Nat} {F : Nat → Nat → Int32} {A : Nat → List Int32} {L : Nat → List Int64} {Q : Option Value → sm_H → Prop} {x0 : Int32} {x1 : Int32} (K : ((¬ ((x0 >>> (x1 &&& 31)) &&& 1) = 1 → (Q (some (.int 0)) (hz F A L))) ∧ (((x0 >>> (x1 &&& 31)) &&& 1) = 1 → (Q (some (.int 1)) (hz F A L))))) : wp_M (d + 1) 146 [.int x0, .int x1] (hz F A L) Q := by
  refine q_m (E := mm146) rfl ⟨Nat.le_of_ble_eq_true rfl, Nat.le_of_ble_eq_true rfl⟩ ?_
  show wp_E (d + 0) mm146.2.2.2.2.2.2.2.2 0 [some (.int x0), some (.int x1)] [] (hz F A L) Q
  refine q_n 6 (pc1 := 6) (ls1 := [some (.int x0), some (.int x1)]) (st1 := [.int 1, .int ((x0 >>> (x1 &&& 31)) &&& 1)]) (hp1 := (hz F A L)) rfl ?_
  refine q_ne (p3 := 9) rfl rfl (fun h => ?_) (fun h => ?_)
  · have K := K.1 h
    refine q_n 1 (pc1 := 14) (ls1 := [some (.int x0), some (.int x1)]) (st1 := [.int 0]) (hp1 := (hz F A L)) rfl ?_
    exact q_rz rfl (by decide) K
  · have K := K.2 h
    refine q_n 2 (pc1 := 14) (ls1 := [some (.int x0), some (.int x1)]) (st1 := [.int 1]) (hp1 := (hz F A L)) rfl ?_
    exact q_rz rfl (by decide) K
noncomputable def bV (s k : Int32) : Int32 := if (s >>> (k &&& 31) &&& 1) = 1 then 1 else 0
theorem a_m_has {d : Nat} {F : Nat → Nat → Int32} {A : Nat → List Int32} {L : Nat → List Int64} {Q : Option Value → sm_H → Prop} {x0 x1 : Int32} (K : Q (some (.int (bV x0 x1))) (hz F A L)) : wp_M (d + 1) 146 [.int x0, .int x1] (hz F A L) Q :=
  s_m_has ⟨fun h => by rw [bV, if_neg h] at K; exact K, fun h => by rw [bV, if_pos h] at K; exact K⟩
theorem s_m_isGuest {d : Nat} {F : Nat → Nat → Int32} {A : Nat → List Int32} {L : Nat → List Int64} {Q : Option Value → sm_H → Prop} {x0 : Int32} (K : ((x0.toInt < (0 : Int32).toInt → (Q (some (.int 0)) (hz F A L))) ∧ ((0 : Int32).toInt ≤ x0.toInt → (((11 : Int32).toInt < x0.toInt → (Q (some (.int 0)) (hz F A L))) ∧ (x0.toInt ≤ (11 : Int32).toInt → ((0 ≤ (144 : Int32).toInt ∧ (144 : Int32).toInt < ((A 68).length : Int)) ∧ (((bV ((A 68).getD (144 : Int32).toInt.toNat 0) x0) = 0 → (Q (some (.int 0)) (hz F A L))) ∧ (¬ (bV ((A 68).getD (144 : Int32).toInt.toNat 0) x0) = 0 → (Q (some (.int 1)) (hz F A L)))))))))) : wp_M (d + 2) 145 [.ref 67, .int x0] (hz F A L) Q := by
  refine q_m (E := mm145) rfl ⟨Nat.le_of_ble_eq_true rfl, Nat.le_of_ble_eq_true rfl⟩ ?_
  show wp_E (d + 1) mm145.2.2.2.2.2.2.2.2 0 [some (.ref 67), some (.int x0)] [] (hz F A L) Q
  refine q_n 3 (pc1 := 4) (ls1 := [some (.ref 67), some (.int x0)]) (st1 := [.int 11, .int 0, .int x0]) (hp1 := (hz F A L)) rfl ?_
  refine q_c rfl rfl (s_m_in (d := d + 0) ?_)
  refine ⟨fun h => ?_, fun h => ?_⟩
  · have K := K.1 h
    show wp_E _ mm145.2.2.2.2.2.2.2.2 7 [some (.ref 67), some (.int x0)] [.int 0] (hz F A L) _
    refine q_zeq (p3 := 10) rfl rfl (fun _ => ?_) (fun h => absurd h (by decide))
    refine q_n 1 (pc1 := 30) (ls1 := [some (.ref 67), some (.int x0)]) (st1 := [.int 0]) (hp1 := (hz F A L)) rfl ?_
    exact q_rz rfl (by decide) K
  · have K := K.2 h
    refine ⟨fun h => ?_, fun h => ?_⟩
    · have K := K.1 h
      show wp_E _ mm145.2.2.2.2.2.2.2.2 7 [some (.ref 67), some (.int x0)] [.int 0] (hz F A L) _
      refine q_zeq (p3 := 10) rfl rfl (fun _ => ?_) (fun h => absurd h (by decide))
      refine q_n 1 (pc1 := 30) (ls1 := [some (.ref 67), some (.int x0)]) (st1 := [.int 0]) (hp1 := (hz F A L)) rfl ?_
      exact q_rz rfl (by decide) K
    · have K := K.2 h
      show wp_E _ mm145.2.2.2.2.2.2.2.2 7 [some (.ref 67), some (.int x0)] [.int 1] (hz F A L) _
      refine q_zeq (p3 := 10) rfl rfl (fun h => absurd h (by decide)) (fun _ => ?_)
      refine q_n 3 (pc1 := 17) (ls1 := [some (.ref 67), some (.int x0)]) (st1 := [.int 144, .ref 68]) (hp1 := (hz F A L)) rfl ?_
      refine q_al (k := 68) (l := (A 68)) (p1 := 18) rfl rfl rfl K.1 ?_
      have K := K.2
      refine q_n 1 (pc1 := 19) (ls1 := [some (.ref 67), some (.int x0)]) (st1 := [.int x0, .int ((A 68).getD (144 : Int32).toInt.toNat 0)]) (hp1 := (hz F A L)) rfl ?_
      refine q_c rfl rfl (a_m_has (d := d + 0) ?_)
      show wp_E _ mm145.2.2.2.2.2.2.2.2 22 [some (.ref 67), some (.int x0)] [.int (bV ((A 68).getD (144 : Int32).toInt.toNat 0) x0)] (hz F A L) _
      refine q_zeq (p3 := 25) rfl rfl (fun h => ?_) (fun h => ?_)
      · have K := K.1 h
        refine q_n 1 (pc1 := 30) (ls1 := [some (.ref 67), some (.int x0)]) (st1 := [.int 0]) (hp1 := (hz F A L)) rfl ?_
        exact q_rz rfl (by decide) K
      · have K := K.2 h
        refine q_n 2 (pc1 := 30) (ls1 := [some (.ref 67), some (.int x0)]) (st1 := [.int 1]) (hp1 := (hz F A L)) rfl ?_
        exact q_rz rfl (by decide) K
noncomputable def gV (x : Int32) (t : List Int32) : Int32 := if (0 ≤ x.toInt ∧ x.toInt ≤ 11) ∧ ¬ bV (t.getD 144 0) x = 0 then 1 else 0
theorem a_m_isGuest {d : Nat} {F : Nat → Nat → Int32} {A : Nat → List Int32} {L : Nat → List Int64} {Q : Option Value → sm_H → Prop} {x0 : Int32} (hs : (A 68).length = 150) (K : Q (some (.int (gV x0 (A 68)))) (hz F A L)) : wp_M (d + 2) 145 [.ref 67, .int x0] (hz F A L) Q := by
  have e0 : (0 : Int32).toInt = 0 := rfl
  have e11 : (11 : Int32).toInt = 11 := rfl
  have e144 : (144 : Int32).toInt.toNat = 144 := rfl
  refine s_m_isGuest ⟨fun h => ?_, fun h => ⟨fun h2 => ?_, fun h2 => ⟨⟨by decide, by rw [hs]; decide⟩, fun h3 => ?_, fun h3 => ?_⟩⟩⟩
  · rw [gV, if_neg (by omega)] at K; exact K
  · rw [gV, if_neg (by omega)] at K; exact K
  · rw [gV, if_neg (fun z => z.2 h3)] at K; exact K
  · rw [gV, if_pos ⟨by omega, h3⟩] at K; exact K
theorem s_m_placeOf {d : Nat} {F : Nat → Nat → Int32} {A : Nat → List Int32} {L : Nat → List Int64} {Q : Option Value → sm_H → Prop} {x0 : Int32} {x1 : Int32} (K : ((0 ≤ ((72 + (6 * x0)) + x1).toInt ∧ ((72 + (6 * x0)) + x1).toInt < ((A 68).length : Int)) ∧ (Q (some (.int ((A 68).getD ((72 + (6 * x0)) + x1).toInt.toNat 0))) (hz F A L)))) : wp_M (d + 1) 192 [.ref 67, .int x0, .int x1] (hz F A L) Q := by
  refine q_m (E := mm192) rfl ⟨Nat.le_of_ble_eq_true rfl, Nat.le_of_ble_eq_true rfl⟩ ?_
  show wp_E (d + 0) mm192.2.2.2.2.2.2.2.2 0 [some (.ref 67), some (.int x0), some (.int x1)] [] (hz F A L) Q
  refine q_n 9 (pc1 := 13) (ls1 := [some (.ref 67), some (.int x0), some (.int x1)]) (st1 := [.int ((72 + (6 * x0)) + x1), .ref 68]) (hp1 := (hz F A L)) rfl ?_
  refine q_al (k := 68) (l := (A 68)) (p1 := 14) rfl rfl rfl K.1 ?_
  have K := K.2
  exact q_ri rfl K
theorem s_m_allMeasures {d : Nat} {F : Nat → Nat → Int32} {A : Nat → List Int32} {L : Nat → List Int64} {Q : Option Value → sm_H → Prop} (K : (Q (some (.int ((1 <<< ((F 67 3) &&& 31)) - 1))) (hz F A L))) : wp_M (d + 1) 205 [.ref 67] (hz F A L) Q := by
  refine q_m (E := mm205) rfl ⟨Nat.le_of_ble_eq_true rfl, Nat.le_of_ble_eq_true rfl⟩ ?_
  show wp_E (d + 0) mm205.2.2.2.2.2.2.2.2 0 [some (.ref 67)] [] (hz F A L) Q
  refine q_n 6 (pc1 := 8) (ls1 := [some (.ref 67)]) (st1 := [.int ((1 <<< ((F 67 3) &&& 31)) - 1)]) (hp1 := (hz F A L)) rfl ?_
  exact q_ri rfl K
theorem g_hi0 {d : Nat} {F : Nat → Nat → Int32} {A : Nat → List Int32} {L : Nat → List Int64} {Q : Option Value → sm_H → Prop} {x y : Int32} (K : (wp_E (d + 1) mm191.2.2.2.2.2.2.2.2 5 [some (.ref 67), some (.int x), some (.int y), some (.int (-1)), some (.int 0)] [] (hz F A L) Q)) : wp_E (d + 1) mm191.2.2.2.2.2.2.2.2 0 [some (.ref 67), some (.int x), some (.int y), none, none] [] (hz F A L) Q := by
  refine q_n 4 (pc1 := 5) (ls1 := [some (.ref 67), some (.int x), some (.int y), some (.int (-1)), some (.int 0)]) (st1 := []) (hp1 := (hz F A L)) rfl ?_
  exact K
theorem g_hi1 {d : Nat} {F : Nat → Nat → Int32} {A : Nat → List Int32} {L : Nat → List Int64} {Q : Option Value → sm_H → Prop} {x y b i : Int32} (K : (((F 67 3).toInt ≤ i.toInt → (Q (some (.int b)) (hz F A L))) ∧ (i.toInt < (F 67 3).toInt → (((bV y i) = 0 → (wp_E (d + 1) mm191.2.2.2.2.2.2.2.2 5 [some (.ref 67), some (.int x), some (.int y), some (.int b), some (.int (i + 1))] [] (hz F A L) Q)) ∧ (¬ (bV y i) = 0 → ((b = (-1) → (wp_E (d + 1) mm191.2.2.2.2.2.2.2.2 5 [some (.ref 67), some (.int x), some (.int y), some (.int i), some (.int (i + 1))] [] (hz F A L) Q)) ∧ (¬ b = (-1) → ((0 ≤ ((72 + (6 * x)) + i).toInt ∧ ((72 + (6 * x)) + i).toInt < ((A 68).length : Int)) ∧ ((0 ≤ ((72 + (6 * x)) + b).toInt ∧ ((72 + (6 * x)) + b).toInt < ((A 68).length : Int)) ∧ ((((A 68).getD ((72 + (6 * x)) + b).toInt.toNat 0).toInt ≤ ((A 68).getD ((72 + (6 * x)) + i).toInt.toNat 0).toInt → (wp_E (d + 1) mm191.2.2.2.2.2.2.2.2 5 [some (.ref 67), some (.int x), some (.int y), some (.int b), some (.int (i + 1))] [] (hz F A L) Q)) ∧ (((A 68).getD ((72 + (6 * x)) + i).toInt.toNat 0).toInt < ((A 68).getD ((72 + (6 * x)) + b).toInt.toNat 0).toInt → (wp_E (d + 1) mm191.2.2.2.2.2.2.2.2 5 [some (.ref 67), some (.int x), some (.int y), some (.int i), some (.int (i + 1))] [] (hz F A L) Q)))))))))))) : wp_E (d + 1) mm191.2.2.2.2.2.2.2.2 5 [some (.ref 67), some (.int x), some (.int y), some (.int b), some (.int i)] [] (hz F A L) Q := by
  refine q_n 3 (pc1 := 11) (ls1 := [some (.ref 67), some (.int x), some (.int y), some (.int b), some (.int i)]) (st1 := [.int (F 67 3), .int i]) (hp1 := (hz F A L)) rfl ?_
  refine q_ge (p3 := 14) rfl rfl (fun h => ?_) (fun h => ?_)
  · have K := K.1 h
    refine q_n 1 (pc1 := 54) (ls1 := [some (.ref 67), some (.int x), some (.int y), some (.int b), some (.int i)]) (st1 := [.int b]) (hp1 := (hz F A L)) rfl ?_
    exact q_ri rfl K
  · have K := K.2 h
    refine q_n 2 (pc1 := 17) (ls1 := [some (.ref 67), some (.int x), some (.int y), some (.int b), some (.int i)]) (st1 := [.int i, .int y]) (hp1 := (hz F A L)) rfl ?_
    refine q_c rfl rfl (a_m_has (d := d + 0) ?_)
    show wp_E _ mm191.2.2.2.2.2.2.2.2 20 [some (.ref 67), some (.int x), some (.int y), some (.int b), some (.int i)] [.int (bV y i)] (hz F A L) _
    refine q_zeq (p3 := 23) rfl rfl (fun h => ?_) (fun h => ?_)
    · have K := K.1 h
      refine q_n 2 (pc1 := 5) (ls1 := [some (.ref 67), some (.int x), some (.int y), some (.int b), some (.int (i + 1))]) (st1 := []) (hp1 := (hz F A L)) rfl ?_
      exact K
    · have K := K.2 h
      refine q_n 2 (pc1 := 25) (ls1 := [some (.ref 67), some (.int x), some (.int y), some (.int b), some (.int i)]) (st1 := [.int (-1), .int b]) (hp1 := (hz F A L)) rfl ?_
      refine q_eq (p3 := 28) rfl rfl (fun h => ?_) (fun h => ?_)
      · have K := K.1 h
        refine q_n 4 (pc1 := 5) (ls1 := [some (.ref 67), some (.int x), some (.int y), some (.int i), some (.int (i + 1))]) (st1 := []) (hp1 := (hz F A L)) rfl ?_
        exact K
      · have K := K.2 h
        refine q_n 3 (pc1 := 32) (ls1 := [some (.ref 67), some (.int x), some (.int y), some (.int b), some (.int i)]) (st1 := [.int i, .int x, .ref 67]) (hp1 := (hz F A L)) rfl ?_
        refine q_c rfl rfl (s_m_placeOf (d := d + 0) ?_)
        refine ⟨K.1, ?_⟩
        have K := K.2
        show wp_E _ mm191.2.2.2.2.2.2.2.2 35 [some (.ref 67), some (.int x), some (.int y), some (.int b), some (.int i)] [.int ((A 68).getD ((72 + (6 * x)) + i).toInt.toNat 0)] (hz F A L) _
        refine q_n 3 (pc1 := 38) (ls1 := [some (.ref 67), some (.int x), some (.int y), some (.int b), some (.int i)]) (st1 := [.int b, .int x, .ref 67, .int ((A 68).getD ((72 + (6 * x)) + i).toInt.toNat 0)]) (hp1 := (hz F A L)) rfl ?_
        refine q_c rfl rfl (s_m_placeOf (d := d + 0) ?_)
        refine ⟨K.1, ?_⟩
        have K := K.2
        show wp_E _ mm191.2.2.2.2.2.2.2.2 41 [some (.ref 67), some (.int x), some (.int y), some (.int b), some (.int i)] [.int ((A 68).getD ((72 + (6 * x)) + b).toInt.toNat 0), .int ((A 68).getD ((72 + (6 * x)) + i).toInt.toNat 0)] (hz F A L) _
        refine q_ge (p3 := 44) rfl rfl (fun h => ?_) (fun h => ?_)
        · have K := K.1 h
          refine q_n 2 (pc1 := 5) (ls1 := [some (.ref 67), some (.int x), some (.int y), some (.int b), some (.int (i + 1))]) (st1 := []) (hp1 := (hz F A L)) rfl ?_
          exact K
        · have K := K.2 h
          refine q_n 4 (pc1 := 5) (ls1 := [some (.ref 67), some (.int x), some (.int y), some (.int i), some (.int (i + 1))]) (st1 := []) (hp1 := (hz F A L)) rfl ?_
          exact K
theorem g_lf0 {d : Nat} {F : Nat → Nat → Int32} {A : Nat → List Int32} {L : Nat → List Int64} {Q : Option Value → sm_H → Prop} {x y i : Int32} (K : (((6 : Int32).toInt ≤ i.toInt → (wp_E (d + 2) mm206.2.2.2.2.2.2.2.2 23 [some (.ref 67), some (.int x), some (.int y), some (.int 0), none] [] (hz F A L) Q)) ∧ (i.toInt < (6 : Int32).toInt → ((0 ≤ i.toInt ∧ i.toInt < ((A 87).length : Int)) ∧ (wp_E (d + 2) mm206.2.2.2.2.2.2.2.2 2 [some (.ref 67), some (.int x), some (.int y), some (.int (i + 1)), none] [] (hz F (uA A 87 ((A 87).set i.toInt.toNat 0)) L) Q))))) : wp_E (d + 2) mm206.2.2.2.2.2.2.2.2 2 [some (.ref 67), some (.int x), some (.int y), some (.int i), none] [] (hz F A L) Q := by
  refine q_n 2 (pc1 := 5) (ls1 := [some (.ref 67), some (.int x), some (.int y), some (.int i), none]) (st1 := [.int 6, .int i]) (hp1 := (hz F A L)) rfl ?_
  refine q_ge (p3 := 8) rfl rfl (fun h => ?_) (fun h => ?_)
  · have K := K.1 h
    refine q_n 2 (pc1 := 23) (ls1 := [some (.ref 67), some (.int x), some (.int y), some (.int 0), none]) (st1 := []) (hp1 := (hz F A L)) rfl ?_
    exact K
  · have K := K.2 h
    refine q_n 4 (pc1 := 14) (ls1 := [some (.ref 67), some (.int x), some (.int y), some (.int i), none]) (st1 := [.int 0, .int i, .ref 87]) (hp1 := (hz F A L)) rfl ?_
    refine q_as (k := 87) (l := (A 87)) (p1 := 15) rfl rfl rfl K.1 (hz_s87 _) ?_
    have K := K.2
    refine q_n 2 (pc1 := 2) (ls1 := [some (.ref 67), some (.int x), some (.int y), some (.int (i + 1)), none]) (st1 := []) (hp1 := (hz F (uA A 87 ((A 87).set i.toInt.toNat 0)) L)) rfl ?_
    exact K
theorem g_lf1 {d : Nat} {F : Nat → Nat → Int32} {A : Nat → List Int32} {L : Nat → List Int64} {Q : Option Value → sm_H → Prop} {x y i : Int32} {v : Option Value} (K : (((12 : Int32).toInt ≤ i.toInt → (Q none (hz F A L))) ∧ (i.toInt < (12 : Int32).toInt → ((A 68).length = 150 ∧ (((gV i (A 68)) = 0 → (wp_E (d + 2) mm206.2.2.2.2.2.2.2.2 23 [some (.ref 67), some (.int x), some (.int y), some (.int (i + 1)), v] [] (hz F A L) Q)) ∧ (¬ (gV i (A 68)) = 0 → (((bV y i) = 0 → (wp_M (d + 2) 191 [.ref 67, .int i, .int x] (hz F A L) (fun w hp1 => wp_E (d + 2) mm206.2.2.2.2.2.2.2.2 54 [some (.ref 67), some (.int x), some (.int y), some (.int i), v] (w.toList ++ []) hp1 Q))) ∧ (¬ (bV y i) = 0 → (wp_E (d + 2) mm206.2.2.2.2.2.2.2.2 23 [some (.ref 67), some (.int x), some (.int y), some (.int (i + 1)), v] [] (hz F A L) Q))))))))) : wp_E (d + 2) mm206.2.2.2.2.2.2.2.2 23 [some (.ref 67), some (.int x), some (.int y), some (.int i), v] [] (hz F A L) Q := by
  refine q_n 2 (pc1 := 26) (ls1 := [some (.ref 67), some (.int x), some (.int y), some (.int i), v]) (st1 := [.int 12, .int i]) (hp1 := (hz F A L)) rfl ?_
  refine q_ge (p3 := 29) rfl rfl (fun h => ?_) (fun h => ?_)
  · have K := K.1 h
    exact q_r rfl rfl K
  · have K := K.2 h
    refine q_n 2 (pc1 := 31) (ls1 := [some (.ref 67), some (.int x), some (.int y), some (.int i), v]) (st1 := [.int i, .ref 67]) (hp1 := (hz F A L)) rfl ?_
    refine q_c rfl rfl (a_m_isGuest (d := d + 0) K.1 ?_)
    have K := K.2
    show wp_E _ mm206.2.2.2.2.2.2.2.2 34 [some (.ref 67), some (.int x), some (.int y), some (.int i), v] [.int (gV i (A 68))] (hz F A L) _
    refine q_zeq (p3 := 37) rfl rfl (fun h => ?_) (fun h => ?_)
    · have K := K.1 h
      refine q_n 2 (pc1 := 23) (ls1 := [some (.ref 67), some (.int x), some (.int y), some (.int (i + 1)), v]) (st1 := []) (hp1 := (hz F A L)) rfl ?_
      exact K
    · have K := K.2 h
      refine q_n 2 (pc1 := 39) (ls1 := [some (.ref 67), some (.int x), some (.int y), some (.int i), v]) (st1 := [.int i, .int y]) (hp1 := (hz F A L)) rfl ?_
      refine q_c rfl rfl (a_m_has (d := d + 1) ?_)
      show wp_E _ mm206.2.2.2.2.2.2.2.2 42 [some (.ref 67), some (.int x), some (.int y), some (.int i), v] [.int (bV y i)] (hz F A L) _
      refine q_zeq (p3 := 45) rfl rfl (fun h => ?_) (fun h => ?_)
      · have K := K.1 h
        refine q_n 3 (pc1 := 51) (ls1 := [some (.ref 67), some (.int x), some (.int y), some (.int i), v]) (st1 := [.int x, .int i, .ref 67]) (hp1 := (hz F A L)) rfl ?_
        exact q_c rfl rfl K
      · have K := K.2 h
        refine q_n 3 (pc1 := 23) (ls1 := [some (.ref 67), some (.int x), some (.int y), some (.int (i + 1)), v]) (st1 := []) (hp1 := (hz F A L)) rfl ?_
        exact K
theorem g_lf2 {d : Nat} {F : Nat → Nat → Int32} {A : Nat → List Int32} {L : Nat → List Int64} {Q : Option Value → sm_H → Prop} {x y i r : Int32} {v : Option Value} (K : ((0 ≤ r.toInt ∧ r.toInt < ((A 87).length : Int)) ∧ ((0 ≤ (12 + i).toInt ∧ (12 + i).toInt < ((A 68).length : Int)) ∧ ((0 ≤ r.toInt ∧ r.toInt < ((A 87).length : Int)) ∧ (wp_E (d + 2) mm206.2.2.2.2.2.2.2.2 23 [some (.ref 67), some (.int x), some (.int y), some (.int (i + 1)), some (.int r)] [] (hz F (uA A 87 ((A 87).set r.toInt.toNat (((A 87).getD r.toInt.toNat 0) + ((A 68).getD (12 + i).toInt.toNat 0)))) L) Q))))) : wp_E (d + 2) mm206.2.2.2.2.2.2.2.2 54 [some (.ref 67), some (.int x), some (.int y), some (.int i), v] [.int r] (hz F A L) Q := by
  refine q_n 7 (pc1 := 68) (ls1 := [some (.ref 67), some (.int x), some (.int y), some (.int i), some (.int r)]) (st1 := [.int r, .ref 87, .int r, .ref 87]) (hp1 := (hz F A L)) rfl ?_
  refine q_al (k := 87) (l := (A 87)) (p1 := 69) rfl rfl rfl K.1 ?_
  have K := K.2
  refine q_n 5 (pc1 := 77) (ls1 := [some (.ref 67), some (.int x), some (.int y), some (.int i), some (.int r)]) (st1 := [.int (12 + i), .ref 68, .int ((A 87).getD r.toInt.toNat 0), .int r, .ref 87]) (hp1 := (hz F A L)) rfl ?_
  refine q_al (k := 68) (l := (A 68)) (p1 := 78) rfl rfl rfl K.1 ?_
  have K := K.2
  refine q_n 1 (pc1 := 79) (ls1 := [some (.ref 67), some (.int x), some (.int y), some (.int i), some (.int r)]) (st1 := [.int (((A 87).getD r.toInt.toNat 0) + ((A 68).getD (12 + i).toInt.toNat 0)), .int r, .ref 87]) (hp1 := (hz F A L)) rfl ?_
  refine q_as (k := 87) (l := (A 87)) (p1 := 80) rfl rfl rfl K.1 (hz_s87 _) ?_
  have K := K.2
  refine q_n 2 (pc1 := 23) (ls1 := [some (.ref 67), some (.int x), some (.int y), some (.int (i + 1)), some (.int r)]) (st1 := []) (hp1 := (hz F (uA A 87 ((A 87).set r.toInt.toNat (((A 87).getD r.toInt.toNat 0) + ((A 68).getD (12 + i).toInt.toNat 0)))) L)) rfl ?_
  exact K
theorem g_ro0 {d : Nat} {F : Nat → Nat → Int32} {A : Nat → List Int32} {L : Nat → List Int64} {Q : Option Value → sm_H → Prop} (K : (wp_E (d + 3) mm210.2.2.2.2.2.2.2.2 7 [some (.ref 67), some (.int ((1 <<< ((F 67 3) &&& 31)) - 1)), some (.int 0), none, none] [] (hz F A L) Q)) : wp_E (d + 3) mm210.2.2.2.2.2.2.2.2 0 [some (.ref 67), none, none, none, none] [] (hz F A L) Q := by
  refine q_n 1 (pc1 := 1) (ls1 := [some (.ref 67), none, none, none, none]) (st1 := [.ref 67]) (hp1 := (hz F A L)) rfl ?_
  refine q_c rfl rfl (s_m_allMeasures (d := d + 2) ?_)
  show wp_E _ mm210.2.2.2.2.2.2.2.2 4 [some (.ref 67), none, none, none, none] [.int ((1 <<< ((F 67 3) &&& 31)) - 1)] (hz F A L) _
  refine q_n 3 (pc1 := 7) (ls1 := [some (.ref 67), some (.int ((1 <<< ((F 67 3) &&& 31)) - 1)), some (.int 0), none, none]) (st1 := []) (hp1 := (hz F A L)) rfl ?_
  exact K
theorem g_ro1 {d : Nat} {F : Nat → Nat → Int32} {A : Nat → List Int32} {L : Nat → List Int64} {Q : Option Value → sm_H → Prop} {x k : Int32} {u v : Option Value} (K : ((((F 67 3) - 1).toInt ≤ k.toInt → (wp_E (d + 3) mm210.2.2.2.2.2.2.2.2 99 [some (.ref 67), some (.int x), some (.int 0), u, v] [] (hz F A L) Q)) ∧ (k.toInt < ((F 67 3) - 1).toInt → (wp_M (d + 3) 206 [.ref 67, .int x, .int 0] (hz F A L) (fun w hp1 => wp_E (d + 3) mm210.2.2.2.2.2.2.2.2 23 [some (.ref 67), some (.int x), some (.int k), u, v] (w.toList ++ []) hp1 Q))))) : wp_E (d + 3) mm210.2.2.2.2.2.2.2.2 7 [some (.ref 67), some (.int x), some (.int k), u, v] [] (hz F A L) Q := by
  refine q_n 5 (pc1 := 14) (ls1 := [some (.ref 67), some (.int x), some (.int k), u, v]) (st1 := [.int ((F 67 3) - 1), .int k]) (hp1 := (hz F A L)) rfl ?_
  refine q_ge (p3 := 17) rfl rfl (fun h => ?_) (fun h => ?_)
  · have K := K.1 h
    refine q_n 2 (pc1 := 99) (ls1 := [some (.ref 67), some (.int x), some (.int 0), u, v]) (st1 := []) (hp1 := (hz F A L)) rfl ?_
    exact K
  · have K := K.2 h
    refine q_n 3 (pc1 := 20) (ls1 := [some (.ref 67), some (.int x), some (.int k), u, v]) (st1 := [.int 0, .int x, .ref 67]) (hp1 := (hz F A L)) rfl ?_
    exact q_c rfl rfl K
theorem g_ro2 {d : Nat} {F : Nat → Nat → Int32} {A : Nat → List Int32} {L : Nat → List Int64} {Q : Option Value → sm_H → Prop} {x k : Int32} {u v : Option Value} (K : (wp_E (d + 3) mm210.2.2.2.2.2.2.2.2 28 [some (.ref 67), some (.int x), some (.int k), some (.int (-1)), some (.int 0)] [] (hz F A L) Q)) : wp_E (d + 3) mm210.2.2.2.2.2.2.2.2 23 [some (.ref 67), some (.int x), some (.int k), u, v] [] (hz F A L) Q := by
  refine q_n 4 (pc1 := 28) (ls1 := [some (.ref 67), some (.int x), some (.int k), some (.int (-1)), some (.int 0)]) (st1 := []) (hp1 := (hz F A L)) rfl ?_
  exact K
theorem g_ro3 {d : Nat} {F : Nat → Nat → Int32} {A : Nat → List Int32} {L : Nat → List Int64} {Q : Option Value → sm_H → Prop} {x k o i : Int32} (K : (((F 67 3).toInt ≤ i.toInt → ((0 ≤ k.toInt ∧ k.toInt < ((A 89).length : Int)) ∧ (wp_E (d + 3) mm210.2.2.2.2.2.2.2.2 7 [some (.ref 67), some (.int (x &&& ((1 <<< (o &&& 31)) ^^^ (-1)))), some (.int (k + 1)), some (.int o), some (.int i)] [] (hz F (uA A 89 ((A 89).set k.toInt.toNat o)) L) Q))) ∧ (i.toInt < (F 67 3).toInt → (((bV x i) = 0 → (wp_E (d + 3) mm210.2.2.2.2.2.2.2.2 28 [some (.ref 67), some (.int x), some (.int k), some (.int o), some (.int (i + 1))] [] (hz F A L) Q)) ∧ (¬ (bV x i) = 0 → ((o = (-1) → (wp_E (d + 3) mm210.2.2.2.2.2.2.2.2 28 [some (.ref 67), some (.int x), some (.int k), some (.int i), some (.int (i + 1))] [] (hz F A L) Q)) ∧ (¬ o = (-1) → ((0 ≤ i.toInt ∧ i.toInt < ((A 87).length : Int)) ∧ ((0 ≤ o.toInt ∧ o.toInt < ((A 87).length : Int)) ∧ ((((A 87).getD o.toInt.toNat 0).toInt < ((A 87).getD i.toInt.toNat 0).toInt → (wp_E (d + 3) mm210.2.2.2.2.2.2.2.2 28 [some (.ref 67), some (.int x), some (.int k), some (.int o), some (.int (i + 1))] [] (hz F A L) Q)) ∧ (((A 87).getD i.toInt.toNat 0).toInt ≤ ((A 87).getD o.toInt.toNat 0).toInt → (wp_E (d + 3) mm210.2.2.2.2.2.2.2.2 28 [some (.ref 67), some (.int x), some (.int k), some (.int i), some (.int (i + 1))] [] (hz F A L) Q)))))))))))) : wp_E (d + 3) mm210.2.2.2.2.2.2.2.2 28 [some (.ref 67), some (.int x), some (.int k), some (.int o), some (.int i)] [] (hz F A L) Q := by
  refine q_n 3 (pc1 := 34) (ls1 := [some (.ref 67), some (.int x), some (.int k), some (.int o), some (.int i)]) (st1 := [.int (F 67 3), .int i]) (hp1 := (hz F A L)) rfl ?_
  refine q_ge (p3 := 37) rfl rfl (fun h => ?_) (fun h => ?_)
  · have K := K.1 h
    refine q_n 4 (pc1 := 82) (ls1 := [some (.ref 67), some (.int x), some (.int k), some (.int o), some (.int i)]) (st1 := [.int o, .int k, .ref 89]) (hp1 := (hz F A L)) rfl ?_
    refine q_as (k := 89) (l := (A 89)) (p1 := 83) rfl rfl rfl K.1 (hz_s89 _) ?_
    have K := K.2
    refine q_n 10 (pc1 := 7) (ls1 := [some (.ref 67), some (.int (x &&& ((1 <<< (o &&& 31)) ^^^ (-1)))), some (.int (k + 1)), some (.int o), some (.int i)]) (st1 := []) (hp1 := (hz F (uA A 89 ((A 89).set k.toInt.toNat o)) L)) rfl ?_
    exact K
  · have K := K.2 h
    refine q_n 2 (pc1 := 40) (ls1 := [some (.ref 67), some (.int x), some (.int k), some (.int o), some (.int i)]) (st1 := [.int i, .int x]) (hp1 := (hz F A L)) rfl ?_
    refine q_c rfl rfl (a_m_has (d := d + 2) ?_)
    show wp_E _ mm210.2.2.2.2.2.2.2.2 43 [some (.ref 67), some (.int x), some (.int k), some (.int o), some (.int i)] [.int (bV x i)] (hz F A L) _
    refine q_zeq (p3 := 46) rfl rfl (fun h => ?_) (fun h => ?_)
    · have K := K.1 h
      refine q_n 2 (pc1 := 28) (ls1 := [some (.ref 67), some (.int x), some (.int k), some (.int o), some (.int (i + 1))]) (st1 := []) (hp1 := (hz F A L)) rfl ?_
      exact K
    · have K := K.2 h
      refine q_n 2 (pc1 := 48) (ls1 := [some (.ref 67), some (.int x), some (.int k), some (.int o), some (.int i)]) (st1 := [.int (-1), .int o]) (hp1 := (hz F A L)) rfl ?_
      refine q_eq (p3 := 51) rfl rfl (fun h => ?_) (fun h => ?_)
      · have K := K.1 h
        refine q_n 4 (pc1 := 28) (ls1 := [some (.ref 67), some (.int x), some (.int k), some (.int i), some (.int (i + 1))]) (st1 := []) (hp1 := (hz F A L)) rfl ?_
        exact K
      · have K := K.2 h
        refine q_n 3 (pc1 := 57) (ls1 := [some (.ref 67), some (.int x), some (.int k), some (.int o), some (.int i)]) (st1 := [.int i, .ref 87]) (hp1 := (hz F A L)) rfl ?_
        refine q_al (k := 87) (l := (A 87)) (p1 := 58) rfl rfl rfl K.1 ?_
        have K := K.2
        refine q_n 3 (pc1 := 63) (ls1 := [some (.ref 67), some (.int x), some (.int k), some (.int o), some (.int i)]) (st1 := [.int o, .ref 87, .int ((A 87).getD i.toInt.toNat 0)]) (hp1 := (hz F A L)) rfl ?_
        refine q_al (k := 87) (l := (A 87)) (p1 := 64) rfl rfl rfl K.1 ?_
        have K := K.2
        refine q_gt (p3 := 67) rfl rfl (fun h => ?_) (fun h => ?_)
        · have K := K.1 h
          refine q_n 2 (pc1 := 28) (ls1 := [some (.ref 67), some (.int x), some (.int k), some (.int o), some (.int (i + 1))]) (st1 := []) (hp1 := (hz F A L)) rfl ?_
          exact K
        · have K := K.2 h
          refine q_n 4 (pc1 := 28) (ls1 := [some (.ref 67), some (.int x), some (.int k), some (.int i), some (.int (i + 1))]) (st1 := []) (hp1 := (hz F A L)) rfl ?_
          exact K
theorem g_ro4 {d : Nat} {F : Nat → Nat → Int32} {A : Nat → List Int32} {L : Nat → List Int64} {Q : Option Value → sm_H → Prop} {x i : Int32} {u v : Option Value} (K : ((¬ (bV x i) = 0 → (Q (some (.int i)) (hz F A L))) ∧ ((bV x i) = 0 → (wp_E (d + 3) mm210.2.2.2.2.2.2.2.2 99 [some (.ref 67), some (.int x), some (.int (i + 1)), u, v] [] (hz F A L) Q)))) : wp_E (d + 3) mm210.2.2.2.2.2.2.2.2 99 [some (.ref 67), some (.int x), some (.int i), u, v] [] (hz F A L) Q := by
  refine q_n 2 (pc1 := 101) (ls1 := [some (.ref 67), some (.int x), some (.int i), u, v]) (st1 := [.int i, .int x]) (hp1 := (hz F A L)) rfl ?_
  refine q_c rfl rfl (a_m_has (d := d + 2) ?_)
  show wp_E _ mm210.2.2.2.2.2.2.2.2 104 [some (.ref 67), some (.int x), some (.int i), u, v] [.int (bV x i)] (hz F A L) _
  refine q_zne (p3 := 107) rfl rfl (fun h => ?_) (fun h => ?_)
  · have K := K.1 h
    refine q_n 1 (pc1 := 115) (ls1 := [some (.ref 67), some (.int x), some (.int i), u, v]) (st1 := [.int i]) (hp1 := (hz F A L)) rfl ?_
    exact q_ri rfl K
  · have K := K.2 h
    refine q_n 5 (pc1 := 99) (ls1 := [some (.ref 67), some (.int x), some (.int (i + 1)), u, v]) (st1 := []) (hp1 := (hz F A L)) rfl ?_
    exact K
