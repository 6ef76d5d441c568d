/-! a rule, piece by piece -/
theorem g_rul0 {d : Nat} {F : Nat → Nat → Int32} {A : Nat → List Int32} {L : Nat → List Int64} {Q : Option Value → sm_H → Prop} (K : ((0 ≤ (F 67 9).toInt ∧ (F 67 10).toInt ≤ ((A 71).length : Int)) ∧ (((hV (F 67 9) (F 67 10) (A 71)) = 101 → (wp_E (d + 7) mm152.2.2.2.2.2.2.2.2 39 [some (.ref 67), some (.int (hV (F 67 9) (F 67 10) (A 71)))] [] (hz F A L) Q)) ∧ (¬ (hV (F 67 9) (F 67 10) (A 71)) = 101 → (((hV (F 67 9) (F 67 10) (A 71)) = 107 → (wp_E (d + 7) mm152.2.2.2.2.2.2.2.2 39 [some (.ref 67), some (.int (hV (F 67 9) (F 67 10) (A 71)))] [] (hz F A L) Q)) ∧ (¬ (hV (F 67 9) (F 67 10) (A 71)) = 107 → (((hV (F 67 9) (F 67 10) (A 71)) = 100 → (wp_E (d + 7) mm152.2.2.2.2.2.2.2.2 39 [some (.ref 67), some (.int (hV (F 67 9) (F 67 10) (A 71)))] [] (hz F A L) Q)) ∧ (¬ (hV (F 67 9) (F 67 10) (A 71)) = 100 → (((hV (F 67 9) (F 67 10) (A 71)) = 120 → (wp_E (d + 7) mm152.2.2.2.2.2.2.2.2 39 [some (.ref 67), some (.int (hV (F 67 9) (F 67 10) (A 71)))] [] (hz F A L) Q)) ∧ (¬ (hV (F 67 9) (F 67 10) (A 71)) = 120 → (Q (some (.int 0)) (hz (uF F 67 11 (((-1000) * (1 : Int32)) - (F 67 9))) A L)))))))))))) : wp_E (d + 7) mm152.2.2.2.2.2.2.2.2 0 [some (.ref 67), none] [] (hz F A L) Q := by
  refine q_n 1 (pc1 := 1) (ls1 := [some (.ref 67), none]) (st1 := [.ref 67]) (hp1 := (hz F A L)) rfl ?_
  refine q_c rfl rfl (a_m_here (d := d + 6) K.1 ?_)
  have K := K.2
  show wp_E _ mm152.2.2.2.2.2.2.2.2 4 [some (.ref 67), none] [.int (hV (F 67 9) (F 67 10) (A 71))] (hz F A L) _
  refine q_n 3 (pc1 := 8) (ls1 := [some (.ref 67), some (.int (hV (F 67 9) (F 67 10) (A 71)))]) (st1 := [.int 101, .int (hV (F 67 9) (F 67 10) (A 71))]) (hp1 := (hz F A L)) rfl ?_
  refine q_eq (p3 := 11) rfl rfl (fun h => ?_) (fun h => ?_)
  · have K := K.1 h
    exact K
  · have K := K.2 h
    refine q_n 2 (pc1 := 14) (ls1 := [some (.ref 67), some (.int (hV (F 67 9) (F 67 10) (A 71)))]) (st1 := [.int 107, .int (hV (F 67 9) (F 67 10) (A 71))]) (hp1 := (hz F A L)) rfl ?_
    refine q_eq (p3 := 17) rfl rfl (fun h => ?_) (fun h => ?_)
    · have K := K.1 h
      exact K
    · have K := K.2 h
      refine q_n 2 (pc1 := 20) (ls1 := [some (.ref 67), some (.int (hV (F 67 9) (F 67 10) (A 71)))]) (st1 := [.int 100, .int (hV (F 67 9) (F 67 10) (A 71))]) (hp1 := (hz F A L)) rfl ?_
      refine q_eq (p3 := 23) rfl rfl (fun h => ?_) (fun h => ?_)
      · have K := K.1 h
        exact K
      · have K := K.2 h
        refine q_n 2 (pc1 := 26) (ls1 := [some (.ref 67), some (.int (hV (F 67 9) (F 67 10) (A 71)))]) (st1 := [.int 120, .int (hV (F 67 9) (F 67 10) (A 71))]) (hp1 := (hz F A L)) rfl ?_
        refine q_eq (p3 := 29) rfl rfl (fun h => ?_) (fun h => ?_)
        · have K := K.1 h
          exact K
        · have K := K.2 h
          refine q_n 4 (pc1 := 35) (ls1 := [some (.ref 67), some (.int (hV (F 67 9) (F 67 10) (A 71)))]) (st1 := [.int (F 67 9), .int 1, .ref 67]) (hp1 := (hz F A L)) rfl ?_
          refine q_c rfl rfl (s_m_wrongAt (d := d + 6) ?_)
          show wp_E _ mm152.2.2.2.2.2.2.2.2 38 [some (.ref 67), some (.int (hV (F 67 9) (F 67 10) (A 71)))] [.int 0] (hz (uF F 67 11 (((-1000) * (1 : Int32)) - (F 67 9))) A L) _
          exact q_rz rfl (by decide) K
theorem g_rulA {d : Nat} {F : Nat → Nat → Int32} {A : Nat → List Int32} {L : Nat → List Int64} {Q : Option Value → sm_H → Prop} {x : Int32} (K : ((¬ (F 67 16) = 16 → ((0 ≤ (F 67 16).toInt ∧ (F 67 16).toInt < ((A 74).length : Int)) ∧ ((0 ≤ (F 67 16).toInt ∧ (F 67 16).toInt < ((A 75).length : Int)) ∧ ((x = 120 → (wp_E (d + 7) mm152.2.2.2.2.2.2.2.2 116 [some (.ref 67), some (.int x)] [] (hz (uF (uF (uF F 67 9 ((F 67 9) + 1)) 67 13 0) 67 15 0) (uA (uA A 74 ((A 74).set (F 67 16).toInt.toNat x)) 75 ((A 75).set (F 67 16).toInt.toNat (F 67 14))) L) Q)) ∧ (¬ x = 120 → (wp_M (d + 7) 155 [.ref 67] (hz (uF (uF (uF F 67 9 ((F 67 9) + 1)) 67 13 0) 67 15 0) (uA (uA A 74 ((A 74).set (F 67 16).toInt.toNat x)) 75 ((A 75).set (F 67 16).toInt.toNat (F 67 14))) L) (fun w hp1 => wp_E (d + 7) mm152.2.2.2.2.2.2.2.2 111 [some (.ref 67), some (.int x)] (w.toList ++ []) hp1 Q))))))) ∧ ((F 67 16) = 16 → (Q (some (.int 0)) (hz (uF F 67 11 (((-1000) * (4 : Int32)) - (F 67 9))) A L))))) : wp_E (d + 7) mm152.2.2.2.2.2.2.2.2 39 [some (.ref 67), some (.int x)] [] (hz F A L) Q := by
  refine q_n 3 (pc1 := 45) (ls1 := [some (.ref 67), some (.int x)]) (st1 := [.int 16, .int (F 67 16)]) (hp1 := (hz F A L)) rfl ?_
  refine q_ne (p3 := 48) rfl rfl (fun h => ?_) (fun h => ?_)
  · have K := K.1 h
    refine q_n 5 (pc1 := 67) (ls1 := [some (.ref 67), some (.int x)]) (st1 := [.int x, .int (F 67 16), .ref 74]) (hp1 := (hz F A L)) rfl ?_
    refine q_as (k := 74) (l := (A 74)) (p1 := 68) rfl rfl rfl K.1 (hz_s74 _) ?_
    have K := K.2
    refine q_n 5 (pc1 := 75) (ls1 := [some (.ref 67), some (.int x)]) (st1 := [.int ((F 67 9) + 1), .ref 67]) (hp1 := (hz F (uA A 74 ((A 74).set (F 67 16).toInt.toNat x)) L)) rfl ?_
    refine q_pf (k := 67) (fs := hz_f67 F) (p3 := 78) rfl rfl rfl (Nat.le_of_ble_eq_true rfl) rfl (hz_p67_9 _) ?_
    refine q_n 6 (pc1 := 90) (ls1 := [some (.ref 67), some (.int x)]) (st1 := [.int (F 67 14), .int (F 67 16), .ref 75]) (hp1 := (hz (uF F 67 9 ((F 67 9) + 1)) (uA A 74 ((A 74).set (F 67 16).toInt.toNat x)) L)) rfl ?_
    refine q_as (k := 75) (l := (A 75)) (p1 := 91) rfl rfl rfl K.1 (hz_s75 _) ?_
    have K := K.2
    refine q_n 2 (pc1 := 93) (ls1 := [some (.ref 67), some (.int x)]) (st1 := [.int 0, .ref 67]) (hp1 := (hz (uF F 67 9 ((F 67 9) + 1)) (uA (uA A 74 ((A 74).set (F 67 16).toInt.toNat x)) 75 ((A 75).set (F 67 16).toInt.toNat (F 67 14))) L)) rfl ?_
    refine q_pf (k := 67) (fs := hz_f67 (uF F 67 9 ((F 67 9) + 1))) (p3 := 96) rfl rfl rfl (Nat.le_of_ble_eq_true rfl) rfl (hz_p67_13 _) ?_
    refine q_n 2 (pc1 := 98) (ls1 := [some (.ref 67), some (.int x)]) (st1 := [.int 0, .ref 67]) (hp1 := (hz (uF (uF F 67 9 ((F 67 9) + 1)) 67 13 0) (uA (uA A 74 ((A 74).set (F 67 16).toInt.toNat x)) 75 ((A 75).set (F 67 16).toInt.toNat (F 67 14))) L)) rfl ?_
    refine q_pf (k := 67) (fs := hz_f67 (uF (uF F 67 9 ((F 67 9) + 1)) 67 13 0)) (p3 := 101) rfl rfl rfl (Nat.le_of_ble_eq_true rfl) rfl (hz_p67_15 _) ?_
    refine q_n 2 (pc1 := 104) (ls1 := [some (.ref 67), some (.int x)]) (st1 := [.int 120, .int x]) (hp1 := (hz (uF (uF (uF F 67 9 ((F 67 9) + 1)) 67 13 0) 67 15 0) (uA (uA A 74 ((A 74).set (F 67 16).toInt.toNat x)) 75 ((A 75).set (F 67 16).toInt.toNat (F 67 14))) L)) rfl ?_
    refine q_eq (p3 := 107) rfl rfl (fun h => ?_) (fun h => ?_)
    · have K := K.1 h
      exact K
    · have K := K.2 h
      refine q_n 1 (pc1 := 108) (ls1 := [some (.ref 67), some (.int x)]) (st1 := [.ref 67]) (hp1 := (hz (uF (uF (uF F 67 9 ((F 67 9) + 1)) 67 13 0) 67 15 0) (uA (uA A 74 ((A 74).set (F 67 16).toInt.toNat x)) 75 ((A 75).set (F 67 16).toInt.toNat (F 67 14))) L)) rfl ?_
      exact q_c rfl rfl K
  · have K := K.2 h
    refine q_n 4 (pc1 := 54) (ls1 := [some (.ref 67), some (.int x)]) (st1 := [.int (F 67 9), .int 4, .ref 67]) (hp1 := (hz F A L)) rfl ?_
    refine q_c rfl rfl (s_m_wrongAt (d := d + 6) ?_)
    show wp_E _ mm152.2.2.2.2.2.2.2.2 57 [some (.ref 67), some (.int x)] [.int 0] (hz (uF F 67 11 (((-1000) * (4 : Int32)) - (F 67 9))) A L) _
    exact q_rz rfl (by decide) K
theorem g_rul1 {d : Nat} {F : Nat → Nat → Int32} {A : Nat → List Int32} {L : Nat → List Int64} {Q : Option Value → sm_H → Prop} {x r : Int32} (K : ((¬ r = 0 → (wp_E (d + 7) mm152.2.2.2.2.2.2.2.2 116 [some (.ref 67), some (.int x)] [] (hz F A L) Q)) ∧ (r = 0 → (Q (some (.int 0)) (hz F A L))))) : wp_E (d + 7) mm152.2.2.2.2.2.2.2.2 111 [some (.ref 67), some (.int x)] [.int r] (hz F A L) Q := by
  refine q_zne (p3 := 114) rfl rfl (fun h => ?_) (fun h => ?_)
  · have K := K.1 h
    exact K
  · have K := K.2 h
    refine q_n 1 (pc1 := 115) (ls1 := [some (.ref 67), some (.int x)]) (st1 := [.int 0]) (hp1 := (hz F A L)) rfl ?_
    exact q_rz rfl (by decide) K
theorem g_rul2 {d : Nat} {F : Nat → Nat → Int32} {A : Nat → List Int32} {L : Nat → List Int64} {Q : Option Value → sm_H → Prop} {x : Int32} (K : ((0 ≤ (F 67 16).toInt ∧ (F 67 16).toInt < ((A 76).length : Int)) ∧ (wp_M (d + 7) 166 [.ref 67] (hz F (uA A 76 ((A 76).set (F 67 16).toInt.toNat (F 67 14))) L) (fun w hp1 => wp_E (d + 7) mm152.2.2.2.2.2.2.2.2 133 [some (.ref 67), some (.int x)] (w.toList ++ []) hp1 Q)))) : wp_E (d + 7) mm152.2.2.2.2.2.2.2.2 116 [some (.ref 67), some (.int x)] [] (hz F A L) Q := by
  refine q_n 6 (pc1 := 128) (ls1 := [some (.ref 67), some (.int x)]) (st1 := [.int (F 67 14), .int (F 67 16), .ref 76]) (hp1 := (hz F A L)) rfl ?_
  refine q_as (k := 76) (l := (A 76)) (p1 := 129) rfl rfl rfl K.1 (hz_s76 _) ?_
  have K := K.2
  refine q_n 1 (pc1 := 130) (ls1 := [some (.ref 67), some (.int x)]) (st1 := [.ref 67]) (hp1 := (hz F (uA A 76 ((A 76).set (F 67 16).toInt.toNat (F 67 14))) L)) rfl ?_
  exact q_c rfl rfl K
theorem g_rul3 {d : Nat} {F : Nat → Nat → Int32} {A : Nat → List Int32} {L : Nat → List Int64} {Q : Option Value → sm_H → Prop} {x r : Int32} (K : ((¬ r = 0 → ((0 ≤ (F 67 16).toInt ∧ (F 67 16).toInt < ((A 77).length : Int)) ∧ (Q (some (.int 1)) (hz (uF F 67 16 ((F 67 16) + 1)) (uA A 77 ((A 77).set (F 67 16).toInt.toNat (F 67 14))) L)))) ∧ (r = 0 → (Q (some (.int 0)) (hz F A L))))) : wp_E (d + 7) mm152.2.2.2.2.2.2.2.2 133 [some (.ref 67), some (.int x)] [.int r] (hz F A L) Q := by
  refine q_zne (p3 := 136) rfl rfl (fun h => ?_) (fun h => ?_)
  · have K := K.1 h
    refine q_n 6 (pc1 := 150) (ls1 := [some (.ref 67), some (.int x)]) (st1 := [.int (F 67 14), .int (F 67 16), .ref 77]) (hp1 := (hz F A L)) rfl ?_
    refine q_as (k := 77) (l := (A 77)) (p1 := 151) rfl rfl rfl K.1 (hz_s77 _) ?_
    have K := K.2
    refine q_n 5 (pc1 := 158) (ls1 := [some (.ref 67), some (.int x)]) (st1 := [.int ((F 67 16) + 1), .ref 67]) (hp1 := (hz F (uA A 77 ((A 77).set (F 67 16).toInt.toNat (F 67 14))) L)) rfl ?_
    refine q_pf (k := 67) (fs := hz_f67 F) (p3 := 161) rfl rfl rfl (Nat.le_of_ble_eq_true rfl) rfl (hz_p67_16 _) ?_
    refine q_n 1 (pc1 := 162) (ls1 := [some (.ref 67), some (.int x)]) (st1 := [.int 1]) (hp1 := (hz (uF F 67 16 ((F 67 16) + 1)) (uA A 77 ((A 77).set (F 67 16).toInt.toNat (F 67 14))) L)) rfl ?_
    exact q_rz rfl (by decide) K
  · have K := K.2 h
    refine q_n 1 (pc1 := 137) (ls1 := [some (.ref 67), some (.int x)]) (st1 := [.int 0]) (hp1 := (hz F A L)) rfl ?_
    exact q_rz rfl (by decide) K
theorem s_m_in {d : Nat} {F : Nat → Nat → Int32} {A : Nat → List Int32} {L : Nat → List Int64} {Q : Option Value → sm_H → Prop} {x0 : Int32} {x1 : Int32} {x2 : Int32} (K : ((x0.toInt < x1.toInt → (Q (some (.int 0)) (hz F A L))) ∧ (x1.toInt ≤ x0.toInt → ((x2.toInt < x0.toInt → (Q (some (.int 0)) (hz F A L))) ∧ (x0.toInt ≤ x2.toInt → (Q (some (.int 1)) (hz F A L))))))) : wp_M (d + 1) 141 [.int x0, .int x1, .int x2] (hz F A L) Q := by
  refine q_m (E := mm141) rfl ⟨Nat.le_of_ble_eq_true rfl, Nat.le_of_ble_eq_true rfl⟩ ?_
  show wp_E (d + 0) mm141.2.2.2.2.2.2.2.2 0 [some (.int x0), some (.int x1), some (.int x2)] [] (hz F A L) Q
  refine q_n 2 (pc1 := 2) (ls1 := [some (.int x0), some (.int x1), some (.int x2)]) (st1 := [.int x1, .int x0]) (hp1 := (hz F A L)) rfl ?_
  refine q_lt (p3 := 5) rfl rfl (fun h => ?_) (fun h => ?_)
  · have K := K.1 h
    refine q_n 1 (pc1 := 15) (ls1 := [some (.int x0), some (.int x1), some (.int x2)]) (st1 := [.int 0]) (hp1 := (hz F A L)) rfl ?_
    exact q_rz rfl (by decide) K
  · have K := K.2 h
    refine q_n 2 (pc1 := 7) (ls1 := [some (.int x0), some (.int x1), some (.int x2)]) (st1 := [.int x2, .int x0]) (hp1 := (hz F A L)) rfl ?_
    refine q_gt (p3 := 10) rfl rfl (fun h => ?_) (fun h => ?_)
    · have K := K.1 h
      refine q_n 1 (pc1 := 15) (ls1 := [some (.int x0), some (.int x1), some (.int x2)]) (st1 := [.int 0]) (hp1 := (hz F A L)) rfl ?_
      exact q_rz rfl (by decide) K
    · have K := K.2 h
      refine q_n 2 (pc1 := 15) (ls1 := [some (.int x0), some (.int x1), some (.int x2)]) (st1 := [.int 1]) (hp1 := (hz F A L)) rfl ?_
      exact q_rz rfl (by decide) K
theorem g_law0 {d : Nat} {F : Nat → Nat → Int32} {A : Nat → List Int32} {L : Nat → List Int64} {Q : Option Value → sm_H → Prop} {x : Int32} (K : ((x.toInt < (1 : Int32).toInt → (Q (some (.int (-1))) (hz F A L))) ∧ ((1 : Int32).toInt ≤ x.toInt → (((240 : Int32).toInt < x.toInt → (Q (some (.int (-1))) (hz F A L))) ∧ (x.toInt ≤ (240 : Int32).toInt → ((x.toInt ≤ (F 67 8).toInt → (wp_M (d + 8) 152 [.ref 67] (hz (uF (uF (uF (uF F 67 9 0) 67 10 x) 67 14 0) 67 16 0) A L) (fun w hp1 => wp_E (d + 8) mm151.2.2.2.2.2.2.2.2 45 [some (.ref 67), some (.int x), none, none] (w.toList ++ []) hp1 Q))) ∧ ((F 67 8).toInt < x.toInt → (Q (some (.int (-1))) (hz F A L))))))))) : wp_E (d + 8) mm151.2.2.2.2.2.2.2.2 0 [some (.ref 67), some (.int x), none, none] [] (hz F A L) Q := by
  refine q_n 3 (pc1 := 5) (ls1 := [some (.ref 67), some (.int x), none, none]) (st1 := [.int 240, .int 1, .int x]) (hp1 := (hz F A L)) rfl ?_
  refine q_c rfl rfl (s_m_in (d := d + 7) ?_)
  refine ⟨fun h => ?_, fun h => ?_⟩
  · have K := K.1 h
    show wp_E _ mm151.2.2.2.2.2.2.2.2 8 [some (.ref 67), some (.int x), none, none] [.int 0] (hz F A L) _
    refine q_zeq (p3 := 11) rfl rfl (fun _ => ?_) (fun h => absurd h (by decide))
    refine q_n 1 (pc1 := 20) (ls1 := [some (.ref 67), some (.int x), none, none]) (st1 := [.int (-1)]) (hp1 := (hz F A L)) rfl ?_
    exact q_ri rfl K
  · have K := K.2 h
    refine ⟨fun h => ?_, fun h => ?_⟩
    · have K := K.1 h
      show wp_E _ mm151.2.2.2.2.2.2.2.2 8 [some (.ref 67), some (.int x), none, none] [.int 0] (hz F A L) _
      refine q_zeq (p3 := 11) rfl rfl (fun _ => ?_) (fun h => absurd h (by decide))
      refine q_n 1 (pc1 := 20) (ls1 := [some (.ref 67), some (.int x), none, none]) (st1 := [.int (-1)]) (hp1 := (hz F A L)) rfl ?_
      exact q_ri rfl K
    · have K := K.2 h
      show wp_E _ mm151.2.2.2.2.2.2.2.2 8 [some (.ref 67), some (.int x), none, none] [.int 1] (hz F A L) _
      refine q_zeq (p3 := 11) rfl rfl (fun h => absurd h (by decide)) (fun _ => ?_)
      refine q_n 3 (pc1 := 16) (ls1 := [some (.ref 67), some (.int x), none, none]) (st1 := [.int (F 67 8), .int x]) (hp1 := (hz F A L)) rfl ?_
      refine q_le (p3 := 19) rfl rfl (fun h => ?_) (fun h => ?_)
      · have K := K.1 h
        refine q_n 2 (pc1 := 23) (ls1 := [some (.ref 67), some (.int x), none, none]) (st1 := [.int 0, .ref 67]) (hp1 := (hz F A L)) rfl ?_
        refine q_pf (k := 67) (fs := hz_f67 F) (p3 := 26) rfl rfl rfl (Nat.le_of_ble_eq_true rfl) rfl (hz_p67_9 _) ?_
        refine q_n 2 (pc1 := 28) (ls1 := [some (.ref 67), some (.int x), none, none]) (st1 := [.int x, .ref 67]) (hp1 := (hz (uF F 67 9 0) A L)) rfl ?_
        refine q_pf (k := 67) (fs := hz_f67 (uF F 67 9 0)) (p3 := 31) rfl rfl rfl (Nat.le_of_ble_eq_true rfl) rfl (hz_p67_10 _) ?_
        refine q_n 2 (pc1 := 33) (ls1 := [some (.ref 67), some (.int x), none, none]) (st1 := [.int 0, .ref 67]) (hp1 := (hz (uF (uF F 67 9 0) 67 10 x) A L)) rfl ?_
        refine q_pf (k := 67) (fs := hz_f67 (uF (uF F 67 9 0) 67 10 x)) (p3 := 36) rfl rfl rfl (Nat.le_of_ble_eq_true rfl) rfl (hz_p67_14 _) ?_
        refine q_n 2 (pc1 := 38) (ls1 := [some (.ref 67), some (.int x), none, none]) (st1 := [.int 0, .ref 67]) (hp1 := (hz (uF (uF (uF F 67 9 0) 67 10 x) 67 14 0) A L)) rfl ?_
        refine q_pf (k := 67) (fs := hz_f67 (uF (uF (uF F 67 9 0) 67 10 x) 67 14 0)) (p3 := 41) rfl rfl rfl (Nat.le_of_ble_eq_true rfl) rfl (hz_p67_16 _) ?_
        refine q_n 1 (pc1 := 42) (ls1 := [some (.ref 67), some (.int x), none, none]) (st1 := [.ref 67]) (hp1 := (hz (uF (uF (uF (uF F 67 9 0) 67 10 x) 67 14 0) 67 16 0) A L)) rfl ?_
        exact q_c rfl rfl K
      · have K := K.2 h
        refine q_n 1 (pc1 := 20) (ls1 := [some (.ref 67), some (.int x), none, none]) (st1 := [.int (-1)]) (hp1 := (hz F A L)) rfl ?_
        exact q_ri rfl K
theorem g_law1 {d : Nat} {F : Nat → Nat → Int32} {A : Nat → List Int32} {L : Nat → List Int64} {Q : Option Value → sm_H → Prop} {x r : Int32} (K : (wp_E (d + 8) mm151.2.2.2.2.2.2.2.2 46 [some (.ref 67), some (.int x), some (.int r), none] [] (hz F A L) Q)) : wp_E (d + 8) mm151.2.2.2.2.2.2.2.2 45 [some (.ref 67), some (.int x), none, none] [.int r] (hz F A L) Q := by
  refine q_n 1 (pc1 := 46) (ls1 := [some (.ref 67), some (.int x), some (.int r), none]) (st1 := []) (hp1 := (hz F A L)) rfl ?_
  exact K
theorem g_law2 {d : Nat} {F : Nat → Nat → Int32} {A : Nat → List Int32} {L : Nat → List Int64} {Q : Option Value → sm_H → Prop} {x r : Int32} (K : ((r = 0 → ((¬ r = 0 → (wp_E (d + 8) mm151.2.2.2.2.2.2.2.2 110 [some (.ref 67), some (.int x), some (.int r), some (.int 0)] [] (hz (uF (uF F 67 8 0) 67 17 (F 67 16)) A L) Q)) ∧ (r = 0 → (Q (some (.int (F 67 11))) (hz (uF F 67 8 0) A L))))) ∧ (¬ r = 0 → (((F 67 10).toInt ≤ (F 67 9).toInt → ((¬ r = 0 → (wp_E (d + 8) mm151.2.2.2.2.2.2.2.2 110 [some (.ref 67), some (.int x), some (.int r), some (.int 0)] [] (hz (uF (uF F 67 8 0) 67 17 (F 67 16)) A L) Q)) ∧ (r = 0 → (Q (some (.int (F 67 11))) (hz (uF F 67 8 0) A L))))) ∧ ((F 67 9).toInt < (F 67 10).toInt → ((0 ≤ (F 67 9).toInt ∧ (F 67 10).toInt ≤ ((A 71).length : Int)) ∧ (((hV (F 67 9) (F 67 10) (A 71)) = (59 : Int32) → (wp_M (d + 8) 152 [.ref 67] (hz (uF F 67 9 ((F 67 9) + 1)) A L) (fun w hp1 => wp_E (d + 8) mm151.2.2.2.2.2.2.2.2 74 [some (.ref 67), some (.int x), some (.int r), none] (w.toList ++ []) hp1 Q))) ∧ (¬ (hV (F 67 9) (F 67 10) (A 71)) = (59 : Int32) → (wp_E (d + 8) mm151.2.2.2.2.2.2.2.2 46 [some (.ref 67), some (.int x), some (.int 0), none] [] (hz (uF F 67 11 (((-1000) * (1 : Int32)) - (F 67 9))) A L) Q))))))))) : wp_E (d + 8) mm151.2.2.2.2.2.2.2.2 46 [some (.ref 67), some (.int x), some (.int r), none] [] (hz F A L) Q := by
  refine q_n 1 (pc1 := 47) (ls1 := [some (.ref 67), some (.int x), some (.int r), none]) (st1 := [.int r]) (hp1 := (hz F A L)) rfl ?_
  refine q_zeq (p3 := 50) rfl rfl (fun h => ?_) (fun h => ?_)
  · have K := K.1 h
    refine q_n 2 (pc1 := 88) (ls1 := [some (.ref 67), some (.int x), some (.int r), none]) (st1 := [.int 0, .ref 67]) (hp1 := (hz F A L)) rfl ?_
    refine q_pf (k := 67) (fs := hz_f67 F) (p3 := 91) rfl rfl rfl (Nat.le_of_ble_eq_true rfl) rfl (hz_p67_8 _) ?_
    refine q_n 1 (pc1 := 92) (ls1 := [some (.ref 67), some (.int x), some (.int r), none]) (st1 := [.int r]) (hp1 := (hz (uF F 67 8 0) A L)) rfl ?_
    refine q_zne (p3 := 95) rfl rfl (fun h => ?_) (fun h => ?_)
    · have K := K.1 h
      refine q_n 3 (pc1 := 105) (ls1 := [some (.ref 67), some (.int x), some (.int r), none]) (st1 := [.int (F 67 16), .ref 67]) (hp1 := (hz (uF F 67 8 0) A L)) rfl ?_
      refine q_pf (k := 67) (fs := hz_f67 (uF F 67 8 0)) (p3 := 108) rfl rfl rfl (Nat.le_of_ble_eq_true rfl) rfl (hz_p67_17 _) ?_
      refine q_n 2 (pc1 := 110) (ls1 := [some (.ref 67), some (.int x), some (.int r), some (.int 0)]) (st1 := []) (hp1 := (hz (uF (uF F 67 8 0) 67 17 (F 67 16)) A L)) rfl ?_
      exact K
    · have K := K.2 h
      refine q_n 2 (pc1 := 99) (ls1 := [some (.ref 67), some (.int x), some (.int r), none]) (st1 := [.int (F 67 11)]) (hp1 := (hz (uF F 67 8 0) A L)) rfl ?_
      exact q_ri rfl K
  · have K := K.2 h
    refine q_n 4 (pc1 := 58) (ls1 := [some (.ref 67), some (.int x), some (.int r), none]) (st1 := [.int (F 67 10), .int (F 67 9)]) (hp1 := (hz F A L)) rfl ?_
    refine q_ge (p3 := 61) rfl rfl (fun h => ?_) (fun h => ?_)
    · have K := K.1 h
      refine q_n 2 (pc1 := 88) (ls1 := [some (.ref 67), some (.int x), some (.int r), none]) (st1 := [.int 0, .ref 67]) (hp1 := (hz F A L)) rfl ?_
      refine q_pf (k := 67) (fs := hz_f67 F) (p3 := 91) rfl rfl rfl (Nat.le_of_ble_eq_true rfl) rfl (hz_p67_8 _) ?_
      refine q_n 1 (pc1 := 92) (ls1 := [some (.ref 67), some (.int x), some (.int r), none]) (st1 := [.int r]) (hp1 := (hz (uF F 67 8 0) A L)) rfl ?_
      refine q_zne (p3 := 95) rfl rfl (fun h => ?_) (fun h => ?_)
      · have K := K.1 h
        refine q_n 3 (pc1 := 105) (ls1 := [some (.ref 67), some (.int x), some (.int r), none]) (st1 := [.int (F 67 16), .ref 67]) (hp1 := (hz (uF F 67 8 0) A L)) rfl ?_
        refine q_pf (k := 67) (fs := hz_f67 (uF F 67 8 0)) (p3 := 108) rfl rfl rfl (Nat.le_of_ble_eq_true rfl) rfl (hz_p67_17 _) ?_
        refine q_n 2 (pc1 := 110) (ls1 := [some (.ref 67), some (.int x), some (.int r), some (.int 0)]) (st1 := []) (hp1 := (hz (uF (uF F 67 8 0) 67 17 (F 67 16)) A L)) rfl ?_
        exact K
      · have K := K.2 h
        refine q_n 2 (pc1 := 99) (ls1 := [some (.ref 67), some (.int x), some (.int r), none]) (st1 := [.int (F 67 11)]) (hp1 := (hz (uF F 67 8 0) A L)) rfl ?_
        exact q_ri rfl K
    · have K := K.2 h
      refine q_n 2 (pc1 := 64) (ls1 := [some (.ref 67), some (.int x), some (.int r), none]) (st1 := [.int 59, .ref 67]) (hp1 := (hz F A L)) rfl ?_
      refine q_c rfl rfl (s_m_takes (d := d + 6) ?_)
      refine ⟨K.1, ?_⟩
      have K := K.2
      refine ⟨fun h => ?_, fun h => ?_⟩
      · have K := K.1 h
        show wp_E _ mm151.2.2.2.2.2.2.2.2 67 [some (.ref 67), some (.int x), some (.int r), none] [.int 1] (hz (uF F 67 9 ((F 67 9) + 1)) A L) _
        refine q_zeq (p3 := 70) rfl rfl (fun h => absurd h (by decide)) (fun _ => ?_)
        refine q_n 1 (pc1 := 71) (ls1 := [some (.ref 67), some (.int x), some (.int r), none]) (st1 := [.ref 67]) (hp1 := (hz (uF F 67 9 ((F 67 9) + 1)) A L)) rfl ?_
        exact q_c rfl rfl K
      · have K := K.2 h
        show wp_E _ mm151.2.2.2.2.2.2.2.2 67 [some (.ref 67), some (.int x), some (.int r), none] [.int 0] (hz (uF F 67 11 (((-1000) * (1 : Int32)) - (F 67 9))) A L) _
        refine q_zeq (p3 := 70) rfl rfl (fun _ => ?_) (fun h => absurd h (by decide))
        refine q_n 3 (pc1 := 46) (ls1 := [some (.ref 67), some (.int x), some (.int 0), none]) (st1 := []) (hp1 := (hz (uF F 67 11 (((-1000) * (1 : Int32)) - (F 67 9))) A L)) rfl ?_
        exact K
theorem g_law3 {d : Nat} {F : Nat → Nat → Int32} {A : Nat → List Int32} {L : Nat → List Int64} {Q : Option Value → sm_H → Prop} {x y r : Int32} (K : ((r = 0 → (wp_E (d + 8) mm151.2.2.2.2.2.2.2.2 46 [some (.ref 67), some (.int x), some (.int 0), none] [] (hz F A L) Q)) ∧ (¬ r = 0 → (wp_E (d + 8) mm151.2.2.2.2.2.2.2.2 46 [some (.ref 67), some (.int x), some (.int 1), none] [] (hz F A L) Q)))) : wp_E (d + 8) mm151.2.2.2.2.2.2.2.2 74 [some (.ref 67), some (.int x), some (.int y), none] [.int r] (hz F A L) Q := by
  refine q_zeq (p3 := 77) rfl rfl (fun h => ?_) (fun h => ?_)
  · have K := K.1 h
    refine q_n 3 (pc1 := 46) (ls1 := [some (.ref 67), some (.int x), some (.int 0), none]) (st1 := []) (hp1 := (hz F A L)) rfl ?_
    exact K
  · have K := K.2 h
    refine q_n 4 (pc1 := 46) (ls1 := [some (.ref 67), some (.int x), some (.int 1), none]) (st1 := []) (hp1 := (hz F A L)) rfl ?_
    exact K
theorem g_law4 {d : Nat} {F : Nat → Nat → Int32} {A : Nat → List Int32} {L : Nat → List Int64} {Q : Option Value → sm_H → Prop} {x r y : Int32} (K : (((F 67 14).toInt ≤ y.toInt → (wp_E (d + 8) mm151.2.2.2.2.2.2.2.2 138 [some (.ref 67), some (.int x), some (.int r), some (.int 0)] [] (hz F A L) Q)) ∧ (y.toInt < (F 67 14).toInt → ((0 ≤ y.toInt ∧ y.toInt < ((A 72).length : Int)) ∧ ((0 ≤ y.toInt ∧ y.toInt < ((A 78).length : Int)) ∧ (wp_E (d + 8) mm151.2.2.2.2.2.2.2.2 110 [some (.ref 67), some (.int x), some (.int r), some (.int (y + 1))] [] (hz F (uA A 78 ((A 78).set y.toInt.toNat ((A 72).getD y.toInt.toNat 0))) L) Q)))))) : wp_E (d + 8) mm151.2.2.2.2.2.2.2.2 110 [some (.ref 67), some (.int x), some (.int r), some (.int y)] [] (hz F A L) Q := by
  refine q_n 3 (pc1 := 115) (ls1 := [some (.ref 67), some (.int x), some (.int r), some (.int y)]) (st1 := [.int (F 67 14), .int y]) (hp1 := (hz F A L)) rfl ?_
  refine q_ge (p3 := 118) rfl rfl (fun h => ?_) (fun h => ?_)
  · have K := K.1 h
    refine q_n 2 (pc1 := 138) (ls1 := [some (.ref 67), some (.int x), some (.int r), some (.int 0)]) (st1 := []) (hp1 := (hz F A L)) rfl ?_
    exact K
  · have K := K.2 h
    refine q_n 6 (pc1 := 128) (ls1 := [some (.ref 67), some (.int x), some (.int r), some (.int y)]) (st1 := [.int y, .ref 72, .int y, .ref 78]) (hp1 := (hz F A L)) rfl ?_
    refine q_al (k := 72) (l := (A 72)) (p1 := 129) rfl rfl rfl K.1 ?_
    have K := K.2
    refine q_as (k := 78) (l := (A 78)) (p1 := 130) rfl rfl rfl K.1 (hz_s78 _) ?_
    have K := K.2
    refine q_n 2 (pc1 := 110) (ls1 := [some (.ref 67), some (.int x), some (.int r), some (.int (y + 1))]) (st1 := []) (hp1 := (hz F (uA A 78 ((A 78).set y.toInt.toNat ((A 72).getD y.toInt.toNat 0))) L)) rfl ?_
    exact K
theorem g_law5 {d : Nat} {F : Nat → Nat → Int32} {A : Nat → List Int32} {L : Nat → List Int64} {Q : Option Value → sm_H → Prop} {x r y : Int32} (K : (((F 67 16).toInt ≤ y.toInt → (Q (some (.int (F 67 16))) (hz F A L))) ∧ (y.toInt < (F 67 16).toInt → ((0 ≤ y.toInt ∧ y.toInt < ((A 74).length : Int)) ∧ ((0 ≤ y.toInt ∧ y.toInt < ((A 79).length : Int)) ∧ ((0 ≤ y.toInt ∧ y.toInt < ((A 75).length : Int)) ∧ ((0 ≤ y.toInt ∧ y.toInt < ((A 80).length : Int)) ∧ ((0 ≤ y.toInt ∧ y.toInt < ((A 76).length : Int)) ∧ ((0 ≤ y.toInt ∧ y.toInt < ((A 81).length : Int)) ∧ ((0 ≤ y.toInt ∧ y.toInt < ((A 77).length : Int)) ∧ ((0 ≤ y.toInt ∧ y.toInt < ((A 82).length : Int)) ∧ (wp_E (d + 8) mm151.2.2.2.2.2.2.2.2 138 [some (.ref 67), some (.int x), some (.int r), some (.int (y + 1))] [] (hz F (uA (uA (uA (uA A 79 ((A 79).set y.toInt.toNat ((A 74).getD y.toInt.toNat 0))) 80 ((A 80).set y.toInt.toNat ((A 75).getD y.toInt.toNat 0))) 81 ((A 81).set y.toInt.toNat ((A 76).getD y.toInt.toNat 0))) 82 ((A 82).set y.toInt.toNat ((A 77).getD y.toInt.toNat 0))) L) Q)))))))))))) : wp_E (d + 8) mm151.2.2.2.2.2.2.2.2 138 [some (.ref 67), some (.int x), some (.int r), some (.int y)] [] (hz F A L) Q := by
  refine q_n 3 (pc1 := 143) (ls1 := [some (.ref 67), some (.int x), some (.int r), some (.int y)]) (st1 := [.int (F 67 16), .int y]) (hp1 := (hz F A L)) rfl ?_
  refine q_ge (p3 := 146) rfl rfl (fun h => ?_) (fun h => ?_)
  · have K := K.1 h
    refine q_n 2 (pc1 := 204) (ls1 := [some (.ref 67), some (.int x), some (.int r), some (.int y)]) (st1 := [.int (F 67 16)]) (hp1 := (hz F A L)) rfl ?_
    exact q_ri rfl K
  · have K := K.2 h
    refine q_n 6 (pc1 := 156) (ls1 := [some (.ref 67), some (.int x), some (.int r), some (.int y)]) (st1 := [.int y, .ref 74, .int y, .ref 79]) (hp1 := (hz F A L)) rfl ?_
    refine q_al (k := 74) (l := (A 74)) (p1 := 157) rfl rfl rfl K.1 ?_
    have K := K.2
    refine q_as (k := 79) (l := (A 79)) (p1 := 158) rfl rfl rfl K.1 (hz_s79 _) ?_
    have K := K.2
    refine q_n 6 (pc1 := 168) (ls1 := [some (.ref 67), some (.int x), some (.int r), some (.int y)]) (st1 := [.int y, .ref 75, .int y, .ref 80]) (hp1 := (hz F (uA A 79 ((A 79).set y.toInt.toNat ((A 74).getD y.toInt.toNat 0))) L)) rfl ?_
    refine q_al (k := 75) (l := (A 75)) (p1 := 169) rfl rfl rfl K.1 ?_
    have K := K.2
    refine q_as (k := 80) (l := (A 80)) (p1 := 170) rfl rfl rfl K.1 (hz_s80 _) ?_
    have K := K.2
    refine q_n 6 (pc1 := 180) (ls1 := [some (.ref 67), some (.int x), some (.int r), some (.int y)]) (st1 := [.int y, .ref 76, .int y, .ref 81]) (hp1 := (hz F (uA (uA A 79 ((A 79).set y.toInt.toNat ((A 74).getD y.toInt.toNat 0))) 80 ((A 80).set y.toInt.toNat ((A 75).getD y.toInt.toNat 0))) L)) rfl ?_
    refine q_al (k := 76) (l := (A 76)) (p1 := 181) rfl rfl rfl K.1 ?_
    have K := K.2
    refine q_as (k := 81) (l := (A 81)) (p1 := 182) rfl rfl rfl K.1 (hz_s81 _) ?_
    have K := K.2
    refine q_n 6 (pc1 := 192) (ls1 := [some (.ref 67), some (.int x), some (.int r), some (.int y)]) (st1 := [.int y, .ref 77, .int y, .ref 82]) (hp1 := (hz F (uA (uA (uA A 79 ((A 79).set y.toInt.toNat ((A 74).getD y.toInt.toNat 0))) 80 ((A 80).set y.toInt.toNat ((A 75).getD y.toInt.toNat 0))) 81 ((A 81).set y.toInt.toNat ((A 76).getD y.toInt.toNat 0))) L)) rfl ?_
    refine q_al (k := 77) (l := (A 77)) (p1 := 193) rfl rfl rfl K.1 ?_
    have K := K.2
    refine q_as (k := 82) (l := (A 82)) (p1 := 194) rfl rfl rfl K.1 (hz_s82 _) ?_
    have K := K.2
    refine q_n 2 (pc1 := 138) (ls1 := [some (.ref 67), some (.int x), some (.int r), some (.int (y + 1))]) (st1 := []) (hp1 := (hz F (uA (uA (uA (uA A 79 ((A 79).set y.toInt.toNat ((A 74).getD y.toInt.toNat 0))) 80 ((A 80).set y.toInt.toNat ((A 75).getD y.toInt.toNat 0))) 81 ((A 81).set y.toInt.toNat ((A 76).getD y.toInt.toNat 0))) 82 ((A 82).set y.toInt.toNat ((A 77).getD y.toInt.toNat 0))) L)) rfl ?_
    exact K
