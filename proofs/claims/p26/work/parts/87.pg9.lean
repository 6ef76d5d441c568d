/-! agenda, piece by piece -/
theorem g_ag0 {d : Nat} {F : Nat → Nat → Int32} {A : Nat → List Int32} {L : Nat → List Int64} {Q : Option Value → sm_H → Prop} {x : Int32} (K : ((x.toInt < (1 : Int32).toInt → (Q (some (.int (-1))) (hz F A L))) ∧ ((1 : Int32).toInt ≤ x.toInt → (((60 : Int32).toInt < x.toInt → (Q (some (.int (-1))) (hz F A L))) ∧ (x.toInt ≤ (60 : Int32).toInt → ((x.toInt ≤ (F 67 8).toInt → (wp_E (d + 5) mm221.2.2.2.2.2.2.2.2 37 [some (.ref 67), some (.int x), some (.int 0), none] [] (hz (uF (uF (uF F 67 9 0) 67 10 x) 67 8 0) A L) Q)) ∧ ((F 67 8).toInt < x.toInt → (Q (some (.int (-1))) (hz F A L))))))))) : wp_E (d + 5) mm221.2.2.2.2.2.2.2.2 0 [some (.ref 67), some (.int x), none, none] [] (hz F A L) Q := by
  refine q_n 3 (pc1 := 4) (ls1 := [some (.ref 67), some (.int x), none, none]) (st1 := [.int 60, .int 1, .int x]) (hp1 := (hz F A L)) rfl ?_
  refine q_c rfl rfl (s_m_in (d := d + 4) ?_)
  refine ⟨fun h => ?_, fun h => ?_⟩
  · have K := K.1 h
    show wp_E _ mm221.2.2.2.2.2.2.2.2 7 [some (.ref 67), some (.int x), none, none] [.int 0] (hz F A L) _
    refine q_zeq (p3 := 10) rfl rfl (fun _ => ?_) (fun h => absurd h (by decide))
    refine q_n 1 (pc1 := 19) (ls1 := [some (.ref 67), some (.int x), none, none]) (st1 := [.int (-1)]) (hp1 := (hz F A L)) rfl ?_
    exact q_ri rfl K
  · have K := K.2 h
    refine ⟨fun h => ?_, fun h => ?_⟩
    · have K := K.1 h
      show wp_E _ mm221.2.2.2.2.2.2.2.2 7 [some (.ref 67), some (.int x), none, none] [.int 0] (hz F A L) _
      refine q_zeq (p3 := 10) rfl rfl (fun _ => ?_) (fun h => absurd h (by decide))
      refine q_n 1 (pc1 := 19) (ls1 := [some (.ref 67), some (.int x), none, none]) (st1 := [.int (-1)]) (hp1 := (hz F A L)) rfl ?_
      exact q_ri rfl K
    · have K := K.2 h
      show wp_E _ mm221.2.2.2.2.2.2.2.2 7 [some (.ref 67), some (.int x), none, none] [.int 1] (hz F A L) _
      refine q_zeq (p3 := 10) rfl rfl (fun h => absurd h (by decide)) (fun _ => ?_)
      refine q_n 3 (pc1 := 15) (ls1 := [some (.ref 67), some (.int x), none, none]) (st1 := [.int (F 67 8), .int x]) (hp1 := (hz F A L)) rfl ?_
      refine q_le (p3 := 18) rfl rfl (fun h => ?_) (fun h => ?_)
      · have K := K.1 h
        refine q_n 2 (pc1 := 22) (ls1 := [some (.ref 67), some (.int x), none, none]) (st1 := [.int 0, .ref 67]) (hp1 := (hz F A L)) rfl ?_
        refine q_pf (k := 67) (fs := hz_f67 F) (p3 := 25) rfl rfl rfl (Nat.le_of_ble_eq_true rfl) rfl (hz_p67_9 _) ?_
        refine q_n 2 (pc1 := 27) (ls1 := [some (.ref 67), some (.int x), none, none]) (st1 := [.int x, .ref 67]) (hp1 := (hz (uF F 67 9 0) A L)) rfl ?_
        refine q_pf (k := 67) (fs := hz_f67 (uF F 67 9 0)) (p3 := 30) rfl rfl rfl (Nat.le_of_ble_eq_true rfl) rfl (hz_p67_10 _) ?_
        refine q_n 2 (pc1 := 32) (ls1 := [some (.ref 67), some (.int x), none, none]) (st1 := [.int 0, .ref 67]) (hp1 := (hz (uF (uF F 67 9 0) 67 10 x) A L)) rfl ?_
        refine q_pf (k := 67) (fs := hz_f67 (uF (uF F 67 9 0) 67 10 x)) (p3 := 35) rfl rfl rfl (Nat.le_of_ble_eq_true rfl) rfl (hz_p67_8 _) ?_
        refine q_n 2 (pc1 := 37) (ls1 := [some (.ref 67), some (.int x), some (.int 0), none]) (st1 := []) (hp1 := (hz (uF (uF (uF F 67 9 0) 67 10 x) 67 8 0) A L)) rfl ?_
        exact K
      · have K := K.2 h
        refine q_n 1 (pc1 := 19) (ls1 := [some (.ref 67), some (.int x), none, none]) (st1 := [.int (-1)]) (hp1 := (hz F A L)) rfl ?_
        exact q_ri rfl K
theorem g_ag1 {d : Nat} {F : Nat → Nat → Int32} {A : Nat → List Int32} {L : Nat → List Int64} {Q : Option Value → sm_H → Prop} {x k : Int32} {v : Option Value} (K : ((0 ≤ (F 67 9).toInt ∧ (F 67 10).toInt ≤ ((A 71).length : Int)) ∧ ((¬ (hV (F 67 9) (F 67 10) (A 71)) = 40 → (wp_E (d + 5) mm221.2.2.2.2.2.2.2.2 82 [some (.ref 67), some (.int x), some (.int k), v] [] (hz F A L) Q)) ∧ ((hV (F 67 9) (F 67 10) (A 71)) = 40 → ((¬ k = 8 → ((0 ≤ k.toInt ∧ k.toInt < ((A 91).length : Int)) ∧ (wp_E (d + 5) mm221.2.2.2.2.2.2.2.2 37 [some (.ref 67), some (.int x), some (.int (k + 1)), v] [] (hz (uF F 67 9 ((F 67 9) + 1)) (uA A 91 ((A 91).set k.toInt.toNat (-1))) L) Q))) ∧ (k = 8 → (Q (some (.int (((-1000) * (5 : Int32)) - (F 67 9)))) (hz (uF F 67 11 (((-1000) * (5 : Int32)) - (F 67 9))) A L)))))))) : wp_E (d + 5) mm221.2.2.2.2.2.2.2.2 37 [some (.ref 67), some (.int x), some (.int k), v] [] (hz F A L) Q := by
  refine q_n 1 (pc1 := 38) (ls1 := [some (.ref 67), some (.int x), some (.int k), v]) (st1 := [.ref 67]) (hp1 := (hz F A L)) rfl ?_
  refine q_c rfl rfl (a_m_here (d := d + 4) K.1 ?_)
  have K := K.2
  show wp_E _ mm221.2.2.2.2.2.2.2.2 41 [some (.ref 67), some (.int x), some (.int k), v] [.int (hV (F 67 9) (F 67 10) (A 71))] (hz F A L) _
  refine q_n 1 (pc1 := 43) (ls1 := [some (.ref 67), some (.int x), some (.int k), v]) (st1 := [.int 40, .int (hV (F 67 9) (F 67 10) (A 71))]) (hp1 := (hz F A L)) rfl ?_
  refine q_ne (p3 := 46) rfl rfl (fun h => ?_) (fun h => ?_)
  · have K := K.1 h
    exact K
  · have K := K.2 h
    refine q_n 2 (pc1 := 49) (ls1 := [some (.ref 67), some (.int x), some (.int k), v]) (st1 := [.int 8, .int k]) (hp1 := (hz F A L)) rfl ?_
    refine q_ne (p3 := 52) rfl rfl (fun h => ?_) (fun h => ?_)
    · have K := K.1 h
      refine q_n 4 (pc1 := 64) (ls1 := [some (.ref 67), some (.int x), some (.int k), v]) (st1 := [.int (-1), .int k, .ref 91]) (hp1 := (hz F A L)) rfl ?_
      refine q_as (k := 91) (l := (A 91)) (p1 := 65) rfl rfl rfl K.1 (hz_s91 _) ?_
      have K := K.2
      refine q_n 9 (pc1 := 76) (ls1 := [some (.ref 67), some (.int x), some (.int (k + 1)), v]) (st1 := [.int ((F 67 9) + 1), .ref 67]) (hp1 := (hz F (uA A 91 ((A 91).set k.toInt.toNat (-1))) L)) rfl ?_
      refine q_pf (k := 67) (fs := hz_f67 F) (p3 := 79) rfl rfl rfl (Nat.le_of_ble_eq_true rfl) rfl (hz_p67_9 _) ?_
      refine q_n 1 (pc1 := 37) (ls1 := [some (.ref 67), some (.int x), some (.int (k + 1)), v]) (st1 := []) (hp1 := (hz (uF F 67 9 ((F 67 9) + 1)) (uA A 91 ((A 91).set k.toInt.toNat (-1))) L)) rfl ?_
      exact K
    · have K := K.2 h
      refine q_n 2 (pc1 := 54) (ls1 := [some (.ref 67), some (.int x), some (.int k), v]) (st1 := [.int 5, .ref 67]) (hp1 := (hz F A L)) rfl ?_
      refine q_c rfl rfl (s_m_wrongOf (d := d + 3) ?_)
      show wp_E _ mm221.2.2.2.2.2.2.2.2 57 [some (.ref 67), some (.int x), some (.int k), v] [.int (((-1000) * (5 : Int32)) - (F 67 9))] (hz (uF F 67 11 (((-1000) * (5 : Int32)) - (F 67 9))) A L) _
      exact q_ri rfl K
theorem g_ag2 {d : Nat} {F : Nat → Nat → Int32} {A : Nat → List Int32} {L : Nat → List Int64} {Q : Option Value → sm_H → Prop} {x k : Int32} {v : Option Value} (K : ((0 ≤ (F 67 9).toInt ∧ (F 67 10).toInt ≤ ((A 71).length : Int)) ∧ ((¬ (mV ((hV (F 67 9) (F 67 10) (A 71)) - 97) (F 67 3)) = 0 → (wp_E (d + 5) mm221.2.2.2.2.2.2.2.2 114 [some (.ref 67), some (.int x), some (.int k), some (.int ((hV (F 67 9) (F 67 10) (A 71)) - 97))] [] (hz (uF F 67 9 ((F 67 9) + 1)) A L) Q)) ∧ ((mV ((hV (F 67 9) (F 67 10) (A 71)) - 97) (F 67 3)) = 0 → (Q (some (.int (((-1000) * (1 : Int32)) - (F 67 9)))) (hz (uF F 67 11 (((-1000) * (1 : Int32)) - (F 67 9))) A L)))))) : wp_E (d + 5) mm221.2.2.2.2.2.2.2.2 82 [some (.ref 67), some (.int x), some (.int k), v] [] (hz F A L) Q := by
  refine q_n 1 (pc1 := 83) (ls1 := [some (.ref 67), some (.int x), some (.int k), v]) (st1 := [.ref 67]) (hp1 := (hz F A L)) rfl ?_
  refine q_c rfl rfl (a_m_here (d := d + 4) K.1 ?_)
  have K := K.2
  show wp_E _ mm221.2.2.2.2.2.2.2.2 86 [some (.ref 67), some (.int x), some (.int k), v] [.int (hV (F 67 9) (F 67 10) (A 71))] (hz F A L) _
  refine q_n 5 (pc1 := 92) (ls1 := [some (.ref 67), some (.int x), some (.int k), some (.int ((hV (F 67 9) (F 67 10) (A 71)) - 97))]) (st1 := [.int ((hV (F 67 9) (F 67 10) (A 71)) - 97), .ref 67]) (hp1 := (hz F A L)) rfl ?_
  refine q_c rfl rfl (a_m_isMeasure (d := d + 3) ?_)
  show wp_E _ mm221.2.2.2.2.2.2.2.2 95 [some (.ref 67), some (.int x), some (.int k), some (.int ((hV (F 67 9) (F 67 10) (A 71)) - 97))] [.int (mV ((hV (F 67 9) (F 67 10) (A 71)) - 97) (F 67 3))] (hz F A L) _
  refine q_zne (p3 := 98) rfl rfl (fun h => ?_) (fun h => ?_)
  · have K := K.1 h
    refine q_n 5 (pc1 := 111) (ls1 := [some (.ref 67), some (.int x), some (.int k), some (.int ((hV (F 67 9) (F 67 10) (A 71)) - 97))]) (st1 := [.int ((F 67 9) + 1), .ref 67]) (hp1 := (hz F A L)) rfl ?_
    refine q_pf (k := 67) (fs := hz_f67 F) (p3 := 114) rfl rfl rfl (Nat.le_of_ble_eq_true rfl) rfl (hz_p67_9 _) ?_
    exact K
  · have K := K.2 h
    refine q_n 2 (pc1 := 100) (ls1 := [some (.ref 67), some (.int x), some (.int k), some (.int ((hV (F 67 9) (F 67 10) (A 71)) - 97))]) (st1 := [.int 1, .ref 67]) (hp1 := (hz F A L)) rfl ?_
    refine q_c rfl rfl (s_m_wrongOf (d := d + 3) ?_)
    show wp_E _ mm221.2.2.2.2.2.2.2.2 103 [some (.ref 67), some (.int x), some (.int k), some (.int ((hV (F 67 9) (F 67 10) (A 71)) - 97))] [.int (((-1000) * (1 : Int32)) - (F 67 9))] (hz (uF F 67 11 (((-1000) * (1 : Int32)) - (F 67 9))) A L) _
    exact q_ri rfl K
theorem g_ag3 {d : Nat} {F : Nat → Nat → Int32} {A : Nat → List Int32} {L : Nat → List Int64} {Q : Option Value → sm_H → Prop} {x k c : Int32} (K : ((k.toInt ≤ 0 → (wp_E (d + 5) mm221.2.2.2.2.2.2.2.2 174 [some (.ref 67), some (.int x), some (.int k), some (.int c)] [] (hz F A L) Q)) ∧ (0 < k.toInt → ((0 ≤ (k - 1).toInt ∧ (k - 1).toInt < ((A 91).length : Int)) ∧ ((((A 91).getD (k - 1).toInt.toNat 0) = (-1) → (wp_E (d + 5) mm221.2.2.2.2.2.2.2.2 174 [some (.ref 67), some (.int x), some (.int k), some (.int c)] [] (hz F A L) Q)) ∧ (¬ ((A 91).getD (k - 1).toInt.toNat 0) = (-1) → ((0 ≤ (F 67 9).toInt ∧ (F 67 10).toInt ≤ ((A 71).length : Int)) ∧ (((hV (F 67 9) (F 67 10) (A 71)) = 41 → ((0 ≤ (k - 1).toInt ∧ (k - 1).toInt < ((A 91).length : Int)) ∧ (wp_M (d + 5) 222 [.ref 67, .int ((A 91).getD (k - 1).toInt.toNat 0), .int c] (hz (uF F 67 9 ((F 67 9) + 1)) A L) (fun w hp1 => wp_E (d + 5) mm221.2.2.2.2.2.2.2.2 170 [some (.ref 67), some (.int x), some (.int (k - 1)), some (.int c)] (w.toList ++ []) hp1 Q)))) ∧ (¬ (hV (F 67 9) (F 67 10) (A 71)) = 41 → (Q (some (.int (((-1000) * (1 : Int32)) - (F 67 9)))) (hz (uF F 67 11 (((-1000) * (1 : Int32)) - (F 67 9))) A L))))))))))) : wp_E (d + 5) mm221.2.2.2.2.2.2.2.2 114 [some (.ref 67), some (.int x), some (.int k), some (.int c)] [] (hz F A L) Q := by
  refine q_n 1 (pc1 := 115) (ls1 := [some (.ref 67), some (.int x), some (.int k), some (.int c)]) (st1 := [.int k]) (hp1 := (hz F A L)) rfl ?_
  refine q_zle (p3 := 118) rfl rfl (fun h => ?_) (fun h => ?_)
  · have K := K.1 h
    exact K
  · have K := K.2 h
    refine q_n 5 (pc1 := 125) (ls1 := [some (.ref 67), some (.int x), some (.int k), some (.int c)]) (st1 := [.int (k - 1), .ref 91]) (hp1 := (hz F A L)) rfl ?_
    refine q_al (k := 91) (l := (A 91)) (p1 := 126) rfl rfl rfl K.1 ?_
    have K := K.2
    refine q_n 1 (pc1 := 127) (ls1 := [some (.ref 67), some (.int x), some (.int k), some (.int c)]) (st1 := [.int (-1), .int ((A 91).getD (k - 1).toInt.toNat 0)]) (hp1 := (hz F A L)) rfl ?_
    refine q_eq (p3 := 130) rfl rfl (fun h => ?_) (fun h => ?_)
    · have K := K.1 h
      exact K
    · have K := K.2 h
      refine q_n 1 (pc1 := 131) (ls1 := [some (.ref 67), some (.int x), some (.int k), some (.int c)]) (st1 := [.ref 67]) (hp1 := (hz F A L)) rfl ?_
      refine q_c rfl rfl (a_m_here (d := d + 4) K.1 ?_)
      have K := K.2
      show wp_E _ mm221.2.2.2.2.2.2.2.2 134 [some (.ref 67), some (.int x), some (.int k), some (.int c)] [.int (hV (F 67 9) (F 67 10) (A 71))] (hz F A L) _
      refine q_n 1 (pc1 := 136) (ls1 := [some (.ref 67), some (.int x), some (.int k), some (.int c)]) (st1 := [.int 41, .int (hV (F 67 9) (F 67 10) (A 71))]) (hp1 := (hz F A L)) rfl ?_
      refine q_eq (p3 := 139) rfl rfl (fun h => ?_) (fun h => ?_)
      · have K := K.1 h
        refine q_n 5 (pc1 := 152) (ls1 := [some (.ref 67), some (.int x), some (.int k), some (.int c)]) (st1 := [.int ((F 67 9) + 1), .ref 67]) (hp1 := (hz F A L)) rfl ?_
        refine q_pf (k := 67) (fs := hz_f67 F) (p3 := 155) rfl rfl rfl (Nat.le_of_ble_eq_true rfl) rfl (hz_p67_9 _) ?_
        refine q_n 8 (pc1 := 165) (ls1 := [some (.ref 67), some (.int x), some (.int (k - 1)), some (.int c)]) (st1 := [.int (k - 1), .ref 91, .ref 67]) (hp1 := (hz (uF F 67 9 ((F 67 9) + 1)) A L)) rfl ?_
        refine q_al (k := 91) (l := (A 91)) (p1 := 166) rfl rfl rfl K.1 ?_
        have K := K.2
        refine q_n 1 (pc1 := 167) (ls1 := [some (.ref 67), some (.int x), some (.int (k - 1)), some (.int c)]) (st1 := [.int c, .int ((A 91).getD (k - 1).toInt.toNat 0), .ref 67]) (hp1 := (hz (uF F 67 9 ((F 67 9) + 1)) A L)) rfl ?_
        exact q_c rfl rfl K
      · have K := K.2 h
        refine q_n 2 (pc1 := 141) (ls1 := [some (.ref 67), some (.int x), some (.int k), some (.int c)]) (st1 := [.int 1, .ref 67]) (hp1 := (hz F A L)) rfl ?_
        refine q_c rfl rfl (s_m_wrongOf (d := d + 3) ?_)
        show wp_E _ mm221.2.2.2.2.2.2.2.2 144 [some (.ref 67), some (.int x), some (.int k), some (.int c)] [.int (((-1000) * (1 : Int32)) - (F 67 9))] (hz (uF F 67 11 (((-1000) * (1 : Int32)) - (F 67 9))) A L) _
        exact q_ri rfl K
theorem g_ag4 {d : Nat} {F : Nat → Nat → Int32} {A : Nat → List Int32} {L : Nat → List Int64} {Q : Option Value → sm_H → Prop} {x k c r : Int32} (K : (wp_E (d + 5) mm221.2.2.2.2.2.2.2.2 114 [some (.ref 67), some (.int x), some (.int k), some (.int r)] [] (hz F A L) Q)) : wp_E (d + 5) mm221.2.2.2.2.2.2.2.2 170 [some (.ref 67), some (.int x), some (.int k), some (.int c)] [.int r] (hz F A L) Q := by
  refine q_n 2 (pc1 := 114) (ls1 := [some (.ref 67), some (.int x), some (.int k), some (.int r)]) (st1 := []) (hp1 := (hz F A L)) rfl ?_
  exact K
theorem g_ag5 {d : Nat} {F : Nat → Nat → Int32} {A : Nat → List Int32} {L : Nat → List Int64} {Q : Option Value → sm_H → Prop} {x k c : Int32} (K : ((¬ k = 0 → ((0 ≤ (k - 1).toInt ∧ (k - 1).toInt < ((A 91).length : Int)) ∧ (wp_E (d + 5) mm221.2.2.2.2.2.2.2.2 37 [some (.ref 67), some (.int x), some (.int k), some (.int c)] [] (hz F (uA A 91 ((A 91).set (k - 1).toInt.toNat c)) L) Q))) ∧ (k = 0 → (((F 67 10).toInt ≤ (F 67 9).toInt → (Q (some (.int c)) (hz F A L))) ∧ ((F 67 9).toInt < (F 67 10).toInt → (Q (some (.int (((-1000) * (1 : Int32)) - (F 67 9)))) (hz (uF F 67 11 (((-1000) * (1 : Int32)) - (F 67 9))) A L))))))) : wp_E (d + 5) mm221.2.2.2.2.2.2.2.2 174 [some (.ref 67), some (.int x), some (.int k), some (.int c)] [] (hz F A L) Q := by
  refine q_n 1 (pc1 := 175) (ls1 := [some (.ref 67), some (.int x), some (.int k), some (.int c)]) (st1 := [.int k]) (hp1 := (hz F A L)) rfl ?_
  refine q_zne (p3 := 178) rfl rfl (fun h => ?_) (fun h => ?_)
  · have K := K.1 h
    refine q_n 6 (pc1 := 207) (ls1 := [some (.ref 67), some (.int x), some (.int k), some (.int c)]) (st1 := [.int c, .int (k - 1), .ref 91]) (hp1 := (hz F A L)) rfl ?_
    refine q_as (k := 91) (l := (A 91)) (p1 := 208) rfl rfl rfl K.1 (hz_s91 _) ?_
    have K := K.2
    refine q_n 1 (pc1 := 37) (ls1 := [some (.ref 67), some (.int x), some (.int k), some (.int c)]) (st1 := []) (hp1 := (hz F (uA A 91 ((A 91).set (k - 1).toInt.toNat c)) L)) rfl ?_
    exact K
  · have K := K.2 h
    refine q_n 4 (pc1 := 186) (ls1 := [some (.ref 67), some (.int x), some (.int k), some (.int c)]) (st1 := [.int (F 67 10), .int (F 67 9)]) (hp1 := (hz F A L)) rfl ?_
    refine q_ge (p3 := 189) rfl rfl (fun h => ?_) (fun h => ?_)
    · have K := K.1 h
      refine q_n 1 (pc1 := 198) (ls1 := [some (.ref 67), some (.int x), some (.int k), some (.int c)]) (st1 := [.int c]) (hp1 := (hz F A L)) rfl ?_
      exact q_ri rfl K
    · have K := K.2 h
      refine q_n 2 (pc1 := 191) (ls1 := [some (.ref 67), some (.int x), some (.int k), some (.int c)]) (st1 := [.int 1, .ref 67]) (hp1 := (hz F A L)) rfl ?_
      refine q_c rfl rfl (s_m_wrongOf (d := d + 3) ?_)
      show wp_E _ mm221.2.2.2.2.2.2.2.2 194 [some (.ref 67), some (.int x), some (.int k), some (.int c)] [.int (((-1000) * (1 : Int32)) - (F 67 9))] (hz (uF F 67 11 (((-1000) * (1 : Int32)) - (F 67 9))) A L) _
      refine q_n 1 (pc1 := 198) (ls1 := [some (.ref 67), some (.int x), some (.int k), some (.int c)]) (st1 := [.int (((-1000) * (1 : Int32)) - (F 67 9))]) (hp1 := (hz (uF F 67 11 (((-1000) * (1 : Int32)) - (F 67 9))) A L)) rfl ?_
      exact q_ri rfl K
