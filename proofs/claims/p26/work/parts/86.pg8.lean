/-! orders, piece by piece -/
theorem g_or0 {d : Nat} {F : Nat → Nat → Int32} {A : Nat → List Int32} {L : Nat → List Int64} {Q : Option Value → sm_H → Prop} {x y : Int32} (K : (((mV x (F 67 3)) = 0 → (Q (some (.int (-1))) (hz F A L))) ∧ (¬ (mV x (F 67 3)) = 0 → ((y = 10 → (wp_M (d + 5) 224 [.ref 67] (hz F A L) (fun w hp1 => wp_E (d + 5) mm223.2.2.2.2.2.2.2.2 28 [some (.ref 67), some (.int x), some (.int y), none, none, none, none] (w.toList ++ []) hp1 Q))) ∧ (¬ y = 10 → ((¬ (mV y (F 67 3)) = 0 → (wp_M (d + 5) 224 [.ref 67] (hz F A L) (fun w hp1 => wp_E (d + 5) mm223.2.2.2.2.2.2.2.2 28 [some (.ref 67), some (.int x), some (.int y), none, none, none, none] (w.toList ++ []) hp1 Q))) ∧ ((mV y (F 67 3)) = 0 → (Q (some (.int (-1))) (hz F A L))))))))) : wp_E (d + 5) mm223.2.2.2.2.2.2.2.2 0 [some (.ref 67), some (.int x), some (.int y), none, none, none, none] [] (hz F A L) Q := by
  refine q_n 2 (pc1 := 2) (ls1 := [some (.ref 67), some (.int x), some (.int y), none, none, none, none]) (st1 := [.int x, .ref 67]) (hp1 := (hz F A L)) rfl ?_
  refine q_c rfl rfl (a_m_isMeasure (d := d + 3) ?_)
  show wp_E _ mm223.2.2.2.2.2.2.2.2 5 [some (.ref 67), some (.int x), some (.int y), none, none, none, none] [.int (mV x (F 67 3))] (hz F A L) _
  refine q_zeq (p3 := 8) rfl rfl (fun h => ?_) (fun h => ?_)
  · have K := K.1 h
    refine q_n 1 (pc1 := 23) (ls1 := [some (.ref 67), some (.int x), some (.int y), none, none, none, none]) (st1 := [.int (-1)]) (hp1 := (hz F A L)) rfl ?_
    exact q_ri rfl K
  · have K := K.2 h
    refine q_n 2 (pc1 := 11) (ls1 := [some (.ref 67), some (.int x), some (.int y), none, none, none, none]) (st1 := [.int 10, .int y]) (hp1 := (hz F A L)) rfl ?_
    refine q_eq (p3 := 14) rfl rfl (fun h => ?_) (fun h => ?_)
    · have K := K.1 h
      refine q_n 1 (pc1 := 25) (ls1 := [some (.ref 67), some (.int x), some (.int y), none, none, none, none]) (st1 := [.ref 67]) (hp1 := (hz F A L)) rfl ?_
      exact q_c rfl rfl K
    · have K := K.2 h
      refine q_n 2 (pc1 := 16) (ls1 := [some (.ref 67), some (.int x), some (.int y), none, none, none, none]) (st1 := [.int y, .ref 67]) (hp1 := (hz F A L)) rfl ?_
      refine q_c rfl rfl (a_m_isMeasure (d := d + 3) ?_)
      show wp_E _ mm223.2.2.2.2.2.2.2.2 19 [some (.ref 67), some (.int x), some (.int y), none, none, none, none] [.int (mV y (F 67 3))] (hz F A L) _
      refine q_zne (p3 := 22) rfl rfl (fun h => ?_) (fun h => ?_)
      · have K := K.1 h
        refine q_n 1 (pc1 := 25) (ls1 := [some (.ref 67), some (.int x), some (.int y), none, none, none, none]) (st1 := [.ref 67]) (hp1 := (hz F A L)) rfl ?_
        exact q_c rfl rfl K
      · have K := K.2 h
        refine q_n 1 (pc1 := 23) (ls1 := [some (.ref 67), some (.int x), some (.int y), none, none, none, none]) (st1 := [.int (-1)]) (hp1 := (hz F A L)) rfl ?_
        exact q_ri rfl K
theorem g_or1 {d : Nat} {F : Nat → Nat → Int32} {A : Nat → List Int32} {L : Nat → List Int64} {Q : Option Value → sm_H → Prop} {x y : Int32} (K : (wp_E (d + 5) mm223.2.2.2.2.2.2.2.2 33 [some (.ref 67), some (.int x), some (.int y), some (.int 0), some (.int 1), none, none] [] (hz F A L) Q)) : wp_E (d + 5) mm223.2.2.2.2.2.2.2.2 28 [some (.ref 67), some (.int x), some (.int y), none, none, none, none] [] (hz F A L) Q := by
  refine q_n 4 (pc1 := 33) (ls1 := [some (.ref 67), some (.int x), some (.int y), some (.int 0), some (.int 1), none, none]) (st1 := []) (hp1 := (hz F A L)) rfl ?_
  exact K
theorem g_or2 {d : Nat} {F : Nat → Nat → Int32} {A : Nat → List Int32} {L : Nat → List Int64} {Q : Option Value → sm_H → Prop} {x y n g : Int32} {u v : Option Value} (K : ((g = 0 → ((¬ y = 10 → ((¬ n = 0 → ((0 ≤ y.toInt ∧ y.toInt < ((A 93).length : Int)) ∧ (Q (some (.int ((A 93).getD y.toInt.toNat 0))) (hz F A L)))) ∧ (n = 0 → (Q (some (.int (-2))) (hz F A L))))) ∧ (y = 10 → (Q (some (.int n)) (hz F A L))))) ∧ (¬ g = 0 → ((0 ≤ (0 : Int32).toInt ∧ (0 : Int32).toInt < ((A 92).length : Int)) ∧ (wp_E (d + 5) mm223.2.2.2.2.2.2.2.2 49 [some (.ref 67), some (.int x), some (.int y), some (.int n), some (.int g), some (.int ((A 92).getD (0 : Int32).toInt.toNat 0)), some (.int 1)] [] (hz F A L) Q))))) : wp_E (d + 5) mm223.2.2.2.2.2.2.2.2 33 [some (.ref 67), some (.int x), some (.int y), some (.int n), some (.int g), u, v] [] (hz F A L) Q := by
  refine q_n 1 (pc1 := 35) (ls1 := [some (.ref 67), some (.int x), some (.int y), some (.int n), some (.int g), u, v]) (st1 := [.int g]) (hp1 := (hz F A L)) rfl ?_
  refine q_zeq (p3 := 38) rfl rfl (fun h => ?_) (fun h => ?_)
  · have K := K.1 h
    refine q_n 2 (pc1 := 123) (ls1 := [some (.ref 67), some (.int x), some (.int y), some (.int n), some (.int g), u, v]) (st1 := [.int 10, .int y]) (hp1 := (hz F A L)) rfl ?_
    refine q_ne (p3 := 126) rfl rfl (fun h => ?_) (fun h => ?_)
    · have K := K.1 h
      refine q_n 1 (pc1 := 131) (ls1 := [some (.ref 67), some (.int x), some (.int y), some (.int n), some (.int g), u, v]) (st1 := [.int n]) (hp1 := (hz F A L)) rfl ?_
      refine q_zne (p3 := 134) rfl rfl (fun h => ?_) (fun h => ?_)
      · have K := K.1 h
        refine q_n 3 (pc1 := 144) (ls1 := [some (.ref 67), some (.int x), some (.int y), some (.int n), some (.int g), u, v]) (st1 := [.int y, .ref 93]) (hp1 := (hz F A L)) rfl ?_
        refine q_al (k := 93) (l := (A 93)) (p1 := 145) rfl rfl rfl K.1 ?_
        have K := K.2
        exact q_ri rfl K
      · have K := K.2 h
        refine q_n 2 (pc1 := 145) (ls1 := [some (.ref 67), some (.int x), some (.int y), some (.int n), some (.int g), u, v]) (st1 := [.int (-2)]) (hp1 := (hz F A L)) rfl ?_
        exact q_ri rfl K
    · have K := K.2 h
      refine q_n 2 (pc1 := 145) (ls1 := [some (.ref 67), some (.int x), some (.int y), some (.int n), some (.int g), u, v]) (st1 := [.int n]) (hp1 := (hz F A L)) rfl ?_
      exact q_ri rfl K
  · have K := K.2 h
    refine q_n 3 (pc1 := 43) (ls1 := [some (.ref 67), some (.int x), some (.int y), some (.int n), some (.int g), u, v]) (st1 := [.int 0, .ref 92]) (hp1 := (hz F A L)) rfl ?_
    refine q_al (k := 92) (l := (A 92)) (p1 := 44) rfl rfl rfl K.1 ?_
    have K := K.2
    refine q_n 3 (pc1 := 49) (ls1 := [some (.ref 67), some (.int x), some (.int y), some (.int n), some (.int g), some (.int ((A 92).getD (0 : Int32).toInt.toNat 0)), some (.int 1)]) (st1 := []) (hp1 := (hz F A L)) rfl ?_
    exact K
theorem g_or3 {d : Nat} {F : Nat → Nat → Int32} {A : Nat → List Int32} {L : Nat → List Int64} {Q : Option Value → sm_H → Prop} {x y n g c k : Int32} (K : (((F 67 3).toInt ≤ k.toInt → ((¬ c = x → (wp_E (d + 5) mm223.2.2.2.2.2.2.2.2 93 [some (.ref 67), some (.int x), some (.int y), some (.int n), some (.int g), some (.int c), some (.int k)] [] (hz F A L) Q)) ∧ (c = x → ((¬ n = 0 → (wp_E (d + 5) mm223.2.2.2.2.2.2.2.2 93 [some (.ref 67), some (.int x), some (.int y), some (.int n), some (.int g), some (.int c), some (.int k)] [] (hz F A L) Q)) ∧ (n = 0 → (wp_M (d + 5) 225 [.ref 67] (hz F A L) (fun w hp1 => wp_E (d + 5) mm223.2.2.2.2.2.2.2.2 93 [some (.ref 67), some (.int x), some (.int y), some (.int n), some (.int g), some (.int c), some (.int k)] (w.toList ++ []) hp1 Q))))))) ∧ (k.toInt < (F 67 3).toInt → ((0 ≤ k.toInt ∧ k.toInt < ((A 92).length : Int)) ∧ (wp_M (d + 5) 222 [.ref 67, .int c, .int ((A 92).getD k.toInt.toNat 0)] (hz F A L) (fun w hp1 => wp_E (d + 5) mm223.2.2.2.2.2.2.2.2 71 [some (.ref 67), some (.int x), some (.int y), some (.int n), some (.int g), some (.int c), some (.int k)] (w.toList ++ []) hp1 Q)))))) : wp_E (d + 5) mm223.2.2.2.2.2.2.2.2 49 [some (.ref 67), some (.int x), some (.int y), some (.int n), some (.int g), some (.int c), some (.int k)] [] (hz F A L) Q := by
  refine q_n 3 (pc1 := 55) (ls1 := [some (.ref 67), some (.int x), some (.int y), some (.int n), some (.int g), some (.int c), some (.int k)]) (st1 := [.int (F 67 3), .int k]) (hp1 := (hz F A L)) rfl ?_
  refine q_ge (p3 := 58) rfl rfl (fun h => ?_) (fun h => ?_)
  · have K := K.1 h
    refine q_n 2 (pc1 := 82) (ls1 := [some (.ref 67), some (.int x), some (.int y), some (.int n), some (.int g), some (.int c), some (.int k)]) (st1 := [.int x, .int c]) (hp1 := (hz F A L)) rfl ?_
    refine q_ne (p3 := 85) rfl rfl (fun h => ?_) (fun h => ?_)
    · have K := K.1 h
      exact K
    · have K := K.2 h
      refine q_n 1 (pc1 := 86) (ls1 := [some (.ref 67), some (.int x), some (.int y), some (.int n), some (.int g), some (.int c), some (.int k)]) (st1 := [.int n]) (hp1 := (hz F A L)) rfl ?_
      refine q_zne (p3 := 89) rfl rfl (fun h => ?_) (fun h => ?_)
      · have K := K.1 h
        exact K
      · have K := K.2 h
        refine q_n 1 (pc1 := 90) (ls1 := [some (.ref 67), some (.int x), some (.int y), some (.int n), some (.int g), some (.int c), some (.int k)]) (st1 := [.ref 67]) (hp1 := (hz F A L)) rfl ?_
        exact q_c rfl rfl K
  · have K := K.2 h
    refine q_n 5 (pc1 := 67) (ls1 := [some (.ref 67), some (.int x), some (.int y), some (.int n), some (.int g), some (.int c), some (.int k)]) (st1 := [.int k, .ref 92, .int c, .ref 67]) (hp1 := (hz F A L)) rfl ?_
    refine q_al (k := 92) (l := (A 92)) (p1 := 68) rfl rfl rfl K.1 ?_
    have K := K.2
    exact q_c rfl rfl K
theorem g_or4 {d : Nat} {F : Nat → Nat → Int32} {A : Nat → List Int32} {L : Nat → List Int64} {Q : Option Value → sm_H → Prop} {x y n g c k r : Int32} (K : (wp_E (d + 5) mm223.2.2.2.2.2.2.2.2 49 [some (.ref 67), some (.int x), some (.int y), some (.int n), some (.int g), some (.int r), some (.int (k + 1))] [] (hz F A L) Q)) : wp_E (d + 5) mm223.2.2.2.2.2.2.2.2 71 [some (.ref 67), some (.int x), some (.int y), some (.int n), some (.int g), some (.int c), some (.int k)] [.int r] (hz F A L) Q := by
  refine q_n 3 (pc1 := 49) (ls1 := [some (.ref 67), some (.int x), some (.int y), some (.int n), some (.int g), some (.int r), some (.int (k + 1))]) (st1 := []) (hp1 := (hz F A L)) rfl ?_
  exact K
theorem g_or5 {d : Nat} {F : Nat → Nat → Int32} {A : Nat → List Int32} {L : Nat → List Int64} {Q : Option Value → sm_H → Prop} {x y n g c k : Int32} (K : ((¬ c = x → (wp_M (d + 5) 226 [.ref 67, .int (F 67 3)] (hz F A L) (fun w hp1 => wp_E (d + 5) mm223.2.2.2.2.2.2.2.2 115 [some (.ref 67), some (.int x), some (.int y), some (.int (n + 0)), some (.int g), some (.int c), some (.int k)] (w.toList ++ []) hp1 Q))) ∧ (c = x → (wp_M (d + 5) 226 [.ref 67, .int (F 67 3)] (hz F A L) (fun w hp1 => wp_E (d + 5) mm223.2.2.2.2.2.2.2.2 115 [some (.ref 67), some (.int x), some (.int y), some (.int (n + 1)), some (.int g), some (.int c), some (.int k)] (w.toList ++ []) hp1 Q))))) : wp_E (d + 5) mm223.2.2.2.2.2.2.2.2 93 [some (.ref 67), some (.int x), some (.int y), some (.int n), some (.int g), some (.int c), some (.int k)] [] (hz F A L) Q := by
  refine q_n 3 (pc1 := 97) (ls1 := [some (.ref 67), some (.int x), some (.int y), some (.int n), some (.int g), some (.int c), some (.int k)]) (st1 := [.int x, .int c, .int n]) (hp1 := (hz F A L)) rfl ?_
  refine q_ne (p3 := 100) rfl rfl (fun h => ?_) (fun h => ?_)
  · have K := K.1 h
    refine q_n 6 (pc1 := 112) (ls1 := [some (.ref 67), some (.int x), some (.int y), some (.int (n + 0)), some (.int g), some (.int c), some (.int k)]) (st1 := [.int (F 67 3), .ref 67]) (hp1 := (hz F A L)) rfl ?_
    exact q_c rfl rfl K
  · have K := K.2 h
    refine q_n 7 (pc1 := 112) (ls1 := [some (.ref 67), some (.int x), some (.int y), some (.int (n + 1)), some (.int g), some (.int c), some (.int k)]) (st1 := [.int (F 67 3), .ref 67]) (hp1 := (hz F A L)) rfl ?_
    exact q_c rfl rfl K
theorem g_or6 {d : Nat} {F : Nat → Nat → Int32} {A : Nat → List Int32} {L : Nat → List Int64} {Q : Option Value → sm_H → Prop} {x y n g c k r : Int32} (K : (wp_E (d + 5) mm223.2.2.2.2.2.2.2.2 33 [some (.ref 67), some (.int x), some (.int y), some (.int n), some (.int r), some (.int c), some (.int k)] [] (hz F A L) Q)) : wp_E (d + 5) mm223.2.2.2.2.2.2.2.2 115 [some (.ref 67), some (.int x), some (.int y), some (.int n), some (.int g), some (.int c), some (.int k)] [.int r] (hz F A L) Q := by
  refine q_n 2 (pc1 := 33) (ls1 := [some (.ref 67), some (.int x), some (.int y), some (.int n), some (.int r), some (.int c), some (.int k)]) (st1 := []) (hp1 := (hz F A L)) rfl ?_
  exact K
