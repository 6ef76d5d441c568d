/-! lie, piece by piece -/
theorem g_li0 {d : Nat} {F : Nat → Nat → Int32} {A : Nat → List Int32} {L : Nat → List Int64} {Q : Option Value → sm_H → Prop} {x y : Int32} (K : ((A 68).length = 150 ∧ (((gV x (A 68)) = 0 → (Q (some (.int (-1))) (hz F A L))) ∧ (¬ (gV x (A 68)) = 0 → ((y = 10 → ((¬ (F 67 3) = 6 → (wp_M (d + 4) 210 [.ref 67] (hz F A L) (fun w hp1 => wp_E (d + 4) mm234.2.2.2.2.2.2.2.2 40 [some (.ref 67), some (.int x), some (.int y), none, none, none, none] (w.toList ++ []) hp1 Q))) ∧ ((F 67 3) = 6 → (Q (some (.int (-3))) (hz F A L))))) ∧ (¬ y = 10 → ((¬ (mV y (F 67 3)) = 0 → ((¬ (F 67 3) = 6 → (wp_M (d + 4) 210 [.ref 67] (hz F A L) (fun w hp1 => wp_E (d + 4) mm234.2.2.2.2.2.2.2.2 40 [some (.ref 67), some (.int x), some (.int y), none, none, none, none] (w.toList ++ []) hp1 Q))) ∧ ((F 67 3) = 6 → (Q (some (.int (-3))) (hz F A L))))) ∧ ((mV y (F 67 3)) = 0 → (Q (some (.int (-1))) (hz F A L)))))))))) : wp_E (d + 4) mm234.2.2.2.2.2.2.2.2 0 [some (.ref 67), some (.int x), some (.int y), none, none, none, none] [] (hz F A L) Q := by
  refine q_n 2 (pc1 := 2) (ls1 := [some (.ref 67), some (.int x), some (.int y), none, none, none, none]) (st1 := [.int x, .ref 67]) (hp1 := (hz F A L)) rfl ?_
  refine q_c rfl rfl (a_m_isGuest (d := d + 2) K.1 ?_)
  have K := K.2
  show wp_E _ mm234.2.2.2.2.2.2.2.2 5 [some (.ref 67), some (.int x), some (.int y), none, none, none, none] [.int (gV x (A 68))] (hz F A L) _
  refine q_zeq (p3 := 8) rfl rfl (fun h => ?_) (fun h => ?_)
  · have K := K.1 h
    refine q_n 1 (pc1 := 23) (ls1 := [some (.ref 67), some (.int x), some (.int y), none, none, none, none]) (st1 := [.int (-1)]) (hp1 := (hz F A L)) rfl ?_
    exact q_ri rfl K
  · have K := K.2 h
    refine q_n 2 (pc1 := 11) (ls1 := [some (.ref 67), some (.int x), some (.int y), none, none, none, none]) (st1 := [.int 10, .int y]) (hp1 := (hz F A L)) rfl ?_
    refine q_eq (p3 := 14) rfl rfl (fun h => ?_) (fun h => ?_)
    · have K := K.1 h
      refine q_n 3 (pc1 := 30) (ls1 := [some (.ref 67), some (.int x), some (.int y), none, none, none, none]) (st1 := [.int 6, .int (F 67 3)]) (hp1 := (hz F A L)) rfl ?_
      refine q_ne (p3 := 33) rfl rfl (fun h => ?_) (fun h => ?_)
      · have K := K.1 h
        refine q_n 1 (pc1 := 37) (ls1 := [some (.ref 67), some (.int x), some (.int y), none, none, none, none]) (st1 := [.ref 67]) (hp1 := (hz F A L)) rfl ?_
        exact q_c rfl rfl K
      · have K := K.2 h
        refine q_n 1 (pc1 := 35) (ls1 := [some (.ref 67), some (.int x), some (.int y), none, none, none, none]) (st1 := [.int (-3)]) (hp1 := (hz F A L)) rfl ?_
        exact q_ri rfl K
    · have K := K.2 h
      refine q_n 2 (pc1 := 16) (ls1 := [some (.ref 67), some (.int x), some (.int y), none, none, none, none]) (st1 := [.int y, .ref 67]) (hp1 := (hz F A L)) rfl ?_
      refine q_c rfl rfl (a_m_isMeasure (d := d + 2) ?_)
      show wp_E _ mm234.2.2.2.2.2.2.2.2 19 [some (.ref 67), some (.int x), some (.int y), none, none, none, none] [.int (mV y (F 67 3))] (hz F A L) _
      refine q_zne (p3 := 22) rfl rfl (fun h => ?_) (fun h => ?_)
      · have K := K.1 h
        refine q_n 3 (pc1 := 30) (ls1 := [some (.ref 67), some (.int x), some (.int y), none, none, none, none]) (st1 := [.int 6, .int (F 67 3)]) (hp1 := (hz F A L)) rfl ?_
        refine q_ne (p3 := 33) rfl rfl (fun h => ?_) (fun h => ?_)
        · have K := K.1 h
          refine q_n 1 (pc1 := 37) (ls1 := [some (.ref 67), some (.int x), some (.int y), none, none, none, none]) (st1 := [.ref 67]) (hp1 := (hz F A L)) rfl ?_
          exact q_c rfl rfl K
        · have K := K.2 h
          refine q_n 1 (pc1 := 35) (ls1 := [some (.ref 67), some (.int x), some (.int y), none, none, none, none]) (st1 := [.int (-3)]) (hp1 := (hz F A L)) rfl ?_
          exact q_ri rfl K
      · have K := K.2 h
        refine q_n 1 (pc1 := 23) (ls1 := [some (.ref 67), some (.int x), some (.int y), none, none, none, none]) (st1 := [.int (-1)]) (hp1 := (hz F A L)) rfl ?_
        exact q_ri rfl K
theorem g_li1 {d : Nat} {F : Nat → Nat → Int32} {A : Nat → List Int32} {L : Nat → List Int64} {Q : Option Value → sm_H → Prop} {x y r : Int32} (K : (wp_E (d + 4) mm234.2.2.2.2.2.2.2.2 44 [some (.ref 67), some (.int x), some (.int y), some (.int r), some (.int 0), none, none] [] (hz F A L) Q)) : wp_E (d + 4) mm234.2.2.2.2.2.2.2.2 40 [some (.ref 67), some (.int x), some (.int y), none, none, none, none] [.int r] (hz F A L) Q := by
  refine q_n 3 (pc1 := 44) (ls1 := [some (.ref 67), some (.int x), some (.int y), some (.int r), some (.int 0), none, none]) (st1 := []) (hp1 := (hz F A L)) rfl ?_
  exact K
theorem g_li2 {d : Nat} {F : Nat → Nat → Int32} {A : Nat → List Int32} {L : Nat → List Int64} {Q : Option Value → sm_H → Prop} {x y b i : Int32} (K : (((6 : Int32).toInt ≤ i.toInt → (wp_E (d + 4) mm234.2.2.2.2.2.2.2.2 71 [some (.ref 67), some (.int x), some (.int y), some (.int b), some (.int i), none, none] [] (hz F A L) Q)) ∧ (i.toInt < (6 : Int32).toInt → ((0 ≤ ((72 + (6 * x)) + i).toInt ∧ ((72 + (6 * x)) + i).toInt < ((A 68).length : Int)) ∧ ((0 ≤ i.toInt ∧ i.toInt < ((A 94).length : Int)) ∧ (wp_E (d + 4) mm234.2.2.2.2.2.2.2.2 44 [some (.ref 67), some (.int x), some (.int y), some (.int b), some (.int (i + 1)), none, none] [] (hz F (uA A 94 ((A 94).set i.toInt.toNat ((A 68).getD ((72 + (6 * x)) + i).toInt.toNat 0))) L) Q)))))) : wp_E (d + 4) mm234.2.2.2.2.2.2.2.2 44 [some (.ref 67), some (.int x), some (.int y), some (.int b), some (.int i), none, none] [] (hz F A L) Q := by
  refine q_n 2 (pc1 := 48) (ls1 := [some (.ref 67), some (.int x), some (.int y), some (.int b), some (.int i), none, none]) (st1 := [.int 6, .int i]) (hp1 := (hz F A L)) rfl ?_
  refine q_ge (p3 := 51) rfl rfl (fun h => ?_) (fun h => ?_)
  · have K := K.1 h
    exact K
  · have K := K.2 h
    refine q_n 6 (pc1 := 61) (ls1 := [some (.ref 67), some (.int x), some (.int y), some (.int b), some (.int i), none, none]) (st1 := [.int i, .int x, .ref 67, .int i, .ref 94]) (hp1 := (hz F A L)) rfl ?_
    refine q_c rfl rfl (s_m_placeOf (d := d + 3) ?_)
    refine ⟨K.1, ?_⟩
    have K := K.2
    show wp_E _ mm234.2.2.2.2.2.2.2.2 64 [some (.ref 67), some (.int x), some (.int y), some (.int b), some (.int i), none, none] [.int ((A 68).getD ((72 + (6 * x)) + i).toInt.toNat 0), .int i, .ref 94] (hz F A L) _
    refine q_as (k := 94) (l := (A 94)) (p1 := 65) rfl rfl rfl K.1 (hz_s94 _) ?_
    have K := K.2
    refine q_n 2 (pc1 := 44) (ls1 := [some (.ref 67), some (.int x), some (.int y), some (.int b), some (.int (i + 1)), none, none]) (st1 := []) (hp1 := (hz F (uA A 94 ((A 94).set i.toInt.toNat ((A 68).getD ((72 + (6 * x)) + i).toInt.toNat 0))) L)) rfl ?_
    exact K
theorem g_li3 {d : Nat} {F : Nat → Nat → Int32} {A : Nat → List Int32} {L : Nat → List Int64} {Q : Option Value → sm_H → Prop} {x y b i : Int32} (K : (wp_M (d + 4) 224 [.ref 67] (hz F A L) (fun w hp1 => wp_E (d + 4) mm234.2.2.2.2.2.2.2.2 75 [some (.ref 67), some (.int x), some (.int y), some (.int b), some (.int i), none, none] (w.toList ++ []) hp1 Q))) : wp_E (d + 4) mm234.2.2.2.2.2.2.2.2 71 [some (.ref 67), some (.int x), some (.int y), some (.int b), some (.int i), none, none] [] (hz F A L) Q := by
  refine q_n 1 (pc1 := 72) (ls1 := [some (.ref 67), some (.int x), some (.int y), some (.int b), some (.int i), none, none]) (st1 := [.ref 67]) (hp1 := (hz F A L)) rfl ?_
  exact q_c rfl rfl K
theorem g_li4 {d : Nat} {F : Nat → Nat → Int32} {A : Nat → List Int32} {L : Nat → List Int64} {Q : Option Value → sm_H → Prop} {x y b i : Int32} (K : (wp_E (d + 4) mm234.2.2.2.2.2.2.2.2 81 [some (.ref 67), some (.int x), some (.int y), some (.int b), some (.int 0), some (.int 1), none] [] (hz F A L) Q)) : wp_E (d + 4) mm234.2.2.2.2.2.2.2.2 75 [some (.ref 67), some (.int x), some (.int y), some (.int b), some (.int i), none, none] [] (hz F A L) Q := by
  refine q_n 4 (pc1 := 81) (ls1 := [some (.ref 67), some (.int x), some (.int y), some (.int b), some (.int 0), some (.int 1), none]) (st1 := []) (hp1 := (hz F A L)) rfl ?_
  exact K
theorem g_li5 {d : Nat} {F : Nat → Nat → Int32} {A : Nat → List Int32} {L : Nat → List Int64} {Q : Option Value → sm_H → Prop} {x y b n g : Int32} {v : Option Value} (K : ((g = 0 → (wp_E (d + 4) mm234.2.2.2.2.2.2.2.2 175 [some (.ref 67), some (.int x), some (.int y), some (.int b), some (.int n), some (.int g), some (.int 0)] [] (hz F A L) Q)) ∧ (¬ g = 0 → (wp_E (d + 4) mm234.2.2.2.2.2.2.2.2 89 [some (.ref 67), some (.int x), some (.int y), some (.int b), some (.int n), some (.int g), some (.int 0)] [] (hz F A L) Q)))) : wp_E (d + 4) mm234.2.2.2.2.2.2.2.2 81 [some (.ref 67), some (.int x), some (.int y), some (.int b), some (.int n), some (.int g), v] [] (hz F A L) Q := by
  refine q_n 1 (pc1 := 83) (ls1 := [some (.ref 67), some (.int x), some (.int y), some (.int b), some (.int n), some (.int g), v]) (st1 := [.int g]) (hp1 := (hz F A L)) rfl ?_
  refine q_zeq (p3 := 86) rfl rfl (fun h => ?_) (fun h => ?_)
  · have K := K.1 h
    refine q_n 2 (pc1 := 175) (ls1 := [some (.ref 67), some (.int x), some (.int y), some (.int b), some (.int n), some (.int g), some (.int 0)]) (st1 := []) (hp1 := (hz F A L)) rfl ?_
    exact K
  · have K := K.2 h
    refine q_n 2 (pc1 := 89) (ls1 := [some (.ref 67), some (.int x), some (.int y), some (.int b), some (.int n), some (.int g), some (.int 0)]) (st1 := []) (hp1 := (hz F A L)) rfl ?_
    exact K
theorem g_li6 {d : Nat} {F : Nat → Nat → Int32} {A : Nat → List Int32} {L : Nat → List Int64} {Q : Option Value → sm_H → Prop} {x y b n g k : Int32} (K : (((F 67 3).toInt ≤ k.toInt → (wp_E (d + 4) mm234.2.2.2.2.2.2.2.2 126 [some (.ref 67), some (.int x), some (.int y), some (.int b), some (.int n), some (.int g), some (.int k)] [] (hz F A L) Q)) ∧ (k.toInt < (F 67 3).toInt → ((0 ≤ k.toInt ∧ k.toInt < ((A 92).length : Int)) ∧ ((0 ≤ ((72 + (6 * x)) + ((A 92).getD k.toInt.toNat 0)).toInt ∧ ((72 + (6 * x)) + ((A 92).getD k.toInt.toNat 0)).toInt < ((A 68).length : Int)) ∧ (wp_E (d + 4) mm234.2.2.2.2.2.2.2.2 89 [some (.ref 67), some (.int x), some (.int y), some (.int b), some (.int n), some (.int g), some (.int (k + 1))] [] (hz F (uA A 68 ((A 68).set ((72 + (6 * x)) + ((A 92).getD k.toInt.toNat 0)).toInt.toNat k)) L) Q)))))) : wp_E (d + 4) mm234.2.2.2.2.2.2.2.2 89 [some (.ref 67), some (.int x), some (.int y), some (.int b), some (.int n), some (.int g), some (.int k)] [] (hz F A L) Q := by
  refine q_n 3 (pc1 := 95) (ls1 := [some (.ref 67), some (.int x), some (.int y), some (.int b), some (.int n), some (.int g), some (.int k)]) (st1 := [.int (F 67 3), .int k]) (hp1 := (hz F A L)) rfl ?_
  refine q_ge (p3 := 98) rfl rfl (fun h => ?_) (fun h => ?_)
  · have K := K.1 h
    exact K
  · have K := K.2 h
    refine q_n 10 (pc1 := 115) (ls1 := [some (.ref 67), some (.int x), some (.int y), some (.int b), some (.int n), some (.int g), some (.int k)]) (st1 := [.int k, .ref 92, .int (72 + (6 * x)), .ref 68]) (hp1 := (hz F A L)) rfl ?_
    refine q_al (k := 92) (l := (A 92)) (p1 := 116) rfl rfl rfl K.1 ?_
    have K := K.2
    refine q_n 2 (pc1 := 119) (ls1 := [some (.ref 67), some (.int x), some (.int y), some (.int b), some (.int n), some (.int g), some (.int k)]) (st1 := [.int k, .int ((72 + (6 * x)) + ((A 92).getD k.toInt.toNat 0)), .ref 68]) (hp1 := (hz F A L)) rfl ?_
    refine q_as (k := 68) (l := (A 68)) (p1 := 120) rfl rfl rfl K.1 (hz_s68 _) ?_
    have K := K.2
    refine q_n 2 (pc1 := 89) (ls1 := [some (.ref 67), some (.int x), some (.int y), some (.int b), some (.int n), some (.int g), some (.int (k + 1))]) (st1 := []) (hp1 := (hz F (uA A 68 ((A 68).set ((72 + (6 * x)) + ((A 92).getD k.toInt.toNat 0)).toInt.toNat k)) L)) rfl ?_
    exact K
theorem g_li7 {d : Nat} {F : Nat → Nat → Int32} {A : Nat → List Int32} {L : Nat → List Int64} {Q : Option Value → sm_H → Prop} {x y b n g k : Int32} (K : (wp_M (d + 4) 210 [.ref 67] (hz F A L) (fun w hp1 => wp_E (d + 4) mm234.2.2.2.2.2.2.2.2 134 [some (.ref 67), some (.int x), some (.int y), some (.int b), some (.int n), some (.int g), some (.int k)] (w.toList ++ [.ref 94]) hp1 Q))) : wp_E (d + 4) mm234.2.2.2.2.2.2.2.2 126 [some (.ref 67), some (.int x), some (.int y), some (.int b), some (.int n), some (.int g), some (.int k)] [] (hz F A L) Q := by
  refine q_n 3 (pc1 := 131) (ls1 := [some (.ref 67), some (.int x), some (.int y), some (.int b), some (.int n), some (.int g), some (.int k)]) (st1 := [.ref 67, .ref 94]) (hp1 := (hz F A L)) rfl ?_
  exact q_c rfl rfl K
theorem g_li8 {d : Nat} {F : Nat → Nat → Int32} {A : Nat → List Int32} {L : Nat → List Int64} {Q : Option Value → sm_H → Prop} {x y b n g k r : Int32} (K : ((0 ≤ r.toInt ∧ r.toInt < ((A 94).length : Int)) ∧ ((0 ≤ b.toInt ∧ b.toInt < ((A 94).length : Int)) ∧ ((((A 94).getD b.toInt.toNat 0).toInt ≤ ((A 94).getD r.toInt.toNat 0).toInt → (wp_E (d + 4) mm234.2.2.2.2.2.2.2.2 159 [some (.ref 67), some (.int x), some (.int y), some (.int b), some (.int n), some (.int g), some (.int k)] [] (hz F A L) Q)) ∧ (((A 94).getD r.toInt.toNat 0).toInt < ((A 94).getD b.toInt.toNat 0).toInt → ((¬ n = 0 → (wp_E (d + 4) mm234.2.2.2.2.2.2.2.2 159 [some (.ref 67), some (.int x), some (.int y), some (.int b), some (.int (n + 1)), some (.int g), some (.int k)] [] (hz F A L) Q)) ∧ (n = 0 → (wp_M (d + 4) 225 [.ref 67] (hz F A L) (fun w hp1 => wp_E (d + 4) mm234.2.2.2.2.2.2.2.2 153 [some (.ref 67), some (.int x), some (.int y), some (.int b), some (.int n), some (.int g), some (.int k)] (w.toList ++ []) hp1 Q))))))))) : wp_E (d + 4) mm234.2.2.2.2.2.2.2.2 134 [some (.ref 67), some (.int x), some (.int y), some (.int b), some (.int n), some (.int g), some (.int k)] [.int r, .ref 94] (hz F A L) Q := by
  refine q_al (k := 94) (l := (A 94)) (p1 := 135) rfl rfl rfl K.1 ?_
  have K := K.2
  refine q_n 3 (pc1 := 140) (ls1 := [some (.ref 67), some (.int x), some (.int y), some (.int b), some (.int n), some (.int g), some (.int k)]) (st1 := [.int b, .ref 94, .int ((A 94).getD r.toInt.toNat 0)]) (hp1 := (hz F A L)) rfl ?_
  refine q_al (k := 94) (l := (A 94)) (p1 := 141) rfl rfl rfl K.1 ?_
  have K := K.2
  refine q_ge (p3 := 144) rfl rfl (fun h => ?_) (fun h => ?_)
  · have K := K.1 h
    exact K
  · have K := K.2 h
    refine q_n 1 (pc1 := 146) (ls1 := [some (.ref 67), some (.int x), some (.int y), some (.int b), some (.int n), some (.int g), some (.int k)]) (st1 := [.int n]) (hp1 := (hz F A L)) rfl ?_
    refine q_zne (p3 := 149) rfl rfl (fun h => ?_) (fun h => ?_)
    · have K := K.1 h
      refine q_n 4 (pc1 := 159) (ls1 := [some (.ref 67), some (.int x), some (.int y), some (.int b), some (.int (n + 1)), some (.int g), some (.int k)]) (st1 := []) (hp1 := (hz F A L)) rfl ?_
      exact K
    · have K := K.2 h
      refine q_n 1 (pc1 := 150) (ls1 := [some (.ref 67), some (.int x), some (.int y), some (.int b), some (.int n), some (.int g), some (.int k)]) (st1 := [.ref 67]) (hp1 := (hz F A L)) rfl ?_
      exact q_c rfl rfl K
theorem g_li9 {d : Nat} {F : Nat → Nat → Int32} {A : Nat → List Int32} {L : Nat → List Int64} {Q : Option Value → sm_H → Prop} {x y b n g k : Int32} (K : (wp_E (d + 4) mm234.2.2.2.2.2.2.2.2 159 [some (.ref 67), some (.int x), some (.int y), some (.int b), some (.int (n + 1)), some (.int g), some (.int k)] [] (hz F A L) Q)) : wp_E (d + 4) mm234.2.2.2.2.2.2.2.2 153 [some (.ref 67), some (.int x), some (.int y), some (.int b), some (.int n), some (.int g), some (.int k)] [] (hz F A L) Q := by
  refine q_n 4 (pc1 := 159) (ls1 := [some (.ref 67), some (.int x), some (.int y), some (.int b), some (.int (n + 1)), some (.int g), some (.int k)]) (st1 := []) (hp1 := (hz F A L)) rfl ?_
  exact K
theorem g_lia {d : Nat} {F : Nat → Nat → Int32} {A : Nat → List Int32} {L : Nat → List Int64} {Q : Option Value → sm_H → Prop} {x y b n g k : Int32} (K : (wp_M (d + 4) 226 [.ref 67, .int (F 67 3)] (hz F A L) (fun w hp1 => wp_E (d + 4) mm234.2.2.2.2.2.2.2.2 167 [some (.ref 67), some (.int x), some (.int y), some (.int b), some (.int n), some (.int g), some (.int k)] (w.toList ++ []) hp1 Q))) : wp_E (d + 4) mm234.2.2.2.2.2.2.2.2 159 [some (.ref 67), some (.int x), some (.int y), some (.int b), some (.int n), some (.int g), some (.int k)] [] (hz F A L) Q := by
  refine q_n 3 (pc1 := 164) (ls1 := [some (.ref 67), some (.int x), some (.int y), some (.int b), some (.int n), some (.int g), some (.int k)]) (st1 := [.int (F 67 3), .ref 67]) (hp1 := (hz F A L)) rfl ?_
  exact q_c rfl rfl K
theorem g_lib {d : Nat} {F : Nat → Nat → Int32} {A : Nat → List Int32} {L : Nat → List Int64} {Q : Option Value → sm_H → Prop} {x y b n g k r : Int32} (K : (wp_E (d + 4) mm234.2.2.2.2.2.2.2.2 81 [some (.ref 67), some (.int x), some (.int y), some (.int b), some (.int n), some (.int r), some (.int k)] [] (hz F A L) Q)) : wp_E (d + 4) mm234.2.2.2.2.2.2.2.2 167 [some (.ref 67), some (.int x), some (.int y), some (.int b), some (.int n), some (.int g), some (.int k)] [.int r] (hz F A L) Q := by
  refine q_n 2 (pc1 := 81) (ls1 := [some (.ref 67), some (.int x), some (.int y), some (.int b), some (.int n), some (.int r), some (.int k)]) (st1 := []) (hp1 := (hz F A L)) rfl ?_
  exact K
theorem g_lic {d : Nat} {F : Nat → Nat → Int32} {A : Nat → List Int32} {L : Nat → List Int64} {Q : Option Value → sm_H → Prop} {x y b n g k : Int32} (K : (((6 : Int32).toInt ≤ k.toInt → ((¬ y = 10 → ((¬ n = 0 → ((0 ≤ y.toInt ∧ y.toInt < ((A 93).length : Int)) ∧ (Q (some (.int ((A 93).getD y.toInt.toNat 0))) (hz F A L)))) ∧ (n = 0 → (Q (some (.int (-2))) (hz F A L))))) ∧ (y = 10 → (Q (some (.int n)) (hz F A L))))) ∧ (k.toInt < (6 : Int32).toInt → ((0 ≤ k.toInt ∧ k.toInt < ((A 94).length : Int)) ∧ ((0 ≤ ((72 + (6 * x)) + k).toInt ∧ ((72 + (6 * x)) + k).toInt < ((A 68).length : Int)) ∧ (wp_E (d + 4) mm234.2.2.2.2.2.2.2.2 175 [some (.ref 67), some (.int x), some (.int y), some (.int b), some (.int n), some (.int g), some (.int (k + 1))] [] (hz F (uA A 68 ((A 68).set ((72 + (6 * x)) + k).toInt.toNat ((A 94).getD k.toInt.toNat 0))) L) Q)))))) : wp_E (d + 4) mm234.2.2.2.2.2.2.2.2 175 [some (.ref 67), some (.int x), some (.int y), some (.int b), some (.int n), some (.int g), some (.int k)] [] (hz F A L) Q := by
  refine q_n 2 (pc1 := 179) (ls1 := [some (.ref 67), some (.int x), some (.int y), some (.int b), some (.int n), some (.int g), some (.int k)]) (st1 := [.int 6, .int k]) (hp1 := (hz F A L)) rfl ?_
  refine q_ge (p3 := 182) rfl rfl (fun h => ?_) (fun h => ?_)
  · have K := K.1 h
    refine q_n 2 (pc1 := 213) (ls1 := [some (.ref 67), some (.int x), some (.int y), some (.int b), some (.int n), some (.int g), some (.int k)]) (st1 := [.int 10, .int y]) (hp1 := (hz F A L)) rfl ?_
    refine q_ne (p3 := 216) rfl rfl (fun h => ?_) (fun h => ?_)
    · have K := K.1 h
      refine q_n 1 (pc1 := 223) (ls1 := [some (.ref 67), some (.int x), some (.int y), some (.int b), some (.int n), some (.int g), some (.int k)]) (st1 := [.int n]) (hp1 := (hz F A L)) rfl ?_
      refine q_zne (p3 := 226) rfl rfl (fun h => ?_) (fun h => ?_)
      · have K := K.1 h
        refine q_n 3 (pc1 := 236) (ls1 := [some (.ref 67), some (.int x), some (.int y), some (.int b), some (.int n), some (.int g), some (.int k)]) (st1 := [.int y, .ref 93]) (hp1 := (hz F A L)) rfl ?_
        refine q_al (k := 93) (l := (A 93)) (p1 := 237) rfl rfl rfl K.1 ?_
        have K := K.2
        exact q_ri rfl K
      · have K := K.2 h
        refine q_n 2 (pc1 := 237) (ls1 := [some (.ref 67), some (.int x), some (.int y), some (.int b), some (.int n), some (.int g), some (.int k)]) (st1 := [.int (-2)]) (hp1 := (hz F A L)) rfl ?_
        exact q_ri rfl K
    · have K := K.2 h
      refine q_n 2 (pc1 := 237) (ls1 := [some (.ref 67), some (.int x), some (.int y), some (.int b), some (.int n), some (.int g), some (.int k)]) (st1 := [.int n]) (hp1 := (hz F A L)) rfl ?_
      exact q_ri rfl K
  · have K := K.2 h
    refine q_n 12 (pc1 := 202) (ls1 := [some (.ref 67), some (.int x), some (.int y), some (.int b), some (.int n), some (.int g), some (.int k)]) (st1 := [.int k, .ref 94, .int ((72 + (6 * x)) + k), .ref 68]) (hp1 := (hz F A L)) rfl ?_
    refine q_al (k := 94) (l := (A 94)) (p1 := 203) rfl rfl rfl K.1 ?_
    have K := K.2
    refine q_as (k := 68) (l := (A 68)) (p1 := 204) rfl rfl rfl K.1 (hz_s68 _) ?_
    have K := K.2
    refine q_n 2 (pc1 := 175) (ls1 := [some (.ref 67), some (.int x), some (.int y), some (.int b), some (.int n), some (.int g), some (.int (k + 1))]) (st1 := []) (hp1 := (hz F (uA A 68 ((A 68).set ((72 + (6 * x)) + k).toInt.toNat ((A 94).getD k.toInt.toNat 0))) L)) rfl ?_
    exact K
