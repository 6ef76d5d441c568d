/-! the lift of law of the reference, printed by genlift.py: 0 -/
noncomputable def km_isDigit (f67_9 : Int32) (f67_10 : Int32) (a71 : List Int32) : Int32 := (if (km_here f67_9 f67_10 a71).toInt < 48 then 0 else (if 57 < (km_here f67_9 f67_10 a71).toInt then 0 else 1))
theorem t_km_isDigit {f D : Nat} {F : Nat → Nat → Int32} {A : Nat → List Int32} {L : Nat → List Int64} {Q : Option Value → sm_H → Prop} (K : Q (some (.int (km_isDigit (F 67 9) (F 67 10) (A 71)))) (hz F A L)) : wl_M f D 158 [.ref 67] (hz F A L) Q := by
  generalize hT : (km_isDigit (F 67 9) (F 67 10) (A 71)) = T at K
  have hE : T = (if (km_here (F 67 9) (F 67 10) (A 71)).toInt < 48 then 0 else (if 57 < (km_here (F 67 9) (F 67 10) (A 71)).toInt then 0 else 1)) := hT.symm
  clear hT
  refine w_m (E := mm158) rfl ?_
  show wl_E f f (D - 1) mm158.2.2.2.2.2.2.2.2 0 [some (.ref 67)] [] (hz F A L) Q
  refine w_n 1 (pc1 := 1) (ls1 := [some (.ref 67)]) (st1 := [.ref 67]) (hp1 := (hz F A L)) rfl ?_
  refine w_c rfl rfl (t_km_here ?_)
  show wl_E f _ _ mm158.2.2.2.2.2.2.2.2 4 [some (.ref 67)] [.int (km_here (F 67 9) (F 67 10) (A 71))] (hz F A L) _
  generalize hG471 : (km_here (F 67 9) (F 67 10) (A 71)) = G471 at hE ⊢
  refine w_n 1 (pc1 := 6) (ls1 := [some (.ref 67)]) (st1 := [.int 48, .int G471]) (hp1 := (hz F A L)) rfl ?_
  refine w_lt (p3 := 9) rfl rfl (fun h => ?_) (fun h => ?_)
  · have h1 : G471.toInt < 48 := h
    rw [if_pos h1] at hE
    refine w_n 1 (pc1 := 23) (ls1 := [some (.ref 67)]) (st1 := [.int 0]) (hp1 := (hz F A L)) rfl ?_
    subst T
    exact w_ri rfl (cvQ rfl rfl rfl K)
  · have h1 : 48 ≤ G471.toInt := h
    rw [if_neg (Int.not_lt.mpr h1)] at hE
    refine w_n 1 (pc1 := 10) (ls1 := [some (.ref 67)]) (st1 := [.ref 67]) (hp1 := (hz F A L)) rfl ?_
    refine w_c rfl rfl (t_km_here ?_)
    show wl_E f _ _ mm158.2.2.2.2.2.2.2.2 13 [some (.ref 67)] [.int (km_here (F 67 9) (F 67 10) (A 71))] (hz F A L) _
    rw [hG471]
    refine w_n 1 (pc1 := 15) (ls1 := [some (.ref 67)]) (st1 := [.int 57, .int G471]) (hp1 := (hz F A L)) rfl ?_
    refine w_gt (p3 := 18) rfl rfl (fun h => ?_) (fun h => ?_)
    · have h2 : 57 < G471.toInt := h
      rw [if_pos h2] at hE
      refine w_n 1 (pc1 := 23) (ls1 := [some (.ref 67)]) (st1 := [.int 0]) (hp1 := (hz F A L)) rfl ?_
      subst T
      exact w_ri rfl (cvQ rfl rfl rfl K)
    · have h2 : G471.toInt ≤ 57 := h
      rw [if_neg (Int.not_lt.mpr h2)] at hE
      refine w_n 2 (pc1 := 23) (ls1 := [some (.ref 67)]) (st1 := [.int 1]) (hp1 := (hz F A L)) rfl ?_
      subst T
      exact w_ri rfl (cvQ rfl rfl rfl K)
noncomputable def km_factOf (x0 : Int32) : Int32 := (if x0 = 97 then 3 else (if x0 = 98 then 4 else (if x0 = 99 then 1 else (if x0 = 100 then (-1) else (if x0 = 101 then (-1) else (if x0 = 102 then (-1) else (if x0 = 103 then 0 else (if x0 = 104 then (-1) else (if x0 = 105 then (-1) else (if x0 = 106 then (-1) else (if x0 = 107 then (-1) else (if x0 = 108 then 2 else (if x0 = 109 then 5 else (if x0 = 110 then (-1) else (if x0 = 111 then (-1) else (if x0 = 112 then (-1) else (if x0 = 113 then (-1) else (if x0 = 114 then (-1) else (if x0 = 115 then (-1) else (if x0 = 116 then 7 else (if x0 = 117 then (-1) else (if x0 = 118 then 6 else (-1)))))))))))))))))))))))
theorem t_km_factOf {f D : Nat} {F : Nat → Nat → Int32} {A : Nat → List Int32} {L : Nat → List Int64} {Q : Option Value → sm_H → Prop} {x0 : Int32} (K : Q (some (.int (km_factOf x0))) (hz F A L)) : wl_M f D 161 [.int x0] (hz F A L) Q := by
  generalize hT : (km_factOf x0) = T at K
  have hE : T = (if x0 = 97 then 3 else (if x0 = 98 then 4 else (if x0 = 99 then 1 else (if x0 = 100 then (-1) else (if x0 = 101 then (-1) else (if x0 = 102 then (-1) else (if x0 = 103 then 0 else (if x0 = 104 then (-1) else (if x0 = 105 then (-1) else (if x0 = 106 then (-1) else (if x0 = 107 then (-1) else (if x0 = 108 then 2 else (if x0 = 109 then 5 else (if x0 = 110 then (-1) else (if x0 = 111 then (-1) else (if x0 = 112 then (-1) else (if x0 = 113 then (-1) else (if x0 = 114 then (-1) else (if x0 = 115 then (-1) else (if x0 = 116 then 7 else (if x0 = 117 then (-1) else (if x0 = 118 then 6 else (-1))))))))))))))))))))))) := hT.symm
  clear hT
  refine w_m (E := mm161) rfl ?_
  show wl_E f f (D - 1) mm161.2.2.2.2.2.2.2.2 0 [some (.int x0)] [] (hz F A L) Q
  refine w_n 1 (pc1 := 1) (ls1 := [some (.int x0)]) (st1 := [.int x0]) (hp1 := (hz F A L)) rfl ?_
  by_cases h : x0 = 97
  · have h1 : x0 = 97 := h
    rw [if_pos h1] at hE
    refine w_k h1 ?_
    refine w_n 1 (pc1 := 110) (ls1 := [some (.int x0)]) (st1 := []) (hp1 := (hz F A L)) rfl ?_
    refine w_n 1 (pc1 := 111) (ls1 := [some (.int x0)]) (st1 := [.int 3]) (hp1 := (hz F A L)) rfl ?_
    subst T
    exact w_ri rfl (cvQ rfl rfl rfl K)
  · have h1 : ¬ x0 = 97 := h
    rw [if_neg h1] at hE
    by_cases h : x0 = 98
    · have h2 : x0 = 98 := h
      rw [if_pos h2] at hE
      refine w_k h2 ?_
      refine w_n 1 (pc1 := 112) (ls1 := [some (.int x0)]) (st1 := []) (hp1 := (hz F A L)) rfl ?_
      refine w_n 1 (pc1 := 113) (ls1 := [some (.int x0)]) (st1 := [.int 4]) (hp1 := (hz F A L)) rfl ?_
      subst T
      exact w_ri rfl (cvQ rfl rfl rfl K)
    · have h2 : ¬ x0 = 98 := h
      rw [if_neg h2] at hE
      by_cases h : x0 = 99
      · have h3 : x0 = 99 := h
        rw [if_pos h3] at hE
        refine w_k h3 ?_
        refine w_n 1 (pc1 := 106) (ls1 := [some (.int x0)]) (st1 := []) (hp1 := (hz F A L)) rfl ?_
        refine w_n 1 (pc1 := 107) (ls1 := [some (.int x0)]) (st1 := [.int 1]) (hp1 := (hz F A L)) rfl ?_
        subst T
        exact w_ri rfl (cvQ rfl rfl rfl K)
      · have h3 : ¬ x0 = 99 := h
        rw [if_neg h3] at hE
        by_cases h : x0 = 100
        · have h4 : x0 = 100 := h
          rw [if_pos h4] at hE
          refine w_k h4 ?_
          refine w_n 1 (pc1 := 122) (ls1 := [some (.int x0)]) (st1 := []) (hp1 := (hz F A L)) rfl ?_
          refine w_n 1 (pc1 := 123) (ls1 := [some (.int x0)]) (st1 := [.int (-1)]) (hp1 := (hz F A L)) rfl ?_
          subst T
          exact w_ri rfl (cvQ rfl rfl rfl K)
        · have h4 : ¬ x0 = 100 := h
          rw [if_neg h4] at hE
          by_cases h : x0 = 101
          · have h5 : x0 = 101 := h
            rw [if_pos h5] at hE
            refine w_k h5 ?_
            refine w_n 1 (pc1 := 122) (ls1 := [some (.int x0)]) (st1 := []) (hp1 := (hz F A L)) rfl ?_
            refine w_n 1 (pc1 := 123) (ls1 := [some (.int x0)]) (st1 := [.int (-1)]) (hp1 := (hz F A L)) rfl ?_
            subst T
            exact w_ri rfl (cvQ rfl rfl rfl K)
          · have h5 : ¬ x0 = 101 := h
            rw [if_neg h5] at hE
            by_cases h : x0 = 102
            · have h6 : x0 = 102 := h
              rw [if_pos h6] at hE
              refine w_k h6 ?_
              refine w_n 1 (pc1 := 122) (ls1 := [some (.int x0)]) (st1 := []) (hp1 := (hz F A L)) rfl ?_
              refine w_n 1 (pc1 := 123) (ls1 := [some (.int x0)]) (st1 := [.int (-1)]) (hp1 := (hz F A L)) rfl ?_
              subst T
              exact w_ri rfl (cvQ rfl rfl rfl K)
            · have h6 : ¬ x0 = 102 := h
              rw [if_neg h6] at hE
              by_cases h : x0 = 103
              · have h7 : x0 = 103 := h
                rw [if_pos h7] at hE
                refine w_k h7 ?_
                refine w_n 1 (pc1 := 104) (ls1 := [some (.int x0)]) (st1 := []) (hp1 := (hz F A L)) rfl ?_
                refine w_n 1 (pc1 := 105) (ls1 := [some (.int x0)]) (st1 := [.int 0]) (hp1 := (hz F A L)) rfl ?_
                subst T
                exact w_ri rfl (cvQ rfl rfl rfl K)
              · have h7 : ¬ x0 = 103 := h
                rw [if_neg h7] at hE
                by_cases h : x0 = 104
                · have h8 : x0 = 104 := h
                  rw [if_pos h8] at hE
                  refine w_k h8 ?_
                  refine w_n 1 (pc1 := 122) (ls1 := [some (.int x0)]) (st1 := []) (hp1 := (hz F A L)) rfl ?_
                  refine w_n 1 (pc1 := 123) (ls1 := [some (.int x0)]) (st1 := [.int (-1)]) (hp1 := (hz F A L)) rfl ?_
                  subst T
                  exact w_ri rfl (cvQ rfl rfl rfl K)
                · have h8 : ¬ x0 = 104 := h
                  rw [if_neg h8] at hE
                  by_cases h : x0 = 105
                  · have h9 : x0 = 105 := h
                    rw [if_pos h9] at hE
                    refine w_k h9 ?_
                    refine w_n 1 (pc1 := 122) (ls1 := [some (.int x0)]) (st1 := []) (hp1 := (hz F A L)) rfl ?_
                    refine w_n 1 (pc1 := 123) (ls1 := [some (.int x0)]) (st1 := [.int (-1)]) (hp1 := (hz F A L)) rfl ?_
                    subst T
                    exact w_ri rfl (cvQ rfl rfl rfl K)
                  · have h9 : ¬ x0 = 105 := h
                    rw [if_neg h9] at hE
                    by_cases h : x0 = 106
                    · have h10 : x0 = 106 := h
                      rw [if_pos h10] at hE
                      refine w_k h10 ?_
                      refine w_n 1 (pc1 := 122) (ls1 := [some (.int x0)]) (st1 := []) (hp1 := (hz F A L)) rfl ?_
                      refine w_n 1 (pc1 := 123) (ls1 := [some (.int x0)]) (st1 := [.int (-1)]) (hp1 := (hz F A L)) rfl ?_
                      subst T
                      exact w_ri rfl (cvQ rfl rfl rfl K)
                    · have h10 : ¬ x0 = 106 := h
                      rw [if_neg h10] at hE
                      by_cases h : x0 = 107
                      · have h11 : x0 = 107 := h
                        rw [if_pos h11] at hE
                        refine w_k h11 ?_
                        refine w_n 1 (pc1 := 122) (ls1 := [some (.int x0)]) (st1 := []) (hp1 := (hz F A L)) rfl ?_
                        refine w_n 1 (pc1 := 123) (ls1 := [some (.int x0)]) (st1 := [.int (-1)]) (hp1 := (hz F A L)) rfl ?_
                        subst T
                        exact w_ri rfl (cvQ rfl rfl rfl K)
                      · have h11 : ¬ x0 = 107 := h
                        rw [if_neg h11] at hE
                        by_cases h : x0 = 108
                        · have h12 : x0 = 108 := h
                          rw [if_pos h12] at hE
                          refine w_k h12 ?_
                          refine w_n 1 (pc1 := 108) (ls1 := [some (.int x0)]) (st1 := []) (hp1 := (hz F A L)) rfl ?_
                          refine w_n 1 (pc1 := 109) (ls1 := [some (.int x0)]) (st1 := [.int 2]) (hp1 := (hz F A L)) rfl ?_
                          subst T
                          exact w_ri rfl (cvQ rfl rfl rfl K)
                        · have h12 : ¬ x0 = 108 := h
                          rw [if_neg h12] at hE
                          by_cases h : x0 = 109
                          · have h13 : x0 = 109 := h
                            rw [if_pos h13] at hE
                            refine w_k h13 ?_
                            refine w_n 1 (pc1 := 114) (ls1 := [some (.int x0)]) (st1 := []) (hp1 := (hz F A L)) rfl ?_
                            refine w_n 1 (pc1 := 115) (ls1 := [some (.int x0)]) (st1 := [.int 5]) (hp1 := (hz F A L)) rfl ?_
                            subst T
                            exact w_ri rfl (cvQ rfl rfl rfl K)
                          · have h13 : ¬ x0 = 109 := h
                            rw [if_neg h13] at hE
                            by_cases h : x0 = 110
                            · have h14 : x0 = 110 := h
                              rw [if_pos h14] at hE
                              refine w_k h14 ?_
                              refine w_n 1 (pc1 := 122) (ls1 := [some (.int x0)]) (st1 := []) (hp1 := (hz F A L)) rfl ?_
                              refine w_n 1 (pc1 := 123) (ls1 := [some (.int x0)]) (st1 := [.int (-1)]) (hp1 := (hz F A L)) rfl ?_
                              subst T
                              exact w_ri rfl (cvQ rfl rfl rfl K)
                            · have h14 : ¬ x0 = 110 := h
                              rw [if_neg h14] at hE
                              by_cases h : x0 = 111
                              · have h15 : x0 = 111 := h
                                rw [if_pos h15] at hE
                                refine w_k h15 ?_
                                refine w_n 1 (pc1 := 122) (ls1 := [some (.int x0)]) (st1 := []) (hp1 := (hz F A L)) rfl ?_
                                refine w_n 1 (pc1 := 123) (ls1 := [some (.int x0)]) (st1 := [.int (-1)]) (hp1 := (hz F A L)) rfl ?_
                                subst T
                                exact w_ri rfl (cvQ rfl rfl rfl K)
                              · have h15 : ¬ x0 = 111 := h
                                rw [if_neg h15] at hE
                                by_cases h : x0 = 112
                                · have h16 : x0 = 112 := h
                                  rw [if_pos h16] at hE
                                  refine w_k h16 ?_
                                  refine w_n 1 (pc1 := 122) (ls1 := [some (.int x0)]) (st1 := []) (hp1 := (hz F A L)) rfl ?_
                                  refine w_n 1 (pc1 := 123) (ls1 := [some (.int x0)]) (st1 := [.int (-1)]) (hp1 := (hz F A L)) rfl ?_
                                  subst T
                                  exact w_ri rfl (cvQ rfl rfl rfl K)
                                · have h16 : ¬ x0 = 112 := h
                                  rw [if_neg h16] at hE
                                  by_cases h : x0 = 113
                                  · have h17 : x0 = 113 := h
                                    rw [if_pos h17] at hE
                                    refine w_k h17 ?_
                                    refine w_n 1 (pc1 := 122) (ls1 := [some (.int x0)]) (st1 := []) (hp1 := (hz F A L)) rfl ?_
                                    refine w_n 1 (pc1 := 123) (ls1 := [some (.int x0)]) (st1 := [.int (-1)]) (hp1 := (hz F A L)) rfl ?_
                                    subst T
                                    exact w_ri rfl (cvQ rfl rfl rfl K)
                                  · have h17 : ¬ x0 = 113 := h
                                    rw [if_neg h17] at hE
                                    by_cases h : x0 = 114
                                    · have h18 : x0 = 114 := h
                                      rw [if_pos h18] at hE
                                      refine w_k h18 ?_
                                      refine w_n 1 (pc1 := 122) (ls1 := [some (.int x0)]) (st1 := []) (hp1 := (hz F A L)) rfl ?_
                                      refine w_n 1 (pc1 := 123) (ls1 := [some (.int x0)]) (st1 := [.int (-1)]) (hp1 := (hz F A L)) rfl ?_
                                      subst T
                                      exact w_ri rfl (cvQ rfl rfl rfl K)
                                    · have h18 : ¬ x0 = 114 := h
                                      rw [if_neg h18] at hE
                                      by_cases h : x0 = 115
                                      · have h19 : x0 = 115 := h
                                        rw [if_pos h19] at hE
                                        refine w_k h19 ?_
                                        refine w_n 1 (pc1 := 122) (ls1 := [some (.int x0)]) (st1 := []) (hp1 := (hz F A L)) rfl ?_
                                        refine w_n 1 (pc1 := 123) (ls1 := [some (.int x0)]) (st1 := [.int (-1)]) (hp1 := (hz F A L)) rfl ?_
                                        subst T
                                        exact w_ri rfl (cvQ rfl rfl rfl K)
                                      · have h19 : ¬ x0 = 115 := h
                                        rw [if_neg h19] at hE
                                        by_cases h : x0 = 116
                                        · have h20 : x0 = 116 := h
                                          rw [if_pos h20] at hE
                                          refine w_k h20 ?_
                                          refine w_n 1 (pc1 := 119) (ls1 := [some (.int x0)]) (st1 := []) (hp1 := (hz F A L)) rfl ?_
                                          refine w_n 1 (pc1 := 121) (ls1 := [some (.int x0)]) (st1 := [.int 7]) (hp1 := (hz F A L)) rfl ?_
                                          subst T
                                          exact w_ri rfl (cvQ rfl rfl rfl K)
                                        · have h20 : ¬ x0 = 116 := h
                                          rw [if_neg h20] at hE
                                          by_cases h : x0 = 117
                                          · have h21 : x0 = 117 := h
                                            rw [if_pos h21] at hE
                                            refine w_k h21 ?_
                                            refine w_n 1 (pc1 := 122) (ls1 := [some (.int x0)]) (st1 := []) (hp1 := (hz F A L)) rfl ?_
                                            refine w_n 1 (pc1 := 123) (ls1 := [some (.int x0)]) (st1 := [.int (-1)]) (hp1 := (hz F A L)) rfl ?_
                                            subst T
                                            exact w_ri rfl (cvQ rfl rfl rfl K)
                                          · have h21 : ¬ x0 = 117 := h
                                            rw [if_neg h21] at hE
                                            by_cases h : x0 = 118
                                            · have h22 : x0 = 118 := h
                                              rw [if_pos h22] at hE
                                              refine w_k h22 ?_
                                              refine w_n 1 (pc1 := 116) (ls1 := [some (.int x0)]) (st1 := []) (hp1 := (hz F A L)) rfl ?_
                                              refine w_n 1 (pc1 := 118) (ls1 := [some (.int x0)]) (st1 := [.int 6]) (hp1 := (hz F A L)) rfl ?_
                                              subst T
                                              exact w_ri rfl (cvQ rfl rfl rfl K)
                                            · have h22 : ¬ x0 = 118 := h
                                              rw [if_neg h22] at hE
                                              have n0 : ¬ x0.toInt = 97 := fun z => h1 (Int32.toInt_inj.mp (show _ = (97 : Int32).toInt from z))
                                              have n1 : ¬ x0.toInt = 98 := fun z => h2 (Int32.toInt_inj.mp (show _ = (98 : Int32).toInt from z))
                                              have n2 : ¬ x0.toInt = 99 := fun z => h3 (Int32.toInt_inj.mp (show _ = (99 : Int32).toInt from z))
                                              have n3 : ¬ x0.toInt = 100 := fun z => h4 (Int32.toInt_inj.mp (show _ = (100 : Int32).toInt from z))
                                              have n4 : ¬ x0.toInt = 101 := fun z => h5 (Int32.toInt_inj.mp (show _ = (101 : Int32).toInt from z))
                                              have n5 : ¬ x0.toInt = 102 := fun z => h6 (Int32.toInt_inj.mp (show _ = (102 : Int32).toInt from z))
                                              have n6 : ¬ x0.toInt = 103 := fun z => h7 (Int32.toInt_inj.mp (show _ = (103 : Int32).toInt from z))
                                              have n7 : ¬ x0.toInt = 104 := fun z => h8 (Int32.toInt_inj.mp (show _ = (104 : Int32).toInt from z))
                                              have n8 : ¬ x0.toInt = 105 := fun z => h9 (Int32.toInt_inj.mp (show _ = (105 : Int32).toInt from z))
                                              have n9 : ¬ x0.toInt = 106 := fun z => h10 (Int32.toInt_inj.mp (show _ = (106 : Int32).toInt from z))
                                              have n10 : ¬ x0.toInt = 107 := fun z => h11 (Int32.toInt_inj.mp (show _ = (107 : Int32).toInt from z))
                                              have n11 : ¬ x0.toInt = 108 := fun z => h12 (Int32.toInt_inj.mp (show _ = (108 : Int32).toInt from z))
                                              have n12 : ¬ x0.toInt = 109 := fun z => h13 (Int32.toInt_inj.mp (show _ = (109 : Int32).toInt from z))
                                              have n13 : ¬ x0.toInt = 110 := fun z => h14 (Int32.toInt_inj.mp (show _ = (110 : Int32).toInt from z))
                                              have n14 : ¬ x0.toInt = 111 := fun z => h15 (Int32.toInt_inj.mp (show _ = (111 : Int32).toInt from z))
                                              have n15 : ¬ x0.toInt = 112 := fun z => h16 (Int32.toInt_inj.mp (show _ = (112 : Int32).toInt from z))
                                              have n16 : ¬ x0.toInt = 113 := fun z => h17 (Int32.toInt_inj.mp (show _ = (113 : Int32).toInt from z))
                                              have n17 : ¬ x0.toInt = 114 := fun z => h18 (Int32.toInt_inj.mp (show _ = (114 : Int32).toInt from z))
                                              have n18 : ¬ x0.toInt = 115 := fun z => h19 (Int32.toInt_inj.mp (show _ = (115 : Int32).toInt from z))
                                              have n19 : ¬ x0.toInt = 116 := fun z => h20 (Int32.toInt_inj.mp (show _ = (116 : Int32).toInt from z))
                                              have n20 : ¬ x0.toInt = 117 := fun z => h21 (Int32.toInt_inj.mp (show _ = (117 : Int32).toInt from z))
                                              have n21 : ¬ x0.toInt = 118 := fun z => h22 (Int32.toInt_inj.mp (show _ = (118 : Int32).toInt from z))
                                              refine w_tsw rfl (by omega) (p1 := 122) (by decide) (by decide) ?_
                                              refine w_n 1 (pc1 := 123) (ls1 := [some (.int x0)]) (st1 := [.int (-1)]) (hp1 := (hz F A L)) rfl ?_
                                              subst T
                                              exact w_ri rfl (cvQ rfl rfl rfl K)
noncomputable def km_notes (f67_14 : Int32) (a72 : List Int32) (x1 : Int32) (x2 : Int32) : Int32 × List Int32 := ((f67_14 + 1), (a72.set f67_14.toInt.toNat ((1048576 * x1) + x2)))
theorem t_km_notes {f D : Nat} {F : Nat → Nat → Int32} {A : Nat → List Int32} {L : Nat → List Int64} {Q : Option Value → sm_H → Prop} {x1 : Int32} {x2 : Int32} (K : Q none (hz (uF F 67 14 ((km_notes (F 67 14) (A 72) x1 x2).1)) (uA A 72 ((km_notes (F 67 14) (A 72) x1 x2).2)) L)) : wl_M f D 160 [.ref 67, .int x1, .int x2] (hz F A L) Q := by
  generalize hT : (km_notes (F 67 14) (A 72) x1 x2) = T at K
  have hE : T = (((F 67 14) + 1), ((A 72).set (F 67 14).toInt.toNat ((1048576 * x1) + x2))) := hT.symm
  clear hT
  refine w_m (E := mm160) rfl ?_
  show wl_E f f (D - 1) mm160.2.2.2.2.2.2.2.2 0 [some (.ref 67), some (.int x1), some (.int x2)] [] (hz F A L) Q
  refine w_n 9 (pc1 := 14) (ls1 := [some (.ref 67), some (.int x1), some (.int x2)]) (st1 := [.int ((1048576 * x1) + x2), .int (F 67 14), .ref 72]) (hp1 := (hz F A L)) rfl ?_
  refine w_as (k := 72) (l := (A 72)) (hp1 := (hz F (uA A 72 ((A 72).set (F 67 14).toInt.toNat ((1048576 * x1) + x2))) L)) rfl rfl rfl (hz_s72 _) (fun _ => ?_)
  refine w_n 5 (pc1 := 22) (ls1 := [some (.ref 67), some (.int x1), some (.int x2)]) (st1 := [.int ((F 67 14) + 1), .ref 67]) (hp1 := (hz F (uA A 72 ((A 72).set (F 67 14).toInt.toNat ((1048576 * x1) + x2))) L)) rfl ?_
  refine w_pf (k := 67) (fs := hz_f67 F) (hp1 := (hz (uF F 67 14 ((F 67 14) + 1)) (uA A 72 ((A 72).set (F 67 14).toInt.toNat ((1048576 * x1) + x2))) L)) rfl rfl rfl (hz_p67_14 _) ?_
  subst T
  exact w_r rfl rfl (cvQ rfl rfl rfl K)
noncomputable def km_readsNumber_10 (f67_10 : Int32) (f67_11 : Int32) (a71 : List Int32) (x1 : Int32) : Nat → Int32 → Int32 → Int32 × Int32 × Int32 × Int32
  | 0, f67_9, f67_12 => (0, f67_9, f67_11, f67_12)
  | m + 1, f67_9, f67_12 => (if (km_isDigit f67_9 f67_10 a71) = 0 then (1, f67_9, f67_11, f67_12) else (if f67_9 = (x1 + 5) then ((km_wrongAt 2 f67_9).1, f67_9, (km_wrongAt 2 f67_9).2, f67_12) else (km_readsNumber_10 f67_10 f67_11 a71 x1 m (f67_9 + 1) (((10 * f67_12) + (km_here f67_9 f67_10 a71)) - 48))))
theorem t_km_readsNumber_10 {f : Nat} {Q : Option Value → sm_H → Prop} : ∀ (m : Nat) (B : Nat) {D : Nat} {F : Nat → Nat → Int32} {A : Nat → List Int32} {L : Nat → List Int64} {x1 : Int32}, B ≤ m → (Q (some (.int ((km_readsNumber_10 (F 67 10) (F 67 11) (A 71) x1 m (F 67 9) (F 67 12)).1))) (hz (uF (uF (uF F 67 9 ((km_readsNumber_10 (F 67 10) (F 67 11) (A 71) x1 m (F 67 9) (F 67 12)).2.1)) 67 11 ((km_readsNumber_10 (F 67 10) (F 67 11) (A 71) x1 m (F 67 9) (F 67 12)).2.2.1)) 67 12 ((km_readsNumber_10 (F 67 10) (F 67 11) (A 71) x1 m (F 67 9) (F 67 12)).2.2.2)) A L)) → wl_E f B D mm159.2.2.2.2.2.2.2.2 10 [some (.ref 67), some (.int x1)] [] (hz F A L) Q := by
  intro m
  induction m with
  | zero =>
    intro B D F A L x1 hm K
    rw [show B = 0 by omega]
    exact w_0
  | succ m ih =>
    intro B D F A L x1 hm K
    cases B with
    | zero => exact w_0
    | succ B =>
      generalize hT : (km_readsNumber_10 (F 67 10) (F 67 11) (A 71) x1 (m + 1) (F 67 9) (F 67 12)) = T at K
      have hE : T = (if (km_isDigit (F 67 9) (F 67 10) (A 71)) = 0 then (1, (F 67 9), (F 67 11), (F 67 12)) else (if (F 67 9) = (x1 + 5) then ((km_wrongAt 2 (F 67 9)).1, (F 67 9), (km_wrongAt 2 (F 67 9)).2, (F 67 12)) else (km_readsNumber_10 (F 67 10) (F 67 11) (A 71) x1 m ((F 67 9) + 1) (((10 * (F 67 12)) + (km_here (F 67 9) (F 67 10) (A 71))) - 48)))) := hT.symm
      clear hT
      refine w_n1 (pc1 := 11) (ls1 := [some (.ref 67), some (.int x1)]) (st1 := [.ref 67]) (hp1 := (hz F A L)) rfl ?_
      refine w_c rfl rfl (t_km_isDigit ?_)
      show wl_E f _ _ mm159.2.2.2.2.2.2.2.2 14 [some (.ref 67), some (.int x1)] [.int (km_isDigit (F 67 9) (F 67 10) (A 71))] (hz F A L) _
      generalize hG476 : (km_isDigit (F 67 9) (F 67 10) (A 71)) = G476 at hE ⊢
      refine w_zeq (p3 := 17) rfl rfl (fun h => ?_) (fun h => ?_)
      · have h1 : G476 = 0 := h
        rw [if_pos h1] at hE
        refine w_n 1 (pc1 := 70) (ls1 := [some (.ref 67), some (.int x1)]) (st1 := [.int 1]) (hp1 := (hz F A L)) rfl ?_
        subst T
        exact w_ri rfl (cvQ (funext fun q => funext fun z => if k0 : q = 67 ∧ z = 9 then by obtain ⟨w1, w2⟩ := k0; subst w1; subst w2; exact Eq.trans (b := (F 67 9)) rfl rfl else if k1 : q = 67 ∧ z = 11 then by obtain ⟨w1, w2⟩ := k1; subst w1; subst w2; exact Eq.trans (b := (F 67 11)) rfl rfl else if k2 : q = 67 ∧ z = 12 then by obtain ⟨w1, w2⟩ := k2; subst w1; subst w2; exact Eq.trans (b := (F 67 12)) rfl rfl else by unfold uF; simp only [nb2 k0, nb2 k1, nb2 k2, cond_false]) rfl rfl K)
      · have h1 : ¬ G476 = 0 := h
        rw [if_neg h1] at hE
        refine w_n 5 (pc1 := 24) (ls1 := [some (.ref 67), some (.int x1)]) (st1 := [.int (x1 + 5), .int (F 67 9)]) (hp1 := (hz F A L)) rfl ?_
        refine w_ne (p3 := 27) rfl rfl (fun h => ?_) (fun h => ?_)
        · have h2 : ¬ (F 67 9) = (x1 + 5) := h
          rw [if_neg h2] at hE
          refine w_n 6 (pc1 := 46) (ls1 := [some (.ref 67), some (.int x1)]) (st1 := [.ref 67, .int (10 * (F 67 12)), .ref 67]) (hp1 := (hz F A L)) rfl ?_
          refine w_c rfl rfl (t_km_here ?_)
          show wl_E f _ _ mm159.2.2.2.2.2.2.2.2 49 [some (.ref 67), some (.int x1)] [.int (km_here (F 67 9) (F 67 10) (A 71)), .int (10 * (F 67 12)), .ref 67] (hz F A L) _
          generalize hG477 : (km_here (F 67 9) (F 67 10) (A 71)) = G477 at hE ⊢
          refine w_n 3 (pc1 := 53) (ls1 := [some (.ref 67), some (.int x1)]) (st1 := [.int (((10 * (F 67 12)) + G477) - 48), .ref 67]) (hp1 := (hz F A L)) rfl ?_
          refine w_pf (k := 67) (fs := hz_f67 F) (hp1 := (hz (uF F 67 12 (((10 * (F 67 12)) + G477) - 48)) A L)) rfl rfl rfl (hz_p67_12 _) ?_
          refine w_n 5 (pc1 := 63) (ls1 := [some (.ref 67), some (.int x1)]) (st1 := [.int ((F 67 9) + 1), .ref 67]) (hp1 := (hz (uF F 67 12 (((10 * (F 67 12)) + G477) - 48)) A L)) rfl ?_
          refine w_pf (k := 67) (fs := hz_f67 (uF F 67 12 (((10 * (F 67 12)) + G477) - 48))) (hp1 := (hz (uF (uF F 67 12 (((10 * (F 67 12)) + G477) - 48)) 67 9 ((F 67 9) + 1)) A L)) rfl rfl rfl (hz_p67_9 _) ?_
          refine w_n 1 (pc1 := 10) (ls1 := [some (.ref 67), some (.int x1)]) (st1 := []) (hp1 := (hz (uF (uF F 67 12 (((10 * (F 67 12)) + G477) - 48)) 67 9 ((F 67 9) + 1)) A L)) rfl ?_
          subst T
          exact ih _ (by omega) (cvQ (funext fun q => funext fun z => if k0 : q = 67 ∧ z = 9 then by obtain ⟨w1, w2⟩ := k0; subst w1; subst w2; exact Eq.trans (b := (km_readsNumber_10 (F 67 10) (F 67 11) (A 71) x1 m ((F 67 9) + 1) (((10 * (F 67 12)) + G477) - 48)).2.1) rfl rfl else if k1 : q = 67 ∧ z = 11 then by obtain ⟨w1, w2⟩ := k1; subst w1; subst w2; exact Eq.trans (b := (km_readsNumber_10 (F 67 10) (F 67 11) (A 71) x1 m ((F 67 9) + 1) (((10 * (F 67 12)) + G477) - 48)).2.2.1) rfl rfl else if k2 : q = 67 ∧ z = 12 then by obtain ⟨w1, w2⟩ := k2; subst w1; subst w2; exact Eq.trans (b := (km_readsNumber_10 (F 67 10) (F 67 11) (A 71) x1 m ((F 67 9) + 1) (((10 * (F 67 12)) + G477) - 48)).2.2.2) rfl rfl else by unfold uF; simp only [nb2 k0, nb2 k1, nb2 k2, cond_false]) rfl rfl K)
        · have h2 : (F 67 9) = (x1 + 5) := h
          rw [if_pos h2] at hE
          refine w_n 4 (pc1 := 33) (ls1 := [some (.ref 67), some (.int x1)]) (st1 := [.int (F 67 9), .int 2, .ref 67]) (hp1 := (hz F A L)) rfl ?_
          refine w_c rfl rfl (t_km_wrongAt ?_)
          show wl_E f _ _ mm159.2.2.2.2.2.2.2.2 36 [some (.ref 67), some (.int x1)] [.int (km_wrongAt 2 (F 67 9)).1] (hz (uF F 67 11 (km_wrongAt 2 (F 67 9)).2) A L) _
          generalize hG478 : (km_wrongAt 2 (F 67 9)) = G478 at hE ⊢
          subst T
          exact w_ri rfl (cvQ (funext fun q => funext fun z => if k0 : q = 67 ∧ z = 9 then by obtain ⟨w1, w2⟩ := k0; subst w1; subst w2; exact Eq.trans (b := (F 67 9)) rfl rfl else if k1 : q = 67 ∧ z = 11 then by obtain ⟨w1, w2⟩ := k1; subst w1; subst w2; exact Eq.trans (b := G478.2) rfl rfl else if k2 : q = 67 ∧ z = 12 then by obtain ⟨w1, w2⟩ := k2; subst w1; subst w2; exact Eq.trans (b := (F 67 12)) rfl rfl else by unfold uF; simp only [nb2 k0, nb2 k1, nb2 k2, cond_false]) rfl rfl K)
noncomputable def km_readsNumber (f : Nat) (f67_9 : Int32) (f67_10 : Int32) (f67_11 : Int32) (a71 : List Int32) : Int32 × Int32 × Int32 × Int32 := (km_readsNumber_10 f67_10 f67_11 a71 f67_9 f f67_9 0)
theorem t_km_readsNumber {f D : Nat} {F : Nat → Nat → Int32} {A : Nat → List Int32} {L : Nat → List Int64} {Q : Option Value → sm_H → Prop} (K : Q (some (.int ((km_readsNumber f (F 67 9) (F 67 10) (F 67 11) (A 71)).1))) (hz (uF (uF (uF F 67 9 ((km_readsNumber f (F 67 9) (F 67 10) (F 67 11) (A 71)).2.1)) 67 11 ((km_readsNumber f (F 67 9) (F 67 10) (F 67 11) (A 71)).2.2.1)) 67 12 ((km_readsNumber f (F 67 9) (F 67 10) (F 67 11) (A 71)).2.2.2)) A L)) : wl_M f D 159 [.ref 67] (hz F A L) Q := by
  generalize hT : (km_readsNumber f (F 67 9) (F 67 10) (F 67 11) (A 71)) = T at K
  have hE : T = (km_readsNumber_10 (F 67 10) (F 67 11) (A 71) (F 67 9) f (F 67 9) 0) := hT.symm
  clear hT
  refine w_m (E := mm159) rfl ?_
  show wl_E f f (D - 1) mm159.2.2.2.2.2.2.2.2 0 [some (.ref 67), none] [] (hz F A L) Q
  refine w_n 5 (pc1 := 7) (ls1 := [some (.ref 67), some (.int (F 67 9))]) (st1 := [.int 0, .ref 67]) (hp1 := (hz F A L)) rfl ?_
  refine w_pf (k := 67) (fs := hz_f67 F) (hp1 := (hz (uF F 67 12 0) A L)) rfl rfl rfl (hz_p67_12 _) ?_
  subst T
  exact t_km_readsNumber_10 _ _ (Nat.le_refl _) (cvQ (funext fun q => funext fun z => if k0 : q = 67 ∧ z = 9 then by obtain ⟨w1, w2⟩ := k0; subst w1; subst w2; exact Eq.trans (b := (km_readsNumber_10 (F 67 10) (F 67 11) (A 71) (F 67 9) f (F 67 9) 0).2.1) rfl rfl else if k1 : q = 67 ∧ z = 11 then by obtain ⟨w1, w2⟩ := k1; subst w1; subst w2; exact Eq.trans (b := (km_readsNumber_10 (F 67 10) (F 67 11) (A 71) (F 67 9) f (F 67 9) 0).2.2.1) rfl rfl else if k2 : q = 67 ∧ z = 12 then by obtain ⟨w1, w2⟩ := k2; subst w1; subst w2; exact Eq.trans (b := (km_readsNumber_10 (F 67 10) (F 67 11) (A 71) (F 67 9) f (F 67 9) 0).2.2.2) rfl rfl else by unfold uF; simp only [nb2 k0, nb2 k1, nb2 k2, cond_false]) rfl rfl K)
noncomputable def km_opens (f67_9 : Int32) (f67_11 : Int32) (f67_13 : Int32) (f67_15 : Int32) (a73 : List Int32) (x1 : Int32) : Int32 × Int32 × Int32 × Int32 × Int32 × List Int32 := (if f67_13 = 6 then ((km_wrongAt 5 f67_9).1, f67_9, (km_wrongAt 5 f67_9).2, f67_13, f67_15, a73) else (1, (f67_9 + 1), f67_11, (f67_13 + 1), (f67_15 + 1), (a73.set f67_15.toInt.toNat (1048576 * x1))))
theorem t_km_opens {f D : Nat} {F : Nat → Nat → Int32} {A : Nat → List Int32} {L : Nat → List Int64} {Q : Option Value → sm_H → Prop} {x1 : Int32} (K : Q (some (.int ((km_opens (F 67 9) (F 67 11) (F 67 13) (F 67 15) (A 73) x1).1))) (hz (uF (uF (uF (uF F 67 9 ((km_opens (F 67 9) (F 67 11) (F 67 13) (F 67 15) (A 73) x1).2.1)) 67 11 ((km_opens (F 67 9) (F 67 11) (F 67 13) (F 67 15) (A 73) x1).2.2.1)) 67 13 ((km_opens (F 67 9) (F 67 11) (F 67 13) (F 67 15) (A 73) x1).2.2.2.1)) 67 15 ((km_opens (F 67 9) (F 67 11) (F 67 13) (F 67 15) (A 73) x1).2.2.2.2.1)) (uA A 73 ((km_opens (F 67 9) (F 67 11) (F 67 13) (F 67 15) (A 73) x1).2.2.2.2.2)) L)) : wl_M f D 157 [.ref 67, .int x1] (hz F A L) Q := by
  generalize hT : (km_opens (F 67 9) (F 67 11) (F 67 13) (F 67 15) (A 73) x1) = T at K
  have hE : T = (if (F 67 13) = 6 then ((km_wrongAt 5 (F 67 9)).1, (F 67 9), (km_wrongAt 5 (F 67 9)).2, (F 67 13), (F 67 15), (A 73)) else (1, ((F 67 9) + 1), (F 67 11), ((F 67 13) + 1), ((F 67 15) + 1), ((A 73).set (F 67 15).toInt.toNat (1048576 * x1)))) := hT.symm
  clear hT
  refine w_m (E := mm157) rfl ?_
  show wl_E f f (D - 1) mm157.2.2.2.2.2.2.2.2 0 [some (.ref 67), some (.int x1)] [] (hz F A L) Q
  refine w_n 3 (pc1 := 6) (ls1 := [some (.ref 67), some (.int x1)]) (st1 := [.int 6, .int (F 67 13)]) (hp1 := (hz F A L)) rfl ?_
  refine w_ne (p3 := 9) rfl rfl (fun h => ?_) (fun h => ?_)
  · have h1 : ¬ (F 67 13) = 6 := h
    rw [if_neg h1] at hE
    refine w_n 5 (pc1 := 26) (ls1 := [some (.ref 67), some (.int x1)]) (st1 := [.int ((F 67 13) + 1), .ref 67]) (hp1 := (hz F A L)) rfl ?_
    refine w_pf (k := 67) (fs := hz_f67 F) (hp1 := (hz (uF F 67 13 ((F 67 13) + 1)) A L)) rfl rfl rfl (hz_p67_13 _) ?_
    refine w_n 7 (pc1 := 41) (ls1 := [some (.ref 67), some (.int x1)]) (st1 := [.int (1048576 * x1), .int (F 67 15), .ref 73]) (hp1 := (hz (uF F 67 13 ((F 67 13) + 1)) A L)) rfl ?_
    refine w_as (k := 73) (l := (A 73)) (hp1 := (hz (uF F 67 13 ((F 67 13) + 1)) (uA A 73 ((A 73).set (F 67 15).toInt.toNat (1048576 * x1))) L)) rfl rfl rfl (hz_s73 _) (fun _ => ?_)
    refine w_n 5 (pc1 := 49) (ls1 := [some (.ref 67), some (.int x1)]) (st1 := [.int ((F 67 15) + 1), .ref 67]) (hp1 := (hz (uF F 67 13 ((F 67 13) + 1)) (uA A 73 ((A 73).set (F 67 15).toInt.toNat (1048576 * x1))) L)) rfl ?_
    refine w_pf (k := 67) (fs := hz_f67 (uF F 67 13 ((F 67 13) + 1))) (hp1 := (hz (uF (uF F 67 13 ((F 67 13) + 1)) 67 15 ((F 67 15) + 1)) (uA A 73 ((A 73).set (F 67 15).toInt.toNat (1048576 * x1))) L)) rfl rfl rfl (hz_p67_15 _) ?_
    refine w_n 5 (pc1 := 59) (ls1 := [some (.ref 67), some (.int x1)]) (st1 := [.int ((F 67 9) + 1), .ref 67]) (hp1 := (hz (uF (uF F 67 13 ((F 67 13) + 1)) 67 15 ((F 67 15) + 1)) (uA A 73 ((A 73).set (F 67 15).toInt.toNat (1048576 * x1))) L)) rfl ?_
    refine w_pf (k := 67) (fs := hz_f67 (uF (uF F 67 13 ((F 67 13) + 1)) 67 15 ((F 67 15) + 1))) (hp1 := (hz (uF (uF (uF F 67 13 ((F 67 13) + 1)) 67 15 ((F 67 15) + 1)) 67 9 ((F 67 9) + 1)) (uA A 73 ((A 73).set (F 67 15).toInt.toNat (1048576 * x1))) L)) rfl rfl rfl (hz_p67_9 _) ?_
    refine w_n 1 (pc1 := 63) (ls1 := [some (.ref 67), some (.int x1)]) (st1 := [.int 1]) (hp1 := (hz (uF (uF (uF F 67 13 ((F 67 13) + 1)) 67 15 ((F 67 15) + 1)) 67 9 ((F 67 9) + 1)) (uA A 73 ((A 73).set (F 67 15).toInt.toNat (1048576 * x1))) L)) rfl ?_
    subst T
    exact w_ri rfl (cvQ (funext fun q => funext fun z => if k0 : q = 67 ∧ z = 9 then by obtain ⟨w1, w2⟩ := k0; subst w1; subst w2; exact Eq.trans (b := ((F 67 9) + 1)) rfl rfl else if k1 : q = 67 ∧ z = 11 then by obtain ⟨w1, w2⟩ := k1; subst w1; subst w2; exact Eq.trans (b := (F 67 11)) rfl rfl else if k2 : q = 67 ∧ z = 13 then by obtain ⟨w1, w2⟩ := k2; subst w1; subst w2; exact Eq.trans (b := ((F 67 13) + 1)) rfl rfl else if k3 : q = 67 ∧ z = 15 then by obtain ⟨w1, w2⟩ := k3; subst w1; subst w2; exact Eq.trans (b := ((F 67 15) + 1)) rfl rfl else by unfold uF; simp only [nb2 k0, nb2 k1, nb2 k2, nb2 k3, cond_false]) rfl rfl K)
  · have h1 : (F 67 13) = 6 := h
    rw [if_pos h1] at hE
    refine w_n 4 (pc1 := 15) (ls1 := [some (.ref 67), some (.int x1)]) (st1 := [.int (F 67 9), .int 5, .ref 67]) (hp1 := (hz F A L)) rfl ?_
    refine w_c rfl rfl (t_km_wrongAt ?_)
    show wl_E f _ _ mm157.2.2.2.2.2.2.2.2 18 [some (.ref 67), some (.int x1)] [.int (km_wrongAt 5 (F 67 9)).1] (hz (uF F 67 11 (km_wrongAt 5 (F 67 9)).2) A L) _
    generalize hG481 : (km_wrongAt 5 (F 67 9)) = G481 at hE ⊢
    subst T
    exact w_ri rfl (cvQ (funext fun q => funext fun z => if k0 : q = 67 ∧ z = 9 then by obtain ⟨w1, w2⟩ := k0; subst w1; subst w2; exact Eq.trans (b := (F 67 9)) rfl rfl else if k1 : q = 67 ∧ z = 11 then by obtain ⟨w1, w2⟩ := k1; subst w1; subst w2; exact Eq.trans (b := G481.2) rfl rfl else if k2 : q = 67 ∧ z = 13 then by obtain ⟨w1, w2⟩ := k2; subst w1; subst w2; exact Eq.trans (b := (F 67 13)) rfl rfl else if k3 : q = 67 ∧ z = 15 then by obtain ⟨w1, w2⟩ := k3; subst w1; subst w2; exact Eq.trans (b := (F 67 15)) rfl rfl else by unfold uF; simp only [nb2 k0, nb2 k1, nb2 k2, nb2 k3, cond_false]) (funext fun q => if k0 : q = 73 then by subst k0; exact Eq.trans (b := (A 73)) rfl rfl else by unfold uA; simp only [nb1 k0, cond_false]) rfl K)
noncomputable def km_readsFactor_0 (f : Nat) (f67_10 : Int32) (f67_12 : Int32) (f67_14 : Int32) (a71 : List Int32) (a72 : List Int32)  : Nat → Int32 → Int32 → Int32 → Int32 → List Int32 → Int32 × Int32 × Int32 × Int32 × Int32 × Int32 × Int32 × List Int32 × List Int32
  | 0, f67_9, f67_11, f67_13, f67_15, a73 => (0, f67_9, f67_11, f67_12, f67_13, f67_14, f67_15, a72, a73)
  | m + 1, f67_9, f67_11, f67_13, f67_15, a73 => (if (km_here f67_9 f67_10 a71) = 91 then (if (km_opens f67_9 f67_11 f67_13 f67_15 a73 14).1 = 0 then (0, (km_opens f67_9 f67_11 f67_13 f67_15 a73 14).2.1, (km_opens f67_9 f67_11 f67_13 f67_15 a73 14).2.2.1, f67_12, (km_opens f67_9 f67_11 f67_13 f67_15 a73 14).2.2.2.1, f67_14, (km_opens f67_9 f67_11 f67_13 f67_15 a73 14).2.2.2.2.1, a72, (km_opens f67_9 f67_11 f67_13 f67_15 a73 14).2.2.2.2.2) else (km_readsFactor_0 f f67_10 f67_12 f67_14 a71 a72 m (km_opens f67_9 f67_11 f67_13 f67_15 a73 14).2.1 (km_opens f67_9 f67_11 f67_13 f67_15 a73 14).2.2.1 (km_opens f67_9 f67_11 f67_13 f67_15 a73 14).2.2.2.1 (km_opens f67_9 f67_11 f67_13 f67_15 a73 14).2.2.2.2.1 (km_opens f67_9 f67_11 f67_13 f67_15 a73 14).2.2.2.2.2)) else (if (km_isDigit f67_9 f67_10 a71) = 0 then (if (km_factOf (km_here f67_9 f67_10 a71)) = (-1) then ((km_wrongAt 1 f67_9).1, f67_9, (km_wrongAt 1 f67_9).2, f67_12, f67_13, f67_14, f67_15, a72, a73) else (1, (f67_9 + 1), f67_11, f67_12, f67_13, (km_notes f67_14 a72 1 (km_factOf (km_here f67_9 f67_10 a71))).1, f67_15, (km_notes f67_14 a72 1 (km_factOf (km_here f67_9 f67_10 a71))).2, a73)) else (if (km_readsNumber f f67_9 f67_10 f67_11 a71).1 = 0 then (0, (km_readsNumber f f67_9 f67_10 f67_11 a71).2.1, (km_readsNumber f f67_9 f67_10 f67_11 a71).2.2.1, (km_readsNumber f f67_9 f67_10 f67_11 a71).2.2.2, f67_13, f67_14, f67_15, a72, a73) else (1, (km_readsNumber f f67_9 f67_10 f67_11 a71).2.1, (km_readsNumber f f67_9 f67_10 f67_11 a71).2.2.1, (km_readsNumber f f67_9 f67_10 f67_11 a71).2.2.2, f67_13, (km_notes f67_14 a72 0 (km_readsNumber f f67_9 f67_10 f67_11 a71).2.2.2).1, f67_15, (km_notes f67_14 a72 0 (km_readsNumber f f67_9 f67_10 f67_11 a71).2.2.2).2, a73))))
theorem t_km_readsFactor_0 {f : Nat} {Q : Option Value → sm_H → Prop} : ∀ (m : Nat) (B : Nat) {D : Nat} {F : Nat → Nat → Int32} {A : Nat → List Int32} {L : Nat → List Int64} {o1 : Option Value}, B ≤ m → (Q (some (.int ((km_readsFactor_0 f (F 67 10) (F 67 12) (F 67 14) (A 71) (A 72) m (F 67 9) (F 67 11) (F 67 13) (F 67 15) (A 73)).1))) (hz (uF (uF (uF (uF (uF (uF F 67 9 ((km_readsFactor_0 f (F 67 10) (F 67 12) (F 67 14) (A 71) (A 72) m (F 67 9) (F 67 11) (F 67 13) (F 67 15) (A 73)).2.1)) 67 11 ((km_readsFactor_0 f (F 67 10) (F 67 12) (F 67 14) (A 71) (A 72) m (F 67 9) (F 67 11) (F 67 13) (F 67 15) (A 73)).2.2.1)) 67 12 ((km_readsFactor_0 f (F 67 10) (F 67 12) (F 67 14) (A 71) (A 72) m (F 67 9) (F 67 11) (F 67 13) (F 67 15) (A 73)).2.2.2.1)) 67 13 ((km_readsFactor_0 f (F 67 10) (F 67 12) (F 67 14) (A 71) (A 72) m (F 67 9) (F 67 11) (F 67 13) (F 67 15) (A 73)).2.2.2.2.1)) 67 14 ((km_readsFactor_0 f (F 67 10) (F 67 12) (F 67 14) (A 71) (A 72) m (F 67 9) (F 67 11) (F 67 13) (F 67 15) (A 73)).2.2.2.2.2.1)) 67 15 ((km_readsFactor_0 f (F 67 10) (F 67 12) (F 67 14) (A 71) (A 72) m (F 67 9) (F 67 11) (F 67 13) (F 67 15) (A 73)).2.2.2.2.2.2.1)) (uA (uA A 72 ((km_readsFactor_0 f (F 67 10) (F 67 12) (F 67 14) (A 71) (A 72) m (F 67 9) (F 67 11) (F 67 13) (F 67 15) (A 73)).2.2.2.2.2.2.2.1)) 73 ((km_readsFactor_0 f (F 67 10) (F 67 12) (F 67 14) (A 71) (A 72) m (F 67 9) (F 67 11) (F 67 13) (F 67 15) (A 73)).2.2.2.2.2.2.2.2)) L)) → wl_E f B D mm156.2.2.2.2.2.2.2.2 0 [some (.ref 67), o1] [] (hz F A L) Q := by
  intro m
  induction m with
  | zero =>
    intro B D F A L o1 hm K
    rw [show B = 0 by omega]
    exact w_0
  | succ m ih =>
    intro B D F A L o1 hm K
    cases B with
    | zero => exact w_0
    | succ B =>
      generalize hT : (km_readsFactor_0 f (F 67 10) (F 67 12) (F 67 14) (A 71) (A 72) (m + 1) (F 67 9) (F 67 11) (F 67 13) (F 67 15) (A 73)) = T at K
      have hE : T = (if (km_here (F 67 9) (F 67 10) (A 71)) = 91 then (if (km_opens (F 67 9) (F 67 11) (F 67 13) (F 67 15) (A 73) 14).1 = 0 then (0, (km_opens (F 67 9) (F 67 11) (F 67 13) (F 67 15) (A 73) 14).2.1, (km_opens (F 67 9) (F 67 11) (F 67 13) (F 67 15) (A 73) 14).2.2.1, (F 67 12), (km_opens (F 67 9) (F 67 11) (F 67 13) (F 67 15) (A 73) 14).2.2.2.1, (F 67 14), (km_opens (F 67 9) (F 67 11) (F 67 13) (F 67 15) (A 73) 14).2.2.2.2.1, (A 72), (km_opens (F 67 9) (F 67 11) (F 67 13) (F 67 15) (A 73) 14).2.2.2.2.2) else (km_readsFactor_0 f (F 67 10) (F 67 12) (F 67 14) (A 71) (A 72) m (km_opens (F 67 9) (F 67 11) (F 67 13) (F 67 15) (A 73) 14).2.1 (km_opens (F 67 9) (F 67 11) (F 67 13) (F 67 15) (A 73) 14).2.2.1 (km_opens (F 67 9) (F 67 11) (F 67 13) (F 67 15) (A 73) 14).2.2.2.1 (km_opens (F 67 9) (F 67 11) (F 67 13) (F 67 15) (A 73) 14).2.2.2.2.1 (km_opens (F 67 9) (F 67 11) (F 67 13) (F 67 15) (A 73) 14).2.2.2.2.2)) else (if (km_isDigit (F 67 9) (F 67 10) (A 71)) = 0 then (if (km_factOf (km_here (F 67 9) (F 67 10) (A 71))) = (-1) then ((km_wrongAt 1 (F 67 9)).1, (F 67 9), (km_wrongAt 1 (F 67 9)).2, (F 67 12), (F 67 13), (F 67 14), (F 67 15), (A 72), (A 73)) else (1, ((F 67 9) + 1), (F 67 11), (F 67 12), (F 67 13), (km_notes (F 67 14) (A 72) 1 (km_factOf (km_here (F 67 9) (F 67 10) (A 71)))).1, (F 67 15), (km_notes (F 67 14) (A 72) 1 (km_factOf (km_here (F 67 9) (F 67 10) (A 71)))).2, (A 73))) else (if (km_readsNumber f (F 67 9) (F 67 10) (F 67 11) (A 71)).1 = 0 then (0, (km_readsNumber f (F 67 9) (F 67 10) (F 67 11) (A 71)).2.1, (km_readsNumber f (F 67 9) (F 67 10) (F 67 11) (A 71)).2.2.1, (km_readsNumber f (F 67 9) (F 67 10) (F 67 11) (A 71)).2.2.2, (F 67 13), (F 67 14), (F 67 15), (A 72), (A 73)) else (1, (km_readsNumber f (F 67 9) (F 67 10) (F 67 11) (A 71)).2.1, (km_readsNumber f (F 67 9) (F 67 10) (F 67 11) (A 71)).2.2.1, (km_readsNumber f (F 67 9) (F 67 10) (F 67 11) (A 71)).2.2.2, (F 67 13), (km_notes (F 67 14) (A 72) 0 (km_readsNumber f (F 67 9) (F 67 10) (F 67 11) (A 71)).2.2.2).1, (F 67 15), (km_notes (F 67 14) (A 72) 0 (km_readsNumber f (F 67 9) (F 67 10) (F 67 11) (A 71)).2.2.2).2, (A 73))))) := hT.symm
      clear hT
      refine w_n1 (pc1 := 1) (ls1 := [some (.ref 67), o1]) (st1 := [.ref 67]) (hp1 := (hz F A L)) rfl ?_
      refine w_c rfl rfl (t_km_here ?_)
      show wl_E f _ _ mm156.2.2.2.2.2.2.2.2 4 [some (.ref 67), o1] [.int (km_here (F 67 9) (F 67 10) (A 71))] (hz F A L) _
      generalize hG470 : (km_here (F 67 9) (F 67 10) (A 71)) = G470 at hE ⊢
      refine w_n 1 (pc1 := 6) (ls1 := [some (.ref 67), o1]) (st1 := [.int 91, .int G470]) (hp1 := (hz F A L)) rfl ?_
      refine w_ne (p3 := 9) rfl rfl (fun h => ?_) (fun h => ?_)
      · have h1 : ¬ G470 = 91 := h
        rw [if_neg h1] at hE
        refine w_n 1 (pc1 := 21) (ls1 := [some (.ref 67), o1]) (st1 := [.ref 67]) (hp1 := (hz F A L)) rfl ?_
        refine w_c rfl rfl (t_km_isDigit ?_)
        show wl_E f _ _ mm156.2.2.2.2.2.2.2.2 24 [some (.ref 67), o1] [.int (km_isDigit (F 67 9) (F 67 10) (A 71))] (hz F A L) _
        generalize hG472 : (km_isDigit (F 67 9) (F 67 10) (A 71)) = G472 at hE ⊢
        refine w_zeq (p3 := 27) rfl rfl (fun h => ?_) (fun h => ?_)
        · have h2 : G472 = 0 := h
          rw [if_pos h2] at hE
          refine w_n 1 (pc1 := 48) (ls1 := [some (.ref 67), o1]) (st1 := [.ref 67]) (hp1 := (hz F A L)) rfl ?_
          refine w_c rfl rfl (t_km_here ?_)
          show wl_E f _ _ mm156.2.2.2.2.2.2.2.2 51 [some (.ref 67), o1] [.int (km_here (F 67 9) (F 67 10) (A 71))] (hz F A L) _
          rw [hG470]
          refine w_c rfl rfl (t_km_factOf ?_)
          show wl_E f _ _ mm156.2.2.2.2.2.2.2.2 54 [some (.ref 67), o1] [.int (km_factOf G470)] (hz F A L) _
          generalize hG473 : (km_factOf G470) = G473 at hE ⊢
          refine w_n 3 (pc1 := 57) (ls1 := [some (.ref 67), some (.int G473)]) (st1 := [.int (-1), .int G473]) (hp1 := (hz F A L)) rfl ?_
          refine w_ne (p3 := 60) rfl rfl (fun h => ?_) (fun h => ?_)
          · have h3 : ¬ G473 = (-1) := h
            rw [if_neg h3] at hE
            refine w_n 3 (pc1 := 73) (ls1 := [some (.ref 67), some (.int G473)]) (st1 := [.int G473, .int 1, .ref 67]) (hp1 := (hz F A L)) rfl ?_
            refine w_c rfl rfl (t_km_notes ?_)
            show wl_E f _ _ mm156.2.2.2.2.2.2.2.2 76 [some (.ref 67), some (.int G473)] [] (hz (uF F 67 14 (km_notes (F 67 14) (A 72) 1 G473).1) (uA A 72 (km_notes (F 67 14) (A 72) 1 G473).2) L) _
            generalize hG474 : (km_notes (F 67 14) (A 72) 1 G473) = G474 at hE ⊢
            refine w_n 5 (pc1 := 83) (ls1 := [some (.ref 67), some (.int G473)]) (st1 := [.int ((F 67 9) + 1), .ref 67]) (hp1 := (hz (uF F 67 14 G474.1) (uA A 72 G474.2) L)) rfl ?_
            refine w_pf (k := 67) (fs := hz_f67 (uF F 67 14 G474.1)) (hp1 := (hz (uF (uF F 67 14 G474.1) 67 9 ((F 67 9) + 1)) (uA A 72 G474.2) L)) rfl rfl rfl (hz_p67_9 _) ?_
            refine w_n 1 (pc1 := 87) (ls1 := [some (.ref 67), some (.int G473)]) (st1 := [.int 1]) (hp1 := (hz (uF (uF F 67 14 G474.1) 67 9 ((F 67 9) + 1)) (uA A 72 G474.2) L)) rfl ?_
            subst T
            exact w_ri rfl (cvQ (funext fun q => funext fun z => if k0 : q = 67 ∧ z = 9 then by obtain ⟨w1, w2⟩ := k0; subst w1; subst w2; exact Eq.trans (b := ((F 67 9) + 1)) rfl rfl else if k1 : q = 67 ∧ z = 11 then by obtain ⟨w1, w2⟩ := k1; subst w1; subst w2; exact Eq.trans (b := (F 67 11)) rfl rfl else if k2 : q = 67 ∧ z = 12 then by obtain ⟨w1, w2⟩ := k2; subst w1; subst w2; exact Eq.trans (b := (F 67 12)) rfl rfl else if k3 : q = 67 ∧ z = 13 then by obtain ⟨w1, w2⟩ := k3; subst w1; subst w2; exact Eq.trans (b := (F 67 13)) rfl rfl else if k4 : q = 67 ∧ z = 14 then by obtain ⟨w1, w2⟩ := k4; subst w1; subst w2; exact Eq.trans (b := G474.1) rfl rfl else if k5 : q = 67 ∧ z = 15 then by obtain ⟨w1, w2⟩ := k5; subst w1; subst w2; exact Eq.trans (b := (F 67 15)) rfl rfl else by unfold uF; simp only [nb2 k0, nb2 k1, nb2 k2, nb2 k3, nb2 k4, nb2 k5, cond_false]) (funext fun q => if k0 : q = 72 then by subst k0; exact Eq.trans (b := G474.2) rfl rfl else if k1 : q = 73 then by subst k1; exact Eq.trans (b := (A 73)) rfl rfl else by unfold uA; simp only [nb1 k0, nb1 k1, cond_false]) rfl K)
          · have h3 : G473 = (-1) := h
            rw [if_pos h3] at hE
            refine w_n 4 (pc1 := 66) (ls1 := [some (.ref 67), some (.int G473)]) (st1 := [.int (F 67 9), .int 1, .ref 67]) (hp1 := (hz F A L)) rfl ?_
            refine w_c rfl rfl (t_km_wrongAt ?_)
            show wl_E f _ _ mm156.2.2.2.2.2.2.2.2 69 [some (.ref 67), some (.int G473)] [.int (km_wrongAt 1 (F 67 9)).1] (hz (uF F 67 11 (km_wrongAt 1 (F 67 9)).2) A L) _
            generalize hG475 : (km_wrongAt 1 (F 67 9)) = G475 at hE ⊢
            subst T
            exact w_ri rfl (cvQ (funext fun q => funext fun z => if k0 : q = 67 ∧ z = 9 then by obtain ⟨w1, w2⟩ := k0; subst w1; subst w2; exact Eq.trans (b := (F 67 9)) rfl rfl else if k1 : q = 67 ∧ z = 11 then by obtain ⟨w1, w2⟩ := k1; subst w1; subst w2; exact Eq.trans (b := G475.2) rfl rfl else if k2 : q = 67 ∧ z = 12 then by obtain ⟨w1, w2⟩ := k2; subst w1; subst w2; exact Eq.trans (b := (F 67 12)) rfl rfl else if k3 : q = 67 ∧ z = 13 then by obtain ⟨w1, w2⟩ := k3; subst w1; subst w2; exact Eq.trans (b := (F 67 13)) rfl rfl else if k4 : q = 67 ∧ z = 14 then by obtain ⟨w1, w2⟩ := k4; subst w1; subst w2; exact Eq.trans (b := (F 67 14)) rfl rfl else if k5 : q = 67 ∧ z = 15 then by obtain ⟨w1, w2⟩ := k5; subst w1; subst w2; exact Eq.trans (b := (F 67 15)) rfl rfl else by unfold uF; simp only [nb2 k0, nb2 k1, nb2 k2, nb2 k3, nb2 k4, nb2 k5, cond_false]) (funext fun q => if k0 : q = 72 then by subst k0; exact Eq.trans (b := (A 72)) rfl rfl else if k1 : q = 73 then by subst k1; exact Eq.trans (b := (A 73)) rfl rfl else by unfold uA; simp only [nb1 k0, nb1 k1, cond_false]) rfl K)
        · have h2 : ¬ G472 = 0 := h
          rw [if_neg h2] at hE
          refine w_n 1 (pc1 := 28) (ls1 := [some (.ref 67), o1]) (st1 := [.ref 67]) (hp1 := (hz F A L)) rfl ?_
          refine w_c rfl rfl (t_km_readsNumber ?_)
          show wl_E f _ _ mm156.2.2.2.2.2.2.2.2 31 [some (.ref 67), o1] [.int (km_readsNumber f (F 67 9) (F 67 10) (F 67 11) (A 71)).1] (hz (uF (uF (uF F 67 9 (km_readsNumber f (F 67 9) (F 67 10) (F 67 11) (A 71)).2.1) 67 11 (km_readsNumber f (F 67 9) (F 67 10) (F 67 11) (A 71)).2.2.1) 67 12 (km_readsNumber f (F 67 9) (F 67 10) (F 67 11) (A 71)).2.2.2) A L) _
          generalize hG479 : (km_readsNumber f (F 67 9) (F 67 10) (F 67 11) (A 71)) = G479 at hE ⊢
          refine w_zne (p3 := 34) rfl rfl (fun h => ?_) (fun h => ?_)
          · have h4 : ¬ G479.1 = 0 := h
            rw [if_neg h4] at hE
            refine w_n 4 (pc1 := 42) (ls1 := [some (.ref 67), o1]) (st1 := [.int G479.2.2.2, .int 0, .ref 67]) (hp1 := (hz (uF (uF (uF F 67 9 G479.2.1) 67 11 G479.2.2.1) 67 12 G479.2.2.2) A L)) rfl ?_
            refine w_c rfl rfl (t_km_notes ?_)
            show wl_E f _ _ mm156.2.2.2.2.2.2.2.2 45 [some (.ref 67), o1] [] (hz (uF (uF (uF (uF F 67 9 G479.2.1) 67 11 G479.2.2.1) 67 12 G479.2.2.2) 67 14 (km_notes (F 67 14) (A 72) 0 G479.2.2.2).1) (uA A 72 (km_notes (F 67 14) (A 72) 0 G479.2.2.2).2) L) _
            generalize hG480 : (km_notes (F 67 14) (A 72) 0 G479.2.2.2) = G480 at hE ⊢
            refine w_n 1 (pc1 := 46) (ls1 := [some (.ref 67), o1]) (st1 := [.int 1]) (hp1 := (hz (uF (uF (uF (uF F 67 9 G479.2.1) 67 11 G479.2.2.1) 67 12 G479.2.2.2) 67 14 G480.1) (uA A 72 G480.2) L)) rfl ?_
            subst T
            exact w_ri rfl (cvQ (funext fun q => funext fun z => if k0 : q = 67 ∧ z = 9 then by obtain ⟨w1, w2⟩ := k0; subst w1; subst w2; exact Eq.trans (b := G479.2.1) rfl rfl else if k1 : q = 67 ∧ z = 11 then by obtain ⟨w1, w2⟩ := k1; subst w1; subst w2; exact Eq.trans (b := G479.2.2.1) rfl rfl else if k2 : q = 67 ∧ z = 12 then by obtain ⟨w1, w2⟩ := k2; subst w1; subst w2; exact Eq.trans (b := G479.2.2.2) rfl rfl else if k3 : q = 67 ∧ z = 13 then by obtain ⟨w1, w2⟩ := k3; subst w1; subst w2; exact Eq.trans (b := (F 67 13)) rfl rfl else if k4 : q = 67 ∧ z = 14 then by obtain ⟨w1, w2⟩ := k4; subst w1; subst w2; exact Eq.trans (b := G480.1) rfl rfl else if k5 : q = 67 ∧ z = 15 then by obtain ⟨w1, w2⟩ := k5; subst w1; subst w2; exact Eq.trans (b := (F 67 15)) rfl rfl else by unfold uF; simp only [nb2 k0, nb2 k1, nb2 k2, nb2 k3, nb2 k4, nb2 k5, cond_false]) (funext fun q => if k0 : q = 72 then by subst k0; exact Eq.trans (b := G480.2) rfl rfl else if k1 : q = 73 then by subst k1; exact Eq.trans (b := (A 73)) rfl rfl else by unfold uA; simp only [nb1 k0, nb1 k1, cond_false]) rfl K)
          · have h4 : G479.1 = 0 := h
            rw [if_pos h4] at hE
            refine w_n 1 (pc1 := 35) (ls1 := [some (.ref 67), o1]) (st1 := [.int 0]) (hp1 := (hz (uF (uF (uF F 67 9 G479.2.1) 67 11 G479.2.2.1) 67 12 G479.2.2.2) A L)) rfl ?_
            subst T
            exact w_ri rfl (cvQ (funext fun q => funext fun z => if k0 : q = 67 ∧ z = 9 then by obtain ⟨w1, w2⟩ := k0; subst w1; subst w2; exact Eq.trans (b := G479.2.1) rfl rfl else if k1 : q = 67 ∧ z = 11 then by obtain ⟨w1, w2⟩ := k1; subst w1; subst w2; exact Eq.trans (b := G479.2.2.1) rfl rfl else if k2 : q = 67 ∧ z = 12 then by obtain ⟨w1, w2⟩ := k2; subst w1; subst w2; exact Eq.trans (b := G479.2.2.2) rfl rfl else if k3 : q = 67 ∧ z = 13 then by obtain ⟨w1, w2⟩ := k3; subst w1; subst w2; exact Eq.trans (b := (F 67 13)) rfl rfl else if k4 : q = 67 ∧ z = 14 then by obtain ⟨w1, w2⟩ := k4; subst w1; subst w2; exact Eq.trans (b := (F 67 14)) rfl rfl else if k5 : q = 67 ∧ z = 15 then by obtain ⟨w1, w2⟩ := k5; subst w1; subst w2; exact Eq.trans (b := (F 67 15)) rfl rfl else by unfold uF; simp only [nb2 k0, nb2 k1, nb2 k2, nb2 k3, nb2 k4, nb2 k5, cond_false]) (funext fun q => if k0 : q = 72 then by subst k0; exact Eq.trans (b := (A 72)) rfl rfl else if k1 : q = 73 then by subst k1; exact Eq.trans (b := (A 73)) rfl rfl else by unfold uA; simp only [nb1 k0, nb1 k1, cond_false]) rfl K)
      · have h1 : G470 = 91 := h
        rw [if_pos h1] at hE
        refine w_n 2 (pc1 := 12) (ls1 := [some (.ref 67), o1]) (st1 := [.int 14, .ref 67]) (hp1 := (hz F A L)) rfl ?_
        refine w_c rfl rfl (t_km_opens ?_)
        show wl_E f _ _ mm156.2.2.2.2.2.2.2.2 15 [some (.ref 67), o1] [.int (km_opens (F 67 9) (F 67 11) (F 67 13) (F 67 15) (A 73) 14).1] (hz (uF (uF (uF (uF F 67 9 (km_opens (F 67 9) (F 67 11) (F 67 13) (F 67 15) (A 73) 14).2.1) 67 11 (km_opens (F 67 9) (F 67 11) (F 67 13) (F 67 15) (A 73) 14).2.2.1) 67 13 (km_opens (F 67 9) (F 67 11) (F 67 13) (F 67 15) (A 73) 14).2.2.2.1) 67 15 (km_opens (F 67 9) (F 67 11) (F 67 13) (F 67 15) (A 73) 14).2.2.2.2.1) (uA A 73 (km_opens (F 67 9) (F 67 11) (F 67 13) (F 67 15) (A 73) 14).2.2.2.2.2) L) _
        generalize hG482 : (km_opens (F 67 9) (F 67 11) (F 67 13) (F 67 15) (A 73) 14) = G482 at hE ⊢
        refine w_zne (p3 := 18) rfl rfl (fun h => ?_) (fun h => ?_)
        · have h5 : ¬ G482.1 = 0 := h
          rw [if_neg h5] at hE
          subst T
          exact ih _ (by omega) (cvQ (funext fun q => funext fun z => if k0 : q = 67 ∧ z = 9 then by obtain ⟨w1, w2⟩ := k0; subst w1; subst w2; exact Eq.trans (b := (km_readsFactor_0 f (F 67 10) (F 67 12) (F 67 14) (A 71) (A 72) m G482.2.1 G482.2.2.1 G482.2.2.2.1 G482.2.2.2.2.1 G482.2.2.2.2.2).2.1) rfl rfl else if k1 : q = 67 ∧ z = 11 then by obtain ⟨w1, w2⟩ := k1; subst w1; subst w2; exact Eq.trans (b := (km_readsFactor_0 f (F 67 10) (F 67 12) (F 67 14) (A 71) (A 72) m G482.2.1 G482.2.2.1 G482.2.2.2.1 G482.2.2.2.2.1 G482.2.2.2.2.2).2.2.1) rfl rfl else if k2 : q = 67 ∧ z = 12 then by obtain ⟨w1, w2⟩ := k2; subst w1; subst w2; exact Eq.trans (b := (km_readsFactor_0 f (F 67 10) (F 67 12) (F 67 14) (A 71) (A 72) m G482.2.1 G482.2.2.1 G482.2.2.2.1 G482.2.2.2.2.1 G482.2.2.2.2.2).2.2.2.1) rfl rfl else if k3 : q = 67 ∧ z = 13 then by obtain ⟨w1, w2⟩ := k3; subst w1; subst w2; exact Eq.trans (b := (km_readsFactor_0 f (F 67 10) (F 67 12) (F 67 14) (A 71) (A 72) m G482.2.1 G482.2.2.1 G482.2.2.2.1 G482.2.2.2.2.1 G482.2.2.2.2.2).2.2.2.2.1) rfl rfl else if k4 : q = 67 ∧ z = 14 then by obtain ⟨w1, w2⟩ := k4; subst w1; subst w2; exact Eq.trans (b := (km_readsFactor_0 f (F 67 10) (F 67 12) (F 67 14) (A 71) (A 72) m G482.2.1 G482.2.2.1 G482.2.2.2.1 G482.2.2.2.2.1 G482.2.2.2.2.2).2.2.2.2.2.1) rfl rfl else if k5 : q = 67 ∧ z = 15 then by obtain ⟨w1, w2⟩ := k5; subst w1; subst w2; exact Eq.trans (b := (km_readsFactor_0 f (F 67 10) (F 67 12) (F 67 14) (A 71) (A 72) m G482.2.1 G482.2.2.1 G482.2.2.2.1 G482.2.2.2.2.1 G482.2.2.2.2.2).2.2.2.2.2.2.1) rfl rfl else by unfold uF; simp only [nb2 k0, nb2 k1, nb2 k2, nb2 k3, nb2 k4, nb2 k5, cond_false]) (funext fun q => if k0 : q = 72 then by subst k0; exact Eq.trans (b := (km_readsFactor_0 f (F 67 10) (F 67 12) (F 67 14) (A 71) (A 72) m G482.2.1 G482.2.2.1 G482.2.2.2.1 G482.2.2.2.2.1 G482.2.2.2.2.2).2.2.2.2.2.2.2.1) rfl rfl else if k1 : q = 73 then by subst k1; exact Eq.trans (b := (km_readsFactor_0 f (F 67 10) (F 67 12) (F 67 14) (A 71) (A 72) m G482.2.1 G482.2.2.1 G482.2.2.2.1 G482.2.2.2.2.1 G482.2.2.2.2.2).2.2.2.2.2.2.2.2) rfl rfl else by unfold uA; simp only [nb1 k0, nb1 k1, cond_false]) rfl K)
        · have h5 : G482.1 = 0 := h
          rw [if_pos h5] at hE
          refine w_n 1 (pc1 := 19) (ls1 := [some (.ref 67), o1]) (st1 := [.int 0]) (hp1 := (hz (uF (uF (uF (uF F 67 9 G482.2.1) 67 11 G482.2.2.1) 67 13 G482.2.2.2.1) 67 15 G482.2.2.2.2.1) (uA A 73 G482.2.2.2.2.2) L)) rfl ?_
          subst T
          exact w_ri rfl (cvQ (funext fun q => funext fun z => if k0 : q = 67 ∧ z = 9 then by obtain ⟨w1, w2⟩ := k0; subst w1; subst w2; exact Eq.trans (b := G482.2.1) rfl rfl else if k1 : q = 67 ∧ z = 11 then by obtain ⟨w1, w2⟩ := k1; subst w1; subst w2; exact Eq.trans (b := G482.2.2.1) rfl rfl else if k2 : q = 67 ∧ z = 12 then by obtain ⟨w1, w2⟩ := k2; subst w1; subst w2; exact Eq.trans (b := (F 67 12)) rfl rfl else if k3 : q = 67 ∧ z = 13 then by obtain ⟨w1, w2⟩ := k3; subst w1; subst w2; exact Eq.trans (b := G482.2.2.2.1) rfl rfl else if k4 : q = 67 ∧ z = 14 then by obtain ⟨w1, w2⟩ := k4; subst w1; subst w2; exact Eq.trans (b := (F 67 14)) rfl rfl else if k5 : q = 67 ∧ z = 15 then by obtain ⟨w1, w2⟩ := k5; subst w1; subst w2; exact Eq.trans (b := G482.2.2.2.2.1) rfl rfl else by unfold uF; simp only [nb2 k0, nb2 k1, nb2 k2, nb2 k3, nb2 k4, nb2 k5, cond_false]) (funext fun q => if k0 : q = 72 then by subst k0; exact Eq.trans (b := (A 72)) rfl rfl else if k1 : q = 73 then by subst k1; exact Eq.trans (b := G482.2.2.2.2.2) rfl rfl else by unfold uA; simp only [nb1 k0, nb1 k1, cond_false]) rfl K)
noncomputable def km_readsFactor (f : Nat) (f67_9 : Int32) (f67_10 : Int32) (f67_11 : Int32) (f67_12 : Int32) (f67_13 : Int32) (f67_14 : Int32) (f67_15 : Int32) (a71 : List Int32) (a72 : List Int32) (a73 : List Int32) : Int32 × Int32 × Int32 × Int32 × Int32 × Int32 × Int32 × List Int32 × List Int32 := (km_readsFactor_0 f f67_10 f67_12 f67_14 a71 a72 f f67_9 f67_11 f67_13 f67_15 a73)
theorem t_km_readsFactor {f D : Nat} {F : Nat → Nat → Int32} {A : Nat → List Int32} {L : Nat → List Int64} {Q : Option Value → sm_H → Prop} (K : Q (some (.int ((km_readsFactor f (F 67 9) (F 67 10) (F 67 11) (F 67 12) (F 67 13) (F 67 14) (F 67 15) (A 71) (A 72) (A 73)).1))) (hz (uF (uF (uF (uF (uF (uF F 67 9 ((km_readsFactor f (F 67 9) (F 67 10) (F 67 11) (F 67 12) (F 67 13) (F 67 14) (F 67 15) (A 71) (A 72) (A 73)).2.1)) 67 11 ((km_readsFactor f (F 67 9) (F 67 10) (F 67 11) (F 67 12) (F 67 13) (F 67 14) (F 67 15) (A 71) (A 72) (A 73)).2.2.1)) 67 12 ((km_readsFactor f (F 67 9) (F 67 10) (F 67 11) (F 67 12) (F 67 13) (F 67 14) (F 67 15) (A 71) (A 72) (A 73)).2.2.2.1)) 67 13 ((km_readsFactor f (F 67 9) (F 67 10) (F 67 11) (F 67 12) (F 67 13) (F 67 14) (F 67 15) (A 71) (A 72) (A 73)).2.2.2.2.1)) 67 14 ((km_readsFactor f (F 67 9) (F 67 10) (F 67 11) (F 67 12) (F 67 13) (F 67 14) (F 67 15) (A 71) (A 72) (A 73)).2.2.2.2.2.1)) 67 15 ((km_readsFactor f (F 67 9) (F 67 10) (F 67 11) (F 67 12) (F 67 13) (F 67 14) (F 67 15) (A 71) (A 72) (A 73)).2.2.2.2.2.2.1)) (uA (uA A 72 ((km_readsFactor f (F 67 9) (F 67 10) (F 67 11) (F 67 12) (F 67 13) (F 67 14) (F 67 15) (A 71) (A 72) (A 73)).2.2.2.2.2.2.2.1)) 73 ((km_readsFactor f (F 67 9) (F 67 10) (F 67 11) (F 67 12) (F 67 13) (F 67 14) (F 67 15) (A 71) (A 72) (A 73)).2.2.2.2.2.2.2.2)) L)) : wl_M f D 156 [.ref 67] (hz F A L) Q := by
  generalize hT : (km_readsFactor f (F 67 9) (F 67 10) (F 67 11) (F 67 12) (F 67 13) (F 67 14) (F 67 15) (A 71) (A 72) (A 73)) = T at K
  have hE : T = (km_readsFactor_0 f (F 67 10) (F 67 12) (F 67 14) (A 71) (A 72) f (F 67 9) (F 67 11) (F 67 13) (F 67 15) (A 73)) := hT.symm
  clear hT
  refine w_m (E := mm156) rfl ?_
  show wl_E f f (D - 1) mm156.2.2.2.2.2.2.2.2 0 [some (.ref 67), none] [] (hz F A L) Q
  subst T
  exact t_km_readsFactor_0 _ _ (Nat.le_refl _) (cvQ (funext fun q => funext fun z => if k0 : q = 67 ∧ z = 9 then by obtain ⟨w1, w2⟩ := k0; subst w1; subst w2; exact Eq.trans (b := (km_readsFactor_0 f (F 67 10) (F 67 12) (F 67 14) (A 71) (A 72) f (F 67 9) (F 67 11) (F 67 13) (F 67 15) (A 73)).2.1) rfl rfl else if k1 : q = 67 ∧ z = 11 then by obtain ⟨w1, w2⟩ := k1; subst w1; subst w2; exact Eq.trans (b := (km_readsFactor_0 f (F 67 10) (F 67 12) (F 67 14) (A 71) (A 72) f (F 67 9) (F 67 11) (F 67 13) (F 67 15) (A 73)).2.2.1) rfl rfl else if k2 : q = 67 ∧ z = 12 then by obtain ⟨w1, w2⟩ := k2; subst w1; subst w2; exact Eq.trans (b := (km_readsFactor_0 f (F 67 10) (F 67 12) (F 67 14) (A 71) (A 72) f (F 67 9) (F 67 11) (F 67 13) (F 67 15) (A 73)).2.2.2.1) rfl rfl else if k3 : q = 67 ∧ z = 13 then by obtain ⟨w1, w2⟩ := k3; subst w1; subst w2; exact Eq.trans (b := (km_readsFactor_0 f (F 67 10) (F 67 12) (F 67 14) (A 71) (A 72) f (F 67 9) (F 67 11) (F 67 13) (F 67 15) (A 73)).2.2.2.2.1) rfl rfl else if k4 : q = 67 ∧ z = 14 then by obtain ⟨w1, w2⟩ := k4; subst w1; subst w2; exact Eq.trans (b := (km_readsFactor_0 f (F 67 10) (F 67 12) (F 67 14) (A 71) (A 72) f (F 67 9) (F 67 11) (F 67 13) (F 67 15) (A 73)).2.2.2.2.2.1) rfl rfl else if k5 : q = 67 ∧ z = 15 then by obtain ⟨w1, w2⟩ := k5; subst w1; subst w2; exact Eq.trans (b := (km_readsFactor_0 f (F 67 10) (F 67 12) (F 67 14) (A 71) (A 72) f (F 67 9) (F 67 11) (F 67 13) (F 67 15) (A 73)).2.2.2.2.2.2.1) rfl rfl else by unfold uF; simp only [nb2 k0, nb2 k1, nb2 k2, nb2 k3, nb2 k4, nb2 k5, cond_false]) (funext fun q => if k0 : q = 72 then by subst k0; exact Eq.trans (b := (km_readsFactor_0 f (F 67 10) (F 67 12) (F 67 14) (A 71) (A 72) f (F 67 9) (F 67 11) (F 67 13) (F 67 15) (A 73)).2.2.2.2.2.2.2.1) rfl rfl else if k1 : q = 73 then by subst k1; exact Eq.trans (b := (km_readsFactor_0 f (F 67 10) (F 67 12) (F 67 14) (A 71) (A 72) f (F 67 9) (F 67 11) (F 67 13) (F 67 15) (A 73)).2.2.2.2.2.2.2.2) rfl rfl else by unfold uA; simp only [nb1 k0, nb1 k1, cond_false]) rfl K)
noncomputable def km_sumSign (x0 : Int32) : Int32 := (if x0 = 43 then 2 else (if x0 = 45 then 3 else (if x0 = 42 then 4 else (if x0 = 47 then 5 else (if x0 = 37 then 6 else (-1))))))
theorem t_km_sumSign {f D : Nat} {F : Nat → Nat → Int32} {A : Nat → List Int32} {L : Nat → List Int64} {Q : Option Value → sm_H → Prop} {x0 : Int32} (K : Q (some (.int (km_sumSign x0))) (hz F A L)) : wl_M f D 162 [.int x0] (hz F A L) Q := by
  generalize hT : (km_sumSign x0) = T at K
  have hE : T = (if x0 = 43 then 2 else (if x0 = 45 then 3 else (if x0 = 42 then 4 else (if x0 = 47 then 5 else (if x0 = 37 then 6 else (-1)))))) := hT.symm
  clear hT
  refine w_m (E := mm162) rfl ?_
  show wl_E f f (D - 1) mm162.2.2.2.2.2.2.2.2 0 [some (.int x0)] [] (hz F A L) Q
  refine w_n 2 (pc1 := 3) (ls1 := [some (.int x0)]) (st1 := [.int 43, .int x0]) (hp1 := (hz F A L)) rfl ?_
  refine w_ne (p3 := 6) rfl rfl (fun h => ?_) (fun h => ?_)
  · have h1 : ¬ x0 = 43 := h
    rw [if_neg h1] at hE
    refine w_n 2 (pc1 := 13) (ls1 := [some (.int x0)]) (st1 := [.int 45, .int x0]) (hp1 := (hz F A L)) rfl ?_
    refine w_ne (p3 := 16) rfl rfl (fun h => ?_) (fun h => ?_)
    · have h2 : ¬ x0 = 45 := h
      rw [if_neg h2] at hE
      refine w_n 2 (pc1 := 23) (ls1 := [some (.int x0)]) (st1 := [.int 42, .int x0]) (hp1 := (hz F A L)) rfl ?_
      refine w_ne (p3 := 26) rfl rfl (fun h => ?_) (fun h => ?_)
      · have h3 : ¬ x0 = 42 := h
        rw [if_neg h3] at hE
        refine w_n 2 (pc1 := 33) (ls1 := [some (.int x0)]) (st1 := [.int 47, .int x0]) (hp1 := (hz F A L)) rfl ?_
        refine w_ne (p3 := 36) rfl rfl (fun h => ?_) (fun h => ?_)
        · have h4 : ¬ x0 = 47 := h
          rw [if_neg h4] at hE
          refine w_n 2 (pc1 := 43) (ls1 := [some (.int x0)]) (st1 := [.int 37, .int x0]) (hp1 := (hz F A L)) rfl ?_
          refine w_ne (p3 := 46) rfl rfl (fun h => ?_) (fun h => ?_)
          · have h5 : ¬ x0 = 37 := h
            rw [if_neg h5] at hE
            refine w_n 1 (pc1 := 52) (ls1 := [some (.int x0)]) (st1 := [.int (-1)]) (hp1 := (hz F A L)) rfl ?_
            subst T
            exact w_ri rfl (cvQ rfl rfl rfl K)
          · have h5 : x0 = 37 := h
            rw [if_pos h5] at hE
            refine w_n 2 (pc1 := 52) (ls1 := [some (.int x0)]) (st1 := [.int 6]) (hp1 := (hz F A L)) rfl ?_
            subst T
            exact w_ri rfl (cvQ rfl rfl rfl K)
        · have h4 : x0 = 47 := h
          rw [if_pos h4] at hE
          refine w_n 2 (pc1 := 52) (ls1 := [some (.int x0)]) (st1 := [.int 5]) (hp1 := (hz F A L)) rfl ?_
          subst T
          exact w_ri rfl (cvQ rfl rfl rfl K)
      · have h3 : x0 = 42 := h
        rw [if_pos h3] at hE
        refine w_n 2 (pc1 := 52) (ls1 := [some (.int x0)]) (st1 := [.int 4]) (hp1 := (hz F A L)) rfl ?_
        subst T
        exact w_ri rfl (cvQ rfl rfl rfl K)
    · have h2 : x0 = 45 := h
      rw [if_pos h2] at hE
      refine w_n 2 (pc1 := 52) (ls1 := [some (.int x0)]) (st1 := [.int 3]) (hp1 := (hz F A L)) rfl ?_
      subst T
      exact w_ri rfl (cvQ rfl rfl rfl K)
  · have h1 : x0 = 43 := h
    rw [if_pos h1] at hE
    refine w_n 2 (pc1 := 52) (ls1 := [some (.int x0)]) (st1 := [.int 2]) (hp1 := (hz F A L)) rfl ?_
    subst T
    exact w_ri rfl (cvQ rfl rfl rfl K)
noncomputable def km_hasOpenSum_2 (a73 : List Int32)  : Nat → Int32 → Int32
  | 0, _ => 0
  | m + 1, y2 => (if ((a73.getD y2.toInt.toNat 0) / 1048576) = 14 then 1 else (km_hasOpenSum_2 a73 m (y2 + 1)))
theorem t_km_hasOpenSum_2 {f : Nat} {Q : Option Value → sm_H → Prop} : ∀ (m : Nat) {B D : Nat} {F : Nat → Nat → Int32} {A : Nat → List Int32} {L : Nat → List Int64} {x1 : Int32} {y2 : Int32}, m = ((F 67 15).toInt - y2.toInt).toNat → (Q (some (.int (km_hasOpenSum_2 (A 73) m y2))) (hz F A L)) → wl_E f B D mm165.2.2.2.2.2.2.2.2 2 [some (.ref 67), some (.int x1), some (.int y2)] [] (hz F A L) Q := by
  intro m
  induction m with
  | zero =>
    intro B D F A L x1 y2 hm K
    generalize hT : (km_hasOpenSum_2 (A 73) 0 y2) = T at K
    have hE : T = 0 := hT.symm
    clear hT
    refine w_n 3 (pc1 := 7) (ls1 := [some (.ref 67), some (.int x1), some (.int y2)]) (st1 := [.int (F 67 15), .int y2]) (hp1 := (hz F A L)) rfl ?_
    refine w_ge (p3 := 10) rfl rfl (fun hb => ?_) (fun h => False.elim (by have h : y2.toInt < (F 67 15).toInt := h; omega))
    refine w_n 1 (pc1 := 33) (ls1 := [some (.ref 67), some (.int x1), some (.int y2)]) (st1 := [.int 0]) (hp1 := (hz F A L)) rfl ?_
    subst T
    exact w_ri rfl (cvQ rfl rfl rfl K)
  | succ m ih =>
    intro B D F A L x1 y2 hm K
    generalize hT : (km_hasOpenSum_2 (A 73) (m + 1) y2) = T at K
    have hE : T = (if (((A 73).getD y2.toInt.toNat 0) / 1048576) = 14 then 1 else (km_hasOpenSum_2 (A 73) m (y2 + 1))) := hT.symm
    clear hT
    refine w_n 3 (pc1 := 7) (ls1 := [some (.ref 67), some (.int x1), some (.int y2)]) (st1 := [.int (F 67 15), .int y2]) (hp1 := (hz F A L)) rfl ?_
    refine w_ge (p3 := 10) rfl rfl (fun h => False.elim (by have h : (F 67 15).toInt ≤ y2.toInt := h; omega)) (fun hb => ?_)
    refine w_n 3 (pc1 := 15) (ls1 := [some (.ref 67), some (.int x1), some (.int y2)]) (st1 := [.int y2, .ref 73]) (hp1 := (hz F A L)) rfl ?_
    refine w_al (k := 73) (l := (A 73)) rfl rfl rfl (fun ab => ?_)
    refine w_n 1 (pc1 := 18) (ls1 := [some (.ref 67), some (.int x1), some (.int y2)]) (st1 := [.int 1048576, .int ((A 73).getD y2.toInt.toNat 0)]) (hp1 := (hz F A L)) rfl ?_
    refine w_dv rfl rfl (fun _ => ?_)
    refine w_n 1 (pc1 := 21) (ls1 := [some (.ref 67), some (.int x1), some (.int y2)]) (st1 := [.int 14, .int (((A 73).getD y2.toInt.toNat 0) / 1048576)]) (hp1 := (hz F A L)) rfl ?_
    refine w_ne (p3 := 24) rfl rfl (fun h => ?_) (fun h => ?_)
    · have h1 : ¬ (((A 73).getD y2.toInt.toNat 0) / 1048576) = 14 := h
      rw [if_neg h1] at hE
      refine w_n 2 (pc1 := 2) (ls1 := [some (.ref 67), some (.int x1), some (.int (y2 + 1))]) (st1 := []) (hp1 := (hz F A L)) rfl ?_
      subst T
      have hb2 := i_up (B := (F 67 15)) hb
      have hb3 : y2.toInt < (F 67 15).toInt := hb
      exact ih (show m = ((F 67 15).toInt - (y2 + 1).toInt).toNat by rw [hb2]; omega) (cvQ rfl rfl rfl K)
    · have h1 : (((A 73).getD y2.toInt.toNat 0) / 1048576) = 14 := h
      rw [if_pos h1] at hE
      refine w_n 1 (pc1 := 25) (ls1 := [some (.ref 67), some (.int x1), some (.int y2)]) (st1 := [.int 1]) (hp1 := (hz F A L)) rfl ?_
      subst T
      exact w_ri rfl (cvQ rfl rfl rfl K)
noncomputable def km_hasOpenSum (f67_15 : Int32) (a73 : List Int32) (x1 : Int32) : Int32 := (km_hasOpenSum_2 a73 (f67_15.toInt - x1.toInt).toNat x1)
theorem t_km_hasOpenSum {f D : Nat} {F : Nat → Nat → Int32} {A : Nat → List Int32} {L : Nat → List Int64} {Q : Option Value → sm_H → Prop} {x1 : Int32} (K : Q (some (.int (km_hasOpenSum (F 67 15) (A 73) x1))) (hz F A L)) : wl_M f D 165 [.ref 67, .int x1] (hz F A L) Q := by
  generalize hT : (km_hasOpenSum (F 67 15) (A 73) x1) = T at K
  have hE : T = (km_hasOpenSum_2 (A 73) ((F 67 15).toInt - x1.toInt).toNat x1) := hT.symm
  clear hT
  refine w_m (E := mm165) rfl ?_
  show wl_E f f (D - 1) mm165.2.2.2.2.2.2.2.2 0 [some (.ref 67), some (.int x1), none] [] (hz F A L) Q
  refine w_n 2 (pc1 := 2) (ls1 := [some (.ref 67), some (.int x1), some (.int x1)]) (st1 := []) (hp1 := (hz F A L)) rfl ?_
  subst T
  exact t_km_hasOpenSum_2 _ (show ((F 67 15).toInt - x1.toInt).toNat = ((F 67 15).toInt - x1.toInt).toNat by first | rfl | omega) (cvQ rfl rfl rfl K)
noncomputable def km_waitTop (f67_15 : Int32) (a73 : List Int32) : Int32 := (if f67_15 = 0 then (-1) else ((a73.getD (f67_15 - 1).toInt.toNat 0) / 1048576))
theorem t_km_waitTop {f D : Nat} {F : Nat → Nat → Int32} {A : Nat → List Int32} {L : Nat → List Int64} {Q : Option Value → sm_H → Prop} (K : Q (some (.int (km_waitTop (F 67 15) (A 73)))) (hz F A L)) : wl_M f D 164 [.ref 67] (hz F A L) Q := by
  generalize hT : (km_waitTop (F 67 15) (A 73)) = T at K
  have hE : T = (if (F 67 15) = 0 then (-1) else (((A 73).getD ((F 67 15) - 1).toInt.toNat 0) / 1048576)) := hT.symm
  clear hT
  refine w_m (E := mm164) rfl ?_
  show wl_E f f (D - 1) mm164.2.2.2.2.2.2.2.2 0 [some (.ref 67)] [] (hz F A L) Q
  refine w_n 2 (pc1 := 4) (ls1 := [some (.ref 67)]) (st1 := [.int (F 67 15)]) (hp1 := (hz F A L)) rfl ?_
  refine w_zne (p3 := 7) rfl rfl (fun h => ?_) (fun h => ?_)
  · have h1 : ¬ (F 67 15) = 0 := h
    rw [if_neg h1] at hE
    refine w_n 6 (pc1 := 21) (ls1 := [some (.ref 67)]) (st1 := [.int ((F 67 15) - 1), .ref 73]) (hp1 := (hz F A L)) rfl ?_
    refine w_al (k := 73) (l := (A 73)) rfl rfl rfl (fun _ => ?_)
    refine w_n 1 (pc1 := 24) (ls1 := [some (.ref 67)]) (st1 := [.int 1048576, .int ((A 73).getD ((F 67 15) - 1).toInt.toNat 0)]) (hp1 := (hz F A L)) rfl ?_
    refine w_dv rfl rfl (fun _ => ?_)
    subst T
    exact w_ri rfl (cvQ rfl rfl rfl K)
  · have h1 : (F 67 15) = 0 := h
    rw [if_pos h1] at hE
    refine w_n 2 (pc1 := 25) (ls1 := [some (.ref 67)]) (st1 := [.int (-1)]) (hp1 := (hz F A L)) rfl ?_
    subst T
    exact w_ri rfl (cvQ rfl rfl rfl K)
noncomputable def km_closesSums_0 (a73 : List Int32) (x1 : Int32) : Nat → Int32 → Int32 → List Int32 → Int32 × Int32 × List Int32
  | 0, f67_14, f67_15, a72 => (f67_14, f67_15, a72)
  | m + 1, f67_14, f67_15, a72 => (if (km_waitTop f67_15 a73).toInt < 4 then (if x1 = 0 then (f67_14, f67_15, a72) else (if (km_waitTop f67_15 a73) = 2 then (km_closesSums_0 a73 x1 m (km_notes f67_14 a72 (km_waitTop f67_15 a73) 0).1 (f67_15 - 1) (km_notes f67_14 a72 (km_waitTop f67_15 a73) 0).2) else (if (km_waitTop f67_15 a73) = 3 then (km_closesSums_0 a73 x1 m (km_notes f67_14 a72 (km_waitTop f67_15 a73) 0).1 (f67_15 - 1) (km_notes f67_14 a72 (km_waitTop f67_15 a73) 0).2) else (f67_14, f67_15, a72)))) else (if 6 < (km_waitTop f67_15 a73).toInt then (if x1 = 0 then (f67_14, f67_15, a72) else (if (km_waitTop f67_15 a73) = 2 then (km_closesSums_0 a73 x1 m (km_notes f67_14 a72 (km_waitTop f67_15 a73) 0).1 (f67_15 - 1) (km_notes f67_14 a72 (km_waitTop f67_15 a73) 0).2) else (if (km_waitTop f67_15 a73) = 3 then (km_closesSums_0 a73 x1 m (km_notes f67_14 a72 (km_waitTop f67_15 a73) 0).1 (f67_15 - 1) (km_notes f67_14 a72 (km_waitTop f67_15 a73) 0).2) else (f67_14, f67_15, a72)))) else (km_closesSums_0 a73 x1 m (km_notes f67_14 a72 (km_waitTop f67_15 a73) 0).1 (f67_15 - 1) (km_notes f67_14 a72 (km_waitTop f67_15 a73) 0).2)))
theorem t_km_closesSums_0 {f : Nat} {Q : Option Value → sm_H → Prop} : ∀ (m : Nat) (B : Nat) {D : Nat} {F : Nat → Nat → Int32} {A : Nat → List Int32} {L : Nat → List Int64} {x1 : Int32}, B ≤ m → (wl_E f B D mm163.2.2.2.2.2.2.2.2 59 [some (.ref 67), some (.int x1)] [] (hz (uF (uF F 67 14 ((km_closesSums_0 (A 73) x1 m (F 67 14) (F 67 15) (A 72)).1)) 67 15 ((km_closesSums_0 (A 73) x1 m (F 67 14) (F 67 15) (A 72)).2.1)) (uA A 72 ((km_closesSums_0 (A 73) x1 m (F 67 14) (F 67 15) (A 72)).2.2)) L) Q) → wl_E f B D mm163.2.2.2.2.2.2.2.2 0 [some (.ref 67), some (.int x1)] [] (hz F A L) Q := by
  intro m
  induction m with
  | zero =>
    intro B D F A L x1 hm K
    rw [show B = 0 by omega]
    exact w_0
  | succ m ih =>
    intro B D F A L x1 hm K
    cases B with
    | zero => exact w_0
    | succ B =>
      generalize hT : (km_closesSums_0 (A 73) x1 (m + 1) (F 67 14) (F 67 15) (A 72)) = T at K
      have hE : T = (if (km_waitTop (F 67 15) (A 73)).toInt < 4 then (if x1 = 0 then ((F 67 14), (F 67 15), (A 72)) else (if (km_waitTop (F 67 15) (A 73)) = 2 then (km_closesSums_0 (A 73) x1 m (km_notes (F 67 14) (A 72) (km_waitTop (F 67 15) (A 73)) 0).1 ((F 67 15) - 1) (km_notes (F 67 14) (A 72) (km_waitTop (F 67 15) (A 73)) 0).2) else (if (km_waitTop (F 67 15) (A 73)) = 3 then (km_closesSums_0 (A 73) x1 m (km_notes (F 67 14) (A 72) (km_waitTop (F 67 15) (A 73)) 0).1 ((F 67 15) - 1) (km_notes (F 67 14) (A 72) (km_waitTop (F 67 15) (A 73)) 0).2) else ((F 67 14), (F 67 15), (A 72))))) else (if 6 < (km_waitTop (F 67 15) (A 73)).toInt then (if x1 = 0 then ((F 67 14), (F 67 15), (A 72)) else (if (km_waitTop (F 67 15) (A 73)) = 2 then (km_closesSums_0 (A 73) x1 m (km_notes (F 67 14) (A 72) (km_waitTop (F 67 15) (A 73)) 0).1 ((F 67 15) - 1) (km_notes (F 67 14) (A 72) (km_waitTop (F 67 15) (A 73)) 0).2) else (if (km_waitTop (F 67 15) (A 73)) = 3 then (km_closesSums_0 (A 73) x1 m (km_notes (F 67 14) (A 72) (km_waitTop (F 67 15) (A 73)) 0).1 ((F 67 15) - 1) (km_notes (F 67 14) (A 72) (km_waitTop (F 67 15) (A 73)) 0).2) else ((F 67 14), (F 67 15), (A 72))))) else (km_closesSums_0 (A 73) x1 m (km_notes (F 67 14) (A 72) (km_waitTop (F 67 15) (A 73)) 0).1 ((F 67 15) - 1) (km_notes (F 67 14) (A 72) (km_waitTop (F 67 15) (A 73)) 0).2))) := hT.symm
      clear hT
      refine w_n1 (pc1 := 1) (ls1 := [some (.ref 67), some (.int x1)]) (st1 := [.ref 67]) (hp1 := (hz F A L)) rfl ?_
      refine w_c rfl rfl (t_km_waitTop ?_)
      show wl_E f _ _ mm163.2.2.2.2.2.2.2.2 4 [some (.ref 67), some (.int x1)] [.int (km_waitTop (F 67 15) (A 73))] (hz F A L) _
      generalize hG487 : (km_waitTop (F 67 15) (A 73)) = G487 at hE ⊢
      refine w_n 1 (pc1 := 5) (ls1 := [some (.ref 67), some (.int x1)]) (st1 := [.int 4, .int G487]) (hp1 := (hz F A L)) rfl ?_
      refine w_lt (p3 := 8) rfl rfl (fun h => ?_) (fun h => ?_)
      · have h1 : G487.toInt < 4 := h
        rw [if_pos h1] at hE
        refine w_n 1 (pc1 := 18) (ls1 := [some (.ref 67), some (.int x1)]) (st1 := [.int x1]) (hp1 := (hz F A L)) rfl ?_
        refine w_zeq (p3 := 21) rfl rfl (fun h => ?_) (fun h => ?_)
        · have h2 : x1 = 0 := h
          rw [if_pos h2] at hE
          subst T
          exact cvE (funext fun q => funext fun z => if k0 : q = 67 ∧ z = 14 then by obtain ⟨w1, w2⟩ := k0; subst w1; subst w2; exact Eq.trans (b := (F 67 14)) rfl rfl else if k1 : q = 67 ∧ z = 15 then by obtain ⟨w1, w2⟩ := k1; subst w1; subst w2; exact Eq.trans (b := (F 67 15)) rfl rfl else by unfold uF; simp only [nb2 k0, nb2 k1, cond_false]) (funext fun q => if k0 : q = 72 then by subst k0; exact Eq.trans (b := (A 72)) rfl rfl else by unfold uA; simp only [nb1 k0, cond_false]) rfl (wl_le (Nat.le_succ _) (K))
        · have h2 : ¬ x1 = 0 := h
          rw [if_neg h2] at hE
          refine w_n 1 (pc1 := 22) (ls1 := [some (.ref 67), some (.int x1)]) (st1 := [.ref 67]) (hp1 := (hz F A L)) rfl ?_
          refine w_c rfl rfl (t_km_waitTop ?_)
          show wl_E f _ _ mm163.2.2.2.2.2.2.2.2 25 [some (.ref 67), some (.int x1)] [.int (km_waitTop (F 67 15) (A 73))] (hz F A L) _
          rw [hG487]
          refine w_n 1 (pc1 := 26) (ls1 := [some (.ref 67), some (.int x1)]) (st1 := [.int 2, .int G487]) (hp1 := (hz F A L)) rfl ?_
          refine w_eq (p3 := 29) rfl rfl (fun h => ?_) (fun h => ?_)
          · have h3 : G487 = 2 := h
            rw [if_pos h3] at hE
            refine w_n 2 (pc1 := 39) (ls1 := [some (.ref 67), some (.int x1)]) (st1 := [.ref 67, .ref 67]) (hp1 := (hz F A L)) rfl ?_
            refine w_c rfl rfl (t_km_waitTop ?_)
            show wl_E f _ _ mm163.2.2.2.2.2.2.2.2 42 [some (.ref 67), some (.int x1)] [.int (km_waitTop (F 67 15) (A 73)), .ref 67] (hz F A L) _
            rw [hG487]
            refine w_n 1 (pc1 := 43) (ls1 := [some (.ref 67), some (.int x1)]) (st1 := [.int 0, .int G487, .ref 67]) (hp1 := (hz F A L)) rfl ?_
            refine w_c rfl rfl (t_km_notes ?_)
            show wl_E f _ _ mm163.2.2.2.2.2.2.2.2 46 [some (.ref 67), some (.int x1)] [] (hz (uF F 67 14 (km_notes (F 67 14) (A 72) G487 0).1) (uA A 72 (km_notes (F 67 14) (A 72) G487 0).2) L) _
            generalize hG488 : (km_notes (F 67 14) (A 72) G487 0) = G488 at hE ⊢
            refine w_n 5 (pc1 := 53) (ls1 := [some (.ref 67), some (.int x1)]) (st1 := [.int ((F 67 15) - 1), .ref 67]) (hp1 := (hz (uF F 67 14 G488.1) (uA A 72 G488.2) L)) rfl ?_
            refine w_pf (k := 67) (fs := hz_f67 (uF F 67 14 G488.1)) (hp1 := (hz (uF (uF F 67 14 G488.1) 67 15 ((F 67 15) - 1)) (uA A 72 G488.2) L)) rfl rfl rfl (hz_p67_15 _) ?_
            refine w_n 1 (pc1 := 0) (ls1 := [some (.ref 67), some (.int x1)]) (st1 := []) (hp1 := (hz (uF (uF F 67 14 G488.1) 67 15 ((F 67 15) - 1)) (uA A 72 G488.2) L)) rfl ?_
            subst T
            exact ih _ (by omega) (cvE (funext fun q => funext fun z => if k0 : q = 67 ∧ z = 14 then by obtain ⟨w1, w2⟩ := k0; subst w1; subst w2; exact Eq.trans (b := (km_closesSums_0 (A 73) x1 m G488.1 ((F 67 15) - 1) G488.2).1) rfl rfl else if k1 : q = 67 ∧ z = 15 then by obtain ⟨w1, w2⟩ := k1; subst w1; subst w2; exact Eq.trans (b := (km_closesSums_0 (A 73) x1 m G488.1 ((F 67 15) - 1) G488.2).2.1) rfl rfl else by unfold uF; simp only [nb2 k0, nb2 k1, cond_false]) (funext fun q => if k0 : q = 72 then by subst k0; exact Eq.trans (b := (km_closesSums_0 (A 73) x1 m G488.1 ((F 67 15) - 1) G488.2).2.2) rfl rfl else by unfold uA; simp only [nb1 k0, cond_false]) rfl (wl_le (Nat.le_succ _) (K)))
          · have h3 : ¬ G487 = 2 := h
            rw [if_neg h3] at hE
            refine w_n 1 (pc1 := 30) (ls1 := [some (.ref 67), some (.int x1)]) (st1 := [.ref 67]) (hp1 := (hz F A L)) rfl ?_
            refine w_c rfl rfl (t_km_waitTop ?_)
            show wl_E f _ _ mm163.2.2.2.2.2.2.2.2 33 [some (.ref 67), some (.int x1)] [.int (km_waitTop (F 67 15) (A 73))] (hz F A L) _
            rw [hG487]
            refine w_n 1 (pc1 := 34) (ls1 := [some (.ref 67), some (.int x1)]) (st1 := [.int 3, .int G487]) (hp1 := (hz F A L)) rfl ?_
            refine w_ne (p3 := 37) rfl rfl (fun h => ?_) (fun h => ?_)
            · have h4 : ¬ G487 = 3 := h
              rw [if_neg h4] at hE
              subst T
              exact cvE (funext fun q => funext fun z => if k0 : q = 67 ∧ z = 14 then by obtain ⟨w1, w2⟩ := k0; subst w1; subst w2; exact Eq.trans (b := (F 67 14)) rfl rfl else if k1 : q = 67 ∧ z = 15 then by obtain ⟨w1, w2⟩ := k1; subst w1; subst w2; exact Eq.trans (b := (F 67 15)) rfl rfl else by unfold uF; simp only [nb2 k0, nb2 k1, cond_false]) (funext fun q => if k0 : q = 72 then by subst k0; exact Eq.trans (b := (A 72)) rfl rfl else by unfold uA; simp only [nb1 k0, cond_false]) rfl (wl_le (Nat.le_succ _) (K))
            · have h4 : G487 = 3 := h
              rw [if_pos h4] at hE
              refine w_n 2 (pc1 := 39) (ls1 := [some (.ref 67), some (.int x1)]) (st1 := [.ref 67, .ref 67]) (hp1 := (hz F A L)) rfl ?_
              refine w_c rfl rfl (t_km_waitTop ?_)
              show wl_E f _ _ mm163.2.2.2.2.2.2.2.2 42 [some (.ref 67), some (.int x1)] [.int (km_waitTop (F 67 15) (A 73)), .ref 67] (hz F A L) _
              rw [hG487]
              refine w_n 1 (pc1 := 43) (ls1 := [some (.ref 67), some (.int x1)]) (st1 := [.int 0, .int G487, .ref 67]) (hp1 := (hz F A L)) rfl ?_
              refine w_c rfl rfl (t_km_notes ?_)
              show wl_E f _ _ mm163.2.2.2.2.2.2.2.2 46 [some (.ref 67), some (.int x1)] [] (hz (uF F 67 14 (km_notes (F 67 14) (A 72) G487 0).1) (uA A 72 (km_notes (F 67 14) (A 72) G487 0).2) L) _
              generalize hG489 : (km_notes (F 67 14) (A 72) G487 0) = G489 at hE ⊢
              refine w_n 5 (pc1 := 53) (ls1 := [some (.ref 67), some (.int x1)]) (st1 := [.int ((F 67 15) - 1), .ref 67]) (hp1 := (hz (uF F 67 14 G489.1) (uA A 72 G489.2) L)) rfl ?_
              refine w_pf (k := 67) (fs := hz_f67 (uF F 67 14 G489.1)) (hp1 := (hz (uF (uF F 67 14 G489.1) 67 15 ((F 67 15) - 1)) (uA A 72 G489.2) L)) rfl rfl rfl (hz_p67_15 _) ?_
              refine w_n 1 (pc1 := 0) (ls1 := [some (.ref 67), some (.int x1)]) (st1 := []) (hp1 := (hz (uF (uF F 67 14 G489.1) 67 15 ((F 67 15) - 1)) (uA A 72 G489.2) L)) rfl ?_
              subst T
              exact ih _ (by omega) (cvE (funext fun q => funext fun z => if k0 : q = 67 ∧ z = 14 then by obtain ⟨w1, w2⟩ := k0; subst w1; subst w2; exact Eq.trans (b := (km_closesSums_0 (A 73) x1 m G489.1 ((F 67 15) - 1) G489.2).1) rfl rfl else if k1 : q = 67 ∧ z = 15 then by obtain ⟨w1, w2⟩ := k1; subst w1; subst w2; exact Eq.trans (b := (km_closesSums_0 (A 73) x1 m G489.1 ((F 67 15) - 1) G489.2).2.1) rfl rfl else by unfold uF; simp only [nb2 k0, nb2 k1, cond_false]) (funext fun q => if k0 : q = 72 then by subst k0; exact Eq.trans (b := (km_closesSums_0 (A 73) x1 m G489.1 ((F 67 15) - 1) G489.2).2.2) rfl rfl else by unfold uA; simp only [nb1 k0, cond_false]) rfl (wl_le (Nat.le_succ _) (K)))
      · have h1 : 4 ≤ G487.toInt := h
        rw [if_neg (Int.not_lt.mpr h1)] at hE
        refine w_n 1 (pc1 := 9) (ls1 := [some (.ref 67), some (.int x1)]) (st1 := [.ref 67]) (hp1 := (hz F A L)) rfl ?_
        refine w_c rfl rfl (t_km_waitTop ?_)
        show wl_E f _ _ mm163.2.2.2.2.2.2.2.2 12 [some (.ref 67), some (.int x1)] [.int (km_waitTop (F 67 15) (A 73))] (hz F A L) _
        rw [hG487]
        refine w_n 1 (pc1 := 14) (ls1 := [some (.ref 67), some (.int x1)]) (st1 := [.int 6, .int G487]) (hp1 := (hz F A L)) rfl ?_
        refine w_le (p3 := 17) rfl rfl (fun h => ?_) (fun h => ?_)
        · have h5 : G487.toInt ≤ 6 := h
          rw [if_neg (Int.not_lt.mpr h5)] at hE
          refine w_n 2 (pc1 := 39) (ls1 := [some (.ref 67), some (.int x1)]) (st1 := [.ref 67, .ref 67]) (hp1 := (hz F A L)) rfl ?_
          refine w_c rfl rfl (t_km_waitTop ?_)
          show wl_E f _ _ mm163.2.2.2.2.2.2.2.2 42 [some (.ref 67), some (.int x1)] [.int (km_waitTop (F 67 15) (A 73)), .ref 67] (hz F A L) _
          rw [hG487]
          refine w_n 1 (pc1 := 43) (ls1 := [some (.ref 67), some (.int x1)]) (st1 := [.int 0, .int G487, .ref 67]) (hp1 := (hz F A L)) rfl ?_
          refine w_c rfl rfl (t_km_notes ?_)
          show wl_E f _ _ mm163.2.2.2.2.2.2.2.2 46 [some (.ref 67), some (.int x1)] [] (hz (uF F 67 14 (km_notes (F 67 14) (A 72) G487 0).1) (uA A 72 (km_notes (F 67 14) (A 72) G487 0).2) L) _
          generalize hG490 : (km_notes (F 67 14) (A 72) G487 0) = G490 at hE ⊢
          refine w_n 5 (pc1 := 53) (ls1 := [some (.ref 67), some (.int x1)]) (st1 := [.int ((F 67 15) - 1), .ref 67]) (hp1 := (hz (uF F 67 14 G490.1) (uA A 72 G490.2) L)) rfl ?_
          refine w_pf (k := 67) (fs := hz_f67 (uF F 67 14 G490.1)) (hp1 := (hz (uF (uF F 67 14 G490.1) 67 15 ((F 67 15) - 1)) (uA A 72 G490.2) L)) rfl rfl rfl (hz_p67_15 _) ?_
          refine w_n 1 (pc1 := 0) (ls1 := [some (.ref 67), some (.int x1)]) (st1 := []) (hp1 := (hz (uF (uF F 67 14 G490.1) 67 15 ((F 67 15) - 1)) (uA A 72 G490.2) L)) rfl ?_
          subst T
          exact ih _ (by omega) (cvE (funext fun q => funext fun z => if k0 : q = 67 ∧ z = 14 then by obtain ⟨w1, w2⟩ := k0; subst w1; subst w2; exact Eq.trans (b := (km_closesSums_0 (A 73) x1 m G490.1 ((F 67 15) - 1) G490.2).1) rfl rfl else if k1 : q = 67 ∧ z = 15 then by obtain ⟨w1, w2⟩ := k1; subst w1; subst w2; exact Eq.trans (b := (km_closesSums_0 (A 73) x1 m G490.1 ((F 67 15) - 1) G490.2).2.1) rfl rfl else by unfold uF; simp only [nb2 k0, nb2 k1, cond_false]) (funext fun q => if k0 : q = 72 then by subst k0; exact Eq.trans (b := (km_closesSums_0 (A 73) x1 m G490.1 ((F 67 15) - 1) G490.2).2.2) rfl rfl else by unfold uA; simp only [nb1 k0, cond_false]) rfl (wl_le (Nat.le_succ _) (K)))
        · have h5 : 6 < G487.toInt := h
          rw [if_pos h5] at hE
          refine w_n 1 (pc1 := 18) (ls1 := [some (.ref 67), some (.int x1)]) (st1 := [.int x1]) (hp1 := (hz F A L)) rfl ?_
          refine w_zeq (p3 := 21) rfl rfl (fun h => ?_) (fun h => ?_)
          · have h6 : x1 = 0 := h
            rw [if_pos h6] at hE
            subst T
            exact cvE (funext fun q => funext fun z => if k0 : q = 67 ∧ z = 14 then by obtain ⟨w1, w2⟩ := k0; subst w1; subst w2; exact Eq.trans (b := (F 67 14)) rfl rfl else if k1 : q = 67 ∧ z = 15 then by obtain ⟨w1, w2⟩ := k1; subst w1; subst w2; exact Eq.trans (b := (F 67 15)) rfl rfl else by unfold uF; simp only [nb2 k0, nb2 k1, cond_false]) (funext fun q => if k0 : q = 72 then by subst k0; exact Eq.trans (b := (A 72)) rfl rfl else by unfold uA; simp only [nb1 k0, cond_false]) rfl (wl_le (Nat.le_succ _) (K))
          · have h6 : ¬ x1 = 0 := h
            rw [if_neg h6] at hE
            refine w_n 1 (pc1 := 22) (ls1 := [some (.ref 67), some (.int x1)]) (st1 := [.ref 67]) (hp1 := (hz F A L)) rfl ?_
            refine w_c rfl rfl (t_km_waitTop ?_)
            show wl_E f _ _ mm163.2.2.2.2.2.2.2.2 25 [some (.ref 67), some (.int x1)] [.int (km_waitTop (F 67 15) (A 73))] (hz F A L) _
            rw [hG487]
            refine w_n 1 (pc1 := 26) (ls1 := [some (.ref 67), some (.int x1)]) (st1 := [.int 2, .int G487]) (hp1 := (hz F A L)) rfl ?_
            refine w_eq (p3 := 29) rfl rfl (fun h => ?_) (fun h => ?_)
            · have h7 : G487 = 2 := h
              rw [if_pos h7] at hE
              refine w_n 2 (pc1 := 39) (ls1 := [some (.ref 67), some (.int x1)]) (st1 := [.ref 67, .ref 67]) (hp1 := (hz F A L)) rfl ?_
              refine w_c rfl rfl (t_km_waitTop ?_)
              show wl_E f _ _ mm163.2.2.2.2.2.2.2.2 42 [some (.ref 67), some (.int x1)] [.int (km_waitTop (F 67 15) (A 73)), .ref 67] (hz F A L) _
              rw [hG487]
              refine w_n 1 (pc1 := 43) (ls1 := [some (.ref 67), some (.int x1)]) (st1 := [.int 0, .int G487, .ref 67]) (hp1 := (hz F A L)) rfl ?_
              refine w_c rfl rfl (t_km_notes ?_)
              show wl_E f _ _ mm163.2.2.2.2.2.2.2.2 46 [some (.ref 67), some (.int x1)] [] (hz (uF F 67 14 (km_notes (F 67 14) (A 72) G487 0).1) (uA A 72 (km_notes (F 67 14) (A 72) G487 0).2) L) _
              generalize hG491 : (km_notes (F 67 14) (A 72) G487 0) = G491 at hE ⊢
              refine w_n 5 (pc1 := 53) (ls1 := [some (.ref 67), some (.int x1)]) (st1 := [.int ((F 67 15) - 1), .ref 67]) (hp1 := (hz (uF F 67 14 G491.1) (uA A 72 G491.2) L)) rfl ?_
              refine w_pf (k := 67) (fs := hz_f67 (uF F 67 14 G491.1)) (hp1 := (hz (uF (uF F 67 14 G491.1) 67 15 ((F 67 15) - 1)) (uA A 72 G491.2) L)) rfl rfl rfl (hz_p67_15 _) ?_
              refine w_n 1 (pc1 := 0) (ls1 := [some (.ref 67), some (.int x1)]) (st1 := []) (hp1 := (hz (uF (uF F 67 14 G491.1) 67 15 ((F 67 15) - 1)) (uA A 72 G491.2) L)) rfl ?_
              subst T
              exact ih _ (by omega) (cvE (funext fun q => funext fun z => if k0 : q = 67 ∧ z = 14 then by obtain ⟨w1, w2⟩ := k0; subst w1; subst w2; exact Eq.trans (b := (km_closesSums_0 (A 73) x1 m G491.1 ((F 67 15) - 1) G491.2).1) rfl rfl else if k1 : q = 67 ∧ z = 15 then by obtain ⟨w1, w2⟩ := k1; subst w1; subst w2; exact Eq.trans (b := (km_closesSums_0 (A 73) x1 m G491.1 ((F 67 15) - 1) G491.2).2.1) rfl rfl else by unfold uF; simp only [nb2 k0, nb2 k1, cond_false]) (funext fun q => if k0 : q = 72 then by subst k0; exact Eq.trans (b := (km_closesSums_0 (A 73) x1 m G491.1 ((F 67 15) - 1) G491.2).2.2) rfl rfl else by unfold uA; simp only [nb1 k0, cond_false]) rfl (wl_le (Nat.le_succ _) (K)))
            · have h7 : ¬ G487 = 2 := h
              rw [if_neg h7] at hE
              refine w_n 1 (pc1 := 30) (ls1 := [some (.ref 67), some (.int x1)]) (st1 := [.ref 67]) (hp1 := (hz F A L)) rfl ?_
              refine w_c rfl rfl (t_km_waitTop ?_)
              show wl_E f _ _ mm163.2.2.2.2.2.2.2.2 33 [some (.ref 67), some (.int x1)] [.int (km_waitTop (F 67 15) (A 73))] (hz F A L) _
              rw [hG487]
              refine w_n 1 (pc1 := 34) (ls1 := [some (.ref 67), some (.int x1)]) (st1 := [.int 3, .int G487]) (hp1 := (hz F A L)) rfl ?_
              refine w_ne (p3 := 37) rfl rfl (fun h => ?_) (fun h => ?_)
              · have h8 : ¬ G487 = 3 := h
                rw [if_neg h8] at hE
                subst T
                exact cvE (funext fun q => funext fun z => if k0 : q = 67 ∧ z = 14 then by obtain ⟨w1, w2⟩ := k0; subst w1; subst w2; exact Eq.trans (b := (F 67 14)) rfl rfl else if k1 : q = 67 ∧ z = 15 then by obtain ⟨w1, w2⟩ := k1; subst w1; subst w2; exact Eq.trans (b := (F 67 15)) rfl rfl else by unfold uF; simp only [nb2 k0, nb2 k1, cond_false]) (funext fun q => if k0 : q = 72 then by subst k0; exact Eq.trans (b := (A 72)) rfl rfl else by unfold uA; simp only [nb1 k0, cond_false]) rfl (wl_le (Nat.le_succ _) (K))
              · have h8 : G487 = 3 := h
                rw [if_pos h8] at hE
                refine w_n 2 (pc1 := 39) (ls1 := [some (.ref 67), some (.int x1)]) (st1 := [.ref 67, .ref 67]) (hp1 := (hz F A L)) rfl ?_
                refine w_c rfl rfl (t_km_waitTop ?_)
                show wl_E f _ _ mm163.2.2.2.2.2.2.2.2 42 [some (.ref 67), some (.int x1)] [.int (km_waitTop (F 67 15) (A 73)), .ref 67] (hz F A L) _
                rw [hG487]
                refine w_n 1 (pc1 := 43) (ls1 := [some (.ref 67), some (.int x1)]) (st1 := [.int 0, .int G487, .ref 67]) (hp1 := (hz F A L)) rfl ?_
                refine w_c rfl rfl (t_km_notes ?_)
                show wl_E f _ _ mm163.2.2.2.2.2.2.2.2 46 [some (.ref 67), some (.int x1)] [] (hz (uF F 67 14 (km_notes (F 67 14) (A 72) G487 0).1) (uA A 72 (km_notes (F 67 14) (A 72) G487 0).2) L) _
                generalize hG492 : (km_notes (F 67 14) (A 72) G487 0) = G492 at hE ⊢
                refine w_n 5 (pc1 := 53) (ls1 := [some (.ref 67), some (.int x1)]) (st1 := [.int ((F 67 15) - 1), .ref 67]) (hp1 := (hz (uF F 67 14 G492.1) (uA A 72 G492.2) L)) rfl ?_
                refine w_pf (k := 67) (fs := hz_f67 (uF F 67 14 G492.1)) (hp1 := (hz (uF (uF F 67 14 G492.1) 67 15 ((F 67 15) - 1)) (uA A 72 G492.2) L)) rfl rfl rfl (hz_p67_15 _) ?_
                refine w_n 1 (pc1 := 0) (ls1 := [some (.ref 67), some (.int x1)]) (st1 := []) (hp1 := (hz (uF (uF F 67 14 G492.1) 67 15 ((F 67 15) - 1)) (uA A 72 G492.2) L)) rfl ?_
                subst T
                exact ih _ (by omega) (cvE (funext fun q => funext fun z => if k0 : q = 67 ∧ z = 14 then by obtain ⟨w1, w2⟩ := k0; subst w1; subst w2; exact Eq.trans (b := (km_closesSums_0 (A 73) x1 m G492.1 ((F 67 15) - 1) G492.2).1) rfl rfl else if k1 : q = 67 ∧ z = 15 then by obtain ⟨w1, w2⟩ := k1; subst w1; subst w2; exact Eq.trans (b := (km_closesSums_0 (A 73) x1 m G492.1 ((F 67 15) - 1) G492.2).2.1) rfl rfl else by unfold uF; simp only [nb2 k0, nb2 k1, cond_false]) (funext fun q => if k0 : q = 72 then by subst k0; exact Eq.trans (b := (km_closesSums_0 (A 73) x1 m G492.1 ((F 67 15) - 1) G492.2).2.2) rfl rfl else by unfold uA; simp only [nb1 k0, cond_false]) rfl (wl_le (Nat.le_succ _) (K)))
noncomputable def km_closesSums (f : Nat) (f67_14 : Int32) (f67_15 : Int32) (a72 : List Int32) (a73 : List Int32) (x1 : Int32) : Int32 × Int32 × List Int32 := ((km_closesSums_0 a73 x1 f f67_14 f67_15 a72).1, (km_closesSums_0 a73 x1 f f67_14 f67_15 a72).2.1, (km_closesSums_0 a73 x1 f f67_14 f67_15 a72).2.2)
theorem t_km_closesSums {f D : Nat} {F : Nat → Nat → Int32} {A : Nat → List Int32} {L : Nat → List Int64} {Q : Option Value → sm_H → Prop} {x1 : Int32} (K : Q none (hz (uF (uF F 67 14 ((km_closesSums f (F 67 14) (F 67 15) (A 72) (A 73) x1).1)) 67 15 ((km_closesSums f (F 67 14) (F 67 15) (A 72) (A 73) x1).2.1)) (uA A 72 ((km_closesSums f (F 67 14) (F 67 15) (A 72) (A 73) x1).2.2)) L)) : wl_M f D 163 [.ref 67, .int x1] (hz F A L) Q := by
  generalize hT : (km_closesSums f (F 67 14) (F 67 15) (A 72) (A 73) x1) = T at K
  have hE : T = ((km_closesSums_0 (A 73) x1 f (F 67 14) (F 67 15) (A 72)).1, (km_closesSums_0 (A 73) x1 f (F 67 14) (F 67 15) (A 72)).2.1, (km_closesSums_0 (A 73) x1 f (F 67 14) (F 67 15) (A 72)).2.2) := hT.symm
  clear hT
  refine w_m (E := mm163) rfl ?_
  show wl_E f f (D - 1) mm163.2.2.2.2.2.2.2.2 0 [some (.ref 67), some (.int x1)] [] (hz F A L) Q
  refine t_km_closesSums_0 f _ (Nat.le_refl _) ?_
  show wl_E f _ _ mm163.2.2.2.2.2.2.2.2 59 [some (.ref 67), some (.int x1)] [] (hz (uF (uF F 67 14 (km_closesSums_0 (A 73) x1 f (F 67 14) (F 67 15) (A 72)).1) 67 15 (km_closesSums_0 (A 73) x1 f (F 67 14) (F 67 15) (A 72)).2.1) (uA A 72 (km_closesSums_0 (A 73) x1 f (F 67 14) (F 67 15) (A 72)).2.2) L) _
  generalize hG493 : (km_closesSums_0 (A 73) x1 f (F 67 14) (F 67 15) (A 72)) = G493 at hE ⊢
  subst T
  exact w_r rfl rfl (cvQ rfl rfl rfl K)
noncomputable def km_readsSum_14 (f : Nat) (f67_10 : Int32) (a71 : List Int32) (x1 : Int32) : Nat → Int32 → Int32 → Int32 → Int32 → Int32 → Int32 → List Int32 → List Int32 → Int32 × Int32 × Int32 × Int32 × Int32 × Int32 × Int32 × List Int32 × List Int32
  | 0, f67_9, f67_11, f67_12, f67_13, f67_14, f67_15, a72, a73 => (0, f67_9, f67_11, f67_12, f67_13, f67_14, f67_15, a72, a73)
  | m + 1, f67_9, f67_11, f67_12, f67_13, f67_14, f67_15, a72, a73 => (lt (km_here f67_9 f67_10 a71) (fun g484 => (lt (km_sumSign g484) (fun g485 => (if g485 = (-1) then (if g484 = 93 then (lt (km_hasOpenSum f67_15 a73 x1) (fun g496 => (if g496 = 0 then (lt (km_closesSums f f67_14 f67_15 a72 a73 1) (fun g497 => (1, f67_9, f67_11, f67_12, f67_13, g497.1, g497.2.1, g497.2.2, a73))) else (lt (km_closesSums f f67_14 f67_15 a72 a73 1) (fun g498 => (km_readsSum_14 f f67_10 a71 x1 m (f67_9 + 1) f67_11 f67_12 (f67_13 - 1) g498.1 (g498.2.1 - 1) g498.2.2 a73)))))) else (lt (km_hasOpenSum f67_15 a73 x1) (fun g486 => (if g486 = 0 then (lt (km_closesSums f f67_14 f67_15 a72 a73 1) (fun g494 => (1, f67_9, f67_11, f67_12, f67_13, g494.1, g494.2.1, g494.2.2, a73))) else (lt (km_wrongAt 1 f67_9) (fun g495 => (g495.1, f67_9, g495.2, f67_12, f67_13, f67_14, f67_15, a72, a73))))))) else (if g485.toInt < 4 then (lt (km_closesSums f f67_14 f67_15 a72 a73 1) (fun g501 => (lt (km_readsFactor f (f67_9 + 1) f67_10 f67_11 f67_12 f67_13 g501.1 (g501.2.1 + 1) a71 g501.2.2 (a73.set g501.2.1.toInt.toNat (1048576 * g485))) (fun g502 => (if g502.1 = 0 then (0, g502.2.1, g502.2.2.1, g502.2.2.2.1, g502.2.2.2.2.1, g502.2.2.2.2.2.1, g502.2.2.2.2.2.2.1, g502.2.2.2.2.2.2.2.1, g502.2.2.2.2.2.2.2.2) else (km_readsSum_14 f f67_10 a71 x1 m g502.2.1 g502.2.2.1 g502.2.2.2.1 g502.2.2.2.2.1 g502.2.2.2.2.2.1 g502.2.2.2.2.2.2.1 g502.2.2.2.2.2.2.2.1 g502.2.2.2.2.2.2.2.2)))))) else (lt (km_closesSums f f67_14 f67_15 a72 a73 0) (fun g499 => (lt (km_readsFactor f (f67_9 + 1) f67_10 f67_11 f67_12 f67_13 g499.1 (g499.2.1 + 1) a71 g499.2.2 (a73.set g499.2.1.toInt.toNat (1048576 * g485))) (fun g500 => (if g500.1 = 0 then (0, g500.2.1, g500.2.2.1, g500.2.2.2.1, g500.2.2.2.2.1, g500.2.2.2.2.2.1, g500.2.2.2.2.2.2.1, g500.2.2.2.2.2.2.2.1, g500.2.2.2.2.2.2.2.2) else (km_readsSum_14 f f67_10 a71 x1 m g500.2.1 g500.2.2.1 g500.2.2.2.1 g500.2.2.2.2.1 g500.2.2.2.2.2.1 g500.2.2.2.2.2.2.1 g500.2.2.2.2.2.2.2.1 g500.2.2.2.2.2.2.2.2))))))))))))
theorem t_km_readsSum_14 {f : Nat} {Q : Option Value → sm_H → Prop} : ∀ (m : Nat) (B : Nat) {D : Nat} {F : Nat → Nat → Int32} {A : Nat → List Int32} {L : Nat → List Int64} {x1 : Int32} {o2 : Option Value}, B ≤ m → (Q (some (.int ((km_readsSum_14 f (F 67 10) (A 71) x1 m (F 67 9) (F 67 11) (F 67 12) (F 67 13) (F 67 14) (F 67 15) (A 72) (A 73)).1))) (hz (uF (uF (uF (uF (uF (uF F 67 9 ((km_readsSum_14 f (F 67 10) (A 71) x1 m (F 67 9) (F 67 11) (F 67 12) (F 67 13) (F 67 14) (F 67 15) (A 72) (A 73)).2.1)) 67 11 ((km_readsSum_14 f (F 67 10) (A 71) x1 m (F 67 9) (F 67 11) (F 67 12) (F 67 13) (F 67 14) (F 67 15) (A 72) (A 73)).2.2.1)) 67 12 ((km_readsSum_14 f (F 67 10) (A 71) x1 m (F 67 9) (F 67 11) (F 67 12) (F 67 13) (F 67 14) (F 67 15) (A 72) (A 73)).2.2.2.1)) 67 13 ((km_readsSum_14 f (F 67 10) (A 71) x1 m (F 67 9) (F 67 11) (F 67 12) (F 67 13) (F 67 14) (F 67 15) (A 72) (A 73)).2.2.2.2.1)) 67 14 ((km_readsSum_14 f (F 67 10) (A 71) x1 m (F 67 9) (F 67 11) (F 67 12) (F 67 13) (F 67 14) (F 67 15) (A 72) (A 73)).2.2.2.2.2.1)) 67 15 ((km_readsSum_14 f (F 67 10) (A 71) x1 m (F 67 9) (F 67 11) (F 67 12) (F 67 13) (F 67 14) (F 67 15) (A 72) (A 73)).2.2.2.2.2.2.1)) (uA (uA A 72 ((km_readsSum_14 f (F 67 10) (A 71) x1 m (F 67 9) (F 67 11) (F 67 12) (F 67 13) (F 67 14) (F 67 15) (A 72) (A 73)).2.2.2.2.2.2.2.1)) 73 ((km_readsSum_14 f (F 67 10) (A 71) x1 m (F 67 9) (F 67 11) (F 67 12) (F 67 13) (F 67 14) (F 67 15) (A 72) (A 73)).2.2.2.2.2.2.2.2)) L)) → wl_E f B D mm155.2.2.2.2.2.2.2.2 14 [some (.ref 67), some (.int x1), o2] [] (hz F A L) Q := by
  intro m
  induction m with
  | zero =>
    intro B D F A L x1 o2 hm K
    rw [show B = 0 by omega]
    exact w_0
  | succ m ih =>
    intro B D F A L x1 o2 hm K
    cases B with
    | zero => exact w_0
    | succ B =>
      generalize hT : (km_readsSum_14 f (F 67 10) (A 71) x1 (m + 1) (F 67 9) (F 67 11) (F 67 12) (F 67 13) (F 67 14) (F 67 15) (A 72) (A 73)) = T at K
      have hE : T = (lt (km_here (F 67 9) (F 67 10) (A 71)) (fun g484 => (lt (km_sumSign g484) (fun g485 => (if g485 = (-1) then (if g484 = 93 then (lt (km_hasOpenSum (F 67 15) (A 73) x1) (fun g496 => (if g496 = 0 then (lt (km_closesSums f (F 67 14) (F 67 15) (A 72) (A 73) 1) (fun g497 => (1, (F 67 9), (F 67 11), (F 67 12), (F 67 13), g497.1, g497.2.1, g497.2.2, (A 73)))) else (lt (km_closesSums f (F 67 14) (F 67 15) (A 72) (A 73) 1) (fun g498 => (km_readsSum_14 f (F 67 10) (A 71) x1 m ((F 67 9) + 1) (F 67 11) (F 67 12) ((F 67 13) - 1) g498.1 (g498.2.1 - 1) g498.2.2 (A 73))))))) else (lt (km_hasOpenSum (F 67 15) (A 73) x1) (fun g486 => (if g486 = 0 then (lt (km_closesSums f (F 67 14) (F 67 15) (A 72) (A 73) 1) (fun g494 => (1, (F 67 9), (F 67 11), (F 67 12), (F 67 13), g494.1, g494.2.1, g494.2.2, (A 73)))) else (lt (km_wrongAt 1 (F 67 9)) (fun g495 => (g495.1, (F 67 9), g495.2, (F 67 12), (F 67 13), (F 67 14), (F 67 15), (A 72), (A 73)))))))) else (if g485.toInt < 4 then (lt (km_closesSums f (F 67 14) (F 67 15) (A 72) (A 73) 1) (fun g501 => (lt (km_readsFactor f ((F 67 9) + 1) (F 67 10) (F 67 11) (F 67 12) (F 67 13) g501.1 (g501.2.1 + 1) (A 71) g501.2.2 ((A 73).set g501.2.1.toInt.toNat (1048576 * g485))) (fun g502 => (if g502.1 = 0 then (0, g502.2.1, g502.2.2.1, g502.2.2.2.1, g502.2.2.2.2.1, g502.2.2.2.2.2.1, g502.2.2.2.2.2.2.1, g502.2.2.2.2.2.2.2.1, g502.2.2.2.2.2.2.2.2) else (km_readsSum_14 f (F 67 10) (A 71) x1 m g502.2.1 g502.2.2.1 g502.2.2.2.1 g502.2.2.2.2.1 g502.2.2.2.2.2.1 g502.2.2.2.2.2.2.1 g502.2.2.2.2.2.2.2.1 g502.2.2.2.2.2.2.2.2)))))) else (lt (km_closesSums f (F 67 14) (F 67 15) (A 72) (A 73) 0) (fun g499 => (lt (km_readsFactor f ((F 67 9) + 1) (F 67 10) (F 67 11) (F 67 12) (F 67 13) g499.1 (g499.2.1 + 1) (A 71) g499.2.2 ((A 73).set g499.2.1.toInt.toNat (1048576 * g485))) (fun g500 => (if g500.1 = 0 then (0, g500.2.1, g500.2.2.1, g500.2.2.2.1, g500.2.2.2.2.1, g500.2.2.2.2.2.1, g500.2.2.2.2.2.2.1, g500.2.2.2.2.2.2.2.1, g500.2.2.2.2.2.2.2.2) else (km_readsSum_14 f (F 67 10) (A 71) x1 m g500.2.1 g500.2.2.1 g500.2.2.2.1 g500.2.2.2.2.1 g500.2.2.2.2.2.1 g500.2.2.2.2.2.2.1 g500.2.2.2.2.2.2.2.1 g500.2.2.2.2.2.2.2.2)))))))))))) := hT.symm
      clear hT
      refine w_n1 (pc1 := 15) (ls1 := [some (.ref 67), some (.int x1), o2]) (st1 := [.ref 67]) (hp1 := (hz F A L)) rfl ?_
      refine w_c rfl rfl (t_km_here ?_)
      show wl_E f _ _ mm155.2.2.2.2.2.2.2.2 18 [some (.ref 67), some (.int x1), o2] [.int (km_here (F 67 9) (F 67 10) (A 71))] (hz F A L) _
      generalize hG484 : (km_here (F 67 9) (F 67 10) (A 71)) = G484 at hE ⊢
      replace hE := hE.trans (lt_e _ _)
      refine w_c rfl rfl (t_km_sumSign ?_)
      show wl_E f _ _ mm155.2.2.2.2.2.2.2.2 21 [some (.ref 67), some (.int x1), o2] [.int (km_sumSign G484)] (hz F A L) _
      generalize hG485 : (km_sumSign G484) = G485 at hE ⊢
      replace hE := hE.trans (lt_e _ _)
      refine w_n 3 (pc1 := 24) (ls1 := [some (.ref 67), some (.int x1), some (.int G485)]) (st1 := [.int (-1), .int G485]) (hp1 := (hz F A L)) rfl ?_
      refine w_eq (p3 := 27) rfl rfl (fun h => ?_) (fun h => ?_)
      · have h1 : G485 = (-1) := h
        rw [if_pos h1] at hE
        refine w_n 1 (pc1 := 84) (ls1 := [some (.ref 67), some (.int x1), some (.int G485)]) (st1 := [.ref 67]) (hp1 := (hz F A L)) rfl ?_
        refine w_c rfl rfl (t_km_here ?_)
        show wl_E f _ _ mm155.2.2.2.2.2.2.2.2 87 [some (.ref 67), some (.int x1), some (.int G485)] [.int (km_here (F 67 9) (F 67 10) (A 71))] (hz F A L) _
        rw [hG484]
        refine w_n 1 (pc1 := 89) (ls1 := [some (.ref 67), some (.int x1), some (.int G485)]) (st1 := [.int 93, .int G484]) (hp1 := (hz F A L)) rfl ?_
        refine w_ne (p3 := 92) rfl rfl (fun h => ?_) (fun h => ?_)
        · have h2 : ¬ G484 = 93 := h
          rw [if_neg h2] at hE
          refine w_n 2 (pc1 := 140) (ls1 := [some (.ref 67), some (.int x1), some (.int G485)]) (st1 := [.int x1, .ref 67]) (hp1 := (hz F A L)) rfl ?_
          refine w_c rfl rfl (t_km_hasOpenSum ?_)
          show wl_E f _ _ mm155.2.2.2.2.2.2.2.2 143 [some (.ref 67), some (.int x1), some (.int G485)] [.int (km_hasOpenSum (F 67 15) (A 73) x1)] (hz F A L) _
          generalize hG486 : (km_hasOpenSum (F 67 15) (A 73) x1) = G486 at hE ⊢
          replace hE := hE.trans (lt_e _ _)
          refine w_zeq (p3 := 146) rfl rfl (fun h => ?_) (fun h => ?_)
          · have h3 : G486 = 0 := h
            rw [if_pos h3] at hE
            refine w_n 2 (pc1 := 158) (ls1 := [some (.ref 67), some (.int x1), some (.int G485)]) (st1 := [.int 1, .ref 67]) (hp1 := (hz F A L)) rfl ?_
            refine w_c rfl rfl (t_km_closesSums ?_)
            show wl_E f _ _ mm155.2.2.2.2.2.2.2.2 161 [some (.ref 67), some (.int x1), some (.int G485)] [] (hz (uF (uF F 67 14 (km_closesSums f (F 67 14) (F 67 15) (A 72) (A 73) 1).1) 67 15 (km_closesSums f (F 67 14) (F 67 15) (A 72) (A 73) 1).2.1) (uA A 72 (km_closesSums f (F 67 14) (F 67 15) (A 72) (A 73) 1).2.2) L) _
            generalize hG494 : (km_closesSums f (F 67 14) (F 67 15) (A 72) (A 73) 1) = G494 at hE ⊢
            replace hE := hE.trans (lt_e _ _)
            refine w_n 1 (pc1 := 162) (ls1 := [some (.ref 67), some (.int x1), some (.int G485)]) (st1 := [.int 1]) (hp1 := (hz (uF (uF F 67 14 G494.1) 67 15 G494.2.1) (uA A 72 G494.2.2) L)) rfl ?_
            subst T
            exact w_ri rfl (cvQ (funext fun q => funext fun z => if k0 : q = 67 ∧ z = 9 then by obtain ⟨w1, w2⟩ := k0; subst w1; subst w2; exact Eq.trans (b := (F 67 9)) rfl rfl else if k1 : q = 67 ∧ z = 11 then by obtain ⟨w1, w2⟩ := k1; subst w1; subst w2; exact Eq.trans (b := (F 67 11)) rfl rfl else if k2 : q = 67 ∧ z = 12 then by obtain ⟨w1, w2⟩ := k2; subst w1; subst w2; exact Eq.trans (b := (F 67 12)) rfl rfl else if k3 : q = 67 ∧ z = 13 then by obtain ⟨w1, w2⟩ := k3; subst w1; subst w2; exact Eq.trans (b := (F 67 13)) rfl rfl else if k4 : q = 67 ∧ z = 14 then by obtain ⟨w1, w2⟩ := k4; subst w1; subst w2; exact Eq.trans (b := G494.1) rfl rfl else if k5 : q = 67 ∧ z = 15 then by obtain ⟨w1, w2⟩ := k5; subst w1; subst w2; exact Eq.trans (b := G494.2.1) rfl rfl else by unfold uF; simp only [nb2 k0, nb2 k1, nb2 k2, nb2 k3, nb2 k4, nb2 k5, cond_false]) (funext fun q => if k0 : q = 72 then by subst k0; exact Eq.trans (b := G494.2.2) rfl rfl else if k1 : q = 73 then by subst k1; exact Eq.trans (b := (A 73)) rfl rfl else by unfold uA; simp only [nb1 k0, nb1 k1, cond_false]) rfl K)
          · have h3 : ¬ G486 = 0 := h
            rw [if_neg h3] at hE
            refine w_n 4 (pc1 := 152) (ls1 := [some (.ref 67), some (.int x1), some (.int G485)]) (st1 := [.int (F 67 9), .int 1, .ref 67]) (hp1 := (hz F A L)) rfl ?_
            refine w_c rfl rfl (t_km_wrongAt ?_)
            show wl_E f _ _ mm155.2.2.2.2.2.2.2.2 155 [some (.ref 67), some (.int x1), some (.int G485)] [.int (km_wrongAt 1 (F 67 9)).1] (hz (uF F 67 11 (km_wrongAt 1 (F 67 9)).2) A L) _
            generalize hG495 : (km_wrongAt 1 (F 67 9)) = G495 at hE ⊢
            replace hE := hE.trans (lt_e _ _)
            subst T
            exact w_ri rfl (cvQ (funext fun q => funext fun z => if k0 : q = 67 ∧ z = 9 then by obtain ⟨w1, w2⟩ := k0; subst w1; subst w2; exact Eq.trans (b := (F 67 9)) rfl rfl else if k1 : q = 67 ∧ z = 11 then by obtain ⟨w1, w2⟩ := k1; subst w1; subst w2; exact Eq.trans (b := G495.2) rfl rfl else if k2 : q = 67 ∧ z = 12 then by obtain ⟨w1, w2⟩ := k2; subst w1; subst w2; exact Eq.trans (b := (F 67 12)) rfl rfl else if k3 : q = 67 ∧ z = 13 then by obtain ⟨w1, w2⟩ := k3; subst w1; subst w2; exact Eq.trans (b := (F 67 13)) rfl rfl else if k4 : q = 67 ∧ z = 14 then by obtain ⟨w1, w2⟩ := k4; subst w1; subst w2; exact Eq.trans (b := (F 67 14)) rfl rfl else if k5 : q = 67 ∧ z = 15 then by obtain ⟨w1, w2⟩ := k5; subst w1; subst w2; exact Eq.trans (b := (F 67 15)) rfl rfl else by unfold uF; simp only [nb2 k0, nb2 k1, nb2 k2, nb2 k3, nb2 k4, nb2 k5, cond_false]) (funext fun q => if k0 : q = 72 then by subst k0; exact Eq.trans (b := (A 72)) rfl rfl else if k1 : q = 73 then by subst k1; exact Eq.trans (b := (A 73)) rfl rfl else by unfold uA; simp only [nb1 k0, nb1 k1, cond_false]) rfl K)
        · have h2 : G484 = 93 := h
          rw [if_pos h2] at hE
          refine w_n 2 (pc1 := 94) (ls1 := [some (.ref 67), some (.int x1), some (.int G485)]) (st1 := [.int x1, .ref 67]) (hp1 := (hz F A L)) rfl ?_
          refine w_c rfl rfl (t_km_hasOpenSum ?_)
          show wl_E f _ _ mm155.2.2.2.2.2.2.2.2 97 [some (.ref 67), some (.int x1), some (.int G485)] [.int (km_hasOpenSum (F 67 15) (A 73) x1)] (hz F A L) _
          generalize hG496 : (km_hasOpenSum (F 67 15) (A 73) x1) = G496 at hE ⊢
          replace hE := hE.trans (lt_e _ _)
          refine w_zeq (p3 := 100) rfl rfl (fun h => ?_) (fun h => ?_)
          · have h4 : G496 = 0 := h
            rw [if_pos h4] at hE
            refine w_n 2 (pc1 := 140) (ls1 := [some (.ref 67), some (.int x1), some (.int G485)]) (st1 := [.int x1, .ref 67]) (hp1 := (hz F A L)) rfl ?_
            refine w_c rfl rfl (t_km_hasOpenSum ?_)
            show wl_E f _ _ mm155.2.2.2.2.2.2.2.2 143 [some (.ref 67), some (.int x1), some (.int G485)] [.int (km_hasOpenSum (F 67 15) (A 73) x1)] (hz F A L) _
            rw [hG496]
            refine w_zeq (p3 := 146) rfl rfl (fun _ => ?_) (fun h => absurd h4 h)
            refine w_n 2 (pc1 := 158) (ls1 := [some (.ref 67), some (.int x1), some (.int G485)]) (st1 := [.int 1, .ref 67]) (hp1 := (hz F A L)) rfl ?_
            refine w_c rfl rfl (t_km_closesSums ?_)
            show wl_E f _ _ mm155.2.2.2.2.2.2.2.2 161 [some (.ref 67), some (.int x1), some (.int G485)] [] (hz (uF (uF F 67 14 (km_closesSums f (F 67 14) (F 67 15) (A 72) (A 73) 1).1) 67 15 (km_closesSums f (F 67 14) (F 67 15) (A 72) (A 73) 1).2.1) (uA A 72 (km_closesSums f (F 67 14) (F 67 15) (A 72) (A 73) 1).2.2) L) _
            generalize hG497 : (km_closesSums f (F 67 14) (F 67 15) (A 72) (A 73) 1) = G497 at hE ⊢
            replace hE := hE.trans (lt_e _ _)
            refine w_n 1 (pc1 := 162) (ls1 := [some (.ref 67), some (.int x1), some (.int G485)]) (st1 := [.int 1]) (hp1 := (hz (uF (uF F 67 14 G497.1) 67 15 G497.2.1) (uA A 72 G497.2.2) L)) rfl ?_
            subst T
            exact w_ri rfl (cvQ (funext fun q => funext fun z => if k0 : q = 67 ∧ z = 9 then by obtain ⟨w1, w2⟩ := k0; subst w1; subst w2; exact Eq.trans (b := (F 67 9)) rfl rfl else if k1 : q = 67 ∧ z = 11 then by obtain ⟨w1, w2⟩ := k1; subst w1; subst w2; exact Eq.trans (b := (F 67 11)) rfl rfl else if k2 : q = 67 ∧ z = 12 then by obtain ⟨w1, w2⟩ := k2; subst w1; subst w2; exact Eq.trans (b := (F 67 12)) rfl rfl else if k3 : q = 67 ∧ z = 13 then by obtain ⟨w1, w2⟩ := k3; subst w1; subst w2; exact Eq.trans (b := (F 67 13)) rfl rfl else if k4 : q = 67 ∧ z = 14 then by obtain ⟨w1, w2⟩ := k4; subst w1; subst w2; exact Eq.trans (b := G497.1) rfl rfl else if k5 : q = 67 ∧ z = 15 then by obtain ⟨w1, w2⟩ := k5; subst w1; subst w2; exact Eq.trans (b := G497.2.1) rfl rfl else by unfold uF; simp only [nb2 k0, nb2 k1, nb2 k2, nb2 k3, nb2 k4, nb2 k5, cond_false]) (funext fun q => if k0 : q = 72 then by subst k0; exact Eq.trans (b := G497.2.2) rfl rfl else if k1 : q = 73 then by subst k1; exact Eq.trans (b := (A 73)) rfl rfl else by unfold uA; simp only [nb1 k0, nb1 k1, cond_false]) rfl K)
          · have h4 : ¬ G496 = 0 := h
            rw [if_neg h4] at hE
            refine w_n 2 (pc1 := 102) (ls1 := [some (.ref 67), some (.int x1), some (.int G485)]) (st1 := [.int 1, .ref 67]) (hp1 := (hz F A L)) rfl ?_
            refine w_c rfl rfl (t_km_closesSums ?_)
            show wl_E f _ _ mm155.2.2.2.2.2.2.2.2 105 [some (.ref 67), some (.int x1), some (.int G485)] [] (hz (uF (uF F 67 14 (km_closesSums f (F 67 14) (F 67 15) (A 72) (A 73) 1).1) 67 15 (km_closesSums f (F 67 14) (F 67 15) (A 72) (A 73) 1).2.1) (uA A 72 (km_closesSums f (F 67 14) (F 67 15) (A 72) (A 73) 1).2.2) L) _
            generalize hG498 : (km_closesSums f (F 67 14) (F 67 15) (A 72) (A 73) 1) = G498 at hE ⊢
            replace hE := hE.trans (lt_e _ _)
            refine w_n 5 (pc1 := 112) (ls1 := [some (.ref 67), some (.int x1), some (.int G485)]) (st1 := [.int (G498.2.1 - 1), .ref 67]) (hp1 := (hz (uF (uF F 67 14 G498.1) 67 15 G498.2.1) (uA A 72 G498.2.2) L)) rfl ?_
            refine w_pf (k := 67) (fs := hz_f67 (uF (uF F 67 14 G498.1) 67 15 G498.2.1)) (hp1 := (hz (uF (uF (uF F 67 14 G498.1) 67 15 G498.2.1) 67 15 (G498.2.1 - 1)) (uA A 72 G498.2.2) L)) rfl rfl rfl (hz_p67_15 _) ?_
            refine w_n 5 (pc1 := 122) (ls1 := [some (.ref 67), some (.int x1), some (.int G485)]) (st1 := [.int ((F 67 13) - 1), .ref 67]) (hp1 := (hz (uF (uF (uF F 67 14 G498.1) 67 15 G498.2.1) 67 15 (G498.2.1 - 1)) (uA A 72 G498.2.2) L)) rfl ?_
            refine w_pf (k := 67) (fs := hz_f67 (uF (uF (uF F 67 14 G498.1) 67 15 G498.2.1) 67 15 (G498.2.1 - 1))) (hp1 := (hz (uF (uF (uF (uF F 67 14 G498.1) 67 15 G498.2.1) 67 15 (G498.2.1 - 1)) 67 13 ((F 67 13) - 1)) (uA A 72 G498.2.2) L)) rfl rfl rfl (hz_p67_13 _) ?_
            refine w_n 5 (pc1 := 132) (ls1 := [some (.ref 67), some (.int x1), some (.int G485)]) (st1 := [.int ((F 67 9) + 1), .ref 67]) (hp1 := (hz (uF (uF (uF (uF F 67 14 G498.1) 67 15 G498.2.1) 67 15 (G498.2.1 - 1)) 67 13 ((F 67 13) - 1)) (uA A 72 G498.2.2) L)) rfl ?_
            refine w_pf (k := 67) (fs := hz_f67 (uF (uF (uF (uF F 67 14 G498.1) 67 15 G498.2.1) 67 15 (G498.2.1 - 1)) 67 13 ((F 67 13) - 1))) (hp1 := (hz (uF (uF (uF (uF (uF F 67 14 G498.1) 67 15 G498.2.1) 67 15 (G498.2.1 - 1)) 67 13 ((F 67 13) - 1)) 67 9 ((F 67 9) + 1)) (uA A 72 G498.2.2) L)) rfl rfl rfl (hz_p67_9 _) ?_
            refine w_n 2 (pc1 := 14) (ls1 := [some (.ref 67), some (.int x1), some (.int G485)]) (st1 := []) (hp1 := (hz (uF (uF (uF (uF (uF F 67 14 G498.1) 67 15 G498.2.1) 67 15 (G498.2.1 - 1)) 67 13 ((F 67 13) - 1)) 67 9 ((F 67 9) + 1)) (uA A 72 G498.2.2) L)) rfl ?_
            subst T
            exact ih _ (by omega) (cvQ (funext fun q => funext fun z => if k0 : q = 67 ∧ z = 9 then by obtain ⟨w1, w2⟩ := k0; subst w1; subst w2; exact Eq.trans (b := (km_readsSum_14 f (F 67 10) (A 71) x1 m ((F 67 9) + 1) (F 67 11) (F 67 12) ((F 67 13) - 1) G498.1 (G498.2.1 - 1) G498.2.2 (A 73)).2.1) rfl rfl else if k1 : q = 67 ∧ z = 11 then by obtain ⟨w1, w2⟩ := k1; subst w1; subst w2; exact Eq.trans (b := (km_readsSum_14 f (F 67 10) (A 71) x1 m ((F 67 9) + 1) (F 67 11) (F 67 12) ((F 67 13) - 1) G498.1 (G498.2.1 - 1) G498.2.2 (A 73)).2.2.1) rfl rfl else if k2 : q = 67 ∧ z = 12 then by obtain ⟨w1, w2⟩ := k2; subst w1; subst w2; exact Eq.trans (b := (km_readsSum_14 f (F 67 10) (A 71) x1 m ((F 67 9) + 1) (F 67 11) (F 67 12) ((F 67 13) - 1) G498.1 (G498.2.1 - 1) G498.2.2 (A 73)).2.2.2.1) rfl rfl else if k3 : q = 67 ∧ z = 13 then by obtain ⟨w1, w2⟩ := k3; subst w1; subst w2; exact Eq.trans (b := (km_readsSum_14 f (F 67 10) (A 71) x1 m ((F 67 9) + 1) (F 67 11) (F 67 12) ((F 67 13) - 1) G498.1 (G498.2.1 - 1) G498.2.2 (A 73)).2.2.2.2.1) rfl rfl else if k4 : q = 67 ∧ z = 14 then by obtain ⟨w1, w2⟩ := k4; subst w1; subst w2; exact Eq.trans (b := (km_readsSum_14 f (F 67 10) (A 71) x1 m ((F 67 9) + 1) (F 67 11) (F 67 12) ((F 67 13) - 1) G498.1 (G498.2.1 - 1) G498.2.2 (A 73)).2.2.2.2.2.1) rfl rfl else if k5 : q = 67 ∧ z = 15 then by obtain ⟨w1, w2⟩ := k5; subst w1; subst w2; exact Eq.trans (b := (km_readsSum_14 f (F 67 10) (A 71) x1 m ((F 67 9) + 1) (F 67 11) (F 67 12) ((F 67 13) - 1) G498.1 (G498.2.1 - 1) G498.2.2 (A 73)).2.2.2.2.2.2.1) rfl rfl else by unfold uF; simp only [nb2 k0, nb2 k1, nb2 k2, nb2 k3, nb2 k4, nb2 k5, cond_false]) (funext fun q => if k0 : q = 72 then by subst k0; exact Eq.trans (b := (km_readsSum_14 f (F 67 10) (A 71) x1 m ((F 67 9) + 1) (F 67 11) (F 67 12) ((F 67 13) - 1) G498.1 (G498.2.1 - 1) G498.2.2 (A 73)).2.2.2.2.2.2.2.1) rfl rfl else if k1 : q = 73 then by subst k1; exact Eq.trans (b := (km_readsSum_14 f (F 67 10) (A 71) x1 m ((F 67 9) + 1) (F 67 11) (F 67 12) ((F 67 13) - 1) G498.1 (G498.2.1 - 1) G498.2.2 (A 73)).2.2.2.2.2.2.2.2) rfl rfl else by unfold uA; simp only [nb1 k0, nb1 k1, cond_false]) rfl K)
      · have h1 : ¬ G485 = (-1) := h
        rw [if_neg h1] at hE
        refine w_n 3 (pc1 := 30) (ls1 := [some (.ref 67), some (.int x1), some (.int G485)]) (st1 := [.int 4, .int G485, .ref 67]) (hp1 := (hz F A L)) rfl ?_
        refine w_ge (p3 := 33) rfl rfl (fun h => ?_) (fun h => ?_)
        · have h5 : 4 ≤ G485.toInt := h
          rw [if_neg (Int.not_lt.mpr h5)] at hE
          refine w_n 1 (pc1 := 38) (ls1 := [some (.ref 67), some (.int x1), some (.int G485)]) (st1 := [.int 0, .ref 67]) (hp1 := (hz F A L)) rfl ?_
          refine w_c rfl rfl (t_km_closesSums ?_)
          show wl_E f _ _ mm155.2.2.2.2.2.2.2.2 41 [some (.ref 67), some (.int x1), some (.int G485)] [] (hz (uF (uF F 67 14 (km_closesSums f (F 67 14) (F 67 15) (A 72) (A 73) 0).1) 67 15 (km_closesSums f (F 67 14) (F 67 15) (A 72) (A 73) 0).2.1) (uA A 72 (km_closesSums f (F 67 14) (F 67 15) (A 72) (A 73) 0).2.2) L) _
          generalize hG499 : (km_closesSums f (F 67 14) (F 67 15) (A 72) (A 73) 0) = G499 at hE ⊢
          replace hE := hE.trans (lt_e _ _)
          refine w_n 7 (pc1 := 53) (ls1 := [some (.ref 67), some (.int x1), some (.int G485)]) (st1 := [.int (1048576 * G485), .int G499.2.1, .ref 73]) (hp1 := (hz (uF (uF F 67 14 G499.1) 67 15 G499.2.1) (uA A 72 G499.2.2) L)) rfl ?_
          refine w_as (k := 73) (l := (A 73)) (hp1 := (hz (uF (uF F 67 14 G499.1) 67 15 G499.2.1) (uA (uA A 72 G499.2.2) 73 ((A 73).set G499.2.1.toInt.toNat (1048576 * G485))) L)) rfl rfl rfl (hz_s73 _) (fun _ => ?_)
          refine w_n 5 (pc1 := 61) (ls1 := [some (.ref 67), some (.int x1), some (.int G485)]) (st1 := [.int (G499.2.1 + 1), .ref 67]) (hp1 := (hz (uF (uF F 67 14 G499.1) 67 15 G499.2.1) (uA (uA A 72 G499.2.2) 73 ((A 73).set G499.2.1.toInt.toNat (1048576 * G485))) L)) rfl ?_
          refine w_pf (k := 67) (fs := hz_f67 (uF (uF F 67 14 G499.1) 67 15 G499.2.1)) (hp1 := (hz (uF (uF (uF F 67 14 G499.1) 67 15 G499.2.1) 67 15 (G499.2.1 + 1)) (uA (uA A 72 G499.2.2) 73 ((A 73).set G499.2.1.toInt.toNat (1048576 * G485))) L)) rfl rfl rfl (hz_p67_15 _) ?_
          refine w_n 5 (pc1 := 71) (ls1 := [some (.ref 67), some (.int x1), some (.int G485)]) (st1 := [.int ((F 67 9) + 1), .ref 67]) (hp1 := (hz (uF (uF (uF F 67 14 G499.1) 67 15 G499.2.1) 67 15 (G499.2.1 + 1)) (uA (uA A 72 G499.2.2) 73 ((A 73).set G499.2.1.toInt.toNat (1048576 * G485))) L)) rfl ?_
          refine w_pf (k := 67) (fs := hz_f67 (uF (uF (uF F 67 14 G499.1) 67 15 G499.2.1) 67 15 (G499.2.1 + 1))) (hp1 := (hz (uF (uF (uF (uF F 67 14 G499.1) 67 15 G499.2.1) 67 15 (G499.2.1 + 1)) 67 9 ((F 67 9) + 1)) (uA (uA A 72 G499.2.2) 73 ((A 73).set G499.2.1.toInt.toNat (1048576 * G485))) L)) rfl rfl rfl (hz_p67_9 _) ?_
          refine w_n 1 (pc1 := 75) (ls1 := [some (.ref 67), some (.int x1), some (.int G485)]) (st1 := [.ref 67]) (hp1 := (hz (uF (uF (uF (uF F 67 14 G499.1) 67 15 G499.2.1) 67 15 (G499.2.1 + 1)) 67 9 ((F 67 9) + 1)) (uA (uA A 72 G499.2.2) 73 ((A 73).set G499.2.1.toInt.toNat (1048576 * G485))) L)) rfl ?_
          refine w_c rfl rfl (t_km_readsFactor ?_)
          show wl_E f _ _ mm155.2.2.2.2.2.2.2.2 78 [some (.ref 67), some (.int x1), some (.int G485)] [.int (km_readsFactor f ((F 67 9) + 1) (F 67 10) (F 67 11) (F 67 12) (F 67 13) G499.1 (G499.2.1 + 1) (A 71) G499.2.2 ((A 73).set G499.2.1.toInt.toNat (1048576 * G485))).1] (hz (uF (uF (uF (uF (uF (uF (uF (uF (uF (uF F 67 14 G499.1) 67 15 G499.2.1) 67 15 (G499.2.1 + 1)) 67 9 ((F 67 9) + 1)) 67 9 (km_readsFactor f ((F 67 9) + 1) (F 67 10) (F 67 11) (F 67 12) (F 67 13) G499.1 (G499.2.1 + 1) (A 71) G499.2.2 ((A 73).set G499.2.1.toInt.toNat (1048576 * G485))).2.1) 67 11 (km_readsFactor f ((F 67 9) + 1) (F 67 10) (F 67 11) (F 67 12) (F 67 13) G499.1 (G499.2.1 + 1) (A 71) G499.2.2 ((A 73).set G499.2.1.toInt.toNat (1048576 * G485))).2.2.1) 67 12 (km_readsFactor f ((F 67 9) + 1) (F 67 10) (F 67 11) (F 67 12) (F 67 13) G499.1 (G499.2.1 + 1) (A 71) G499.2.2 ((A 73).set G499.2.1.toInt.toNat (1048576 * G485))).2.2.2.1) 67 13 (km_readsFactor f ((F 67 9) + 1) (F 67 10) (F 67 11) (F 67 12) (F 67 13) G499.1 (G499.2.1 + 1) (A 71) G499.2.2 ((A 73).set G499.2.1.toInt.toNat (1048576 * G485))).2.2.2.2.1) 67 14 (km_readsFactor f ((F 67 9) + 1) (F 67 10) (F 67 11) (F 67 12) (F 67 13) G499.1 (G499.2.1 + 1) (A 71) G499.2.2 ((A 73).set G499.2.1.toInt.toNat (1048576 * G485))).2.2.2.2.2.1) 67 15 (km_readsFactor f ((F 67 9) + 1) (F 67 10) (F 67 11) (F 67 12) (F 67 13) G499.1 (G499.2.1 + 1) (A 71) G499.2.2 ((A 73).set G499.2.1.toInt.toNat (1048576 * G485))).2.2.2.2.2.2.1) (uA (uA (uA (uA A 72 G499.2.2) 73 ((A 73).set G499.2.1.toInt.toNat (1048576 * G485))) 72 (km_readsFactor f ((F 67 9) + 1) (F 67 10) (F 67 11) (F 67 12) (F 67 13) G499.1 (G499.2.1 + 1) (A 71) G499.2.2 ((A 73).set G499.2.1.toInt.toNat (1048576 * G485))).2.2.2.2.2.2.2.1) 73 (km_readsFactor f ((F 67 9) + 1) (F 67 10) (F 67 11) (F 67 12) (F 67 13) G499.1 (G499.2.1 + 1) (A 71) G499.2.2 ((A 73).set G499.2.1.toInt.toNat (1048576 * G485))).2.2.2.2.2.2.2.2) L) _
          generalize hG500 : (km_readsFactor f ((F 67 9) + 1) (F 67 10) (F 67 11) (F 67 12) (F 67 13) G499.1 (G499.2.1 + 1) (A 71) G499.2.2 ((A 73).set G499.2.1.toInt.toNat (1048576 * G485))) = G500 at hE ⊢
          replace hE := hE.trans (lt_e _ _)
          refine w_zne (p3 := 81) rfl rfl (fun h => ?_) (fun h => ?_)
          · have h6 : ¬ G500.1 = 0 := h
            rw [if_neg h6] at hE
            refine w_n 1 (pc1 := 14) (ls1 := [some (.ref 67), some (.int x1), some (.int G485)]) (st1 := []) (hp1 := (hz (uF (uF (uF (uF (uF (uF (uF (uF (uF (uF F 67 14 G499.1) 67 15 G499.2.1) 67 15 (G499.2.1 + 1)) 67 9 ((F 67 9) + 1)) 67 9 G500.2.1) 67 11 G500.2.2.1) 67 12 G500.2.2.2.1) 67 13 G500.2.2.2.2.1) 67 14 G500.2.2.2.2.2.1) 67 15 G500.2.2.2.2.2.2.1) (uA (uA (uA (uA A 72 G499.2.2) 73 ((A 73).set G499.2.1.toInt.toNat (1048576 * G485))) 72 G500.2.2.2.2.2.2.2.1) 73 G500.2.2.2.2.2.2.2.2) L)) rfl ?_
            subst T
            exact ih _ (by omega) (cvQ (funext fun q => funext fun z => if k0 : q = 67 ∧ z = 9 then by obtain ⟨w1, w2⟩ := k0; subst w1; subst w2; exact Eq.trans (b := (km_readsSum_14 f (F 67 10) (A 71) x1 m G500.2.1 G500.2.2.1 G500.2.2.2.1 G500.2.2.2.2.1 G500.2.2.2.2.2.1 G500.2.2.2.2.2.2.1 G500.2.2.2.2.2.2.2.1 G500.2.2.2.2.2.2.2.2).2.1) rfl rfl else if k1 : q = 67 ∧ z = 11 then by obtain ⟨w1, w2⟩ := k1; subst w1; subst w2; exact Eq.trans (b := (km_readsSum_14 f (F 67 10) (A 71) x1 m G500.2.1 G500.2.2.1 G500.2.2.2.1 G500.2.2.2.2.1 G500.2.2.2.2.2.1 G500.2.2.2.2.2.2.1 G500.2.2.2.2.2.2.2.1 G500.2.2.2.2.2.2.2.2).2.2.1) rfl rfl else if k2 : q = 67 ∧ z = 12 then by obtain ⟨w1, w2⟩ := k2; subst w1; subst w2; exact Eq.trans (b := (km_readsSum_14 f (F 67 10) (A 71) x1 m G500.2.1 G500.2.2.1 G500.2.2.2.1 G500.2.2.2.2.1 G500.2.2.2.2.2.1 G500.2.2.2.2.2.2.1 G500.2.2.2.2.2.2.2.1 G500.2.2.2.2.2.2.2.2).2.2.2.1) rfl rfl else if k3 : q = 67 ∧ z = 13 then by obtain ⟨w1, w2⟩ := k3; subst w1; subst w2; exact Eq.trans (b := (km_readsSum_14 f (F 67 10) (A 71) x1 m G500.2.1 G500.2.2.1 G500.2.2.2.1 G500.2.2.2.2.1 G500.2.2.2.2.2.1 G500.2.2.2.2.2.2.1 G500.2.2.2.2.2.2.2.1 G500.2.2.2.2.2.2.2.2).2.2.2.2.1) rfl rfl else if k4 : q = 67 ∧ z = 14 then by obtain ⟨w1, w2⟩ := k4; subst w1; subst w2; exact Eq.trans (b := (km_readsSum_14 f (F 67 10) (A 71) x1 m G500.2.1 G500.2.2.1 G500.2.2.2.1 G500.2.2.2.2.1 G500.2.2.2.2.2.1 G500.2.2.2.2.2.2.1 G500.2.2.2.2.2.2.2.1 G500.2.2.2.2.2.2.2.2).2.2.2.2.2.1) rfl rfl else if k5 : q = 67 ∧ z = 15 then by obtain ⟨w1, w2⟩ := k5; subst w1; subst w2; exact Eq.trans (b := (km_readsSum_14 f (F 67 10) (A 71) x1 m G500.2.1 G500.2.2.1 G500.2.2.2.1 G500.2.2.2.2.1 G500.2.2.2.2.2.1 G500.2.2.2.2.2.2.1 G500.2.2.2.2.2.2.2.1 G500.2.2.2.2.2.2.2.2).2.2.2.2.2.2.1) rfl rfl else by unfold uF; simp only [nb2 k0, nb2 k1, nb2 k2, nb2 k3, nb2 k4, nb2 k5, cond_false]) (funext fun q => if k0 : q = 72 then by subst k0; exact Eq.trans (b := (km_readsSum_14 f (F 67 10) (A 71) x1 m G500.2.1 G500.2.2.1 G500.2.2.2.1 G500.2.2.2.2.1 G500.2.2.2.2.2.1 G500.2.2.2.2.2.2.1 G500.2.2.2.2.2.2.2.1 G500.2.2.2.2.2.2.2.2).2.2.2.2.2.2.2.1) rfl rfl else if k1 : q = 73 then by subst k1; exact Eq.trans (b := (km_readsSum_14 f (F 67 10) (A 71) x1 m G500.2.1 G500.2.2.1 G500.2.2.2.1 G500.2.2.2.2.1 G500.2.2.2.2.2.1 G500.2.2.2.2.2.2.1 G500.2.2.2.2.2.2.2.1 G500.2.2.2.2.2.2.2.2).2.2.2.2.2.2.2.2) rfl rfl else by unfold uA; simp only [nb1 k0, nb1 k1, cond_false]) rfl K)
          · have h6 : G500.1 = 0 := h
            rw [if_pos h6] at hE
            refine w_n 1 (pc1 := 82) (ls1 := [some (.ref 67), some (.int x1), some (.int G485)]) (st1 := [.int 0]) (hp1 := (hz (uF (uF (uF (uF (uF (uF (uF (uF (uF (uF F 67 14 G499.1) 67 15 G499.2.1) 67 15 (G499.2.1 + 1)) 67 9 ((F 67 9) + 1)) 67 9 G500.2.1) 67 11 G500.2.2.1) 67 12 G500.2.2.2.1) 67 13 G500.2.2.2.2.1) 67 14 G500.2.2.2.2.2.1) 67 15 G500.2.2.2.2.2.2.1) (uA (uA (uA (uA A 72 G499.2.2) 73 ((A 73).set G499.2.1.toInt.toNat (1048576 * G485))) 72 G500.2.2.2.2.2.2.2.1) 73 G500.2.2.2.2.2.2.2.2) L)) rfl ?_
            subst T
            exact w_ri rfl (cvQ (funext fun q => funext fun z => if k0 : q = 67 ∧ z = 9 then by obtain ⟨w1, w2⟩ := k0; subst w1; subst w2; exact Eq.trans (b := G500.2.1) rfl rfl else if k1 : q = 67 ∧ z = 11 then by obtain ⟨w1, w2⟩ := k1; subst w1; subst w2; exact Eq.trans (b := G500.2.2.1) rfl rfl else if k2 : q = 67 ∧ z = 12 then by obtain ⟨w1, w2⟩ := k2; subst w1; subst w2; exact Eq.trans (b := G500.2.2.2.1) rfl rfl else if k3 : q = 67 ∧ z = 13 then by obtain ⟨w1, w2⟩ := k3; subst w1; subst w2; exact Eq.trans (b := G500.2.2.2.2.1) rfl rfl else if k4 : q = 67 ∧ z = 14 then by obtain ⟨w1, w2⟩ := k4; subst w1; subst w2; exact Eq.trans (b := G500.2.2.2.2.2.1) rfl rfl else if k5 : q = 67 ∧ z = 15 then by obtain ⟨w1, w2⟩ := k5; subst w1; subst w2; exact Eq.trans (b := G500.2.2.2.2.2.2.1) rfl rfl else by unfold uF; simp only [nb2 k0, nb2 k1, nb2 k2, nb2 k3, nb2 k4, nb2 k5, cond_false]) (funext fun q => if k0 : q = 72 then by subst k0; exact Eq.trans (b := G500.2.2.2.2.2.2.2.1) rfl rfl else if k1 : q = 73 then by subst k1; exact Eq.trans (b := G500.2.2.2.2.2.2.2.2) rfl rfl else by unfold uA; simp only [nb1 k0, nb1 k1, cond_false]) rfl K)
        · have h5 : G485.toInt < 4 := h
          rw [if_pos h5] at hE
          refine w_n 2 (pc1 := 38) (ls1 := [some (.ref 67), some (.int x1), some (.int G485)]) (st1 := [.int 1, .ref 67]) (hp1 := (hz F A L)) rfl ?_
          refine w_c rfl rfl (t_km_closesSums ?_)
          show wl_E f _ _ mm155.2.2.2.2.2.2.2.2 41 [some (.ref 67), some (.int x1), some (.int G485)] [] (hz (uF (uF F 67 14 (km_closesSums f (F 67 14) (F 67 15) (A 72) (A 73) 1).1) 67 15 (km_closesSums f (F 67 14) (F 67 15) (A 72) (A 73) 1).2.1) (uA A 72 (km_closesSums f (F 67 14) (F 67 15) (A 72) (A 73) 1).2.2) L) _
          generalize hG501 : (km_closesSums f (F 67 14) (F 67 15) (A 72) (A 73) 1) = G501 at hE ⊢
          replace hE := hE.trans (lt_e _ _)
          refine w_n 7 (pc1 := 53) (ls1 := [some (.ref 67), some (.int x1), some (.int G485)]) (st1 := [.int (1048576 * G485), .int G501.2.1, .ref 73]) (hp1 := (hz (uF (uF F 67 14 G501.1) 67 15 G501.2.1) (uA A 72 G501.2.2) L)) rfl ?_
          refine w_as (k := 73) (l := (A 73)) (hp1 := (hz (uF (uF F 67 14 G501.1) 67 15 G501.2.1) (uA (uA A 72 G501.2.2) 73 ((A 73).set G501.2.1.toInt.toNat (1048576 * G485))) L)) rfl rfl rfl (hz_s73 _) (fun _ => ?_)
          refine w_n 5 (pc1 := 61) (ls1 := [some (.ref 67), some (.int x1), some (.int G485)]) (st1 := [.int (G501.2.1 + 1), .ref 67]) (hp1 := (hz (uF (uF F 67 14 G501.1) 67 15 G501.2.1) (uA (uA A 72 G501.2.2) 73 ((A 73).set G501.2.1.toInt.toNat (1048576 * G485))) L)) rfl ?_
          refine w_pf (k := 67) (fs := hz_f67 (uF (uF F 67 14 G501.1) 67 15 G501.2.1)) (hp1 := (hz (uF (uF (uF F 67 14 G501.1) 67 15 G501.2.1) 67 15 (G501.2.1 + 1)) (uA (uA A 72 G501.2.2) 73 ((A 73).set G501.2.1.toInt.toNat (1048576 * G485))) L)) rfl rfl rfl (hz_p67_15 _) ?_
          refine w_n 5 (pc1 := 71) (ls1 := [some (.ref 67), some (.int x1), some (.int G485)]) (st1 := [.int ((F 67 9) + 1), .ref 67]) (hp1 := (hz (uF (uF (uF F 67 14 G501.1) 67 15 G501.2.1) 67 15 (G501.2.1 + 1)) (uA (uA A 72 G501.2.2) 73 ((A 73).set G501.2.1.toInt.toNat (1048576 * G485))) L)) rfl ?_
          refine w_pf (k := 67) (fs := hz_f67 (uF (uF (uF F 67 14 G501.1) 67 15 G501.2.1) 67 15 (G501.2.1 + 1))) (hp1 := (hz (uF (uF (uF (uF F 67 14 G501.1) 67 15 G501.2.1) 67 15 (G501.2.1 + 1)) 67 9 ((F 67 9) + 1)) (uA (uA A 72 G501.2.2) 73 ((A 73).set G501.2.1.toInt.toNat (1048576 * G485))) L)) rfl rfl rfl (hz_p67_9 _) ?_
          refine w_n 1 (pc1 := 75) (ls1 := [some (.ref 67), some (.int x1), some (.int G485)]) (st1 := [.ref 67]) (hp1 := (hz (uF (uF (uF (uF F 67 14 G501.1) 67 15 G501.2.1) 67 15 (G501.2.1 + 1)) 67 9 ((F 67 9) + 1)) (uA (uA A 72 G501.2.2) 73 ((A 73).set G501.2.1.toInt.toNat (1048576 * G485))) L)) rfl ?_
          refine w_c rfl rfl (t_km_readsFactor ?_)
          show wl_E f _ _ mm155.2.2.2.2.2.2.2.2 78 [some (.ref 67), some (.int x1), some (.int G485)] [.int (km_readsFactor f ((F 67 9) + 1) (F 67 10) (F 67 11) (F 67 12) (F 67 13) G501.1 (G501.2.1 + 1) (A 71) G501.2.2 ((A 73).set G501.2.1.toInt.toNat (1048576 * G485))).1] (hz (uF (uF (uF (uF (uF (uF (uF (uF (uF (uF F 67 14 G501.1) 67 15 G501.2.1) 67 15 (G501.2.1 + 1)) 67 9 ((F 67 9) + 1)) 67 9 (km_readsFactor f ((F 67 9) + 1) (F 67 10) (F 67 11) (F 67 12) (F 67 13) G501.1 (G501.2.1 + 1) (A 71) G501.2.2 ((A 73).set G501.2.1.toInt.toNat (1048576 * G485))).2.1) 67 11 (km_readsFactor f ((F 67 9) + 1) (F 67 10) (F 67 11) (F 67 12) (F 67 13) G501.1 (G501.2.1 + 1) (A 71) G501.2.2 ((A 73).set G501.2.1.toInt.toNat (1048576 * G485))).2.2.1) 67 12 (km_readsFactor f ((F 67 9) + 1) (F 67 10) (F 67 11) (F 67 12) (F 67 13) G501.1 (G501.2.1 + 1) (A 71) G501.2.2 ((A 73).set G501.2.1.toInt.toNat (1048576 * G485))).2.2.2.1) 67 13 (km_readsFactor f ((F 67 9) + 1) (F 67 10) (F 67 11) (F 67 12) (F 67 13) G501.1 (G501.2.1 + 1) (A 71) G501.2.2 ((A 73).set G501.2.1.toInt.toNat (1048576 * G485))).2.2.2.2.1) 67 14 (km_readsFactor f ((F 67 9) + 1) (F 67 10) (F 67 11) (F 67 12) (F 67 13) G501.1 (G501.2.1 + 1) (A 71) G501.2.2 ((A 73).set G501.2.1.toInt.toNat (1048576 * G485))).2.2.2.2.2.1) 67 15 (km_readsFactor f ((F 67 9) + 1) (F 67 10) (F 67 11) (F 67 12) (F 67 13) G501.1 (G501.2.1 + 1) (A 71) G501.2.2 ((A 73).set G501.2.1.toInt.toNat (1048576 * G485))).2.2.2.2.2.2.1) (uA (uA (uA (uA A 72 G501.2.2) 73 ((A 73).set G501.2.1.toInt.toNat (1048576 * G485))) 72 (km_readsFactor f ((F 67 9) + 1) (F 67 10) (F 67 11) (F 67 12) (F 67 13) G501.1 (G501.2.1 + 1) (A 71) G501.2.2 ((A 73).set G501.2.1.toInt.toNat (1048576 * G485))).2.2.2.2.2.2.2.1) 73 (km_readsFactor f ((F 67 9) + 1) (F 67 10) (F 67 11) (F 67 12) (F 67 13) G501.1 (G501.2.1 + 1) (A 71) G501.2.2 ((A 73).set G501.2.1.toInt.toNat (1048576 * G485))).2.2.2.2.2.2.2.2) L) _
          generalize hG502 : (km_readsFactor f ((F 67 9) + 1) (F 67 10) (F 67 11) (F 67 12) (F 67 13) G501.1 (G501.2.1 + 1) (A 71) G501.2.2 ((A 73).set G501.2.1.toInt.toNat (1048576 * G485))) = G502 at hE ⊢
          replace hE := hE.trans (lt_e _ _)
          refine w_zne (p3 := 81) rfl rfl (fun h => ?_) (fun h => ?_)
          · have h7 : ¬ G502.1 = 0 := h
            rw [if_neg h7] at hE
            refine w_n 1 (pc1 := 14) (ls1 := [some (.ref 67), some (.int x1), some (.int G485)]) (st1 := []) (hp1 := (hz (uF (uF (uF (uF (uF (uF (uF (uF (uF (uF F 67 14 G501.1) 67 15 G501.2.1) 67 15 (G501.2.1 + 1)) 67 9 ((F 67 9) + 1)) 67 9 G502.2.1) 67 11 G502.2.2.1) 67 12 G502.2.2.2.1) 67 13 G502.2.2.2.2.1) 67 14 G502.2.2.2.2.2.1) 67 15 G502.2.2.2.2.2.2.1) (uA (uA (uA (uA A 72 G501.2.2) 73 ((A 73).set G501.2.1.toInt.toNat (1048576 * G485))) 72 G502.2.2.2.2.2.2.2.1) 73 G502.2.2.2.2.2.2.2.2) L)) rfl ?_
            subst T
            exact ih _ (by omega) (cvQ (funext fun q => funext fun z => if k0 : q = 67 ∧ z = 9 then by obtain ⟨w1, w2⟩ := k0; subst w1; subst w2; exact Eq.trans (b := (km_readsSum_14 f (F 67 10) (A 71) x1 m G502.2.1 G502.2.2.1 G502.2.2.2.1 G502.2.2.2.2.1 G502.2.2.2.2.2.1 G502.2.2.2.2.2.2.1 G502.2.2.2.2.2.2.2.1 G502.2.2.2.2.2.2.2.2).2.1) rfl rfl else if k1 : q = 67 ∧ z = 11 then by obtain ⟨w1, w2⟩ := k1; subst w1; subst w2; exact Eq.trans (b := (km_readsSum_14 f (F 67 10) (A 71) x1 m G502.2.1 G502.2.2.1 G502.2.2.2.1 G502.2.2.2.2.1 G502.2.2.2.2.2.1 G502.2.2.2.2.2.2.1 G502.2.2.2.2.2.2.2.1 G502.2.2.2.2.2.2.2.2).2.2.1) rfl rfl else if k2 : q = 67 ∧ z = 12 then by obtain ⟨w1, w2⟩ := k2; subst w1; subst w2; exact Eq.trans (b := (km_readsSum_14 f (F 67 10) (A 71) x1 m G502.2.1 G502.2.2.1 G502.2.2.2.1 G502.2.2.2.2.1 G502.2.2.2.2.2.1 G502.2.2.2.2.2.2.1 G502.2.2.2.2.2.2.2.1 G502.2.2.2.2.2.2.2.2).2.2.2.1) rfl rfl else if k3 : q = 67 ∧ z = 13 then by obtain ⟨w1, w2⟩ := k3; subst w1; subst w2; exact Eq.trans (b := (km_readsSum_14 f (F 67 10) (A 71) x1 m G502.2.1 G502.2.2.1 G502.2.2.2.1 G502.2.2.2.2.1 G502.2.2.2.2.2.1 G502.2.2.2.2.2.2.1 G502.2.2.2.2.2.2.2.1 G502.2.2.2.2.2.2.2.2).2.2.2.2.1) rfl rfl else if k4 : q = 67 ∧ z = 14 then by obtain ⟨w1, w2⟩ := k4; subst w1; subst w2; exact Eq.trans (b := (km_readsSum_14 f (F 67 10) (A 71) x1 m G502.2.1 G502.2.2.1 G502.2.2.2.1 G502.2.2.2.2.1 G502.2.2.2.2.2.1 G502.2.2.2.2.2.2.1 G502.2.2.2.2.2.2.2.1 G502.2.2.2.2.2.2.2.2).2.2.2.2.2.1) rfl rfl else if k5 : q = 67 ∧ z = 15 then by obtain ⟨w1, w2⟩ := k5; subst w1; subst w2; exact Eq.trans (b := (km_readsSum_14 f (F 67 10) (A 71) x1 m G502.2.1 G502.2.2.1 G502.2.2.2.1 G502.2.2.2.2.1 G502.2.2.2.2.2.1 G502.2.2.2.2.2.2.1 G502.2.2.2.2.2.2.2.1 G502.2.2.2.2.2.2.2.2).2.2.2.2.2.2.1) rfl rfl else by unfold uF; simp only [nb2 k0, nb2 k1, nb2 k2, nb2 k3, nb2 k4, nb2 k5, cond_false]) (funext fun q => if k0 : q = 72 then by subst k0; exact Eq.trans (b := (km_readsSum_14 f (F 67 10) (A 71) x1 m G502.2.1 G502.2.2.1 G502.2.2.2.1 G502.2.2.2.2.1 G502.2.2.2.2.2.1 G502.2.2.2.2.2.2.1 G502.2.2.2.2.2.2.2.1 G502.2.2.2.2.2.2.2.2).2.2.2.2.2.2.2.1) rfl rfl else if k1 : q = 73 then by subst k1; exact Eq.trans (b := (km_readsSum_14 f (F 67 10) (A 71) x1 m G502.2.1 G502.2.2.1 G502.2.2.2.1 G502.2.2.2.2.1 G502.2.2.2.2.2.1 G502.2.2.2.2.2.2.1 G502.2.2.2.2.2.2.2.1 G502.2.2.2.2.2.2.2.2).2.2.2.2.2.2.2.2) rfl rfl else by unfold uA; simp only [nb1 k0, nb1 k1, cond_false]) rfl K)
          · have h7 : G502.1 = 0 := h
            rw [if_pos h7] at hE
            refine w_n 1 (pc1 := 82) (ls1 := [some (.ref 67), some (.int x1), some (.int G485)]) (st1 := [.int 0]) (hp1 := (hz (uF (uF (uF (uF (uF (uF (uF (uF (uF (uF F 67 14 G501.1) 67 15 G501.2.1) 67 15 (G501.2.1 + 1)) 67 9 ((F 67 9) + 1)) 67 9 G502.2.1) 67 11 G502.2.2.1) 67 12 G502.2.2.2.1) 67 13 G502.2.2.2.2.1) 67 14 G502.2.2.2.2.2.1) 67 15 G502.2.2.2.2.2.2.1) (uA (uA (uA (uA A 72 G501.2.2) 73 ((A 73).set G501.2.1.toInt.toNat (1048576 * G485))) 72 G502.2.2.2.2.2.2.2.1) 73 G502.2.2.2.2.2.2.2.2) L)) rfl ?_
            subst T
            exact w_ri rfl (cvQ (funext fun q => funext fun z => if k0 : q = 67 ∧ z = 9 then by obtain ⟨w1, w2⟩ := k0; subst w1; subst w2; exact Eq.trans (b := G502.2.1) rfl rfl else if k1 : q = 67 ∧ z = 11 then by obtain ⟨w1, w2⟩ := k1; subst w1; subst w2; exact Eq.trans (b := G502.2.2.1) rfl rfl else if k2 : q = 67 ∧ z = 12 then by obtain ⟨w1, w2⟩ := k2; subst w1; subst w2; exact Eq.trans (b := G502.2.2.2.1) rfl rfl else if k3 : q = 67 ∧ z = 13 then by obtain ⟨w1, w2⟩ := k3; subst w1; subst w2; exact Eq.trans (b := G502.2.2.2.2.1) rfl rfl else if k4 : q = 67 ∧ z = 14 then by obtain ⟨w1, w2⟩ := k4; subst w1; subst w2; exact Eq.trans (b := G502.2.2.2.2.2.1) rfl rfl else if k5 : q = 67 ∧ z = 15 then by obtain ⟨w1, w2⟩ := k5; subst w1; subst w2; exact Eq.trans (b := G502.2.2.2.2.2.2.1) rfl rfl else by unfold uF; simp only [nb2 k0, nb2 k1, nb2 k2, nb2 k3, nb2 k4, nb2 k5, cond_false]) (funext fun q => if k0 : q = 72 then by subst k0; exact Eq.trans (b := G502.2.2.2.2.2.2.2.1) rfl rfl else if k1 : q = 73 then by subst k1; exact Eq.trans (b := G502.2.2.2.2.2.2.2.2) rfl rfl else by unfold uA; simp only [nb1 k0, nb1 k1, cond_false]) rfl K)
noncomputable def km_readsSum (f : Nat) (f67_9 : Int32) (f67_10 : Int32) (f67_11 : Int32) (f67_12 : Int32) (f67_13 : Int32) (f67_14 : Int32) (f67_15 : Int32) (a71 : List Int32) (a72 : List Int32) (a73 : List Int32) : Int32 × Int32 × Int32 × Int32 × Int32 × Int32 × Int32 × List Int32 × List Int32 := (lt (km_readsFactor f f67_9 f67_10 f67_11 f67_12 f67_13 f67_14 f67_15 a71 a72 a73) (fun g483 => (if g483.1 = 0 then (0, g483.2.1, g483.2.2.1, g483.2.2.2.1, g483.2.2.2.2.1, g483.2.2.2.2.2.1, g483.2.2.2.2.2.2.1, g483.2.2.2.2.2.2.2.1, g483.2.2.2.2.2.2.2.2) else (km_readsSum_14 f f67_10 a71 f67_15 f g483.2.1 g483.2.2.1 g483.2.2.2.1 g483.2.2.2.2.1 g483.2.2.2.2.2.1 g483.2.2.2.2.2.2.1 g483.2.2.2.2.2.2.2.1 g483.2.2.2.2.2.2.2.2))))
theorem t_km_readsSum {f D : Nat} {F : Nat → Nat → Int32} {A : Nat → List Int32} {L : Nat → List Int64} {Q : Option Value → sm_H → Prop} (K : Q (some (.int ((km_readsSum f (F 67 9) (F 67 10) (F 67 11) (F 67 12) (F 67 13) (F 67 14) (F 67 15) (A 71) (A 72) (A 73)).1))) (hz (uF (uF (uF (uF (uF (uF F 67 9 ((km_readsSum f (F 67 9) (F 67 10) (F 67 11) (F 67 12) (F 67 13) (F 67 14) (F 67 15) (A 71) (A 72) (A 73)).2.1)) 67 11 ((km_readsSum f (F 67 9) (F 67 10) (F 67 11) (F 67 12) (F 67 13) (F 67 14) (F 67 15) (A 71) (A 72) (A 73)).2.2.1)) 67 12 ((km_readsSum f (F 67 9) (F 67 10) (F 67 11) (F 67 12) (F 67 13) (F 67 14) (F 67 15) (A 71) (A 72) (A 73)).2.2.2.1)) 67 13 ((km_readsSum f (F 67 9) (F 67 10) (F 67 11) (F 67 12) (F 67 13) (F 67 14) (F 67 15) (A 71) (A 72) (A 73)).2.2.2.2.1)) 67 14 ((km_readsSum f (F 67 9) (F 67 10) (F 67 11) (F 67 12) (F 67 13) (F 67 14) (F 67 15) (A 71) (A 72) (A 73)).2.2.2.2.2.1)) 67 15 ((km_readsSum f (F 67 9) (F 67 10) (F 67 11) (F 67 12) (F 67 13) (F 67 14) (F 67 15) (A 71) (A 72) (A 73)).2.2.2.2.2.2.1)) (uA (uA A 72 ((km_readsSum f (F 67 9) (F 67 10) (F 67 11) (F 67 12) (F 67 13) (F 67 14) (F 67 15) (A 71) (A 72) (A 73)).2.2.2.2.2.2.2.1)) 73 ((km_readsSum f (F 67 9) (F 67 10) (F 67 11) (F 67 12) (F 67 13) (F 67 14) (F 67 15) (A 71) (A 72) (A 73)).2.2.2.2.2.2.2.2)) L)) : wl_M f D 155 [.ref 67] (hz F A L) Q := by
  generalize hT : (km_readsSum f (F 67 9) (F 67 10) (F 67 11) (F 67 12) (F 67 13) (F 67 14) (F 67 15) (A 71) (A 72) (A 73)) = T at K
  have hE : T = (lt (km_readsFactor f (F 67 9) (F 67 10) (F 67 11) (F 67 12) (F 67 13) (F 67 14) (F 67 15) (A 71) (A 72) (A 73)) (fun g483 => (if g483.1 = 0 then (0, g483.2.1, g483.2.2.1, g483.2.2.2.1, g483.2.2.2.2.1, g483.2.2.2.2.2.1, g483.2.2.2.2.2.2.1, g483.2.2.2.2.2.2.2.1, g483.2.2.2.2.2.2.2.2) else (km_readsSum_14 f (F 67 10) (A 71) (F 67 15) f g483.2.1 g483.2.2.1 g483.2.2.2.1 g483.2.2.2.2.1 g483.2.2.2.2.2.1 g483.2.2.2.2.2.2.1 g483.2.2.2.2.2.2.2.1 g483.2.2.2.2.2.2.2.2)))) := hT.symm
  clear hT
  refine w_m (E := mm155) rfl ?_
  show wl_E f f (D - 1) mm155.2.2.2.2.2.2.2.2 0 [some (.ref 67), none, none] [] (hz F A L) Q
  refine w_n 4 (pc1 := 6) (ls1 := [some (.ref 67), some (.int (F 67 15)), none]) (st1 := [.ref 67]) (hp1 := (hz F A L)) rfl ?_
  refine w_c rfl rfl (t_km_readsFactor ?_)
  show wl_E f _ _ mm155.2.2.2.2.2.2.2.2 9 [some (.ref 67), some (.int (F 67 15)), none] [.int (km_readsFactor f (F 67 9) (F 67 10) (F 67 11) (F 67 12) (F 67 13) (F 67 14) (F 67 15) (A 71) (A 72) (A 73)).1] (hz (uF (uF (uF (uF (uF (uF F 67 9 (km_readsFactor f (F 67 9) (F 67 10) (F 67 11) (F 67 12) (F 67 13) (F 67 14) (F 67 15) (A 71) (A 72) (A 73)).2.1) 67 11 (km_readsFactor f (F 67 9) (F 67 10) (F 67 11) (F 67 12) (F 67 13) (F 67 14) (F 67 15) (A 71) (A 72) (A 73)).2.2.1) 67 12 (km_readsFactor f (F 67 9) (F 67 10) (F 67 11) (F 67 12) (F 67 13) (F 67 14) (F 67 15) (A 71) (A 72) (A 73)).2.2.2.1) 67 13 (km_readsFactor f (F 67 9) (F 67 10) (F 67 11) (F 67 12) (F 67 13) (F 67 14) (F 67 15) (A 71) (A 72) (A 73)).2.2.2.2.1) 67 14 (km_readsFactor f (F 67 9) (F 67 10) (F 67 11) (F 67 12) (F 67 13) (F 67 14) (F 67 15) (A 71) (A 72) (A 73)).2.2.2.2.2.1) 67 15 (km_readsFactor f (F 67 9) (F 67 10) (F 67 11) (F 67 12) (F 67 13) (F 67 14) (F 67 15) (A 71) (A 72) (A 73)).2.2.2.2.2.2.1) (uA (uA A 72 (km_readsFactor f (F 67 9) (F 67 10) (F 67 11) (F 67 12) (F 67 13) (F 67 14) (F 67 15) (A 71) (A 72) (A 73)).2.2.2.2.2.2.2.1) 73 (km_readsFactor f (F 67 9) (F 67 10) (F 67 11) (F 67 12) (F 67 13) (F 67 14) (F 67 15) (A 71) (A 72) (A 73)).2.2.2.2.2.2.2.2) L) _
  generalize hG483 : (km_readsFactor f (F 67 9) (F 67 10) (F 67 11) (F 67 12) (F 67 13) (F 67 14) (F 67 15) (A 71) (A 72) (A 73)) = G483 at hE ⊢
  replace hE := hE.trans (lt_e _ _)
  refine w_zne (p3 := 12) rfl rfl (fun h => ?_) (fun h => ?_)
  · have h1 : ¬ G483.1 = 0 := h
    rw [if_neg h1] at hE
    subst T
    exact t_km_readsSum_14 _ _ (Nat.le_refl _) (cvQ (funext fun q => funext fun z => if k0 : q = 67 ∧ z = 9 then by obtain ⟨w1, w2⟩ := k0; subst w1; subst w2; exact Eq.trans (b := (km_readsSum_14 f (F 67 10) (A 71) (F 67 15) f G483.2.1 G483.2.2.1 G483.2.2.2.1 G483.2.2.2.2.1 G483.2.2.2.2.2.1 G483.2.2.2.2.2.2.1 G483.2.2.2.2.2.2.2.1 G483.2.2.2.2.2.2.2.2).2.1) rfl rfl else if k1 : q = 67 ∧ z = 11 then by obtain ⟨w1, w2⟩ := k1; subst w1; subst w2; exact Eq.trans (b := (km_readsSum_14 f (F 67 10) (A 71) (F 67 15) f G483.2.1 G483.2.2.1 G483.2.2.2.1 G483.2.2.2.2.1 G483.2.2.2.2.2.1 G483.2.2.2.2.2.2.1 G483.2.2.2.2.2.2.2.1 G483.2.2.2.2.2.2.2.2).2.2.1) rfl rfl else if k2 : q = 67 ∧ z = 12 then by obtain ⟨w1, w2⟩ := k2; subst w1; subst w2; exact Eq.trans (b := (km_readsSum_14 f (F 67 10) (A 71) (F 67 15) f G483.2.1 G483.2.2.1 G483.2.2.2.1 G483.2.2.2.2.1 G483.2.2.2.2.2.1 G483.2.2.2.2.2.2.1 G483.2.2.2.2.2.2.2.1 G483.2.2.2.2.2.2.2.2).2.2.2.1) rfl rfl else if k3 : q = 67 ∧ z = 13 then by obtain ⟨w1, w2⟩ := k3; subst w1; subst w2; exact Eq.trans (b := (km_readsSum_14 f (F 67 10) (A 71) (F 67 15) f G483.2.1 G483.2.2.1 G483.2.2.2.1 G483.2.2.2.2.1 G483.2.2.2.2.2.1 G483.2.2.2.2.2.2.1 G483.2.2.2.2.2.2.2.1 G483.2.2.2.2.2.2.2.2).2.2.2.2.1) rfl rfl else if k4 : q = 67 ∧ z = 14 then by obtain ⟨w1, w2⟩ := k4; subst w1; subst w2; exact Eq.trans (b := (km_readsSum_14 f (F 67 10) (A 71) (F 67 15) f G483.2.1 G483.2.2.1 G483.2.2.2.1 G483.2.2.2.2.1 G483.2.2.2.2.2.1 G483.2.2.2.2.2.2.1 G483.2.2.2.2.2.2.2.1 G483.2.2.2.2.2.2.2.2).2.2.2.2.2.1) rfl rfl else if k5 : q = 67 ∧ z = 15 then by obtain ⟨w1, w2⟩ := k5; subst w1; subst w2; exact Eq.trans (b := (km_readsSum_14 f (F 67 10) (A 71) (F 67 15) f G483.2.1 G483.2.2.1 G483.2.2.2.1 G483.2.2.2.2.1 G483.2.2.2.2.2.1 G483.2.2.2.2.2.2.1 G483.2.2.2.2.2.2.2.1 G483.2.2.2.2.2.2.2.2).2.2.2.2.2.2.1) rfl rfl else by unfold uF; simp only [nb2 k0, nb2 k1, nb2 k2, nb2 k3, nb2 k4, nb2 k5, cond_false]) (funext fun q => if k0 : q = 72 then by subst k0; exact Eq.trans (b := (km_readsSum_14 f (F 67 10) (A 71) (F 67 15) f G483.2.1 G483.2.2.1 G483.2.2.2.1 G483.2.2.2.2.1 G483.2.2.2.2.2.1 G483.2.2.2.2.2.2.1 G483.2.2.2.2.2.2.2.1 G483.2.2.2.2.2.2.2.2).2.2.2.2.2.2.2.1) rfl rfl else if k1 : q = 73 then by subst k1; exact Eq.trans (b := (km_readsSum_14 f (F 67 10) (A 71) (F 67 15) f G483.2.1 G483.2.2.1 G483.2.2.2.1 G483.2.2.2.2.1 G483.2.2.2.2.2.1 G483.2.2.2.2.2.2.1 G483.2.2.2.2.2.2.2.1 G483.2.2.2.2.2.2.2.2).2.2.2.2.2.2.2.2) rfl rfl else by unfold uA; simp only [nb1 k0, nb1 k1, cond_false]) rfl K)
  · have h1 : G483.1 = 0 := h
    rw [if_pos h1] at hE
    refine w_n 1 (pc1 := 13) (ls1 := [some (.ref 67), some (.int (F 67 15)), none]) (st1 := [.int 0]) (hp1 := (hz (uF (uF (uF (uF (uF (uF F 67 9 G483.2.1) 67 11 G483.2.2.1) 67 12 G483.2.2.2.1) 67 13 G483.2.2.2.2.1) 67 14 G483.2.2.2.2.2.1) 67 15 G483.2.2.2.2.2.2.1) (uA (uA A 72 G483.2.2.2.2.2.2.2.1) 73 G483.2.2.2.2.2.2.2.2) L)) rfl ?_
    subst T
    exact w_ri rfl (cvQ rfl rfl rfl K)
noncomputable def km_endsPiece_0 (a73 : List Int32)  : Nat → Int32 → Int32 → Int32 → List Int32 → Int32 × Int32 × Int32 × List Int32
  | 0, f67_13, f67_14, f67_15, a72 => (f67_13, f67_14, f67_15, a72)
  | m + 1, f67_13, f67_14, f67_15, a72 => (if (km_waitTop f67_15 a73) = 10 then (km_endsPiece_0 a73 m (f67_13 - 1) (km_notes f67_14 a72 10 0).1 (f67_15 - 1) (km_notes f67_14 a72 10 0).2) else (f67_13, f67_14, f67_15, a72))
theorem t_km_endsPiece_0 {f : Nat} {Q : Option Value → sm_H → Prop} : ∀ (m : Nat) (B : Nat) {D : Nat} {F : Nat → Nat → Int32} {A : Nat → List Int32} {L : Nat → List Int64}, B ≤ m → (wl_E f B D mm168.2.2.2.2.2.2.2.2 39 [some (.ref 67)] [] (hz (uF (uF (uF F 67 13 ((km_endsPiece_0 (A 73) m (F 67 13) (F 67 14) (F 67 15) (A 72)).1)) 67 14 ((km_endsPiece_0 (A 73) m (F 67 13) (F 67 14) (F 67 15) (A 72)).2.1)) 67 15 ((km_endsPiece_0 (A 73) m (F 67 13) (F 67 14) (F 67 15) (A 72)).2.2.1)) (uA A 72 ((km_endsPiece_0 (A 73) m (F 67 13) (F 67 14) (F 67 15) (A 72)).2.2.2)) L) Q) → wl_E f B D mm168.2.2.2.2.2.2.2.2 0 [some (.ref 67)] [] (hz F A L) Q := by
  intro m
  induction m with
  | zero =>
    intro B D F A L hm K
    rw [show B = 0 by omega]
    exact w_0
  | succ m ih =>
    intro B D F A L hm K
    cases B with
    | zero => exact w_0
    | succ B =>
      generalize hT : (km_endsPiece_0 (A 73) (m + 1) (F 67 13) (F 67 14) (F 67 15) (A 72)) = T at K
      have hE : T = (if (km_waitTop (F 67 15) (A 73)) = 10 then (km_endsPiece_0 (A 73) m ((F 67 13) - 1) (km_notes (F 67 14) (A 72) 10 0).1 ((F 67 15) - 1) (km_notes (F 67 14) (A 72) 10 0).2) else ((F 67 13), (F 67 14), (F 67 15), (A 72))) := hT.symm
      clear hT
      refine w_n1 (pc1 := 1) (ls1 := [some (.ref 67)]) (st1 := [.ref 67]) (hp1 := (hz F A L)) rfl ?_
      refine w_c rfl rfl (t_km_waitTop ?_)
      show wl_E f _ _ mm168.2.2.2.2.2.2.2.2 4 [some (.ref 67)] [.int (km_waitTop (F 67 15) (A 73))] (hz F A L) _
      generalize hG513 : (km_waitTop (F 67 15) (A 73)) = G513 at hE ⊢
      refine w_n 1 (pc1 := 6) (ls1 := [some (.ref 67)]) (st1 := [.int 10, .int G513]) (hp1 := (hz F A L)) rfl ?_
      refine w_ne (p3 := 9) rfl rfl (fun h => ?_) (fun h => ?_)
      · have h1 : ¬ G513 = 10 := h
        rw [if_neg h1] at hE
        subst T
        exact cvE (funext fun q => funext fun z => if k0 : q = 67 ∧ z = 13 then by obtain ⟨w1, w2⟩ := k0; subst w1; subst w2; exact Eq.trans (b := (F 67 13)) rfl rfl else if k1 : q = 67 ∧ z = 14 then by obtain ⟨w1, w2⟩ := k1; subst w1; subst w2; exact Eq.trans (b := (F 67 14)) rfl rfl else if k2 : q = 67 ∧ z = 15 then by obtain ⟨w1, w2⟩ := k2; subst w1; subst w2; exact Eq.trans (b := (F 67 15)) rfl rfl else by unfold uF; simp only [nb2 k0, nb2 k1, nb2 k2, cond_false]) (funext fun q => if k0 : q = 72 then by subst k0; exact Eq.trans (b := (A 72)) rfl rfl else by unfold uA; simp only [nb1 k0, cond_false]) rfl (wl_le (Nat.le_succ _) (K))
      · have h1 : G513 = 10 := h
        rw [if_pos h1] at hE
        refine w_n 3 (pc1 := 13) (ls1 := [some (.ref 67)]) (st1 := [.int 0, .int 10, .ref 67]) (hp1 := (hz F A L)) rfl ?_
        refine w_c rfl rfl (t_km_notes ?_)
        show wl_E f _ _ mm168.2.2.2.2.2.2.2.2 16 [some (.ref 67)] [] (hz (uF F 67 14 (km_notes (F 67 14) (A 72) 10 0).1) (uA A 72 (km_notes (F 67 14) (A 72) 10 0).2) L) _
        generalize hG514 : (km_notes (F 67 14) (A 72) 10 0) = G514 at hE ⊢
        refine w_n 5 (pc1 := 23) (ls1 := [some (.ref 67)]) (st1 := [.int ((F 67 15) - 1), .ref 67]) (hp1 := (hz (uF F 67 14 G514.1) (uA A 72 G514.2) L)) rfl ?_
        refine w_pf (k := 67) (fs := hz_f67 (uF F 67 14 G514.1)) (hp1 := (hz (uF (uF F 67 14 G514.1) 67 15 ((F 67 15) - 1)) (uA A 72 G514.2) L)) rfl rfl rfl (hz_p67_15 _) ?_
        refine w_n 5 (pc1 := 33) (ls1 := [some (.ref 67)]) (st1 := [.int ((F 67 13) - 1), .ref 67]) (hp1 := (hz (uF (uF F 67 14 G514.1) 67 15 ((F 67 15) - 1)) (uA A 72 G514.2) L)) rfl ?_
        refine w_pf (k := 67) (fs := hz_f67 (uF (uF F 67 14 G514.1) 67 15 ((F 67 15) - 1))) (hp1 := (hz (uF (uF (uF F 67 14 G514.1) 67 15 ((F 67 15) - 1)) 67 13 ((F 67 13) - 1)) (uA A 72 G514.2) L)) rfl rfl rfl (hz_p67_13 _) ?_
        refine w_n 1 (pc1 := 0) (ls1 := [some (.ref 67)]) (st1 := []) (hp1 := (hz (uF (uF (uF F 67 14 G514.1) 67 15 ((F 67 15) - 1)) 67 13 ((F 67 13) - 1)) (uA A 72 G514.2) L)) rfl ?_
        subst T
        exact ih _ (by omega) (cvE (funext fun q => funext fun z => if k0 : q = 67 ∧ z = 13 then by obtain ⟨w1, w2⟩ := k0; subst w1; subst w2; exact Eq.trans (b := (km_endsPiece_0 (A 73) m ((F 67 13) - 1) G514.1 ((F 67 15) - 1) G514.2).1) rfl rfl else if k1 : q = 67 ∧ z = 14 then by obtain ⟨w1, w2⟩ := k1; subst w1; subst w2; exact Eq.trans (b := (km_endsPiece_0 (A 73) m ((F 67 13) - 1) G514.1 ((F 67 15) - 1) G514.2).2.1) rfl rfl else if k2 : q = 67 ∧ z = 15 then by obtain ⟨w1, w2⟩ := k2; subst w1; subst w2; exact Eq.trans (b := (km_endsPiece_0 (A 73) m ((F 67 13) - 1) G514.1 ((F 67 15) - 1) G514.2).2.2.1) rfl rfl else by unfold uF; simp only [nb2 k0, nb2 k1, nb2 k2, cond_false]) (funext fun q => if k0 : q = 72 then by subst k0; exact Eq.trans (b := (km_endsPiece_0 (A 73) m ((F 67 13) - 1) G514.1 ((F 67 15) - 1) G514.2).2.2.2) rfl rfl else by unfold uA; simp only [nb1 k0, cond_false]) rfl (wl_le (Nat.le_succ _) (K)))
noncomputable def km_endsPiece (f : Nat) (f67_13 : Int32) (f67_14 : Int32) (f67_15 : Int32) (a72 : List Int32) (a73 : List Int32) : Int32 × Int32 × Int32 × List Int32 := ((km_endsPiece_0 a73 f f67_13 f67_14 f67_15 a72).1, (km_endsPiece_0 a73 f f67_13 f67_14 f67_15 a72).2.1, (km_endsPiece_0 a73 f f67_13 f67_14 f67_15 a72).2.2.1, (km_endsPiece_0 a73 f f67_13 f67_14 f67_15 a72).2.2.2)
theorem t_km_endsPiece {f D : Nat} {F : Nat → Nat → Int32} {A : Nat → List Int32} {L : Nat → List Int64} {Q : Option Value → sm_H → Prop} (K : Q none (hz (uF (uF (uF F 67 13 ((km_endsPiece f (F 67 13) (F 67 14) (F 67 15) (A 72) (A 73)).1)) 67 14 ((km_endsPiece f (F 67 13) (F 67 14) (F 67 15) (A 72) (A 73)).2.1)) 67 15 ((km_endsPiece f (F 67 13) (F 67 14) (F 67 15) (A 72) (A 73)).2.2.1)) (uA A 72 ((km_endsPiece f (F 67 13) (F 67 14) (F 67 15) (A 72) (A 73)).2.2.2)) L)) : wl_M f D 168 [.ref 67] (hz F A L) Q := by
  generalize hT : (km_endsPiece f (F 67 13) (F 67 14) (F 67 15) (A 72) (A 73)) = T at K
  have hE : T = ((km_endsPiece_0 (A 73) f (F 67 13) (F 67 14) (F 67 15) (A 72)).1, (km_endsPiece_0 (A 73) f (F 67 13) (F 67 14) (F 67 15) (A 72)).2.1, (km_endsPiece_0 (A 73) f (F 67 13) (F 67 14) (F 67 15) (A 72)).2.2.1, (km_endsPiece_0 (A 73) f (F 67 13) (F 67 14) (F 67 15) (A 72)).2.2.2) := hT.symm
  clear hT
  refine w_m (E := mm168) rfl ?_
  show wl_E f f (D - 1) mm168.2.2.2.2.2.2.2.2 0 [some (.ref 67)] [] (hz F A L) Q
  refine t_km_endsPiece_0 f _ (Nat.le_refl _) ?_
  show wl_E f _ _ mm168.2.2.2.2.2.2.2.2 39 [some (.ref 67)] [] (hz (uF (uF (uF F 67 13 (km_endsPiece_0 (A 73) f (F 67 13) (F 67 14) (F 67 15) (A 72)).1) 67 14 (km_endsPiece_0 (A 73) f (F 67 13) (F 67 14) (F 67 15) (A 72)).2.1) 67 15 (km_endsPiece_0 (A 73) f (F 67 13) (F 67 14) (F 67 15) (A 72)).2.2.1) (uA A 72 (km_endsPiece_0 (A 73) f (F 67 13) (F 67 14) (F 67 15) (A 72)).2.2.2) L) _
  generalize hG515 : (km_endsPiece_0 (A 73) f (F 67 13) (F 67 14) (F 67 15) (A 72)) = G515 at hE ⊢
  subst T
  exact w_r rfl rfl (cvQ rfl rfl rfl K)
