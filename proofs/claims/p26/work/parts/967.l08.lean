/-! lifts, printed by genlift.py: 8 -/
noncomputable def km_reckon (x0 : Int32) (x1 : Int32) (x2 : Int32) : Int32 := (if x0 = 2 then (x1 + x2) else (if x0 = 3 then (x1 - x2) else (if x0 = 4 then (x1 * x2) else (if x0 = 5 then (x1 / x2) else (if x0 = 6 then (x1 - x1 / x2 * x2) else (if x0 = 7 then (if x1.toInt < x2.toInt then 1 else 0) else (if x0 = 8 then (if x2.toInt < x1.toInt then 1 else 0) else (if x1 = x2 then 1 else 0))))))))
theorem t_km_reckon {f D : Nat} {F : Nat → Nat → Int32} {A : Nat → List Int32} {L : Nat → List Int64} {Q : Option Value → sm_H → Prop} {x0 : Int32} {x1 : Int32} {x2 : Int32} (K : Q (some (.int (km_reckon x0 x1 x2))) (hz F A L)) : wl_M f D 182 [.int x0, .int x1, .int x2] (hz F A L) Q := by
  generalize hT : (km_reckon x0 x1 x2) = T at K
  have hE : T = (if x0 = 2 then (x1 + x2) else (if x0 = 3 then (x1 - x2) else (if x0 = 4 then (x1 * x2) else (if x0 = 5 then (x1 / x2) else (if x0 = 6 then (x1 - x1 / x2 * x2) else (if x0 = 7 then (if x1.toInt < x2.toInt then 1 else 0) else (if x0 = 8 then (if x2.toInt < x1.toInt then 1 else 0) else (if x1 = x2 then 1 else 0)))))))) := hT.symm
  clear hT
  refine w_m (E := mm182) rfl ?_
  show wl_E f f (D - 1) mm182.2.2.2.2.2.2.2.2 0 [some (.int x0), some (.int x1), some (.int x2)] [] (hz F A L) Q
  refine w_n 1 (pc1 := 1) (ls1 := [some (.int x0), some (.int x1), some (.int x2)]) (st1 := [.int x0]) (hp1 := (hz F A L)) rfl ?_
  by_cases h : x0 = 2
  · have h1 : x0 = 2 := h
    rw [if_pos h1] at hE
    refine w_k h1 ?_
    refine w_n 1 (pc1 := 44) (ls1 := [some (.int x0), some (.int x1), some (.int x2)]) (st1 := []) (hp1 := (hz F A L)) rfl ?_
    refine w_n 3 (pc1 := 47) (ls1 := [some (.int x0), some (.int x1), some (.int x2)]) (st1 := [.int (x1 + x2)]) (hp1 := (hz F A L)) rfl ?_
    subst T
    exact w_ri rfl (cvQ rfl rfl rfl K)
  · have h1 : ¬ x0 = 2 := h
    rw [if_neg h1] at hE
    by_cases h : x0 = 3
    · have h2 : x0 = 3 := h
      rw [if_pos h2] at hE
      refine w_k h2 ?_
      refine w_n 1 (pc1 := 48) (ls1 := [some (.int x0), some (.int x1), some (.int x2)]) (st1 := []) (hp1 := (hz F A L)) rfl ?_
      refine w_n 3 (pc1 := 51) (ls1 := [some (.int x0), some (.int x1), some (.int x2)]) (st1 := [.int (x1 - x2)]) (hp1 := (hz F A L)) rfl ?_
      subst T
      exact w_ri rfl (cvQ rfl rfl rfl K)
    · have h2 : ¬ x0 = 3 := h
      rw [if_neg h2] at hE
      by_cases h : x0 = 4
      · have h3 : x0 = 4 := h
        rw [if_pos h3] at hE
        refine w_k h3 ?_
        refine w_n 1 (pc1 := 52) (ls1 := [some (.int x0), some (.int x1), some (.int x2)]) (st1 := []) (hp1 := (hz F A L)) rfl ?_
        refine w_n 3 (pc1 := 55) (ls1 := [some (.int x0), some (.int x1), some (.int x2)]) (st1 := [.int (x1 * x2)]) (hp1 := (hz F A L)) rfl ?_
        subst T
        exact w_ri rfl (cvQ rfl rfl rfl K)
      · have h3 : ¬ x0 = 4 := h
        rw [if_neg h3] at hE
        by_cases h : x0 = 5
        · have h4 : x0 = 5 := h
          rw [if_pos h4] at hE
          refine w_k h4 ?_
          refine w_n 1 (pc1 := 56) (ls1 := [some (.int x0), some (.int x1), some (.int x2)]) (st1 := []) (hp1 := (hz F A L)) rfl ?_
          refine w_n 2 (pc1 := 58) (ls1 := [some (.int x0), some (.int x1), some (.int x2)]) (st1 := [.int x2, .int x1]) (hp1 := (hz F A L)) rfl ?_
          refine w_dv rfl rfl (fun _ => ?_)
          subst T
          exact w_ri rfl (cvQ rfl rfl rfl K)
        · have h4 : ¬ x0 = 5 := h
          rw [if_neg h4] at hE
          by_cases h : x0 = 6
          · have h5 : x0 = 6 := h
            rw [if_pos h5] at hE
            refine w_k h5 ?_
            refine w_n 1 (pc1 := 60) (ls1 := [some (.int x0), some (.int x1), some (.int x2)]) (st1 := []) (hp1 := (hz F A L)) rfl ?_
            refine w_n 2 (pc1 := 62) (ls1 := [some (.int x0), some (.int x1), some (.int x2)]) (st1 := [.int x2, .int x1]) (hp1 := (hz F A L)) rfl ?_
            refine w_rm rfl rfl (fun _ => ?_)
            subst T
            exact w_ri rfl (cvQ rfl rfl rfl K)
          · have h5 : ¬ x0 = 6 := h
            rw [if_neg h5] at hE
            by_cases h : x0 = 7
            · have h6 : x0 = 7 := h
              rw [if_pos h6] at hE
              refine w_k h6 ?_
              refine w_n 1 (pc1 := 64) (ls1 := [some (.int x0), some (.int x1), some (.int x2)]) (st1 := []) (hp1 := (hz F A L)) rfl ?_
              refine w_n 2 (pc1 := 66) (ls1 := [some (.int x0), some (.int x1), some (.int x2)]) (st1 := [.int x2, .int x1]) (hp1 := (hz F A L)) rfl ?_
              refine w_ge (p3 := 69) rfl rfl (fun h => ?_) (fun h => ?_)
              · have h7 : x2.toInt ≤ x1.toInt := h
                rw [if_neg (Int.not_lt.mpr h7)] at hE
                refine w_n 1 (pc1 := 74) (ls1 := [some (.int x0), some (.int x1), some (.int x2)]) (st1 := [.int 0]) (hp1 := (hz F A L)) rfl ?_
                subst T
                exact w_ri rfl (cvQ rfl rfl rfl K)
              · have h7 : x1.toInt < x2.toInt := h
                rw [if_pos h7] at hE
                refine w_n 2 (pc1 := 74) (ls1 := [some (.int x0), some (.int x1), some (.int x2)]) (st1 := [.int 1]) (hp1 := (hz F A L)) rfl ?_
                subst T
                exact w_ri rfl (cvQ rfl rfl rfl K)
            · have h6 : ¬ x0 = 7 := h
              rw [if_neg h6] at hE
              by_cases h : x0 = 8
              · have h8 : x0 = 8 := h
                rw [if_pos h8] at hE
                refine w_k h8 ?_
                refine w_n 1 (pc1 := 75) (ls1 := [some (.int x0), some (.int x1), some (.int x2)]) (st1 := []) (hp1 := (hz F A L)) rfl ?_
                refine w_n 2 (pc1 := 77) (ls1 := [some (.int x0), some (.int x1), some (.int x2)]) (st1 := [.int x2, .int x1]) (hp1 := (hz F A L)) rfl ?_
                refine w_le (p3 := 80) rfl rfl (fun h => ?_) (fun h => ?_)
                · have h9 : x1.toInt ≤ x2.toInt := h
                  rw [if_neg (Int.not_lt.mpr h9)] at hE
                  refine w_n 1 (pc1 := 85) (ls1 := [some (.int x0), some (.int x1), some (.int x2)]) (st1 := [.int 0]) (hp1 := (hz F A L)) rfl ?_
                  subst T
                  exact w_ri rfl (cvQ rfl rfl rfl K)
                · have h9 : x2.toInt < x1.toInt := h
                  rw [if_pos h9] at hE
                  refine w_n 2 (pc1 := 85) (ls1 := [some (.int x0), some (.int x1), some (.int x2)]) (st1 := [.int 1]) (hp1 := (hz F A L)) rfl ?_
                  subst T
                  exact w_ri rfl (cvQ rfl rfl rfl K)
              · have h8 : ¬ x0 = 8 := h
                rw [if_neg h8] at hE
                have n0 : ¬ x0.toInt = 2 := fun z => h1 (Int32.toInt_inj.mp (show _ = (2 : Int32).toInt from z))
                have n1 : ¬ x0.toInt = 3 := fun z => h2 (Int32.toInt_inj.mp (show _ = (3 : Int32).toInt from z))
                have n2 : ¬ x0.toInt = 4 := fun z => h3 (Int32.toInt_inj.mp (show _ = (4 : Int32).toInt from z))
                have n3 : ¬ x0.toInt = 5 := fun z => h4 (Int32.toInt_inj.mp (show _ = (5 : Int32).toInt from z))
                have n4 : ¬ x0.toInt = 6 := fun z => h5 (Int32.toInt_inj.mp (show _ = (6 : Int32).toInt from z))
                have n5 : ¬ x0.toInt = 7 := fun z => h6 (Int32.toInt_inj.mp (show _ = (7 : Int32).toInt from z))
                have n6 : ¬ x0.toInt = 8 := fun z => h8 (Int32.toInt_inj.mp (show _ = (8 : Int32).toInt from z))
                refine w_tsw rfl (by omega) (p1 := 86) (by decide) (by decide) ?_
                refine w_n 2 (pc1 := 88) (ls1 := [some (.int x0), some (.int x1), some (.int x2)]) (st1 := [.int x2, .int x1]) (hp1 := (hz F A L)) rfl ?_
                refine w_ne (p3 := 91) rfl rfl (fun h => ?_) (fun h => ?_)
                · have h10 : ¬ x1 = x2 := h
                  rw [if_neg h10] at hE
                  refine w_n 1 (pc1 := 96) (ls1 := [some (.int x0), some (.int x1), some (.int x2)]) (st1 := [.int 0]) (hp1 := (hz F A L)) rfl ?_
                  subst T
                  exact w_ri rfl (cvQ rfl rfl rfl K)
                · have h10 : x1 = x2 := h
                  rw [if_pos h10] at hE
                  refine w_n 2 (pc1 := 96) (ls1 := [some (.int x0), some (.int x1), some (.int x2)]) (st1 := [.int 1]) (hp1 := (hz F A L)) rfl ?_
                  subst T
                  exact w_ri rfl (cvQ rfl rfl rfl K)
noncomputable def km_comesTo_16 (a78 : List Int32) (a84 : List Int32) (x2 : Int32) (x4 : Int32) : Nat → Int32 → Int32 → List Int32 → Int32 × List Int32
  | 0, _, _, a83 => (0, a83)
  | m + 1, y3, y5, a83 => (if y5.toInt < x2.toInt then (if ((a78.getD y5.toInt.toNat 0) / 1048576) = 0 then (km_comesTo_16 a78 a84 x2 x4 m (y3 + 1) (y5 + 1) (a83.set y3.toInt.toNat ((a78.getD y5.toInt.toNat 0) - (a78.getD y5.toInt.toNat 0) / 1048576 * 1048576))) else (if ((a78.getD y5.toInt.toNat 0) / 1048576) = 1 then (km_comesTo_16 a78 a84 x2 x4 m (y3 + 1) (y5 + 1) (a83.set y3.toInt.toNat (a84.getD ((a78.getD y5.toInt.toNat 0) - (a78.getD y5.toInt.toNat 0) / 1048576 * 1048576).toInt.toNat 0))) else (if ((a78.getD y5.toInt.toNat 0) / 1048576) = 10 then (km_comesTo_16 a78 a84 x2 x4 m y3 (y5 + 1) (a83.set (y3 - 1).toInt.toNat (1 - (a83.getD (y3 - 1).toInt.toNat 0)))) else (if ((a78.getD y5.toInt.toNat 0) / 1048576) = 11 then (if ((a78.getD y5.toInt.toNat 0) / 1048576) = 12 then (if (a83.getD (y3 - 1).toInt.toNat 0) = 1 then (km_comesTo_16 a78 a84 x2 x4 m y3 (x4 + ((a78.getD y5.toInt.toNat 0) - (a78.getD y5.toInt.toNat 0) / 1048576 * 1048576)) a83) else (km_comesTo_16 a78 a84 x2 x4 m (y3 - 1) (y5 + 1) a83)) else (if (a83.getD (y3 - 1).toInt.toNat 0) = 0 then (km_comesTo_16 a78 a84 x2 x4 m y3 (x4 + ((a78.getD y5.toInt.toNat 0) - (a78.getD y5.toInt.toNat 0) / 1048576 * 1048576)) a83) else (km_comesTo_16 a78 a84 x2 x4 m (y3 - 1) (y5 + 1) a83))) else (if ((a78.getD y5.toInt.toNat 0) / 1048576) = 12 then (if (a83.getD (y3 - 1).toInt.toNat 0) = 1 then (km_comesTo_16 a78 a84 x2 x4 m y3 (x4 + ((a78.getD y5.toInt.toNat 0) - (a78.getD y5.toInt.toNat 0) / 1048576 * 1048576)) a83) else (km_comesTo_16 a78 a84 x2 x4 m (y3 - 1) (y5 + 1) a83)) else (if ((a78.getD y5.toInt.toNat 0) / 1048576) = 5 then (if (a83.getD (y3 - 1).toInt.toNat 0) = 0 then (0, a83) else (km_comesTo_16 a78 a84 x2 x4 m (y3 - 1) (y5 + 1) (a83.set ((y3 - 1) - 1).toInt.toNat (km_reckon ((a78.getD y5.toInt.toNat 0) / 1048576) (a83.getD ((y3 - 1) - 1).toInt.toNat 0) (a83.getD (y3 - 1).toInt.toNat 0))))) else (if ((a78.getD y5.toInt.toNat 0) / 1048576) = 6 then (if (a83.getD (y3 - 1).toInt.toNat 0) = 0 then (0, a83) else (km_comesTo_16 a78 a84 x2 x4 m (y3 - 1) (y5 + 1) (a83.set ((y3 - 1) - 1).toInt.toNat (km_reckon ((a78.getD y5.toInt.toNat 0) / 1048576) (a83.getD ((y3 - 1) - 1).toInt.toNat 0) (a83.getD (y3 - 1).toInt.toNat 0))))) else (km_comesTo_16 a78 a84 x2 x4 m (y3 - 1) (y5 + 1) (a83.set ((y3 - 1) - 1).toInt.toNat (km_reckon ((a78.getD y5.toInt.toNat 0) / 1048576) (a83.getD ((y3 - 1) - 1).toInt.toNat 0) (a83.getD (y3 - 1).toInt.toNat 0))))))))))) else ((a83.getD 0 0), a83))
theorem t_km_comesTo_16 {f : Nat} {Q : Option Value → sm_H → Prop} : ∀ (m : Nat) (B : Nat) {D : Nat} {F : Nat → Nat → Int32} {A : Nat → List Int32} {L : Nat → List Int64} {x1 : Int32} {x2 : Int32} {y3 : Int32} {x4 : Int32} {y5 : Int32} {o6 : Option Value} {o7 : Option Value}, B ≤ m → (Q (some (.int ((km_comesTo_16 (A 78) (A 84) x2 x4 m y3 y5 (A 83)).1))) (hz F (uA A 83 ((km_comesTo_16 (A 78) (A 84) x2 x4 m y3 y5 (A 83)).2)) L)) → wl_E f B D mm181.2.2.2.2.2.2.2.2 16 [some (.ref 67), some (.int x1), some (.int x2), some (.int y3), some (.int x4), some (.int y5), o6, o7] [] (hz F A L) Q := by
  intro m
  induction m with
  | zero =>
    intro B D F A L x1 x2 y3 x4 y5 o6 o7 hm K
    rw [show B = 0 by omega]
    exact w_0
  | succ m ih =>
    intro B D F A L x1 x2 y3 x4 y5 o6 o7 hm K
    cases B with
    | zero => exact w_0
    | succ B =>
      generalize hT : (km_comesTo_16 (A 78) (A 84) x2 x4 (m + 1) y3 y5 (A 83)) = T at K
      have hE : T = (if y5.toInt < x2.toInt then (if (((A 78).getD y5.toInt.toNat 0) / 1048576) = 0 then (km_comesTo_16 (A 78) (A 84) x2 x4 m (y3 + 1) (y5 + 1) ((A 83).set y3.toInt.toNat (((A 78).getD y5.toInt.toNat 0) - ((A 78).getD y5.toInt.toNat 0) / 1048576 * 1048576))) else (if (((A 78).getD y5.toInt.toNat 0) / 1048576) = 1 then (km_comesTo_16 (A 78) (A 84) x2 x4 m (y3 + 1) (y5 + 1) ((A 83).set y3.toInt.toNat ((A 84).getD (((A 78).getD y5.toInt.toNat 0) - ((A 78).getD y5.toInt.toNat 0) / 1048576 * 1048576).toInt.toNat 0))) else (if (((A 78).getD y5.toInt.toNat 0) / 1048576) = 10 then (km_comesTo_16 (A 78) (A 84) x2 x4 m y3 (y5 + 1) ((A 83).set (y3 - 1).toInt.toNat (1 - ((A 83).getD (y3 - 1).toInt.toNat 0)))) else (if (((A 78).getD y5.toInt.toNat 0) / 1048576) = 11 then (if (((A 78).getD y5.toInt.toNat 0) / 1048576) = 12 then (if ((A 83).getD (y3 - 1).toInt.toNat 0) = 1 then (km_comesTo_16 (A 78) (A 84) x2 x4 m y3 (x4 + (((A 78).getD y5.toInt.toNat 0) - ((A 78).getD y5.toInt.toNat 0) / 1048576 * 1048576)) (A 83)) else (km_comesTo_16 (A 78) (A 84) x2 x4 m (y3 - 1) (y5 + 1) (A 83))) else (if ((A 83).getD (y3 - 1).toInt.toNat 0) = 0 then (km_comesTo_16 (A 78) (A 84) x2 x4 m y3 (x4 + (((A 78).getD y5.toInt.toNat 0) - ((A 78).getD y5.toInt.toNat 0) / 1048576 * 1048576)) (A 83)) else (km_comesTo_16 (A 78) (A 84) x2 x4 m (y3 - 1) (y5 + 1) (A 83)))) else (if (((A 78).getD y5.toInt.toNat 0) / 1048576) = 12 then (if ((A 83).getD (y3 - 1).toInt.toNat 0) = 1 then (km_comesTo_16 (A 78) (A 84) x2 x4 m y3 (x4 + (((A 78).getD y5.toInt.toNat 0) - ((A 78).getD y5.toInt.toNat 0) / 1048576 * 1048576)) (A 83)) else (km_comesTo_16 (A 78) (A 84) x2 x4 m (y3 - 1) (y5 + 1) (A 83))) else (if (((A 78).getD y5.toInt.toNat 0) / 1048576) = 5 then (if ((A 83).getD (y3 - 1).toInt.toNat 0) = 0 then (0, (A 83)) else (km_comesTo_16 (A 78) (A 84) x2 x4 m (y3 - 1) (y5 + 1) ((A 83).set ((y3 - 1) - 1).toInt.toNat (km_reckon (((A 78).getD y5.toInt.toNat 0) / 1048576) ((A 83).getD ((y3 - 1) - 1).toInt.toNat 0) ((A 83).getD (y3 - 1).toInt.toNat 0))))) else (if (((A 78).getD y5.toInt.toNat 0) / 1048576) = 6 then (if ((A 83).getD (y3 - 1).toInt.toNat 0) = 0 then (0, (A 83)) else (km_comesTo_16 (A 78) (A 84) x2 x4 m (y3 - 1) (y5 + 1) ((A 83).set ((y3 - 1) - 1).toInt.toNat (km_reckon (((A 78).getD y5.toInt.toNat 0) / 1048576) ((A 83).getD ((y3 - 1) - 1).toInt.toNat 0) ((A 83).getD (y3 - 1).toInt.toNat 0))))) else (km_comesTo_16 (A 78) (A 84) x2 x4 m (y3 - 1) (y5 + 1) ((A 83).set ((y3 - 1) - 1).toInt.toNat (km_reckon (((A 78).getD y5.toInt.toNat 0) / 1048576) ((A 83).getD ((y3 - 1) - 1).toInt.toNat 0) ((A 83).getD (y3 - 1).toInt.toNat 0))))))))))) else (((A 83).getD 0 0), (A 83))) := hT.symm
      clear hT
      refine w_n1 (pc1 := 18) (ls1 := [some (.ref 67), some (.int x1), some (.int x2), some (.int y3), some (.int x4), some (.int y5), o6, o7]) (st1 := [.int y5]) (hp1 := (hz F A L)) rfl ?_
      refine w_n 1 (pc1 := 19) (ls1 := [some (.ref 67), some (.int x1), some (.int x2), some (.int y3), some (.int x4), some (.int y5), o6, o7]) (st1 := [.int x2, .int y5]) (hp1 := (hz F A L)) rfl ?_
      refine w_ge (p3 := 22) rfl rfl (fun h => ?_) (fun h => ?_)
      · have h1 : x2.toInt ≤ y5.toInt := h
        rw [if_neg (Int.not_lt.mpr h1)] at hE
        refine w_n 3 (pc1 := 238) (ls1 := [some (.ref 67), some (.int x1), some (.int x2), some (.int y3), some (.int x4), some (.int y5), o6, o7]) (st1 := [.int 0, .ref 83]) (hp1 := (hz F A L)) rfl ?_
        refine w_al (k := 83) (l := (A 83)) rfl rfl rfl (fun _ => ?_)
        subst T
        exact w_ri rfl (cvQ rfl (funext fun q => if k0 : q = 83 then by subst k0; exact Eq.trans (b := (A 83)) rfl rfl else by unfold uA; simp only [nb1 k0, cond_false]) rfl K)
      · have h1 : y5.toInt < x2.toInt := h
        rw [if_pos h1] at hE
        refine w_n 3 (pc1 := 28) (ls1 := [some (.ref 67), some (.int x1), some (.int x2), some (.int y3), some (.int x4), some (.int y5), o6, o7]) (st1 := [.int y5, .ref 78]) (hp1 := (hz F A L)) rfl ?_
        refine w_al (k := 78) (l := (A 78)) rfl rfl rfl (fun _ => ?_)
        refine w_n 1 (pc1 := 31) (ls1 := [some (.ref 67), some (.int x1), some (.int x2), some (.int y3), some (.int x4), some (.int y5), o6, o7]) (st1 := [.int 1048576, .int ((A 78).getD y5.toInt.toNat 0)]) (hp1 := (hz F A L)) rfl ?_
        refine w_dv rfl rfl (fun _ => ?_)
        refine w_n 4 (pc1 := 40) (ls1 := [some (.ref 67), some (.int x1), some (.int x2), some (.int y3), some (.int x4), some (.int y5), some (.int (((A 78).getD y5.toInt.toNat 0) / 1048576)), o7]) (st1 := [.int y5, .ref 78]) (hp1 := (hz F A L)) rfl ?_
        refine w_al (k := 78) (l := (A 78)) rfl rfl rfl (fun _ => ?_)
        refine w_n 1 (pc1 := 43) (ls1 := [some (.ref 67), some (.int x1), some (.int x2), some (.int y3), some (.int x4), some (.int y5), some (.int (((A 78).getD y5.toInt.toNat 0) / 1048576)), o7]) (st1 := [.int 1048576, .int ((A 78).getD y5.toInt.toNat 0)]) (hp1 := (hz F A L)) rfl ?_
        refine w_rm rfl rfl (fun _ => ?_)
        refine w_n 6 (pc1 := 54) (ls1 := [some (.ref 67), some (.int x1), some (.int x2), some (.int y3), some (.int x4), some (.int (y5 + 1)), some (.int (((A 78).getD y5.toInt.toNat 0) / 1048576)), some (.int (((A 78).getD y5.toInt.toNat 0) - ((A 78).getD y5.toInt.toNat 0) / 1048576 * 1048576))]) (st1 := [.int (((A 78).getD y5.toInt.toNat 0) / 1048576)]) (hp1 := (hz F A L)) rfl ?_
        refine w_zeq (p3 := 57) rfl rfl (fun h => ?_) (fun h => ?_)
        · have h2 : (((A 78).getD y5.toInt.toNat 0) / 1048576) = 0 := h
          rw [if_pos h2] at hE
          refine w_n 4 (pc1 := 70) (ls1 := [some (.ref 67), some (.int x1), some (.int x2), some (.int y3), some (.int x4), some (.int (y5 + 1)), some (.int (((A 78).getD y5.toInt.toNat 0) / 1048576)), some (.int (((A 78).getD y5.toInt.toNat 0) - ((A 78).getD y5.toInt.toNat 0) / 1048576 * 1048576))]) (st1 := [.int (((A 78).getD y5.toInt.toNat 0) / 1048576), .int y3, .ref 83]) (hp1 := (hz F A L)) rfl ?_
          refine w_zne (p3 := 73) rfl rfl (fun h => absurd h2 h) (fun _ => ?_)
          refine w_n 2 (pc1 := 85) (ls1 := [some (.ref 67), some (.int x1), some (.int x2), some (.int y3), some (.int x4), some (.int (y5 + 1)), some (.int (((A 78).getD y5.toInt.toNat 0) / 1048576)), some (.int (((A 78).getD y5.toInt.toNat 0) - ((A 78).getD y5.toInt.toNat 0) / 1048576 * 1048576))]) (st1 := [.int (((A 78).getD y5.toInt.toNat 0) - ((A 78).getD y5.toInt.toNat 0) / 1048576 * 1048576), .int y3, .ref 83]) (hp1 := (hz F A L)) rfl ?_
          refine w_as (k := 83) (l := (A 83)) (hp1 := (hz F (uA A 83 ((A 83).set y3.toInt.toNat (((A 78).getD y5.toInt.toNat 0) - ((A 78).getD y5.toInt.toNat 0) / 1048576 * 1048576))) L)) rfl rfl rfl (hz_s83 _) (fun _ => ?_)
          refine w_n 6 (pc1 := 16) (ls1 := [some (.ref 67), some (.int x1), some (.int x2), some (.int (y3 + 1)), some (.int x4), some (.int (y5 + 1)), some (.int (((A 78).getD y5.toInt.toNat 0) / 1048576)), some (.int (((A 78).getD y5.toInt.toNat 0) - ((A 78).getD y5.toInt.toNat 0) / 1048576 * 1048576))]) (st1 := []) (hp1 := (hz F (uA A 83 ((A 83).set y3.toInt.toNat (((A 78).getD y5.toInt.toNat 0) - ((A 78).getD y5.toInt.toNat 0) / 1048576 * 1048576))) L)) rfl ?_
          subst T
          exact ih _ (by omega) (cvQ rfl (funext fun q => if k0 : q = 83 then by subst k0; exact Eq.trans (b := (km_comesTo_16 (A 78) (A 84) x2 x4 m (y3 + 1) (y5 + 1) ((A 83).set y3.toInt.toNat (((A 78).getD y5.toInt.toNat 0) - ((A 78).getD y5.toInt.toNat 0) / 1048576 * 1048576))).2) rfl rfl else by unfold uA; simp only [nb1 k0, cond_false]) rfl K)
        · have h2 : ¬ (((A 78).getD y5.toInt.toNat 0) / 1048576) = 0 := h
          rw [if_neg h2] at hE
          refine w_n 2 (pc1 := 60) (ls1 := [some (.ref 67), some (.int x1), some (.int x2), some (.int y3), some (.int x4), some (.int (y5 + 1)), some (.int (((A 78).getD y5.toInt.toNat 0) / 1048576)), some (.int (((A 78).getD y5.toInt.toNat 0) - ((A 78).getD y5.toInt.toNat 0) / 1048576 * 1048576))]) (st1 := [.int 1, .int (((A 78).getD y5.toInt.toNat 0) / 1048576)]) (hp1 := (hz F A L)) rfl ?_
          refine w_ne (p3 := 63) rfl rfl (fun h => ?_) (fun h => ?_)
          · have h3 : ¬ (((A 78).getD y5.toInt.toNat 0) / 1048576) = 1 := h
            rw [if_neg h3] at hE
            refine w_n 2 (pc1 := 97) (ls1 := [some (.ref 67), some (.int x1), some (.int x2), some (.int y3), some (.int x4), some (.int (y5 + 1)), some (.int (((A 78).getD y5.toInt.toNat 0) / 1048576)), some (.int (((A 78).getD y5.toInt.toNat 0) - ((A 78).getD y5.toInt.toNat 0) / 1048576 * 1048576))]) (st1 := [.int 10, .int (((A 78).getD y5.toInt.toNat 0) / 1048576)]) (hp1 := (hz F A L)) rfl ?_
            refine w_ne (p3 := 100) rfl rfl (fun h => ?_) (fun h => ?_)
            · have h4 : ¬ (((A 78).getD y5.toInt.toNat 0) / 1048576) = 10 := h
              rw [if_neg h4] at hE
              refine w_n 2 (pc1 := 125) (ls1 := [some (.ref 67), some (.int x1), some (.int x2), some (.int y3), some (.int x4), some (.int (y5 + 1)), some (.int (((A 78).getD y5.toInt.toNat 0) / 1048576)), some (.int (((A 78).getD y5.toInt.toNat 0) - ((A 78).getD y5.toInt.toNat 0) / 1048576 * 1048576))]) (st1 := [.int 11, .int (((A 78).getD y5.toInt.toNat 0) / 1048576)]) (hp1 := (hz F A L)) rfl ?_
              refine w_eq (p3 := 128) rfl rfl (fun h => ?_) (fun h => ?_)
              · have h5 : (((A 78).getD y5.toInt.toNat 0) / 1048576) = 11 := h
                rw [if_pos h5] at hE
                refine w_n 5 (pc1 := 142) (ls1 := [some (.ref 67), some (.int x1), some (.int x2), some (.int y3), some (.int x4), some (.int (y5 + 1)), some (.int (((A 78).getD y5.toInt.toNat 0) / 1048576)), some (.int (((A 78).getD y5.toInt.toNat 0) - ((A 78).getD y5.toInt.toNat 0) / 1048576 * 1048576))]) (st1 := [.int (y3 - 1), .ref 83]) (hp1 := (hz F A L)) rfl ?_
                refine w_al (k := 83) (l := (A 83)) rfl rfl rfl (fun _ => ?_)
                refine w_n 2 (pc1 := 147) (ls1 := [some (.ref 67), some (.int x1), some (.int x2), some (.int y3), some (.int x4), some (.int (y5 + 1)), some (.int (((A 78).getD y5.toInt.toNat 0) / 1048576)), some (.int (((A 78).getD y5.toInt.toNat 0) - ((A 78).getD y5.toInt.toNat 0) / 1048576 * 1048576))]) (st1 := [.int 12, .int (((A 78).getD y5.toInt.toNat 0) / 1048576), .int ((A 83).getD (y3 - 1).toInt.toNat 0)]) (hp1 := (hz F A L)) rfl ?_
                refine w_ne (p3 := 150) rfl rfl (fun h => ?_) (fun h => ?_)
                · have h6 : ¬ (((A 78).getD y5.toInt.toNat 0) / 1048576) = 12 := h
                  rw [if_neg h6] at hE
                  refine w_n 1 (pc1 := 155) (ls1 := [some (.ref 67), some (.int x1), some (.int x2), some (.int y3), some (.int x4), some (.int (y5 + 1)), some (.int (((A 78).getD y5.toInt.toNat 0) / 1048576)), some (.int (((A 78).getD y5.toInt.toNat 0) - ((A 78).getD y5.toInt.toNat 0) / 1048576 * 1048576))]) (st1 := [.int 0, .int ((A 83).getD (y3 - 1).toInt.toNat 0)]) (hp1 := (hz F A L)) rfl ?_
                  refine w_ne (p3 := 158) rfl rfl (fun h => ?_) (fun h => ?_)
                  · have h7 : ¬ ((A 83).getD (y3 - 1).toInt.toNat 0) = 0 := h
                    rw [if_neg h7] at hE
                    refine w_n 6 (pc1 := 16) (ls1 := [some (.ref 67), some (.int x1), some (.int x2), some (.int (y3 - 1)), some (.int x4), some (.int (y5 + 1)), some (.int (((A 78).getD y5.toInt.toNat 0) / 1048576)), some (.int (((A 78).getD y5.toInt.toNat 0) - ((A 78).getD y5.toInt.toNat 0) / 1048576 * 1048576))]) (st1 := []) (hp1 := (hz F A L)) rfl ?_
                    subst T
                    exact ih _ (by omega) (cvQ rfl (funext fun q => if k0 : q = 83 then by subst k0; exact Eq.trans (b := (km_comesTo_16 (A 78) (A 84) x2 x4 m (y3 - 1) (y5 + 1) (A 83)).2) rfl rfl else by unfold uA; simp only [nb1 k0, cond_false]) rfl K)
                  · have h7 : ((A 83).getD (y3 - 1).toInt.toNat 0) = 0 := h
                    rw [if_pos h7] at hE
                    refine w_n 6 (pc1 := 16) (ls1 := [some (.ref 67), some (.int x1), some (.int x2), some (.int y3), some (.int x4), some (.int (x4 + (((A 78).getD y5.toInt.toNat 0) - ((A 78).getD y5.toInt.toNat 0) / 1048576 * 1048576))), some (.int (((A 78).getD y5.toInt.toNat 0) / 1048576)), some (.int (((A 78).getD y5.toInt.toNat 0) - ((A 78).getD y5.toInt.toNat 0) / 1048576 * 1048576))]) (st1 := []) (hp1 := (hz F A L)) rfl ?_
                    subst T
                    exact ih _ (by omega) (cvQ rfl (funext fun q => if k0 : q = 83 then by subst k0; exact Eq.trans (b := (km_comesTo_16 (A 78) (A 84) x2 x4 m y3 (x4 + (((A 78).getD y5.toInt.toNat 0) - ((A 78).getD y5.toInt.toNat 0) / 1048576 * 1048576)) (A 83)).2) rfl rfl else by unfold uA; simp only [nb1 k0, cond_false]) rfl K)
                · have h6 : (((A 78).getD y5.toInt.toNat 0) / 1048576) = 12 := h
                  rw [if_pos h6] at hE
                  refine w_n 2 (pc1 := 155) (ls1 := [some (.ref 67), some (.int x1), some (.int x2), some (.int y3), some (.int x4), some (.int (y5 + 1)), some (.int (((A 78).getD y5.toInt.toNat 0) / 1048576)), some (.int (((A 78).getD y5.toInt.toNat 0) - ((A 78).getD y5.toInt.toNat 0) / 1048576 * 1048576))]) (st1 := [.int 1, .int ((A 83).getD (y3 - 1).toInt.toNat 0)]) (hp1 := (hz F A L)) rfl ?_
                  refine w_ne (p3 := 158) rfl rfl (fun h => ?_) (fun h => ?_)
                  · have h8 : ¬ ((A 83).getD (y3 - 1).toInt.toNat 0) = 1 := h
                    rw [if_neg h8] at hE
                    refine w_n 6 (pc1 := 16) (ls1 := [some (.ref 67), some (.int x1), some (.int x2), some (.int (y3 - 1)), some (.int x4), some (.int (y5 + 1)), some (.int (((A 78).getD y5.toInt.toNat 0) / 1048576)), some (.int (((A 78).getD y5.toInt.toNat 0) - ((A 78).getD y5.toInt.toNat 0) / 1048576 * 1048576))]) (st1 := []) (hp1 := (hz F A L)) rfl ?_
                    subst T
                    exact ih _ (by omega) (cvQ rfl (funext fun q => if k0 : q = 83 then by subst k0; exact Eq.trans (b := (km_comesTo_16 (A 78) (A 84) x2 x4 m (y3 - 1) (y5 + 1) (A 83)).2) rfl rfl else by unfold uA; simp only [nb1 k0, cond_false]) rfl K)
                  · have h8 : ((A 83).getD (y3 - 1).toInt.toNat 0) = 1 := h
                    rw [if_pos h8] at hE
                    refine w_n 6 (pc1 := 16) (ls1 := [some (.ref 67), some (.int x1), some (.int x2), some (.int y3), some (.int x4), some (.int (x4 + (((A 78).getD y5.toInt.toNat 0) - ((A 78).getD y5.toInt.toNat 0) / 1048576 * 1048576))), some (.int (((A 78).getD y5.toInt.toNat 0) / 1048576)), some (.int (((A 78).getD y5.toInt.toNat 0) - ((A 78).getD y5.toInt.toNat 0) / 1048576 * 1048576))]) (st1 := []) (hp1 := (hz F A L)) rfl ?_
                    subst T
                    exact ih _ (by omega) (cvQ rfl (funext fun q => if k0 : q = 83 then by subst k0; exact Eq.trans (b := (km_comesTo_16 (A 78) (A 84) x2 x4 m y3 (x4 + (((A 78).getD y5.toInt.toNat 0) - ((A 78).getD y5.toInt.toNat 0) / 1048576 * 1048576)) (A 83)).2) rfl rfl else by unfold uA; simp only [nb1 k0, cond_false]) rfl K)
              · have h5 : ¬ (((A 78).getD y5.toInt.toNat 0) / 1048576) = 11 := h
                rw [if_neg h5] at hE
                refine w_n 2 (pc1 := 132) (ls1 := [some (.ref 67), some (.int x1), some (.int x2), some (.int y3), some (.int x4), some (.int (y5 + 1)), some (.int (((A 78).getD y5.toInt.toNat 0) / 1048576)), some (.int (((A 78).getD y5.toInt.toNat 0) - ((A 78).getD y5.toInt.toNat 0) / 1048576 * 1048576))]) (st1 := [.int 12, .int (((A 78).getD y5.toInt.toNat 0) / 1048576)]) (hp1 := (hz F A L)) rfl ?_
                refine w_ne (p3 := 135) rfl rfl (fun h => ?_) (fun h => ?_)
                · have h9 : ¬ (((A 78).getD y5.toInt.toNat 0) / 1048576) = 12 := h
                  rw [if_neg h9] at hE
                  refine w_n 6 (pc1 := 182) (ls1 := [some (.ref 67), some (.int x1), some (.int x2), some (.int (y3 - 1)), some (.int x4), some (.int (y5 + 1)), some (.int (((A 78).getD y5.toInt.toNat 0) / 1048576)), some (.int (((A 78).getD y5.toInt.toNat 0) - ((A 78).getD y5.toInt.toNat 0) / 1048576 * 1048576))]) (st1 := [.int 5, .int (((A 78).getD y5.toInt.toNat 0) / 1048576)]) (hp1 := (hz F A L)) rfl ?_
                  refine w_eq (p3 := 185) rfl rfl (fun h => ?_) (fun h => ?_)
                  · have h10 : (((A 78).getD y5.toInt.toNat 0) / 1048576) = 5 := h
                    rw [if_pos h10] at hE
                    refine w_n 3 (pc1 := 197) (ls1 := [some (.ref 67), some (.int x1), some (.int x2), some (.int (y3 - 1)), some (.int x4), some (.int (y5 + 1)), some (.int (((A 78).getD y5.toInt.toNat 0) / 1048576)), some (.int (((A 78).getD y5.toInt.toNat 0) - ((A 78).getD y5.toInt.toNat 0) / 1048576 * 1048576))]) (st1 := [.int (y3 - 1), .ref 83]) (hp1 := (hz F A L)) rfl ?_
                    refine w_al (k := 83) (l := (A 83)) rfl rfl rfl (fun _ => ?_)
                    refine w_zne (p3 := 201) rfl rfl (fun h => ?_) (fun h => ?_)
                    · have h11 : ¬ ((A 83).getD (y3 - 1).toInt.toNat 0) = 0 := h
                      rw [if_neg h11] at hE
                      refine w_n 11 (pc1 := 219) (ls1 := [some (.ref 67), some (.int x1), some (.int x2), some (.int (y3 - 1)), some (.int x4), some (.int (y5 + 1)), some (.int (((A 78).getD y5.toInt.toNat 0) / 1048576)), some (.int (((A 78).getD y5.toInt.toNat 0) - ((A 78).getD y5.toInt.toNat 0) / 1048576 * 1048576))]) (st1 := [.int ((y3 - 1) - 1), .ref 83, .int (((A 78).getD y5.toInt.toNat 0) / 1048576), .int ((y3 - 1) - 1), .ref 83]) (hp1 := (hz F A L)) rfl ?_
                      refine w_al (k := 83) (l := (A 83)) rfl rfl rfl (fun _ => ?_)
                      refine w_n 3 (pc1 := 225) (ls1 := [some (.ref 67), some (.int x1), some (.int x2), some (.int (y3 - 1)), some (.int x4), some (.int (y5 + 1)), some (.int (((A 78).getD y5.toInt.toNat 0) / 1048576)), some (.int (((A 78).getD y5.toInt.toNat 0) - ((A 78).getD y5.toInt.toNat 0) / 1048576 * 1048576))]) (st1 := [.int (y3 - 1), .ref 83, .int ((A 83).getD ((y3 - 1) - 1).toInt.toNat 0), .int (((A 78).getD y5.toInt.toNat 0) / 1048576), .int ((y3 - 1) - 1), .ref 83]) (hp1 := (hz F A L)) rfl ?_
                      refine w_al (k := 83) (l := (A 83)) rfl rfl rfl (fun _ => ?_)
                      refine w_c rfl rfl (t_km_reckon ?_)
                      show wl_E f _ _ mm181.2.2.2.2.2.2.2.2 229 [some (.ref 67), some (.int x1), some (.int x2), some (.int (y3 - 1)), some (.int x4), some (.int (y5 + 1)), some (.int (((A 78).getD y5.toInt.toNat 0) / 1048576)), some (.int (((A 78).getD y5.toInt.toNat 0) - ((A 78).getD y5.toInt.toNat 0) / 1048576 * 1048576))] [.int (km_reckon (((A 78).getD y5.toInt.toNat 0) / 1048576) ((A 83).getD ((y3 - 1) - 1).toInt.toNat 0) ((A 83).getD (y3 - 1).toInt.toNat 0)), .int ((y3 - 1) - 1), .ref 83] (hz F A L) _
                      generalize hG239 : (km_reckon (((A 78).getD y5.toInt.toNat 0) / 1048576) ((A 83).getD ((y3 - 1) - 1).toInt.toNat 0) ((A 83).getD (y3 - 1).toInt.toNat 0)) = G239 at hE ⊢
                      refine w_as (k := 83) (l := (A 83)) (hp1 := (hz F (uA A 83 ((A 83).set ((y3 - 1) - 1).toInt.toNat G239)) L)) rfl rfl rfl (hz_s83 _) (fun _ => ?_)
                      refine w_n 1 (pc1 := 16) (ls1 := [some (.ref 67), some (.int x1), some (.int x2), some (.int (y3 - 1)), some (.int x4), some (.int (y5 + 1)), some (.int (((A 78).getD y5.toInt.toNat 0) / 1048576)), some (.int (((A 78).getD y5.toInt.toNat 0) - ((A 78).getD y5.toInt.toNat 0) / 1048576 * 1048576))]) (st1 := []) (hp1 := (hz F (uA A 83 ((A 83).set ((y3 - 1) - 1).toInt.toNat G239)) L)) rfl ?_
                      subst T
                      exact ih _ (by omega) (cvQ rfl (funext fun q => if k0 : q = 83 then by subst k0; exact Eq.trans (b := (km_comesTo_16 (A 78) (A 84) x2 x4 m (y3 - 1) (y5 + 1) ((A 83).set ((y3 - 1) - 1).toInt.toNat G239)).2) rfl rfl else by unfold uA; simp only [nb1 k0, cond_false]) rfl K)
                    · have h11 : ((A 83).getD (y3 - 1).toInt.toNat 0) = 0 := h
                      rw [if_pos h11] at hE
                      refine w_n 1 (pc1 := 202) (ls1 := [some (.ref 67), some (.int x1), some (.int x2), some (.int (y3 - 1)), some (.int x4), some (.int (y5 + 1)), some (.int (((A 78).getD y5.toInt.toNat 0) / 1048576)), some (.int (((A 78).getD y5.toInt.toNat 0) - ((A 78).getD y5.toInt.toNat 0) / 1048576 * 1048576))]) (st1 := [.int 0]) (hp1 := (hz F A L)) rfl ?_
                      subst T
                      exact w_ri rfl (cvQ rfl (funext fun q => if k0 : q = 83 then by subst k0; exact Eq.trans (b := (A 83)) rfl rfl else by unfold uA; simp only [nb1 k0, cond_false]) rfl K)
                  · have h10 : ¬ (((A 78).getD y5.toInt.toNat 0) / 1048576) = 5 := h
                    rw [if_neg h10] at hE
                    refine w_n 2 (pc1 := 189) (ls1 := [some (.ref 67), some (.int x1), some (.int x2), some (.int (y3 - 1)), some (.int x4), some (.int (y5 + 1)), some (.int (((A 78).getD y5.toInt.toNat 0) / 1048576)), some (.int (((A 78).getD y5.toInt.toNat 0) - ((A 78).getD y5.toInt.toNat 0) / 1048576 * 1048576))]) (st1 := [.int 6, .int (((A 78).getD y5.toInt.toNat 0) / 1048576)]) (hp1 := (hz F A L)) rfl ?_
                    refine w_ne (p3 := 192) rfl rfl (fun h => ?_) (fun h => ?_)
                    · have h12 : ¬ (((A 78).getD y5.toInt.toNat 0) / 1048576) = 6 := h
                      rw [if_neg h12] at hE
                      refine w_n 11 (pc1 := 219) (ls1 := [some (.ref 67), some (.int x1), some (.int x2), some (.int (y3 - 1)), some (.int x4), some (.int (y5 + 1)), some (.int (((A 78).getD y5.toInt.toNat 0) / 1048576)), some (.int (((A 78).getD y5.toInt.toNat 0) - ((A 78).getD y5.toInt.toNat 0) / 1048576 * 1048576))]) (st1 := [.int ((y3 - 1) - 1), .ref 83, .int (((A 78).getD y5.toInt.toNat 0) / 1048576), .int ((y3 - 1) - 1), .ref 83]) (hp1 := (hz F A L)) rfl ?_
                      refine w_al (k := 83) (l := (A 83)) rfl rfl rfl (fun _ => ?_)
                      refine w_n 3 (pc1 := 225) (ls1 := [some (.ref 67), some (.int x1), some (.int x2), some (.int (y3 - 1)), some (.int x4), some (.int (y5 + 1)), some (.int (((A 78).getD y5.toInt.toNat 0) / 1048576)), some (.int (((A 78).getD y5.toInt.toNat 0) - ((A 78).getD y5.toInt.toNat 0) / 1048576 * 1048576))]) (st1 := [.int (y3 - 1), .ref 83, .int ((A 83).getD ((y3 - 1) - 1).toInt.toNat 0), .int (((A 78).getD y5.toInt.toNat 0) / 1048576), .int ((y3 - 1) - 1), .ref 83]) (hp1 := (hz F A L)) rfl ?_
                      refine w_al (k := 83) (l := (A 83)) rfl rfl rfl (fun _ => ?_)
                      refine w_c rfl rfl (t_km_reckon ?_)
                      show wl_E f _ _ mm181.2.2.2.2.2.2.2.2 229 [some (.ref 67), some (.int x1), some (.int x2), some (.int (y3 - 1)), some (.int x4), some (.int (y5 + 1)), some (.int (((A 78).getD y5.toInt.toNat 0) / 1048576)), some (.int (((A 78).getD y5.toInt.toNat 0) - ((A 78).getD y5.toInt.toNat 0) / 1048576 * 1048576))] [.int (km_reckon (((A 78).getD y5.toInt.toNat 0) / 1048576) ((A 83).getD ((y3 - 1) - 1).toInt.toNat 0) ((A 83).getD (y3 - 1).toInt.toNat 0)), .int ((y3 - 1) - 1), .ref 83] (hz F A L) _
                      generalize hG240 : (km_reckon (((A 78).getD y5.toInt.toNat 0) / 1048576) ((A 83).getD ((y3 - 1) - 1).toInt.toNat 0) ((A 83).getD (y3 - 1).toInt.toNat 0)) = G240 at hE ⊢
                      refine w_as (k := 83) (l := (A 83)) (hp1 := (hz F (uA A 83 ((A 83).set ((y3 - 1) - 1).toInt.toNat G240)) L)) rfl rfl rfl (hz_s83 _) (fun _ => ?_)
                      refine w_n 1 (pc1 := 16) (ls1 := [some (.ref 67), some (.int x1), some (.int x2), some (.int (y3 - 1)), some (.int x4), some (.int (y5 + 1)), some (.int (((A 78).getD y5.toInt.toNat 0) / 1048576)), some (.int (((A 78).getD y5.toInt.toNat 0) - ((A 78).getD y5.toInt.toNat 0) / 1048576 * 1048576))]) (st1 := []) (hp1 := (hz F (uA A 83 ((A 83).set ((y3 - 1) - 1).toInt.toNat G240)) L)) rfl ?_
                      subst T
                      exact ih _ (by omega) (cvQ rfl (funext fun q => if k0 : q = 83 then by subst k0; exact Eq.trans (b := (km_comesTo_16 (A 78) (A 84) x2 x4 m (y3 - 1) (y5 + 1) ((A 83).set ((y3 - 1) - 1).toInt.toNat G240)).2) rfl rfl else by unfold uA; simp only [nb1 k0, cond_false]) rfl K)
                    · have h12 : (((A 78).getD y5.toInt.toNat 0) / 1048576) = 6 := h
                      rw [if_pos h12] at hE
                      refine w_n 3 (pc1 := 197) (ls1 := [some (.ref 67), some (.int x1), some (.int x2), some (.int (y3 - 1)), some (.int x4), some (.int (y5 + 1)), some (.int (((A 78).getD y5.toInt.toNat 0) / 1048576)), some (.int (((A 78).getD y5.toInt.toNat 0) - ((A 78).getD y5.toInt.toNat 0) / 1048576 * 1048576))]) (st1 := [.int (y3 - 1), .ref 83]) (hp1 := (hz F A L)) rfl ?_
                      refine w_al (k := 83) (l := (A 83)) rfl rfl rfl (fun _ => ?_)
                      refine w_zne (p3 := 201) rfl rfl (fun h => ?_) (fun h => ?_)
                      · have h13 : ¬ ((A 83).getD (y3 - 1).toInt.toNat 0) = 0 := h
                        rw [if_neg h13] at hE
                        refine w_n 11 (pc1 := 219) (ls1 := [some (.ref 67), some (.int x1), some (.int x2), some (.int (y3 - 1)), some (.int x4), some (.int (y5 + 1)), some (.int (((A 78).getD y5.toInt.toNat 0) / 1048576)), some (.int (((A 78).getD y5.toInt.toNat 0) - ((A 78).getD y5.toInt.toNat 0) / 1048576 * 1048576))]) (st1 := [.int ((y3 - 1) - 1), .ref 83, .int (((A 78).getD y5.toInt.toNat 0) / 1048576), .int ((y3 - 1) - 1), .ref 83]) (hp1 := (hz F A L)) rfl ?_
                        refine w_al (k := 83) (l := (A 83)) rfl rfl rfl (fun _ => ?_)
                        refine w_n 3 (pc1 := 225) (ls1 := [some (.ref 67), some (.int x1), some (.int x2), some (.int (y3 - 1)), some (.int x4), some (.int (y5 + 1)), some (.int (((A 78).getD y5.toInt.toNat 0) / 1048576)), some (.int (((A 78).getD y5.toInt.toNat 0) - ((A 78).getD y5.toInt.toNat 0) / 1048576 * 1048576))]) (st1 := [.int (y3 - 1), .ref 83, .int ((A 83).getD ((y3 - 1) - 1).toInt.toNat 0), .int (((A 78).getD y5.toInt.toNat 0) / 1048576), .int ((y3 - 1) - 1), .ref 83]) (hp1 := (hz F A L)) rfl ?_
                        refine w_al (k := 83) (l := (A 83)) rfl rfl rfl (fun _ => ?_)
                        refine w_c rfl rfl (t_km_reckon ?_)
                        show wl_E f _ _ mm181.2.2.2.2.2.2.2.2 229 [some (.ref 67), some (.int x1), some (.int x2), some (.int (y3 - 1)), some (.int x4), some (.int (y5 + 1)), some (.int (((A 78).getD y5.toInt.toNat 0) / 1048576)), some (.int (((A 78).getD y5.toInt.toNat 0) - ((A 78).getD y5.toInt.toNat 0) / 1048576 * 1048576))] [.int (km_reckon (((A 78).getD y5.toInt.toNat 0) / 1048576) ((A 83).getD ((y3 - 1) - 1).toInt.toNat 0) ((A 83).getD (y3 - 1).toInt.toNat 0)), .int ((y3 - 1) - 1), .ref 83] (hz F A L) _
                        generalize hG241 : (km_reckon (((A 78).getD y5.toInt.toNat 0) / 1048576) ((A 83).getD ((y3 - 1) - 1).toInt.toNat 0) ((A 83).getD (y3 - 1).toInt.toNat 0)) = G241 at hE ⊢
                        refine w_as (k := 83) (l := (A 83)) (hp1 := (hz F (uA A 83 ((A 83).set ((y3 - 1) - 1).toInt.toNat G241)) L)) rfl rfl rfl (hz_s83 _) (fun _ => ?_)
                        refine w_n 1 (pc1 := 16) (ls1 := [some (.ref 67), some (.int x1), some (.int x2), some (.int (y3 - 1)), some (.int x4), some (.int (y5 + 1)), some (.int (((A 78).getD y5.toInt.toNat 0) / 1048576)), some (.int (((A 78).getD y5.toInt.toNat 0) - ((A 78).getD y5.toInt.toNat 0) / 1048576 * 1048576))]) (st1 := []) (hp1 := (hz F (uA A 83 ((A 83).set ((y3 - 1) - 1).toInt.toNat G241)) L)) rfl ?_
                        subst T
                        exact ih _ (by omega) (cvQ rfl (funext fun q => if k0 : q = 83 then by subst k0; exact Eq.trans (b := (km_comesTo_16 (A 78) (A 84) x2 x4 m (y3 - 1) (y5 + 1) ((A 83).set ((y3 - 1) - 1).toInt.toNat G241)).2) rfl rfl else by unfold uA; simp only [nb1 k0, cond_false]) rfl K)
                      · have h13 : ((A 83).getD (y3 - 1).toInt.toNat 0) = 0 := h
                        rw [if_pos h13] at hE
                        refine w_n 1 (pc1 := 202) (ls1 := [some (.ref 67), some (.int x1), some (.int x2), some (.int (y3 - 1)), some (.int x4), some (.int (y5 + 1)), some (.int (((A 78).getD y5.toInt.toNat 0) / 1048576)), some (.int (((A 78).getD y5.toInt.toNat 0) - ((A 78).getD y5.toInt.toNat 0) / 1048576 * 1048576))]) (st1 := [.int 0]) (hp1 := (hz F A L)) rfl ?_
                        subst T
                        exact w_ri rfl (cvQ rfl (funext fun q => if k0 : q = 83 then by subst k0; exact Eq.trans (b := (A 83)) rfl rfl else by unfold uA; simp only [nb1 k0, cond_false]) rfl K)
                · have h9 : (((A 78).getD y5.toInt.toNat 0) / 1048576) = 12 := h
                  rw [if_pos h9] at hE
                  refine w_n 5 (pc1 := 142) (ls1 := [some (.ref 67), some (.int x1), some (.int x2), some (.int y3), some (.int x4), some (.int (y5 + 1)), some (.int (((A 78).getD y5.toInt.toNat 0) / 1048576)), some (.int (((A 78).getD y5.toInt.toNat 0) - ((A 78).getD y5.toInt.toNat 0) / 1048576 * 1048576))]) (st1 := [.int (y3 - 1), .ref 83]) (hp1 := (hz F A L)) rfl ?_
                  refine w_al (k := 83) (l := (A 83)) rfl rfl rfl (fun _ => ?_)
                  refine w_n 2 (pc1 := 147) (ls1 := [some (.ref 67), some (.int x1), some (.int x2), some (.int y3), some (.int x4), some (.int (y5 + 1)), some (.int (((A 78).getD y5.toInt.toNat 0) / 1048576)), some (.int (((A 78).getD y5.toInt.toNat 0) - ((A 78).getD y5.toInt.toNat 0) / 1048576 * 1048576))]) (st1 := [.int 12, .int (((A 78).getD y5.toInt.toNat 0) / 1048576), .int ((A 83).getD (y3 - 1).toInt.toNat 0)]) (hp1 := (hz F A L)) rfl ?_
                  refine w_ne (p3 := 150) rfl rfl (fun h => absurd h9 h) (fun _ => ?_)
                  refine w_n 2 (pc1 := 155) (ls1 := [some (.ref 67), some (.int x1), some (.int x2), some (.int y3), some (.int x4), some (.int (y5 + 1)), some (.int (((A 78).getD y5.toInt.toNat 0) / 1048576)), some (.int (((A 78).getD y5.toInt.toNat 0) - ((A 78).getD y5.toInt.toNat 0) / 1048576 * 1048576))]) (st1 := [.int 1, .int ((A 83).getD (y3 - 1).toInt.toNat 0)]) (hp1 := (hz F A L)) rfl ?_
                  refine w_ne (p3 := 158) rfl rfl (fun h => ?_) (fun h => ?_)
                  · have h14 : ¬ ((A 83).getD (y3 - 1).toInt.toNat 0) = 1 := h
                    rw [if_neg h14] at hE
                    refine w_n 6 (pc1 := 16) (ls1 := [some (.ref 67), some (.int x1), some (.int x2), some (.int (y3 - 1)), some (.int x4), some (.int (y5 + 1)), some (.int (((A 78).getD y5.toInt.toNat 0) / 1048576)), some (.int (((A 78).getD y5.toInt.toNat 0) - ((A 78).getD y5.toInt.toNat 0) / 1048576 * 1048576))]) (st1 := []) (hp1 := (hz F A L)) rfl ?_
                    subst T
                    exact ih _ (by omega) (cvQ rfl (funext fun q => if k0 : q = 83 then by subst k0; exact Eq.trans (b := (km_comesTo_16 (A 78) (A 84) x2 x4 m (y3 - 1) (y5 + 1) (A 83)).2) rfl rfl else by unfold uA; simp only [nb1 k0, cond_false]) rfl K)
                  · have h14 : ((A 83).getD (y3 - 1).toInt.toNat 0) = 1 := h
                    rw [if_pos h14] at hE
                    refine w_n 6 (pc1 := 16) (ls1 := [some (.ref 67), some (.int x1), some (.int x2), some (.int y3), some (.int x4), some (.int (x4 + (((A 78).getD y5.toInt.toNat 0) - ((A 78).getD y5.toInt.toNat 0) / 1048576 * 1048576))), some (.int (((A 78).getD y5.toInt.toNat 0) / 1048576)), some (.int (((A 78).getD y5.toInt.toNat 0) - ((A 78).getD y5.toInt.toNat 0) / 1048576 * 1048576))]) (st1 := []) (hp1 := (hz F A L)) rfl ?_
                    subst T
                    exact ih _ (by omega) (cvQ rfl (funext fun q => if k0 : q = 83 then by subst k0; exact Eq.trans (b := (km_comesTo_16 (A 78) (A 84) x2 x4 m y3 (x4 + (((A 78).getD y5.toInt.toNat 0) - ((A 78).getD y5.toInt.toNat 0) / 1048576 * 1048576)) (A 83)).2) rfl rfl else by unfold uA; simp only [nb1 k0, cond_false]) rfl K)
            · have h4 : (((A 78).getD y5.toInt.toNat 0) / 1048576) = 10 := h
              rw [if_pos h4] at hE
              refine w_n 11 (pc1 := 115) (ls1 := [some (.ref 67), some (.int x1), some (.int x2), some (.int y3), some (.int x4), some (.int (y5 + 1)), some (.int (((A 78).getD y5.toInt.toNat 0) / 1048576)), some (.int (((A 78).getD y5.toInt.toNat 0) - ((A 78).getD y5.toInt.toNat 0) / 1048576 * 1048576))]) (st1 := [.int (y3 - 1), .ref 83, .int 1, .int (y3 - 1), .ref 83]) (hp1 := (hz F A L)) rfl ?_
              refine w_al (k := 83) (l := (A 83)) rfl rfl rfl (fun _ => ?_)
              refine w_n 1 (pc1 := 117) (ls1 := [some (.ref 67), some (.int x1), some (.int x2), some (.int y3), some (.int x4), some (.int (y5 + 1)), some (.int (((A 78).getD y5.toInt.toNat 0) / 1048576)), some (.int (((A 78).getD y5.toInt.toNat 0) - ((A 78).getD y5.toInt.toNat 0) / 1048576 * 1048576))]) (st1 := [.int (1 - ((A 83).getD (y3 - 1).toInt.toNat 0)), .int (y3 - 1), .ref 83]) (hp1 := (hz F A L)) rfl ?_
              refine w_as (k := 83) (l := (A 83)) (hp1 := (hz F (uA A 83 ((A 83).set (y3 - 1).toInt.toNat (1 - ((A 83).getD (y3 - 1).toInt.toNat 0)))) L)) rfl rfl rfl (hz_s83 _) (fun _ => ?_)
              refine w_n 2 (pc1 := 16) (ls1 := [some (.ref 67), some (.int x1), some (.int x2), some (.int y3), some (.int x4), some (.int (y5 + 1)), some (.int (((A 78).getD y5.toInt.toNat 0) / 1048576)), some (.int (((A 78).getD y5.toInt.toNat 0) - ((A 78).getD y5.toInt.toNat 0) / 1048576 * 1048576))]) (st1 := []) (hp1 := (hz F (uA A 83 ((A 83).set (y3 - 1).toInt.toNat (1 - ((A 83).getD (y3 - 1).toInt.toNat 0)))) L)) rfl ?_
              subst T
              exact ih _ (by omega) (cvQ rfl (funext fun q => if k0 : q = 83 then by subst k0; exact Eq.trans (b := (km_comesTo_16 (A 78) (A 84) x2 x4 m y3 (y5 + 1) ((A 83).set (y3 - 1).toInt.toNat (1 - ((A 83).getD (y3 - 1).toInt.toNat 0)))).2) rfl rfl else by unfold uA; simp only [nb1 k0, cond_false]) rfl K)
          · have h3 : (((A 78).getD y5.toInt.toNat 0) / 1048576) = 1 := h
            rw [if_pos h3] at hE
            refine w_n 4 (pc1 := 70) (ls1 := [some (.ref 67), some (.int x1), some (.int x2), some (.int y3), some (.int x4), some (.int (y5 + 1)), some (.int (((A 78).getD y5.toInt.toNat 0) / 1048576)), some (.int (((A 78).getD y5.toInt.toNat 0) - ((A 78).getD y5.toInt.toNat 0) / 1048576 * 1048576))]) (st1 := [.int (((A 78).getD y5.toInt.toNat 0) / 1048576), .int y3, .ref 83]) (hp1 := (hz F A L)) rfl ?_
            refine w_zne (p3 := 73) rfl rfl (fun _ => ?_) (fun h => absurd h h2)
            refine w_n 3 (pc1 := 84) (ls1 := [some (.ref 67), some (.int x1), some (.int x2), some (.int y3), some (.int x4), some (.int (y5 + 1)), some (.int (((A 78).getD y5.toInt.toNat 0) / 1048576)), some (.int (((A 78).getD y5.toInt.toNat 0) - ((A 78).getD y5.toInt.toNat 0) / 1048576 * 1048576))]) (st1 := [.int (((A 78).getD y5.toInt.toNat 0) - ((A 78).getD y5.toInt.toNat 0) / 1048576 * 1048576), .ref 84, .int y3, .ref 83]) (hp1 := (hz F A L)) rfl ?_
            refine w_al (k := 84) (l := (A 84)) rfl rfl rfl (fun _ => ?_)
            refine w_as (k := 83) (l := (A 83)) (hp1 := (hz F (uA A 83 ((A 83).set y3.toInt.toNat ((A 84).getD (((A 78).getD y5.toInt.toNat 0) - ((A 78).getD y5.toInt.toNat 0) / 1048576 * 1048576).toInt.toNat 0))) L)) rfl rfl rfl (hz_s83 _) (fun _ => ?_)
            refine w_n 6 (pc1 := 16) (ls1 := [some (.ref 67), some (.int x1), some (.int x2), some (.int (y3 + 1)), some (.int x4), some (.int (y5 + 1)), some (.int (((A 78).getD y5.toInt.toNat 0) / 1048576)), some (.int (((A 78).getD y5.toInt.toNat 0) - ((A 78).getD y5.toInt.toNat 0) / 1048576 * 1048576))]) (st1 := []) (hp1 := (hz F (uA A 83 ((A 83).set y3.toInt.toNat ((A 84).getD (((A 78).getD y5.toInt.toNat 0) - ((A 78).getD y5.toInt.toNat 0) / 1048576 * 1048576).toInt.toNat 0))) L)) rfl ?_
            subst T
            exact ih _ (by omega) (cvQ rfl (funext fun q => if k0 : q = 83 then by subst k0; exact Eq.trans (b := (km_comesTo_16 (A 78) (A 84) x2 x4 m (y3 + 1) (y5 + 1) ((A 83).set y3.toInt.toNat ((A 84).getD (((A 78).getD y5.toInt.toNat 0) - ((A 78).getD y5.toInt.toNat 0) / 1048576 * 1048576).toInt.toNat 0))).2) rfl rfl else by unfold uA; simp only [nb1 k0, cond_false]) rfl K)
noncomputable def km_comesTo (f : Nat) (a78 : List Int32) (a83 : List Int32) (a84 : List Int32) (x1 : Int32) (x2 : Int32) : Int32 × List Int32 := (km_comesTo_16 a78 a84 x2 (260 * (x1 / 260)) f 0 x1 a83)
theorem t_km_comesTo {f D : Nat} {F : Nat → Nat → Int32} {A : Nat → List Int32} {L : Nat → List Int64} {Q : Option Value → sm_H → Prop} {x1 : Int32} {x2 : Int32} (K : Q (some (.int ((km_comesTo f (A 78) (A 83) (A 84) x1 x2).1))) (hz F (uA A 83 ((km_comesTo f (A 78) (A 83) (A 84) x1 x2).2)) L)) : wl_M f D 181 [.ref 67, .int x1, .int x2] (hz F A L) Q := by
  generalize hT : (km_comesTo f (A 78) (A 83) (A 84) x1 x2) = T at K
  have hE : T = (km_comesTo_16 (A 78) (A 84) x2 (260 * (x1 / 260)) f 0 x1 (A 83)) := hT.symm
  clear hT
  refine w_m (E := mm181) rfl ?_
  show wl_E f f (D - 1) mm181.2.2.2.2.2.2.2.2 0 [some (.ref 67), some (.int x1), some (.int x2), none, none, none, none, none] [] (hz F A L) Q
  refine w_n 5 (pc1 := 9) (ls1 := [some (.ref 67), some (.int x1), some (.int x2), some (.int 0), none, none, none, none]) (st1 := [.int 260, .int x1, .int 260]) (hp1 := (hz F A L)) rfl ?_
  refine w_dv rfl rfl (fun _ => ?_)
  refine w_n 4 (pc1 := 16) (ls1 := [some (.ref 67), some (.int x1), some (.int x2), some (.int 0), some (.int (260 * (x1 / 260))), some (.int x1), none, none]) (st1 := []) (hp1 := (hz F A L)) rfl ?_
  subst T
  exact t_km_comesTo_16 _ _ (Nat.le_refl _) (cvQ rfl (funext fun q => if k0 : q = 83 then by subst k0; exact Eq.trans (b := (km_comesTo_16 (A 78) (A 84) x2 (260 * (x1 / 260)) f 0 x1 (A 83)).2) rfl rfl else by unfold uA; simp only [nb1 k0, cond_false]) rfl K)
noncomputable def km_byLaw_2 (f : Nat) (a78 : List Int32) (a79 : List Int32) (a80 : List Int32) (a81 : List Int32) (a82 : List Int32) (a84 : List Int32) (x1 : Int32) (x2 : Int32) : Nat → Int32 → List Int32 → Int32 × List Int32
  | 0, _, a83 => (0, a83)
  | m + 1, y3, a83 => (if (a79.getD y3.toInt.toNat 0) = x1 then (if (km_comesTo f a78 a83 a84 (a81.getD y3.toInt.toNat 0) (a82.getD y3.toInt.toNat 0)).1 = 1 then (if (km_comesTo f a78 (km_comesTo f a78 a83 a84 (a81.getD y3.toInt.toNat 0) (a82.getD y3.toInt.toNat 0)).2 a84 (a80.getD y3.toInt.toNat 0) (a81.getD y3.toInt.toNat 0)).1.toInt < 0 then (0, (km_comesTo f a78 (km_comesTo f a78 a83 a84 (a81.getD y3.toInt.toNat 0) (a82.getD y3.toInt.toNat 0)).2 a84 (a80.getD y3.toInt.toNat 0) (a81.getD y3.toInt.toNat 0)).2) else (if x2.toInt < (km_comesTo f a78 (km_comesTo f a78 a83 a84 (a81.getD y3.toInt.toNat 0) (a82.getD y3.toInt.toNat 0)).2 a84 (a80.getD y3.toInt.toNat 0) (a81.getD y3.toInt.toNat 0)).1.toInt then (x2, (km_comesTo f a78 (km_comesTo f a78 a83 a84 (a81.getD y3.toInt.toNat 0) (a82.getD y3.toInt.toNat 0)).2 a84 (a80.getD y3.toInt.toNat 0) (a81.getD y3.toInt.toNat 0)).2) else ((km_comesTo f a78 (km_comesTo f a78 a83 a84 (a81.getD y3.toInt.toNat 0) (a82.getD y3.toInt.toNat 0)).2 a84 (a80.getD y3.toInt.toNat 0) (a81.getD y3.toInt.toNat 0)).1, (km_comesTo f a78 (km_comesTo f a78 a83 a84 (a81.getD y3.toInt.toNat 0) (a82.getD y3.toInt.toNat 0)).2 a84 (a80.getD y3.toInt.toNat 0) (a81.getD y3.toInt.toNat 0)).2))) else (km_byLaw_2 f a78 a79 a80 a81 a82 a84 x1 x2 m (y3 + 1) (km_comesTo f a78 a83 a84 (a81.getD y3.toInt.toNat 0) (a82.getD y3.toInt.toNat 0)).2)) else (km_byLaw_2 f a78 a79 a80 a81 a82 a84 x1 x2 m (y3 + 1) a83))
theorem t_km_byLaw_2 {f : Nat} {Q : Option Value → sm_H → Prop} : ∀ (m : Nat) {B D : Nat} {F : Nat → Nat → Int32} {A : Nat → List Int32} {L : Nat → List Int64} {x1 : Int32} {x2 : Int32} {y3 : Int32} {o4 : Option Value}, m = ((F 67 17).toInt - y3.toInt).toNat → (Q (some (.int ((km_byLaw_2 f (A 78) (A 79) (A 80) (A 81) (A 82) (A 84) x1 x2 m y3 (A 83)).1))) (hz F (uA A 83 ((km_byLaw_2 f (A 78) (A 79) (A 80) (A 81) (A 82) (A 84) x1 x2 m y3 (A 83)).2)) L)) → wl_E f B D mm180.2.2.2.2.2.2.2.2 2 [some (.ref 67), some (.int x1), some (.int x2), some (.int y3), o4] [] (hz F A L) Q := by
  intro m
  induction m with
  | zero =>
    intro B D F A L x1 x2 y3 o4 hm K
    generalize hT : (km_byLaw_2 f (A 78) (A 79) (A 80) (A 81) (A 82) (A 84) x1 x2 0 y3 (A 83)) = T at K
    have hE : T = (0, (A 83)) := hT.symm
    clear hT
    refine w_n 3 (pc1 := 7) (ls1 := [some (.ref 67), some (.int x1), some (.int x2), some (.int y3), o4]) (st1 := [.int (F 67 17), .int y3]) (hp1 := (hz F A L)) rfl ?_
    refine w_ge (p3 := 10) rfl rfl (fun hb => ?_) (fun h => False.elim (by have h : y3.toInt < (F 67 17).toInt := h; omega))
    refine w_n 1 (pc1 := 90) (ls1 := [some (.ref 67), some (.int x1), some (.int x2), some (.int y3), o4]) (st1 := [.int 0]) (hp1 := (hz F A L)) rfl ?_
    subst T
    exact w_ri rfl (cvQ rfl (funext fun q => if k0 : q = 83 then by subst k0; exact Eq.trans (b := (A 83)) rfl rfl else by unfold uA; simp only [nb1 k0, cond_false]) rfl K)
  | succ m ih =>
    intro B D F A L x1 x2 y3 o4 hm K
    generalize hT : (km_byLaw_2 f (A 78) (A 79) (A 80) (A 81) (A 82) (A 84) x1 x2 (m + 1) y3 (A 83)) = T at K
    have hE : T = (if ((A 79).getD y3.toInt.toNat 0) = x1 then (if (km_comesTo f (A 78) (A 83) (A 84) ((A 81).getD y3.toInt.toNat 0) ((A 82).getD y3.toInt.toNat 0)).1 = 1 then (if (km_comesTo f (A 78) (km_comesTo f (A 78) (A 83) (A 84) ((A 81).getD y3.toInt.toNat 0) ((A 82).getD y3.toInt.toNat 0)).2 (A 84) ((A 80).getD y3.toInt.toNat 0) ((A 81).getD y3.toInt.toNat 0)).1.toInt < 0 then (0, (km_comesTo f (A 78) (km_comesTo f (A 78) (A 83) (A 84) ((A 81).getD y3.toInt.toNat 0) ((A 82).getD y3.toInt.toNat 0)).2 (A 84) ((A 80).getD y3.toInt.toNat 0) ((A 81).getD y3.toInt.toNat 0)).2) else (if x2.toInt < (km_comesTo f (A 78) (km_comesTo f (A 78) (A 83) (A 84) ((A 81).getD y3.toInt.toNat 0) ((A 82).getD y3.toInt.toNat 0)).2 (A 84) ((A 80).getD y3.toInt.toNat 0) ((A 81).getD y3.toInt.toNat 0)).1.toInt then (x2, (km_comesTo f (A 78) (km_comesTo f (A 78) (A 83) (A 84) ((A 81).getD y3.toInt.toNat 0) ((A 82).getD y3.toInt.toNat 0)).2 (A 84) ((A 80).getD y3.toInt.toNat 0) ((A 81).getD y3.toInt.toNat 0)).2) else ((km_comesTo f (A 78) (km_comesTo f (A 78) (A 83) (A 84) ((A 81).getD y3.toInt.toNat 0) ((A 82).getD y3.toInt.toNat 0)).2 (A 84) ((A 80).getD y3.toInt.toNat 0) ((A 81).getD y3.toInt.toNat 0)).1, (km_comesTo f (A 78) (km_comesTo f (A 78) (A 83) (A 84) ((A 81).getD y3.toInt.toNat 0) ((A 82).getD y3.toInt.toNat 0)).2 (A 84) ((A 80).getD y3.toInt.toNat 0) ((A 81).getD y3.toInt.toNat 0)).2))) else (km_byLaw_2 f (A 78) (A 79) (A 80) (A 81) (A 82) (A 84) x1 x2 m (y3 + 1) (km_comesTo f (A 78) (A 83) (A 84) ((A 81).getD y3.toInt.toNat 0) ((A 82).getD y3.toInt.toNat 0)).2)) else (km_byLaw_2 f (A 78) (A 79) (A 80) (A 81) (A 82) (A 84) x1 x2 m (y3 + 1) (A 83))) := hT.symm
    clear hT
    refine w_n 3 (pc1 := 7) (ls1 := [some (.ref 67), some (.int x1), some (.int x2), some (.int y3), o4]) (st1 := [.int (F 67 17), .int y3]) (hp1 := (hz F A L)) rfl ?_
    refine w_ge (p3 := 10) rfl rfl (fun h => False.elim (by have h : (F 67 17).toInt ≤ y3.toInt := h; omega)) (fun hb => ?_)
    refine w_n 3 (pc1 := 15) (ls1 := [some (.ref 67), some (.int x1), some (.int x2), some (.int y3), o4]) (st1 := [.int y3, .ref 79]) (hp1 := (hz F A L)) rfl ?_
    refine w_al (k := 79) (l := (A 79)) rfl rfl rfl (fun ab => ?_)
    refine w_n 1 (pc1 := 17) (ls1 := [some (.ref 67), some (.int x1), some (.int x2), some (.int y3), o4]) (st1 := [.int x1, .int ((A 79).getD y3.toInt.toNat 0)]) (hp1 := (hz F A L)) rfl ?_
    refine w_ne (p3 := 20) rfl rfl (fun h => ?_) (fun h => ?_)
    · have h1 : ¬ ((A 79).getD y3.toInt.toNat 0) = x1 := h
      rw [if_neg h1] at hE
      refine w_n 2 (pc1 := 2) (ls1 := [some (.ref 67), some (.int x1), some (.int x2), some (.int (y3 + 1)), o4]) (st1 := []) (hp1 := (hz F A L)) rfl ?_
      subst T
      have hb2 := i_up (B := (F 67 17)) hb
      have hb3 : y3.toInt < (F 67 17).toInt := hb
      exact ih (show m = ((F 67 17).toInt - (y3 + 1).toInt).toNat by rw [hb2]; omega) (cvQ rfl (funext fun q => if k0 : q = 83 then by subst k0; exact Eq.trans (b := (km_byLaw_2 f (A 78) (A 79) (A 80) (A 81) (A 82) (A 84) x1 x2 m (y3 + 1) (A 83)).2) rfl rfl else by unfold uA; simp only [nb1 k0, cond_false]) rfl K)
    · have h1 : ((A 79).getD y3.toInt.toNat 0) = x1 := h
      rw [if_pos h1] at hE
      refine w_n 4 (pc1 := 26) (ls1 := [some (.ref 67), some (.int x1), some (.int x2), some (.int y3), o4]) (st1 := [.int y3, .ref 81, .ref 67]) (hp1 := (hz F A L)) rfl ?_
      refine w_al (k := 81) (l := (A 81)) rfl rfl rfl (fun ab => ?_)
      refine w_n 3 (pc1 := 32) (ls1 := [some (.ref 67), some (.int x1), some (.int x2), some (.int y3), o4]) (st1 := [.int y3, .ref 82, .int ((A 81).getD y3.toInt.toNat 0), .ref 67]) (hp1 := (hz F A L)) rfl ?_
      refine w_al (k := 82) (l := (A 82)) rfl rfl rfl (fun ab => ?_)
      refine w_c rfl rfl (t_km_comesTo ?_)
      show wl_E f _ _ mm180.2.2.2.2.2.2.2.2 36 [some (.ref 67), some (.int x1), some (.int x2), some (.int y3), o4] [.int (km_comesTo f (A 78) (A 83) (A 84) ((A 81).getD y3.toInt.toNat 0) ((A 82).getD y3.toInt.toNat 0)).1] (hz F (uA A 83 (km_comesTo f (A 78) (A 83) (A 84) ((A 81).getD y3.toInt.toNat 0) ((A 82).getD y3.toInt.toNat 0)).2) L) _
      generalize hG242 : (km_comesTo f (A 78) (A 83) (A 84) ((A 81).getD y3.toInt.toNat 0) ((A 82).getD y3.toInt.toNat 0)) = G242 at hE ⊢
      refine w_n 1 (pc1 := 37) (ls1 := [some (.ref 67), some (.int x1), some (.int x2), some (.int y3), o4]) (st1 := [.int 1, .int G242.1]) (hp1 := (hz F (uA A 83 G242.2) L)) rfl ?_
      refine w_eq (p3 := 40) rfl rfl (fun h => ?_) (fun h => ?_)
      · have h2 : G242.1 = 1 := h
        rw [if_pos h2] at hE
        refine w_n 4 (pc1 := 49) (ls1 := [some (.ref 67), some (.int x1), some (.int x2), some (.int y3), o4]) (st1 := [.int y3, .ref 80, .ref 67]) (hp1 := (hz F (uA A 83 G242.2) L)) rfl ?_
        refine w_al (k := 80) (l := (A 80)) rfl rfl rfl (fun ab => ?_)
        refine w_n 3 (pc1 := 55) (ls1 := [some (.ref 67), some (.int x1), some (.int x2), some (.int y3), o4]) (st1 := [.int y3, .ref 81, .int ((A 80).getD y3.toInt.toNat 0), .ref 67]) (hp1 := (hz F (uA A 83 G242.2) L)) rfl ?_
        refine w_al (k := 81) (l := (A 81)) rfl rfl rfl (fun ab => ?_)
        refine w_c rfl rfl (t_km_comesTo ?_)
        show wl_E f _ _ mm180.2.2.2.2.2.2.2.2 59 [some (.ref 67), some (.int x1), some (.int x2), some (.int y3), o4] [.int (km_comesTo f (A 78) G242.2 (A 84) ((A 80).getD y3.toInt.toNat 0) ((A 81).getD y3.toInt.toNat 0)).1] (hz F (uA (uA A 83 G242.2) 83 (km_comesTo f (A 78) G242.2 (A 84) ((A 80).getD y3.toInt.toNat 0) ((A 81).getD y3.toInt.toNat 0)).2) L) _
        generalize hG243 : (km_comesTo f (A 78) G242.2 (A 84) ((A 80).getD y3.toInt.toNat 0) ((A 81).getD y3.toInt.toNat 0)) = G243 at hE ⊢
        refine w_n 2 (pc1 := 63) (ls1 := [some (.ref 67), some (.int x1), some (.int x2), some (.int y3), some (.int G243.1)]) (st1 := [.int G243.1]) (hp1 := (hz F (uA (uA A 83 G242.2) 83 G243.2) L)) rfl ?_
        refine w_zge (p3 := 66) rfl rfl (fun h => ?_) (fun h => ?_)
        · have h3 : 0 ≤ G243.1.toInt := h
          rw [if_neg (Int.not_lt.mpr h3)] at hE
          refine w_n 2 (pc1 := 73) (ls1 := [some (.ref 67), some (.int x1), some (.int x2), some (.int y3), some (.int G243.1)]) (st1 := [.int x2, .int G243.1]) (hp1 := (hz F (uA (uA A 83 G242.2) 83 G243.2) L)) rfl ?_
          refine w_le (p3 := 76) rfl rfl (fun h => ?_) (fun h => ?_)
          · have h4 : G243.1.toInt ≤ x2.toInt := h
            rw [if_neg (Int.not_lt.mpr h4)] at hE
            refine w_n 1 (pc1 := 82) (ls1 := [some (.ref 67), some (.int x1), some (.int x2), some (.int y3), some (.int G243.1)]) (st1 := [.int G243.1]) (hp1 := (hz F (uA (uA A 83 G242.2) 83 G243.2) L)) rfl ?_
            subst T
            exact w_ri rfl (cvQ rfl (funext fun q => if k0 : q = 83 then by subst k0; exact Eq.trans (b := G243.2) rfl rfl else by unfold uA; simp only [nb1 k0, cond_false]) rfl K)
          · have h4 : x2.toInt < G243.1.toInt := h
            rw [if_pos h4] at hE
            refine w_n 2 (pc1 := 82) (ls1 := [some (.ref 67), some (.int x1), some (.int x2), some (.int y3), some (.int G243.1)]) (st1 := [.int x2]) (hp1 := (hz F (uA (uA A 83 G242.2) 83 G243.2) L)) rfl ?_
            subst T
            exact w_ri rfl (cvQ rfl (funext fun q => if k0 : q = 83 then by subst k0; exact Eq.trans (b := G243.2) rfl rfl else by unfold uA; simp only [nb1 k0, cond_false]) rfl K)
        · have h3 : G243.1.toInt < 0 := h
          rw [if_pos h3] at hE
          refine w_n 2 (pc1 := 82) (ls1 := [some (.ref 67), some (.int x1), some (.int x2), some (.int y3), some (.int G243.1)]) (st1 := [.int 0]) (hp1 := (hz F (uA (uA A 83 G242.2) 83 G243.2) L)) rfl ?_
          subst T
          exact w_ri rfl (cvQ rfl (funext fun q => if k0 : q = 83 then by subst k0; exact Eq.trans (b := G243.2) rfl rfl else by unfold uA; simp only [nb1 k0, cond_false]) rfl K)
      · have h2 : ¬ G242.1 = 1 := h
        rw [if_neg h2] at hE
        refine w_n 3 (pc1 := 2) (ls1 := [some (.ref 67), some (.int x1), some (.int x2), some (.int (y3 + 1)), o4]) (st1 := []) (hp1 := (hz F (uA A 83 G242.2) L)) rfl ?_
        subst T
        have hb2 := i_up (B := (F 67 17)) hb
        have hb3 : y3.toInt < (F 67 17).toInt := hb
        exact ih (show m = ((F 67 17).toInt - (y3 + 1).toInt).toNat by rw [hb2]; omega) (cvQ rfl (funext fun q => if k0 : q = 83 then by subst k0; exact Eq.trans (b := (km_byLaw_2 f (A 78) (A 79) (A 80) (A 81) (A 82) (A 84) x1 x2 m (y3 + 1) G242.2).2) rfl rfl else by unfold uA; simp only [nb1 k0, cond_false]) rfl K)
noncomputable def km_byLaw (f : Nat) (f67_17 : Int32) (a78 : List Int32) (a79 : List Int32) (a80 : List Int32) (a81 : List Int32) (a82 : List Int32) (a83 : List Int32) (a84 : List Int32) (x1 : Int32) (x2 : Int32) : Int32 × List Int32 := (km_byLaw_2 f a78 a79 a80 a81 a82 a84 x1 x2 f67_17.toInt.toNat 0 a83)
theorem t_km_byLaw {f D : Nat} {F : Nat → Nat → Int32} {A : Nat → List Int32} {L : Nat → List Int64} {Q : Option Value → sm_H → Prop} {x1 : Int32} {x2 : Int32} (K : Q (some (.int ((km_byLaw f (F 67 17) (A 78) (A 79) (A 80) (A 81) (A 82) (A 83) (A 84) x1 x2).1))) (hz F (uA A 83 ((km_byLaw f (F 67 17) (A 78) (A 79) (A 80) (A 81) (A 82) (A 83) (A 84) x1 x2).2)) L)) : wl_M f D 180 [.ref 67, .int x1, .int x2] (hz F A L) Q := by
  generalize hT : (km_byLaw f (F 67 17) (A 78) (A 79) (A 80) (A 81) (A 82) (A 83) (A 84) x1 x2) = T at K
  have hE : T = (km_byLaw_2 f (A 78) (A 79) (A 80) (A 81) (A 82) (A 84) x1 x2 (F 67 17).toInt.toNat 0 (A 83)) := hT.symm
  clear hT
  refine w_m (E := mm180) rfl ?_
  show wl_E f f (D - 1) mm180.2.2.2.2.2.2.2.2 0 [some (.ref 67), some (.int x1), some (.int x2), none, none] [] (hz F A L) Q
  refine w_n 2 (pc1 := 2) (ls1 := [some (.ref 67), some (.int x1), some (.int x2), some (.int 0), none]) (st1 := []) (hp1 := (hz F A L)) rfl ?_
  subst T
  exact t_km_byLaw_2 _ (show (F 67 17).toInt.toNat = ((F 67 17).toInt - (0 : Int32).toInt).toNat by have e0 : (0 : Int32).toInt = 0 := rfl; first | rfl | omega) (cvQ rfl (funext fun q => if k0 : q = 83 then by subst k0; exact Eq.trans (b := (km_byLaw_2 f (A 78) (A 79) (A 80) (A 81) (A 82) (A 84) x1 x2 (F 67 17).toInt.toNat 0 (A 83)).2) rfl rfl else by unfold uA; simp only [nb1 k0, cond_false]) rfl K)
noncomputable def km_spillsBy (f : Nat) (f67_17 : Int32) (a68 : List Int32) (a78 : List Int32) (a79 : List Int32) (a80 : List Int32) (a81 : List Int32) (a82 : List Int32) (a83 : List Int32) (a84 : List Int32) : Int32 × List Int32 × List Int32 := ((km_byLaw f f67_17 a78 a79 a80 a81 a82 a83 (km_feelsOne a68 a84 (a68.getD 145 0)) 100 10).1, (km_byLaw f f67_17 a78 a79 a80 a81 a82 a83 (km_feelsOne a68 a84 (a68.getD 145 0)) 100 10).2, (km_feelsOne a68 a84 (a68.getD 145 0)))
theorem t_km_spillsBy {f D : Nat} {F : Nat → Nat → Int32} {A : Nat → List Int32} {L : Nat → List Int64} {Q : Option Value → sm_H → Prop} (K : Q (some (.int ((km_spillsBy f (F 67 17) (A 68) (A 78) (A 79) (A 80) (A 81) (A 82) (A 83) (A 84)).1))) (hz F (uA (uA A 83 ((km_spillsBy f (F 67 17) (A 68) (A 78) (A 79) (A 80) (A 81) (A 82) (A 83) (A 84)).2.1)) 84 ((km_spillsBy f (F 67 17) (A 68) (A 78) (A 79) (A 80) (A 81) (A 82) (A 83) (A 84)).2.2)) L)) : wl_M f D 178 [.ref 67] (hz F A L) Q := by
  generalize hT : (km_spillsBy f (F 67 17) (A 68) (A 78) (A 79) (A 80) (A 81) (A 82) (A 83) (A 84)) = T at K
  have hE : T = ((km_byLaw f (F 67 17) (A 78) (A 79) (A 80) (A 81) (A 82) (A 83) (km_feelsOne (A 68) (A 84) ((A 68).getD 145 0)) 100 10).1, (km_byLaw f (F 67 17) (A 78) (A 79) (A 80) (A 81) (A 82) (A 83) (km_feelsOne (A 68) (A 84) ((A 68).getD 145 0)) 100 10).2, (km_feelsOne (A 68) (A 84) ((A 68).getD 145 0))) := hT.symm
  clear hT
  refine w_m (E := mm178) rfl ?_
  show wl_E f f (D - 1) mm178.2.2.2.2.2.2.2.2 0 [some (.ref 67)] [] (hz F A L) Q
  refine w_n 4 (pc1 := 8) (ls1 := [some (.ref 67)]) (st1 := [.int 145, .ref 68, .ref 67]) (hp1 := (hz F A L)) rfl ?_
  refine w_al (k := 68) (l := (A 68)) rfl rfl rfl (fun _ => ?_)
  refine w_c rfl rfl (t_km_feelsOne ?_)
  show wl_E f _ _ mm178.2.2.2.2.2.2.2.2 12 [some (.ref 67)] [] (hz F (uA A 84 (km_feelsOne (A 68) (A 84) ((A 68).getD 145 0))) L) _
  generalize hG238 : (km_feelsOne (A 68) (A 84) ((A 68).getD 145 0)) = G238 at hE ⊢
  refine w_n 3 (pc1 := 17) (ls1 := [some (.ref 67)]) (st1 := [.int 10, .int 100, .ref 67]) (hp1 := (hz F (uA A 84 G238) L)) rfl ?_
  refine w_c rfl rfl (t_km_byLaw ?_)
  show wl_E f _ _ mm178.2.2.2.2.2.2.2.2 20 [some (.ref 67)] [.int (km_byLaw f (F 67 17) (A 78) (A 79) (A 80) (A 81) (A 82) (A 83) G238 100 10).1] (hz F (uA (uA A 84 G238) 83 (km_byLaw f (F 67 17) (A 78) (A 79) (A 80) (A 81) (A 82) (A 83) G238 100 10).2) L) _
  generalize hG244 : (km_byLaw f (F 67 17) (A 78) (A 79) (A 80) (A 81) (A 82) (A 83) G238 100 10) = G244 at hE ⊢
  subst T
  exact w_ri rfl (cvQ rfl (funext fun q => if k0 : q = 83 then by subst k0; exact Eq.trans (b := G244.2) rfl rfl else if k1 : q = 84 then by subst k1; exact Eq.trans (b := G238) rfl rfl else by unfold uA; simp only [nb1 k0, nb1 k1, cond_false]) rfl K)
noncomputable def km_coolsBy (f : Nat) (f67_17 : Int32) (a68 : List Int32) (a78 : List Int32) (a79 : List Int32) (a80 : List Int32) (a81 : List Int32) (a82 : List Int32) (a83 : List Int32) (a84 : List Int32) : Int32 × List Int32 × List Int32 := ((km_byLaw f f67_17 a78 a79 a80 a81 a82 a83 (km_feelsOne a68 a84 (a68.getD 145 0)) 107 20).1, (km_byLaw f f67_17 a78 a79 a80 a81 a82 a83 (km_feelsOne a68 a84 (a68.getD 145 0)) 107 20).2, (km_feelsOne a68 a84 (a68.getD 145 0)))
theorem t_km_coolsBy {f D : Nat} {F : Nat → Nat → Int32} {A : Nat → List Int32} {L : Nat → List Int64} {Q : Option Value → sm_H → Prop} (K : Q (some (.int ((km_coolsBy f (F 67 17) (A 68) (A 78) (A 79) (A 80) (A 81) (A 82) (A 83) (A 84)).1))) (hz F (uA (uA A 83 ((km_coolsBy f (F 67 17) (A 68) (A 78) (A 79) (A 80) (A 81) (A 82) (A 83) (A 84)).2.1)) 84 ((km_coolsBy f (F 67 17) (A 68) (A 78) (A 79) (A 80) (A 81) (A 82) (A 83) (A 84)).2.2)) L)) : wl_M f D 183 [.ref 67] (hz F A L) Q := by
  generalize hT : (km_coolsBy f (F 67 17) (A 68) (A 78) (A 79) (A 80) (A 81) (A 82) (A 83) (A 84)) = T at K
  have hE : T = ((km_byLaw f (F 67 17) (A 78) (A 79) (A 80) (A 81) (A 82) (A 83) (km_feelsOne (A 68) (A 84) ((A 68).getD 145 0)) 107 20).1, (km_byLaw f (F 67 17) (A 78) (A 79) (A 80) (A 81) (A 82) (A 83) (km_feelsOne (A 68) (A 84) ((A 68).getD 145 0)) 107 20).2, (km_feelsOne (A 68) (A 84) ((A 68).getD 145 0))) := hT.symm
  clear hT
  refine w_m (E := mm183) rfl ?_
  show wl_E f f (D - 1) mm183.2.2.2.2.2.2.2.2 0 [some (.ref 67)] [] (hz F A L) Q
  refine w_n 4 (pc1 := 8) (ls1 := [some (.ref 67)]) (st1 := [.int 145, .ref 68, .ref 67]) (hp1 := (hz F A L)) rfl ?_
  refine w_al (k := 68) (l := (A 68)) rfl rfl rfl (fun _ => ?_)
  refine w_c rfl rfl (t_km_feelsOne ?_)
  show wl_E f _ _ mm183.2.2.2.2.2.2.2.2 12 [some (.ref 67)] [] (hz F (uA A 84 (km_feelsOne (A 68) (A 84) ((A 68).getD 145 0))) L) _
  generalize hG246 : (km_feelsOne (A 68) (A 84) ((A 68).getD 145 0)) = G246 at hE ⊢
  refine w_n 3 (pc1 := 17) (ls1 := [some (.ref 67)]) (st1 := [.int 20, .int 107, .ref 67]) (hp1 := (hz F (uA A 84 G246) L)) rfl ?_
  refine w_c rfl rfl (t_km_byLaw ?_)
  show wl_E f _ _ mm183.2.2.2.2.2.2.2.2 20 [some (.ref 67)] [.int (km_byLaw f (F 67 17) (A 78) (A 79) (A 80) (A 81) (A 82) (A 83) G246 107 20).1] (hz F (uA (uA A 84 G246) 83 (km_byLaw f (F 67 17) (A 78) (A 79) (A 80) (A 81) (A 82) (A 83) G246 107 20).2) L) _
  generalize hG247 : (km_byLaw f (F 67 17) (A 78) (A 79) (A 80) (A 81) (A 82) (A 83) G246 107 20) = G247 at hE ⊢
  subst T
  exact w_ri rfl (cvQ rfl (funext fun q => if k0 : q = 83 then by subst k0; exact Eq.trans (b := G247.2) rfl rfl else if k1 : q = 84 then by subst k1; exact Eq.trans (b := G246) rfl rfl else by unfold uA; simp only [nb1 k0, nb1 k1, cond_false]) rfl K)
noncomputable def km_leftOf (a68 : List Int32) (x1 : Int32) (x2 : Int32) : Int32 := ((((a68.getD (0 + x2).toInt.toNat 0) - (a68.getD (0 + x1).toInt.toNat 0)) + 12) - (((a68.getD (0 + x2).toInt.toNat 0) - (a68.getD (0 + x1).toInt.toNat 0)) + 12) / 12 * 12)
theorem t_km_leftOf {f D : Nat} {F : Nat → Nat → Int32} {A : Nat → List Int32} {L : Nat → List Int64} {Q : Option Value → sm_H → Prop} {x1 : Int32} {x2 : Int32} (K : Q (some (.int (km_leftOf (A 68) x1 x2))) (hz F A L)) : wl_M f D 186 [.ref 67, .int x1, .int x2] (hz F A L) Q := by
  generalize hT : (km_leftOf (A 68) x1 x2) = T at K
  have hE : T = (((((A 68).getD (0 + x2).toInt.toNat 0) - ((A 68).getD (0 + x1).toInt.toNat 0)) + 12) - ((((A 68).getD (0 + x2).toInt.toNat 0) - ((A 68).getD (0 + x1).toInt.toNat 0)) + 12) / 12 * 12) := hT.symm
  clear hT
  refine w_m (E := mm186) rfl ?_
  show wl_E f f (D - 1) mm186.2.2.2.2.2.2.2.2 0 [some (.ref 67), some (.int x1), some (.int x2)] [] (hz F A L) Q
  refine w_n 5 (pc1 := 7) (ls1 := [some (.ref 67), some (.int x1), some (.int x2)]) (st1 := [.int (0 + x2), .ref 68]) (hp1 := (hz F A L)) rfl ?_
  refine w_al (k := 68) (l := (A 68)) rfl rfl rfl (fun _ => ?_)
  refine w_n 5 (pc1 := 15) (ls1 := [some (.ref 67), some (.int x1), some (.int x2)]) (st1 := [.int (0 + x1), .ref 68, .int ((A 68).getD (0 + x2).toInt.toNat 0)]) (hp1 := (hz F A L)) rfl ?_
  refine w_al (k := 68) (l := (A 68)) rfl rfl rfl (fun _ => ?_)
  refine w_n 4 (pc1 := 22) (ls1 := [some (.ref 67), some (.int x1), some (.int x2)]) (st1 := [.int 12, .int ((((A 68).getD (0 + x2).toInt.toNat 0) - ((A 68).getD (0 + x1).toInt.toNat 0)) + 12)]) (hp1 := (hz F A L)) rfl ?_
  refine w_rm rfl rfl (fun _ => ?_)
  subst T
  exact w_ri rfl (cvQ rfl rfl rfl K)
noncomputable def km_cupOf_36 (a68 : List Int32) (x3 : Int32) : Nat → Int32 → Int32 → Int32
  | 0, y2, _ => y2
  | m + 1, y2, y4 => (if (km_isGuest a68 y4) = 0 then (km_cupOf_36 a68 x3 m y2 (y4 + 1)) else (if y4 = (a68.getD 145 0) then (km_cupOf_36 a68 x3 m y2 (y4 + 1)) else (if (km_leftOf a68 (a68.getD 145 0) y4).toInt < x3.toInt then (km_cupOf_36 a68 x3 m (y2 + 1) (y4 + 1)) else (km_cupOf_36 a68 x3 m y2 (y4 + 1)))))
theorem t_km_cupOf_36 {f : Nat} {Q : Option Value → sm_H → Prop} : ∀ (m : Nat) {B D : Nat} {F : Nat → Nat → Int32} {A : Nat → List Int32} {L : Nat → List Int64} {x1 : Int32} {y2 : Int32} {x3 : Int32} {y4 : Int32}, m = (12 - y4.toInt).toNat → (∀ q4 : Int32, wl_E f B D mm185.2.2.2.2.2.2.2.2 93 [some (.ref 67), some (.int x1), some (.int (km_cupOf_36 (A 68) x3 m y2 y4)), some (.int x3), some (.int q4)] [] (hz F A L) Q) → wl_E f B D mm185.2.2.2.2.2.2.2.2 36 [some (.ref 67), some (.int x1), some (.int y2), some (.int x3), some (.int y4)] [] (hz F A L) Q := by
  intro m
  induction m with
  | zero =>
    intro B D F A L x1 y2 x3 y4 hm K
    generalize hT : (km_cupOf_36 (A 68) x3 0 y2 y4) = T at K
    have hE : T = y2 := hT.symm
    clear hT
    refine w_n 2 (pc1 := 40) (ls1 := [some (.ref 67), some (.int x1), some (.int y2), some (.int x3), some (.int y4)]) (st1 := [.int 12, .int y4]) (hp1 := (hz F A L)) rfl ?_
    refine w_ge (p3 := 43) rfl rfl (fun hb => ?_) (fun h => False.elim (by have h : y4.toInt < 12 := h; omega))
    subst T
    exact cvE rfl rfl rfl (K _)
  | succ m ih =>
    intro B D F A L x1 y2 x3 y4 hm K
    generalize hT : (km_cupOf_36 (A 68) x3 (m + 1) y2 y4) = T at K
    have hE : T = (if (km_isGuest (A 68) y4) = 0 then (km_cupOf_36 (A 68) x3 m y2 (y4 + 1)) else (if y4 = ((A 68).getD 145 0) then (km_cupOf_36 (A 68) x3 m y2 (y4 + 1)) else (if (km_leftOf (A 68) ((A 68).getD 145 0) y4).toInt < x3.toInt then (km_cupOf_36 (A 68) x3 m (y2 + 1) (y4 + 1)) else (km_cupOf_36 (A 68) x3 m y2 (y4 + 1))))) := hT.symm
    clear hT
    refine w_n 2 (pc1 := 40) (ls1 := [some (.ref 67), some (.int x1), some (.int y2), some (.int x3), some (.int y4)]) (st1 := [.int 12, .int y4]) (hp1 := (hz F A L)) rfl ?_
    refine w_ge (p3 := 43) rfl rfl (fun h => False.elim (by have h : 12 ≤ y4.toInt := h; omega)) (fun hb => ?_)
    refine w_n 2 (pc1 := 46) (ls1 := [some (.ref 67), some (.int x1), some (.int y2), some (.int x3), some (.int y4)]) (st1 := [.int y4, .ref 67]) (hp1 := (hz F A L)) rfl ?_
    refine w_c rfl rfl (t_km_isGuest ?_)
    show wl_E f _ _ mm185.2.2.2.2.2.2.2.2 49 [some (.ref 67), some (.int x1), some (.int y2), some (.int x3), some (.int y4)] [.int (km_isGuest (A 68) y4)] (hz F A L) _
    generalize hG251 : (km_isGuest (A 68) y4) = G251 at hE ⊢
    refine w_zeq (p3 := 52) rfl rfl (fun h => ?_) (fun h => ?_)
    · have h1 : G251 = 0 := h
      rw [if_pos h1] at hE
      refine w_n 2 (pc1 := 36) (ls1 := [some (.ref 67), some (.int x1), some (.int y2), some (.int x3), some (.int (y4 + 1))]) (st1 := []) (hp1 := (hz F A L)) rfl ?_
      subst T
      have hb2 := i_up (B := (12 : Int32)) hb
      have hb3 : y4.toInt < 12 := hb
      exact ih (show m = (12 - (y4 + 1).toInt).toNat by rw [hb2]; omega) (fun q4 => cvE rfl rfl rfl (K q4))
    · have h1 : ¬ G251 = 0 := h
      rw [if_neg h1] at hE
      refine w_n 4 (pc1 := 61) (ls1 := [some (.ref 67), some (.int x1), some (.int y2), some (.int x3), some (.int y4)]) (st1 := [.int 145, .ref 68, .int y4]) (hp1 := (hz F A L)) rfl ?_
      refine w_al (k := 68) (l := (A 68)) rfl rfl rfl (fun _ => ?_)
      refine w_eq (p3 := 65) rfl rfl (fun h => ?_) (fun h => ?_)
      · have h2 : y4 = ((A 68).getD 145 0) := h
        rw [if_pos h2] at hE
        refine w_n 2 (pc1 := 36) (ls1 := [some (.ref 67), some (.int x1), some (.int y2), some (.int x3), some (.int (y4 + 1))]) (st1 := []) (hp1 := (hz F A L)) rfl ?_
        subst T
        have hb2 := i_up (B := (12 : Int32)) hb
        have hb3 : y4.toInt < 12 := hb
        exact ih (show m = (12 - (y4 + 1).toInt).toNat by rw [hb2]; omega) (fun q4 => cvE rfl rfl rfl (K q4))
      · have h2 : ¬ y4 = ((A 68).getD 145 0) := h
        rw [if_neg h2] at hE
        refine w_n 4 (pc1 := 73) (ls1 := [some (.ref 67), some (.int x1), some (.int y2), some (.int x3), some (.int y4)]) (st1 := [.int 145, .ref 68, .ref 67]) (hp1 := (hz F A L)) rfl ?_
        refine w_al (k := 68) (l := (A 68)) rfl rfl rfl (fun _ => ?_)
        refine w_n 1 (pc1 := 76) (ls1 := [some (.ref 67), some (.int x1), some (.int y2), some (.int x3), some (.int y4)]) (st1 := [.int y4, .int ((A 68).getD 145 0), .ref 67]) (hp1 := (hz F A L)) rfl ?_
        refine w_c rfl rfl (t_km_leftOf ?_)
        show wl_E f _ _ mm185.2.2.2.2.2.2.2.2 79 [some (.ref 67), some (.int x1), some (.int y2), some (.int x3), some (.int y4)] [.int (km_leftOf (A 68) ((A 68).getD 145 0) y4)] (hz F A L) _
        generalize hG252 : (km_leftOf (A 68) ((A 68).getD 145 0) y4) = G252 at hE ⊢
        refine w_n 1 (pc1 := 80) (ls1 := [some (.ref 67), some (.int x1), some (.int y2), some (.int x3), some (.int y4)]) (st1 := [.int x3, .int G252]) (hp1 := (hz F A L)) rfl ?_
        refine w_ge (p3 := 83) rfl rfl (fun h => ?_) (fun h => ?_)
        · have h3 : x3.toInt ≤ G252.toInt := h
          rw [if_neg (Int.not_lt.mpr h3)] at hE
          refine w_n 2 (pc1 := 36) (ls1 := [some (.ref 67), some (.int x1), some (.int y2), some (.int x3), some (.int (y4 + 1))]) (st1 := []) (hp1 := (hz F A L)) rfl ?_
          subst T
          have hb2 := i_up (B := (12 : Int32)) hb
          have hb3 : y4.toInt < 12 := hb
          exact ih (show m = (12 - (y4 + 1).toInt).toNat by rw [hb2]; omega) (fun q4 => cvE rfl rfl rfl (K q4))
        · have h3 : G252.toInt < x3.toInt := h
          rw [if_pos h3] at hE
          refine w_n 6 (pc1 := 36) (ls1 := [some (.ref 67), some (.int x1), some (.int (y2 + 1)), some (.int x3), some (.int (y4 + 1))]) (st1 := []) (hp1 := (hz F A L)) rfl ?_
          subst T
          have hb2 := i_up (B := (12 : Int32)) hb
          have hb3 : y4.toInt < 12 := hb
          exact ih (show m = (12 - (y4 + 1).toInt).toNat by rw [hb2]; omega) (fun q4 => cvE rfl rfl rfl (K q4))
noncomputable def km_cupOf (a68 : List Int32) (x1 : Int32) : Int32 := (if x1 = (a68.getD 145 0) then (km_cupOf_36 a68 12 12 0 0) else (km_cupOf_36 a68 (km_leftOf a68 (a68.getD 145 0) x1) 12 0 0))
theorem t_km_cupOf {f D : Nat} {F : Nat → Nat → Int32} {A : Nat → List Int32} {L : Nat → List Int64} {Q : Option Value → sm_H → Prop} {x1 : Int32} (K : Q (some (.int (km_cupOf (A 68) x1))) (hz F A L)) : wl_M f D 185 [.ref 67, .int x1] (hz F A L) Q := by
  generalize hT : (km_cupOf (A 68) x1) = T at K
  have hE : T = (if x1 = ((A 68).getD 145 0) then (km_cupOf_36 (A 68) 12 12 0 0) else (km_cupOf_36 (A 68) (km_leftOf (A 68) ((A 68).getD 145 0) x1) 12 0 0)) := hT.symm
  clear hT
  refine w_m (E := mm185) rfl ?_
  show wl_E f f (D - 1) mm185.2.2.2.2.2.2.2.2 0 [some (.ref 67), some (.int x1), none, none, none] [] (hz F A L) Q
  refine w_n 6 (pc1 := 10) (ls1 := [some (.ref 67), some (.int x1), some (.int 0), none, none]) (st1 := [.int 145, .ref 68, .int x1]) (hp1 := (hz F A L)) rfl ?_
  refine w_al (k := 68) (l := (A 68)) rfl rfl rfl (fun _ => ?_)
  refine w_ne (p3 := 14) rfl rfl (fun h => ?_) (fun h => ?_)
  · have h1 : ¬ x1 = ((A 68).getD 145 0) := h
    rw [if_neg h1] at hE
    refine w_n 4 (pc1 := 27) (ls1 := [some (.ref 67), some (.int x1), some (.int 0), none, none]) (st1 := [.int 145, .ref 68, .ref 67]) (hp1 := (hz F A L)) rfl ?_
    refine w_al (k := 68) (l := (A 68)) rfl rfl rfl (fun _ => ?_)
    refine w_n 1 (pc1 := 29) (ls1 := [some (.ref 67), some (.int x1), some (.int 0), none, none]) (st1 := [.int x1, .int ((A 68).getD 145 0), .ref 67]) (hp1 := (hz F A L)) rfl ?_
    refine w_c rfl rfl (t_km_leftOf ?_)
    show wl_E f _ _ mm185.2.2.2.2.2.2.2.2 32 [some (.ref 67), some (.int x1), some (.int 0), none, none] [.int (km_leftOf (A 68) ((A 68).getD 145 0) x1)] (hz F A L) _
    generalize hG250 : (km_leftOf (A 68) ((A 68).getD 145 0) x1) = G250 at hE ⊢
    refine w_n 3 (pc1 := 36) (ls1 := [some (.ref 67), some (.int x1), some (.int 0), some (.int G250), some (.int 0)]) (st1 := []) (hp1 := (hz F A L)) rfl ?_
    refine t_km_cupOf_36 12 (show (12 : Nat) = (12 - (0 : Int32).toInt).toNat by have e0 : (0 : Int32).toInt = 0 := rfl; first | rfl | omega) ?_
    intro r1
    show wl_E f _ _ mm185.2.2.2.2.2.2.2.2 93 [some (.ref 67), some (.int x1), some (.int (km_cupOf_36 (A 68) G250 12 0 0)), some (.int G250), some (.int r1)] [] (hz F A L) _
    generalize hG253 : (km_cupOf_36 (A 68) G250 12 0 0) = G253 at hE ⊢
    refine w_n 1 (pc1 := 94) (ls1 := [some (.ref 67), some (.int x1), some (.int G253), some (.int G250), some (.int r1)]) (st1 := [.int G253]) (hp1 := (hz F A L)) rfl ?_
    subst T
    exact w_ri rfl (cvQ rfl rfl rfl K)
  · have h1 : x1 = ((A 68).getD 145 0) := h
    rw [if_pos h1] at hE
    refine w_n 5 (pc1 := 36) (ls1 := [some (.ref 67), some (.int x1), some (.int 0), some (.int 12), some (.int 0)]) (st1 := []) (hp1 := (hz F A L)) rfl ?_
    refine t_km_cupOf_36 12 (show (12 : Nat) = (12 - (0 : Int32).toInt).toNat by have e0 : (0 : Int32).toInt = 0 := rfl; first | rfl | omega) ?_
    intro r2
    show wl_E f _ _ mm185.2.2.2.2.2.2.2.2 93 [some (.ref 67), some (.int x1), some (.int (km_cupOf_36 (A 68) 12 12 0 0)), some (.int 12), some (.int r2)] [] (hz F A L) _
    generalize hG254 : (km_cupOf_36 (A 68) 12 12 0 0) = G254 at hE ⊢
    refine w_n 1 (pc1 := 94) (ls1 := [some (.ref 67), some (.int x1), some (.int G254), some (.int 12), some (.int r2)]) (st1 := [.int G254]) (hp1 := (hz F A L)) rfl ?_
    subst T
    exact w_ri rfl (cvQ rfl rfl rfl K)
noncomputable def km_max (x0 : Int32) (x1 : Int32) : Int32 := (if x1.toInt < x0.toInt then x0 else x1)
theorem t_km_max {f D : Nat} {F : Nat → Nat → Int32} {A : Nat → List Int32} {L : Nat → List Int64} {Q : Option Value → sm_H → Prop} {x0 : Int32} {x1 : Int32} (K : Q (some (.int (km_max x0 x1))) (hz F A L)) : wl_M f D 187 [.int x0, .int x1] (hz F A L) Q := by
  generalize hT : (km_max x0 x1) = T at K
  have hE : T = (if x1.toInt < x0.toInt then x0 else x1) := hT.symm
  clear hT
  refine w_m (E := mm187) rfl ?_
  show wl_E f f (D - 1) mm187.2.2.2.2.2.2.2.2 0 [some (.int x0), some (.int x1)] [] (hz F A L) Q
  refine w_n 2 (pc1 := 2) (ls1 := [some (.int x0), some (.int x1)]) (st1 := [.int x1, .int x0]) (hp1 := (hz F A L)) rfl ?_
  refine w_le (p3 := 5) rfl rfl (fun h => ?_) (fun h => ?_)
  · have h1 : x0.toInt ≤ x1.toInt := h
    rw [if_neg (Int.not_lt.mpr h1)] at hE
    refine w_n 1 (pc1 := 10) (ls1 := [some (.int x0), some (.int x1)]) (st1 := [.int x1]) (hp1 := (hz F A L)) rfl ?_
    subst T
    exact w_ri rfl (cvQ rfl rfl rfl K)
  · have h1 : x1.toInt < x0.toInt := h
    rw [if_pos h1] at hE
    refine w_n 2 (pc1 := 10) (ls1 := [some (.int x0), some (.int x1)]) (st1 := [.int x0]) (hp1 := (hz F A L)) rfl ?_
    subst T
    exact w_ri rfl (cvQ rfl rfl rfl K)
noncomputable def km_pours_4 (f67_4 : Int32) (f67_5 : Int32) (x1 : Int32) : Nat → Int32 → Int32 → Int32 → List Int32 → Int32 × Int32 × List Int32
  | 0, y2, _, f67_32, a68 => (y2, f67_32, a68)
  | m + 1, y2, y3, f67_32, a68 => (if (km_isGuest a68 y3) = 0 then (km_pours_4 f67_4 f67_5 x1 m y2 (y3 + 1) f67_32 a68) else (if (km_cupOf a68 y3).toInt < f67_5.toInt then (if (a68.getD (24 + y3).toInt.toNat 0).toInt < (km_max 0 (f67_4 - (x1 * (km_cupOf a68 y3)))).toInt then (km_pours_4 f67_4 f67_5 x1 m y2 (y3 + 1) (f67_32 + 1) ((a68.set (48 + y3).toInt.toNat ((a68.getD (48 + y3).toInt.toNat 0) + 1)).set (36 + y3).toInt.toNat (km_max 0 (((a68.set (48 + y3).toInt.toNat ((a68.getD (48 + y3).toInt.toNat 0) + 1)).getD (36 + y3).toInt.toNat 0) - 1)))) else (km_pours_4 f67_4 f67_5 x1 m (y2 ||| ((1 : Int32) <<< (y3 &&& 31))) (y3 + 1) f67_32 a68)) else (km_pours_4 f67_4 f67_5 x1 m y2 (y3 + 1) f67_32 a68)))
theorem t_km_pours_4 {f : Nat} {Q : Option Value → sm_H → Prop} : ∀ (m : Nat) {B D : Nat} {F : Nat → Nat → Int32} {A : Nat → List Int32} {L : Nat → List Int64} {x1 : Int32} {y2 : Int32} {y3 : Int32}, m = (12 - y3.toInt).toNat → (∀ q3 : Int32, wl_E f B D mm184.2.2.2.2.2.2.2.2 130 [some (.ref 67), some (.int x1), some (.int ((km_pours_4 (F 67 4) (F 67 5) x1 m y2 y3 (F 67 32) (A 68)).1)), some (.int q3)] [] (hz (uF F 67 32 ((km_pours_4 (F 67 4) (F 67 5) x1 m y2 y3 (F 67 32) (A 68)).2.1)) (uA A 68 ((km_pours_4 (F 67 4) (F 67 5) x1 m y2 y3 (F 67 32) (A 68)).2.2)) L) Q) → wl_E f B D mm184.2.2.2.2.2.2.2.2 4 [some (.ref 67), some (.int x1), some (.int y2), some (.int y3)] [] (hz F A L) Q := by
  intro m
  induction m with
  | zero =>
    intro B D F A L x1 y2 y3 hm K
    generalize hT : (km_pours_4 (F 67 4) (F 67 5) x1 0 y2 y3 (F 67 32) (A 68)) = T at K
    have hE : T = (y2, (F 67 32), (A 68)) := hT.symm
    clear hT
    refine w_n 2 (pc1 := 7) (ls1 := [some (.ref 67), some (.int x1), some (.int y2), some (.int y3)]) (st1 := [.int 12, .int y3]) (hp1 := (hz F A L)) rfl ?_
    refine w_ge (p3 := 10) rfl rfl (fun hb => ?_) (fun h => False.elim (by have h : y3.toInt < 12 := h; omega))
    subst T
    exact cvE (funext fun q => funext fun z => if k0 : q = 67 ∧ z = 32 then by obtain ⟨w1, w2⟩ := k0; subst w1; subst w2; exact Eq.trans (b := (F 67 32)) rfl rfl else by unfold uF; simp only [nb2 k0, cond_false]) (funext fun q => if k0 : q = 68 then by subst k0; exact Eq.trans (b := (A 68)) rfl rfl else by unfold uA; simp only [nb1 k0, cond_false]) rfl (K _)
  | succ m ih =>
    intro B D F A L x1 y2 y3 hm K
    generalize hT : (km_pours_4 (F 67 4) (F 67 5) x1 (m + 1) y2 y3 (F 67 32) (A 68)) = T at K
    have hE : T = (if (km_isGuest (A 68) y3) = 0 then (km_pours_4 (F 67 4) (F 67 5) x1 m y2 (y3 + 1) (F 67 32) (A 68)) else (if (km_cupOf (A 68) y3).toInt < (F 67 5).toInt then (if ((A 68).getD (24 + y3).toInt.toNat 0).toInt < (km_max 0 ((F 67 4) - (x1 * (km_cupOf (A 68) y3)))).toInt then (km_pours_4 (F 67 4) (F 67 5) x1 m y2 (y3 + 1) ((F 67 32) + 1) (((A 68).set (48 + y3).toInt.toNat (((A 68).getD (48 + y3).toInt.toNat 0) + 1)).set (36 + y3).toInt.toNat (km_max 0 ((((A 68).set (48 + y3).toInt.toNat (((A 68).getD (48 + y3).toInt.toNat 0) + 1)).getD (36 + y3).toInt.toNat 0) - 1)))) else (km_pours_4 (F 67 4) (F 67 5) x1 m (y2 ||| ((1 : Int32) <<< (y3 &&& 31))) (y3 + 1) (F 67 32) (A 68))) else (km_pours_4 (F 67 4) (F 67 5) x1 m y2 (y3 + 1) (F 67 32) (A 68)))) := hT.symm
    clear hT
    refine w_n 2 (pc1 := 7) (ls1 := [some (.ref 67), some (.int x1), some (.int y2), some (.int y3)]) (st1 := [.int 12, .int y3]) (hp1 := (hz F A L)) rfl ?_
    refine w_ge (p3 := 10) rfl rfl (fun h => False.elim (by have h : 12 ≤ y3.toInt := h; omega)) (fun hb => ?_)
    refine w_n 2 (pc1 := 12) (ls1 := [some (.ref 67), some (.int x1), some (.int y2), some (.int y3)]) (st1 := [.int y3, .ref 67]) (hp1 := (hz F A L)) rfl ?_
    refine w_c rfl rfl (t_km_isGuest ?_)
    show wl_E f _ _ mm184.2.2.2.2.2.2.2.2 15 [some (.ref 67), some (.int x1), some (.int y2), some (.int y3)] [.int (km_isGuest (A 68) y3)] (hz F A L) _
    generalize hG249 : (km_isGuest (A 68) y3) = G249 at hE ⊢
    refine w_zeq (p3 := 18) rfl rfl (fun h => ?_) (fun h => ?_)
    · have h1 : G249 = 0 := h
      rw [if_pos h1] at hE
      refine w_n 2 (pc1 := 4) (ls1 := [some (.ref 67), some (.int x1), some (.int y2), some (.int (y3 + 1))]) (st1 := []) (hp1 := (hz F A L)) rfl ?_
      subst T
      have hb2 := i_up (B := (12 : Int32)) hb
      have hb3 : y3.toInt < 12 := hb
      exact ih (show m = (12 - (y3 + 1).toInt).toNat by rw [hb2]; omega) (fun q3 => cvE (funext fun q => funext fun z => if k0 : q = 67 ∧ z = 32 then by obtain ⟨w1, w2⟩ := k0; subst w1; subst w2; exact Eq.trans (b := (km_pours_4 (F 67 4) (F 67 5) x1 m y2 (y3 + 1) (F 67 32) (A 68)).2.1) rfl rfl else by unfold uF; simp only [nb2 k0, cond_false]) (funext fun q => if k0 : q = 68 then by subst k0; exact Eq.trans (b := (km_pours_4 (F 67 4) (F 67 5) x1 m y2 (y3 + 1) (F 67 32) (A 68)).2.2) rfl rfl else by unfold uA; simp only [nb1 k0, cond_false]) rfl (K q3))
    · have h1 : ¬ G249 = 0 := h
      rw [if_neg h1] at hE
      refine w_n 2 (pc1 := 20) (ls1 := [some (.ref 67), some (.int x1), some (.int y2), some (.int y3)]) (st1 := [.int y3, .ref 67]) (hp1 := (hz F A L)) rfl ?_
      refine w_c rfl rfl (t_km_cupOf ?_)
      show wl_E f _ _ mm184.2.2.2.2.2.2.2.2 23 [some (.ref 67), some (.int x1), some (.int y2), some (.int y3)] [.int (km_cupOf (A 68) y3)] (hz F A L) _
      generalize hG255 : (km_cupOf (A 68) y3) = G255 at hE ⊢
      refine w_n 2 (pc1 := 27) (ls1 := [some (.ref 67), some (.int x1), some (.int y2), some (.int y3)]) (st1 := [.int (F 67 5), .int G255]) (hp1 := (hz F A L)) rfl ?_
      refine w_lt (p3 := 30) rfl rfl (fun h => ?_) (fun h => ?_)
      · have h2 : G255.toInt < (F 67 5).toInt := h
        rw [if_pos h2] at hE
        refine w_n 5 (pc1 := 41) (ls1 := [some (.ref 67), some (.int x1), some (.int y2), some (.int y3)]) (st1 := [.int (24 + y3), .ref 68]) (hp1 := (hz F A L)) rfl ?_
        refine w_al (k := 68) (l := (A 68)) rfl rfl rfl (fun _ => ?_)
        refine w_n 6 (pc1 := 50) (ls1 := [some (.ref 67), some (.int x1), some (.int y2), some (.int y3)]) (st1 := [.int y3, .ref 67, .int x1, .int (F 67 4), .int 0, .int ((A 68).getD (24 + y3).toInt.toNat 0)]) (hp1 := (hz F A L)) rfl ?_
        refine w_c rfl rfl (t_km_cupOf ?_)
        show wl_E f _ _ mm184.2.2.2.2.2.2.2.2 53 [some (.ref 67), some (.int x1), some (.int y2), some (.int y3)] [.int (km_cupOf (A 68) y3), .int x1, .int (F 67 4), .int 0, .int ((A 68).getD (24 + y3).toInt.toNat 0)] (hz F A L) _
        rw [hG255]
        refine w_n 2 (pc1 := 55) (ls1 := [some (.ref 67), some (.int x1), some (.int y2), some (.int y3)]) (st1 := [.int ((F 67 4) - (x1 * G255)), .int 0, .int ((A 68).getD (24 + y3).toInt.toNat 0)]) (hp1 := (hz F A L)) rfl ?_
        refine w_c rfl rfl (t_km_max ?_)
        show wl_E f _ _ mm184.2.2.2.2.2.2.2.2 58 [some (.ref 67), some (.int x1), some (.int y2), some (.int y3)] [.int (km_max 0 ((F 67 4) - (x1 * G255))), .int ((A 68).getD (24 + y3).toInt.toNat 0)] (hz F A L) _
        generalize hG256 : (km_max 0 ((F 67 4) - (x1 * G255))) = G256 at hE ⊢
        refine w_lt (p3 := 61) rfl rfl (fun h => ?_) (fun h => ?_)
        · have h3 : ((A 68).getD (24 + y3).toInt.toNat 0).toInt < G256.toInt := h
          rw [if_pos h3] at hE
          refine w_n 10 (pc1 := 86) (ls1 := [some (.ref 67), some (.int x1), some (.int y2), some (.int y3)]) (st1 := [.int (48 + y3), .ref 68, .int (48 + y3), .ref 68]) (hp1 := (hz F A L)) rfl ?_
          refine w_al (k := 68) (l := (A 68)) rfl rfl rfl (fun _ => ?_)
          refine w_n 2 (pc1 := 89) (ls1 := [some (.ref 67), some (.int x1), some (.int y2), some (.int y3)]) (st1 := [.int (((A 68).getD (48 + y3).toInt.toNat 0) + 1), .int (48 + y3), .ref 68]) (hp1 := (hz F A L)) rfl ?_
          refine w_as (k := 68) (l := (A 68)) (hp1 := (hz F (uA A 68 ((A 68).set (48 + y3).toInt.toNat (((A 68).getD (48 + y3).toInt.toNat 0) + 1))) L)) rfl rfl rfl (hz_s68 _) (fun _ => ?_)
          refine w_n 11 (pc1 := 107) (ls1 := [some (.ref 67), some (.int x1), some (.int y2), some (.int y3)]) (st1 := [.int (36 + y3), .ref 68, .int 0, .int (36 + y3), .ref 68]) (hp1 := (hz F (uA A 68 ((A 68).set (48 + y3).toInt.toNat (((A 68).getD (48 + y3).toInt.toNat 0) + 1))) L)) rfl ?_
          refine w_al (k := 68) (l := ((A 68).set (48 + y3).toInt.toNat (((A 68).getD (48 + y3).toInt.toNat 0) + 1))) rfl rfl rfl (fun _ => ?_)
          refine w_n 2 (pc1 := 110) (ls1 := [some (.ref 67), some (.int x1), some (.int y2), some (.int y3)]) (st1 := [.int ((((A 68).set (48 + y3).toInt.toNat (((A 68).getD (48 + y3).toInt.toNat 0) + 1)).getD (36 + y3).toInt.toNat 0) - 1), .int 0, .int (36 + y3), .ref 68]) (hp1 := (hz F (uA A 68 ((A 68).set (48 + y3).toInt.toNat (((A 68).getD (48 + y3).toInt.toNat 0) + 1))) L)) rfl ?_
          refine w_c rfl rfl (t_km_max ?_)
          show wl_E f _ _ mm184.2.2.2.2.2.2.2.2 113 [some (.ref 67), some (.int x1), some (.int y2), some (.int y3)] [.int (km_max 0 ((((A 68).set (48 + y3).toInt.toNat (((A 68).getD (48 + y3).toInt.toNat 0) + 1)).getD (36 + y3).toInt.toNat 0) - 1)), .int (36 + y3), .ref 68] (hz F (uA A 68 ((A 68).set (48 + y3).toInt.toNat (((A 68).getD (48 + y3).toInt.toNat 0) + 1))) L) _
          generalize hG257 : (km_max 0 ((((A 68).set (48 + y3).toInt.toNat (((A 68).getD (48 + y3).toInt.toNat 0) + 1)).getD (36 + y3).toInt.toNat 0) - 1)) = G257 at hE ⊢
          refine w_as (k := 68) (l := ((A 68).set (48 + y3).toInt.toNat (((A 68).getD (48 + y3).toInt.toNat 0) + 1))) (hp1 := (hz F (uA (uA A 68 ((A 68).set (48 + y3).toInt.toNat (((A 68).getD (48 + y3).toInt.toNat 0) + 1))) 68 (((A 68).set (48 + y3).toInt.toNat (((A 68).getD (48 + y3).toInt.toNat 0) + 1)).set (36 + y3).toInt.toNat G257)) L)) rfl rfl rfl (hz_s68 _) (fun _ => ?_)
          refine w_n 5 (pc1 := 121) (ls1 := [some (.ref 67), some (.int x1), some (.int y2), some (.int y3)]) (st1 := [.int ((F 67 32) + 1), .ref 67]) (hp1 := (hz F (uA (uA A 68 ((A 68).set (48 + y3).toInt.toNat (((A 68).getD (48 + y3).toInt.toNat 0) + 1))) 68 (((A 68).set (48 + y3).toInt.toNat (((A 68).getD (48 + y3).toInt.toNat 0) + 1)).set (36 + y3).toInt.toNat G257)) L)) rfl ?_
          refine w_pf (k := 67) (fs := hz_f67 F) (hp1 := (hz (uF F 67 32 ((F 67 32) + 1)) (uA (uA A 68 ((A 68).set (48 + y3).toInt.toNat (((A 68).getD (48 + y3).toInt.toNat 0) + 1))) 68 (((A 68).set (48 + y3).toInt.toNat (((A 68).getD (48 + y3).toInt.toNat 0) + 1)).set (36 + y3).toInt.toNat G257)) L)) rfl rfl rfl (hz_p67_32 _) ?_
          refine w_n 2 (pc1 := 4) (ls1 := [some (.ref 67), some (.int x1), some (.int y2), some (.int (y3 + 1))]) (st1 := []) (hp1 := (hz (uF F 67 32 ((F 67 32) + 1)) (uA (uA A 68 ((A 68).set (48 + y3).toInt.toNat (((A 68).getD (48 + y3).toInt.toNat 0) + 1))) 68 (((A 68).set (48 + y3).toInt.toNat (((A 68).getD (48 + y3).toInt.toNat 0) + 1)).set (36 + y3).toInt.toNat G257)) L)) rfl ?_
          subst T
          have hb2 := i_up (B := (12 : Int32)) hb
          have hb3 : y3.toInt < 12 := hb
          exact ih (show m = (12 - (y3 + 1).toInt).toNat by rw [hb2]; omega) (fun q3 => cvE (funext fun q => funext fun z => if k0 : q = 67 ∧ z = 32 then by obtain ⟨w1, w2⟩ := k0; subst w1; subst w2; exact Eq.trans (b := (km_pours_4 (F 67 4) (F 67 5) x1 m y2 (y3 + 1) ((F 67 32) + 1) (((A 68).set (48 + y3).toInt.toNat (((A 68).getD (48 + y3).toInt.toNat 0) + 1)).set (36 + y3).toInt.toNat G257)).2.1) rfl rfl else by unfold uF; simp only [nb2 k0, cond_false]) (funext fun q => if k0 : q = 68 then by subst k0; exact Eq.trans (b := (km_pours_4 (F 67 4) (F 67 5) x1 m y2 (y3 + 1) ((F 67 32) + 1) (((A 68).set (48 + y3).toInt.toNat (((A 68).getD (48 + y3).toInt.toNat 0) + 1)).set (36 + y3).toInt.toNat G257)).2.2) rfl rfl else by unfold uA; simp only [nb1 k0, cond_false]) rfl (K q3))
        · have h3 : G256.toInt ≤ ((A 68).getD (24 + y3).toInt.toNat 0).toInt := h
          rw [if_neg (Int.not_lt.mpr h3)] at hE
          refine w_n 9 (pc1 := 4) (ls1 := [some (.ref 67), some (.int x1), some (.int (y2 ||| ((1 : Int32) <<< (y3 &&& 31)))), some (.int (y3 + 1))]) (st1 := []) (hp1 := (hz F A L)) rfl ?_
          subst T
          have hb2 := i_up (B := (12 : Int32)) hb
          have hb3 : y3.toInt < 12 := hb
          exact ih (show m = (12 - (y3 + 1).toInt).toNat by rw [hb2]; omega) (fun q3 => cvE (funext fun q => funext fun z => if k0 : q = 67 ∧ z = 32 then by obtain ⟨w1, w2⟩ := k0; subst w1; subst w2; exact Eq.trans (b := (km_pours_4 (F 67 4) (F 67 5) x1 m (y2 ||| ((1 : Int32) <<< (y3 &&& 31))) (y3 + 1) (F 67 32) (A 68)).2.1) rfl rfl else by unfold uF; simp only [nb2 k0, cond_false]) (funext fun q => if k0 : q = 68 then by subst k0; exact Eq.trans (b := (km_pours_4 (F 67 4) (F 67 5) x1 m (y2 ||| ((1 : Int32) <<< (y3 &&& 31))) (y3 + 1) (F 67 32) (A 68)).2.2) rfl rfl else by unfold uA; simp only [nb1 k0, cond_false]) rfl (K q3))
      · have h2 : (F 67 5).toInt ≤ G255.toInt := h
        rw [if_neg (Int.not_lt.mpr h2)] at hE
        refine w_n 3 (pc1 := 4) (ls1 := [some (.ref 67), some (.int x1), some (.int y2), some (.int (y3 + 1))]) (st1 := []) (hp1 := (hz F A L)) rfl ?_
        subst T
        have hb2 := i_up (B := (12 : Int32)) hb
        have hb3 : y3.toInt < 12 := hb
        exact ih (show m = (12 - (y3 + 1).toInt).toNat by rw [hb2]; omega) (fun q3 => cvE (funext fun q => funext fun z => if k0 : q = 67 ∧ z = 32 then by obtain ⟨w1, w2⟩ := k0; subst w1; subst w2; exact Eq.trans (b := (km_pours_4 (F 67 4) (F 67 5) x1 m y2 (y3 + 1) (F 67 32) (A 68)).2.1) rfl rfl else by unfold uF; simp only [nb2 k0, cond_false]) (funext fun q => if k0 : q = 68 then by subst k0; exact Eq.trans (b := (km_pours_4 (F 67 4) (F 67 5) x1 m y2 (y3 + 1) (F 67 32) (A 68)).2.2) rfl rfl else by unfold uA; simp only [nb1 k0, cond_false]) rfl (K q3))
