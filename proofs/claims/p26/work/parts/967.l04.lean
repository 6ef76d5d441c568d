/-! lifts, printed by genlift.py: 4 -/
noncomputable def km_wrongAt (x1 : Int32) (x2 : Int32) : Int32 × Int32 := (0, (((-1000) * x1) - x2))
theorem t_km_wrongAt {f D : Nat} {F : Nat → Nat → Int32} {A : Nat → List Int32} {L : Nat → List Int64} {Q : Option Value → sm_H → Prop} {x1 : Int32} {x2 : Int32} (K : Q (some (.int ((km_wrongAt x1 x2).1))) (hz (uF F 67 11 ((km_wrongAt x1 x2).2)) A L)) : wl_M f D 154 [.ref 67, .int x1, .int x2] (hz F A L) Q := by
  generalize hT : (km_wrongAt x1 x2) = T at K
  have hE : T = (0, (((-1000) * x1) - x2)) := hT.symm
  clear hT
  refine w_m (E := mm154) rfl ?_
  show wl_E f f (D - 1) mm154.2.2.2.2.2.2.2.2 0 [some (.ref 67), some (.int x1), some (.int x2)] [] (hz F A L) Q
  refine w_n 6 (pc1 := 8) (ls1 := [some (.ref 67), some (.int x1), some (.int x2)]) (st1 := [.int (((-1000) * x1) - x2), .ref 67]) (hp1 := (hz F A L)) rfl ?_
  refine w_pf (k := 67) (fs := hz_f67 F) (hp1 := (hz (uF F 67 11 (((-1000) * x1) - x2)) A L)) rfl rfl rfl (hz_p67_11 _) ?_
  refine w_n 1 (pc1 := 12) (ls1 := [some (.ref 67), some (.int x1), some (.int x2)]) (st1 := [.int 0]) (hp1 := (hz (uF F 67 11 (((-1000) * x1) - x2)) A L)) rfl ?_
  subst T
  exact w_ri rfl (cvQ rfl rfl rfl K)
noncomputable def km_wrongOf (f67_9 : Int32) (x1 : Int32) : Int32 × Int32 := ((km_wrongAt x1 f67_9).2, (km_wrongAt x1 f67_9).2)
theorem t_km_wrongOf {f D : Nat} {F : Nat → Nat → Int32} {A : Nat → List Int32} {L : Nat → List Int64} {Q : Option Value → sm_H → Prop} {x1 : Int32} (K : Q (some (.int ((km_wrongOf (F 67 9) x1).1))) (hz (uF F 67 11 ((km_wrongOf (F 67 9) x1).2)) A L)) : wl_M f D 173 [.ref 67, .int x1] (hz F A L) Q := by
  generalize hT : (km_wrongOf (F 67 9) x1) = T at K
  have hE : T = ((km_wrongAt x1 (F 67 9)).2, (km_wrongAt x1 (F 67 9)).2) := hT.symm
  clear hT
  refine w_m (E := mm173) rfl ?_
  show wl_E f f (D - 1) mm173.2.2.2.2.2.2.2.2 0 [some (.ref 67), some (.int x1)] [] (hz F A L) Q
  refine w_n 4 (pc1 := 6) (ls1 := [some (.ref 67), some (.int x1)]) (st1 := [.int (F 67 9), .int x1, .ref 67]) (hp1 := (hz F A L)) rfl ?_
  refine w_c rfl rfl (t_km_wrongAt ?_)
  show wl_E f _ _ mm173.2.2.2.2.2.2.2.2 9 [some (.ref 67), some (.int x1)] [.int (km_wrongAt x1 (F 67 9)).1] (hz (uF F 67 11 (km_wrongAt x1 (F 67 9)).2) A L) _
  generalize hG106 : (km_wrongAt x1 (F 67 9)) = G106 at hE ⊢
  refine w_n 3 (pc1 := 14) (ls1 := [some (.ref 67), some (.int x1)]) (st1 := [.int G106.2]) (hp1 := (hz (uF F 67 11 G106.2) A L)) rfl ?_
  subst T
  exact w_ri rfl (cvQ rfl rfl rfl K)
noncomputable def km_here (f67_9 : Int32) (f67_10 : Int32) (a71 : List Int32) : Int32 := (if f67_9.toInt < f67_10.toInt then ((a71.getD f67_9.toInt.toNat 0) &&& 255) else (-1))
theorem t_km_here {f D : Nat} {F : Nat → Nat → Int32} {A : Nat → List Int32} {L : Nat → List Int64} {Q : Option Value → sm_H → Prop} (K : Q (some (.int (km_here (F 67 9) (F 67 10) (A 71)))) (hz F A L)) : wl_M f D 153 [.ref 67] (hz F A L) Q := by
  generalize hT : (km_here (F 67 9) (F 67 10) (A 71)) = T at K
  have hE : T = (if (F 67 9).toInt < (F 67 10).toInt then (((A 71).getD (F 67 9).toInt.toNat 0) &&& 255) else (-1)) := hT.symm
  clear hT
  refine w_m (E := mm153) rfl ?_
  show wl_E f f (D - 1) mm153.2.2.2.2.2.2.2.2 0 [some (.ref 67)] [] (hz F A L) Q
  refine w_n 4 (pc1 := 8) (ls1 := [some (.ref 67)]) (st1 := [.int (F 67 10), .int (F 67 9)]) (hp1 := (hz F A L)) rfl ?_
  refine w_ge (p3 := 11) rfl rfl (fun h => ?_) (fun h => ?_)
  · have h1 : (F 67 10).toInt ≤ (F 67 9).toInt := h
    rw [if_neg (Int.not_lt.mpr h1)] at hE
    refine w_n 1 (pc1 := 28) (ls1 := [some (.ref 67)]) (st1 := [.int (-1)]) (hp1 := (hz F A L)) rfl ?_
    subst T
    exact w_ri rfl (cvQ rfl rfl rfl K)
  · have h1 : (F 67 9).toInt < (F 67 10).toInt := h
    rw [if_pos h1] at hE
    refine w_n 4 (pc1 := 19) (ls1 := [some (.ref 67)]) (st1 := [.int (F 67 9), .ref 71]) (hp1 := (hz F A L)) rfl ?_
    refine w_bl (k := 71) (l := (A 71)) rfl rfl rfl (fun _ => ?_)
    refine w_n 3 (pc1 := 28) (ls1 := [some (.ref 67)]) (st1 := [.int (((A 71).getD (F 67 9).toInt.toNat 0) &&& 255)]) (hp1 := (hz F A L)) rfl ?_
    subst T
    exact w_ri rfl (cvQ rfl rfl rfl K)
noncomputable def km_isMeasure (f67_3 : Int32) (x1 : Int32) : Int32 := (km_in x1 0 (f67_3 - 1))
theorem t_km_isMeasure {f D : Nat} {F : Nat → Nat → Int32} {A : Nat → List Int32} {L : Nat → List Int64} {Q : Option Value → sm_H → Prop} {x1 : Int32} (K : Q (some (.int (km_isMeasure (F 67 3) x1))) (hz F A L)) : wl_M f D 174 [.ref 67, .int x1] (hz F A L) Q := by
  generalize hT : (km_isMeasure (F 67 3) x1) = T at K
  have hE : T = (km_in x1 0 ((F 67 3) - 1)) := hT.symm
  clear hT
  refine w_m (E := mm174) rfl ?_
  show wl_E f f (D - 1) mm174.2.2.2.2.2.2.2.2 0 [some (.ref 67), some (.int x1)] [] (hz F A L) Q
  refine w_n 6 (pc1 := 8) (ls1 := [some (.ref 67), some (.int x1)]) (st1 := [.int ((F 67 3) - 1), .int 0, .int x1]) (hp1 := (hz F A L)) rfl ?_
  refine w_c rfl rfl (t_km_in ?_)
  show wl_E f _ _ mm174.2.2.2.2.2.2.2.2 11 [some (.ref 67), some (.int x1)] [.int (km_in x1 0 ((F 67 3) - 1))] (hz F A L) _
  generalize hG109 : (km_in x1 0 ((F 67 3) - 1)) = G109 at hE ⊢
  subst T
  exact w_ri rfl (cvQ rfl rfl rfl K)
noncomputable def km_ranking_54 (f67_3 : Int32) (f67_8 : Int32) (f67_10 : Int32) (f67_11 : Int32) (a68 : List Int32) (a71 : List Int32) (x1 : Int32) : Nat → Int32 → Int32 → Int32 → Int32 → Int32 → List Int32 → Int32 × Int32 × Int32 × Int32 × Int32 × List Int32 × List Int32
  | 0, _, y4, _, _, f67_9, a85 => (if f67_9.toInt < f67_10.toInt then ((km_wrongOf f67_9 1).1, f67_8, f67_9, f67_10, (km_wrongOf f67_9 1).2, a68, a85) else (y4, f67_8, f67_9, f67_10, f67_11, (km_ranking_245 a85 x1 f67_3.toInt.toNat 0 a68), a85))
  | m + 1, y3, y4, y5, y6, f67_9, a85 => (if 0 < y6.toInt then (if (km_here f67_9 f67_10 a71) = 61 then (if (km_isMeasure f67_3 ((km_here (f67_9 + 1) f67_10 a71) - 97)) = 0 then ((km_wrongOf (f67_9 + 1) 1).1, f67_8, (f67_9 + 1), f67_10, (km_wrongOf (f67_9 + 1) 1).2, a68, a85) else (if (km_has y3 ((km_here (f67_9 + 1) f67_10 a71) - 97)) = 0 then (km_ranking_54 f67_3 f67_8 f67_10 f67_11 a68 a71 x1 m (y3 ||| ((1 : Int32) <<< (((km_here (f67_9 + 1) f67_10 a71) - 97) &&& 31))) (y4 + 0) y5 (y6 + 1) ((f67_9 + 1) + 1) (a85.set ((km_here (f67_9 + 1) f67_10 a71) - 97).toInt.toNat y5)) else ((km_wrongOf (f67_9 + 1) 6).1, f67_8, (f67_9 + 1), f67_10, (km_wrongOf (f67_9 + 1) 6).2, a68, a85))) else (if (km_here f67_9 f67_10 a71) = 62 then (if (km_isMeasure f67_3 ((km_here (f67_9 + 1) f67_10 a71) - 97)) = 0 then ((km_wrongOf (f67_9 + 1) 1).1, f67_8, (f67_9 + 1), f67_10, (km_wrongOf (f67_9 + 1) 1).2, a68, a85) else (if (km_has y3 ((km_here (f67_9 + 1) f67_10 a71) - 97)) = 0 then (km_ranking_54 f67_3 f67_8 f67_10 f67_11 a68 a71 x1 m (y3 ||| ((1 : Int32) <<< (((km_here (f67_9 + 1) f67_10 a71) - 97) &&& 31))) (y4 + 1) y6 (y6 + 1) ((f67_9 + 1) + 1) (a85.set ((km_here (f67_9 + 1) f67_10 a71) - 97).toInt.toNat y6)) else ((km_wrongOf (f67_9 + 1) 6).1, f67_8, (f67_9 + 1), f67_10, (km_wrongOf (f67_9 + 1) 6).2, a68, a85))) else ((km_wrongOf f67_9 1).1, f67_8, f67_9, f67_10, (km_wrongOf f67_9 1).2, a68, a85))) else (if (km_isMeasure f67_3 ((km_here f67_9 f67_10 a71) - 97)) = 0 then ((km_wrongOf f67_9 1).1, f67_8, f67_9, f67_10, (km_wrongOf f67_9 1).2, a68, a85) else (if (km_has y3 ((km_here f67_9 f67_10 a71) - 97)) = 0 then (km_ranking_54 f67_3 f67_8 f67_10 f67_11 a68 a71 x1 m (y3 ||| ((1 : Int32) <<< (((km_here f67_9 f67_10 a71) - 97) &&& 31))) (y4 + 1) y6 (y6 + 1) (f67_9 + 1) (a85.set ((km_here f67_9 f67_10 a71) - 97).toInt.toNat y6)) else ((km_wrongOf f67_9 6).1, f67_8, f67_9, f67_10, (km_wrongOf f67_9 6).2, a68, a85))))
theorem t_km_ranking_54 {f : Nat} {Q : Option Value → sm_H → Prop} : ∀ (m : Nat) {B D : Nat} {F : Nat → Nat → Int32} {A : Nat → List Int32} {L : Nat → List Int64} {x1 : Int32} {x2 : Int32} {y3 : Int32} {y4 : Int32} {y5 : Int32} {y6 : Int32} {o7 : Option Value} {o8 : Option Value}, m = ((F 67 3).toInt - y6.toInt).toNat → (Q (some (.int ((km_ranking_54 (F 67 3) (F 67 8) (F 67 10) (F 67 11) (A 68) (A 71) x1 m y3 y4 y5 y6 (F 67 9) (A 85)).1))) (hz (uF (uF (uF (uF F 67 8 ((km_ranking_54 (F 67 3) (F 67 8) (F 67 10) (F 67 11) (A 68) (A 71) x1 m y3 y4 y5 y6 (F 67 9) (A 85)).2.1)) 67 9 ((km_ranking_54 (F 67 3) (F 67 8) (F 67 10) (F 67 11) (A 68) (A 71) x1 m y3 y4 y5 y6 (F 67 9) (A 85)).2.2.1)) 67 10 ((km_ranking_54 (F 67 3) (F 67 8) (F 67 10) (F 67 11) (A 68) (A 71) x1 m y3 y4 y5 y6 (F 67 9) (A 85)).2.2.2.1)) 67 11 ((km_ranking_54 (F 67 3) (F 67 8) (F 67 10) (F 67 11) (A 68) (A 71) x1 m y3 y4 y5 y6 (F 67 9) (A 85)).2.2.2.2.1)) (uA (uA A 68 ((km_ranking_54 (F 67 3) (F 67 8) (F 67 10) (F 67 11) (A 68) (A 71) x1 m y3 y4 y5 y6 (F 67 9) (A 85)).2.2.2.2.2.1)) 85 ((km_ranking_54 (F 67 3) (F 67 8) (F 67 10) (F 67 11) (A 68) (A 71) x1 m y3 y4 y5 y6 (F 67 9) (A 85)).2.2.2.2.2.2)) L)) → wl_E f B D mm172.2.2.2.2.2.2.2.2 54 [some (.ref 67), some (.int x1), some (.int x2), some (.int y3), some (.int y4), some (.int y5), some (.int y6), o7, o8] [] (hz F A L) Q := by
  intro m
  induction m with
  | zero =>
    intro B D F A L x1 x2 y3 y4 y5 y6 o7 o8 hm K
    generalize hT : (km_ranking_54 (F 67 3) (F 67 8) (F 67 10) (F 67 11) (A 68) (A 71) x1 0 y3 y4 y5 y6 (F 67 9) (A 85)) = T at K
    have hE : T = (if (F 67 9).toInt < (F 67 10).toInt then ((km_wrongOf (F 67 9) 1).1, (F 67 8), (F 67 9), (F 67 10), (km_wrongOf (F 67 9) 1).2, (A 68), (A 85)) else (y4, (F 67 8), (F 67 9), (F 67 10), (F 67 11), (km_ranking_245 (A 85) x1 (F 67 3).toInt.toNat 0 (A 68)), (A 85))) := hT.symm
    clear hT
    refine w_n 3 (pc1 := 60) (ls1 := [some (.ref 67), some (.int x1), some (.int x2), some (.int y3), some (.int y4), some (.int y5), some (.int y6), o7, o8]) (st1 := [.int (F 67 3), .int y6]) (hp1 := (hz F A L)) rfl ?_
    refine w_ge (p3 := 63) rfl rfl (fun hb => ?_) (fun h => False.elim (by have h : y6.toInt < (F 67 3).toInt := h; omega))
    refine w_n 4 (pc1 := 233) (ls1 := [some (.ref 67), some (.int x1), some (.int x2), some (.int y3), some (.int y4), some (.int y5), some (.int y6), o7, o8]) (st1 := [.int (F 67 10), .int (F 67 9)]) (hp1 := (hz F A L)) rfl ?_
    refine w_ge (p3 := 236) rfl rfl (fun h => ?_) (fun h => ?_)
    · have h1 : (F 67 10).toInt ≤ (F 67 9).toInt := h
      rw [if_neg (Int.not_lt.mpr h1)] at hE
      refine w_n 2 (pc1 := 245) (ls1 := [some (.ref 67), some (.int x1), some (.int x2), some (.int y3), some (.int y4), some (.int y5), some (.int 0), o7, o8]) (st1 := []) (hp1 := (hz F A L)) rfl ?_
      refine t_km_ranking_245 (F 67 3).toInt.toNat (show (F 67 3).toInt.toNat = ((F 67 3).toInt - (0 : Int32).toInt).toNat by have e0 : (0 : Int32).toInt = 0 := rfl; first | rfl | omega) ?_
      intro r1
      show wl_E f _ _ mm172.2.2.2.2.2.2.2.2 282 [some (.ref 67), some (.int x1), some (.int x2), some (.int y3), some (.int y4), some (.int y5), some (.int r1), o7, o8] [] (hz F (uA A 68 (km_ranking_245 (A 85) x1 (F 67 3).toInt.toNat 0 (A 68))) L) _
      generalize hG105 : (km_ranking_245 (A 85) x1 (F 67 3).toInt.toNat 0 (A 68)) = G105 at hE ⊢
      refine w_n 1 (pc1 := 284) (ls1 := [some (.ref 67), some (.int x1), some (.int x2), some (.int y3), some (.int y4), some (.int y5), some (.int r1), o7, o8]) (st1 := [.int y4]) (hp1 := (hz F (uA A 68 G105) L)) rfl ?_
      subst T
      exact w_ri rfl (cvQ (funext fun q => funext fun z => if k0 : q = 67 ∧ z = 8 then by obtain ⟨w1, w2⟩ := k0; subst w1; subst w2; exact Eq.trans (b := (F 67 8)) rfl rfl else if k1 : q = 67 ∧ z = 9 then by obtain ⟨w1, w2⟩ := k1; subst w1; subst w2; exact Eq.trans (b := (F 67 9)) rfl rfl else if k2 : q = 67 ∧ z = 10 then by obtain ⟨w1, w2⟩ := k2; subst w1; subst w2; exact Eq.trans (b := (F 67 10)) rfl rfl else if k3 : q = 67 ∧ z = 11 then by obtain ⟨w1, w2⟩ := k3; subst w1; subst w2; exact Eq.trans (b := (F 67 11)) rfl rfl else by unfold uF; simp only [nb2 k0, nb2 k1, nb2 k2, nb2 k3, cond_false]) (funext fun q => if k0 : q = 68 then by subst k0; exact Eq.trans (b := G105) rfl rfl else if k1 : q = 85 then by subst k1; exact Eq.trans (b := (A 85)) rfl rfl else by unfold uA; simp only [nb1 k0, nb1 k1, cond_false]) rfl K)
    · have h1 : (F 67 9).toInt < (F 67 10).toInt := h
      rw [if_pos h1] at hE
      refine w_n 2 (pc1 := 238) (ls1 := [some (.ref 67), some (.int x1), some (.int x2), some (.int y3), some (.int y4), some (.int y5), some (.int y6), o7, o8]) (st1 := [.int 1, .ref 67]) (hp1 := (hz F A L)) rfl ?_
      refine w_c rfl rfl (t_km_wrongOf ?_)
      show wl_E f _ _ mm172.2.2.2.2.2.2.2.2 241 [some (.ref 67), some (.int x1), some (.int x2), some (.int y3), some (.int y4), some (.int y5), some (.int y6), o7, o8] [.int (km_wrongOf (F 67 9) 1).1] (hz (uF F 67 11 (km_wrongOf (F 67 9) 1).2) A L) _
      generalize hG107 : (km_wrongOf (F 67 9) 1) = G107 at hE ⊢
      subst T
      exact w_ri rfl (cvQ (funext fun q => funext fun z => if k0 : q = 67 ∧ z = 8 then by obtain ⟨w1, w2⟩ := k0; subst w1; subst w2; exact Eq.trans (b := (F 67 8)) rfl rfl else if k1 : q = 67 ∧ z = 9 then by obtain ⟨w1, w2⟩ := k1; subst w1; subst w2; exact Eq.trans (b := (F 67 9)) rfl rfl else if k2 : q = 67 ∧ z = 10 then by obtain ⟨w1, w2⟩ := k2; subst w1; subst w2; exact Eq.trans (b := (F 67 10)) rfl rfl else if k3 : q = 67 ∧ z = 11 then by obtain ⟨w1, w2⟩ := k3; subst w1; subst w2; exact Eq.trans (b := G107.2) rfl rfl else by unfold uF; simp only [nb2 k0, nb2 k1, nb2 k2, nb2 k3, cond_false]) (funext fun q => if k0 : q = 68 then by subst k0; exact Eq.trans (b := (A 68)) rfl rfl else if k1 : q = 85 then by subst k1; exact Eq.trans (b := (A 85)) rfl rfl else by unfold uA; simp only [nb1 k0, nb1 k1, cond_false]) rfl K)
  | succ m ih =>
    intro B D F A L x1 x2 y3 y4 y5 y6 o7 o8 hm K
    generalize hT : (km_ranking_54 (F 67 3) (F 67 8) (F 67 10) (F 67 11) (A 68) (A 71) x1 (m + 1) y3 y4 y5 y6 (F 67 9) (A 85)) = T at K
    have hE : T = (if 0 < y6.toInt then (if (km_here (F 67 9) (F 67 10) (A 71)) = 61 then (if (km_isMeasure (F 67 3) ((km_here ((F 67 9) + 1) (F 67 10) (A 71)) - 97)) = 0 then ((km_wrongOf ((F 67 9) + 1) 1).1, (F 67 8), ((F 67 9) + 1), (F 67 10), (km_wrongOf ((F 67 9) + 1) 1).2, (A 68), (A 85)) else (if (km_has y3 ((km_here ((F 67 9) + 1) (F 67 10) (A 71)) - 97)) = 0 then (km_ranking_54 (F 67 3) (F 67 8) (F 67 10) (F 67 11) (A 68) (A 71) x1 m (y3 ||| ((1 : Int32) <<< (((km_here ((F 67 9) + 1) (F 67 10) (A 71)) - 97) &&& 31))) (y4 + 0) y5 (y6 + 1) (((F 67 9) + 1) + 1) ((A 85).set ((km_here ((F 67 9) + 1) (F 67 10) (A 71)) - 97).toInt.toNat y5)) else ((km_wrongOf ((F 67 9) + 1) 6).1, (F 67 8), ((F 67 9) + 1), (F 67 10), (km_wrongOf ((F 67 9) + 1) 6).2, (A 68), (A 85)))) else (if (km_here (F 67 9) (F 67 10) (A 71)) = 62 then (if (km_isMeasure (F 67 3) ((km_here ((F 67 9) + 1) (F 67 10) (A 71)) - 97)) = 0 then ((km_wrongOf ((F 67 9) + 1) 1).1, (F 67 8), ((F 67 9) + 1), (F 67 10), (km_wrongOf ((F 67 9) + 1) 1).2, (A 68), (A 85)) else (if (km_has y3 ((km_here ((F 67 9) + 1) (F 67 10) (A 71)) - 97)) = 0 then (km_ranking_54 (F 67 3) (F 67 8) (F 67 10) (F 67 11) (A 68) (A 71) x1 m (y3 ||| ((1 : Int32) <<< (((km_here ((F 67 9) + 1) (F 67 10) (A 71)) - 97) &&& 31))) (y4 + 1) y6 (y6 + 1) (((F 67 9) + 1) + 1) ((A 85).set ((km_here ((F 67 9) + 1) (F 67 10) (A 71)) - 97).toInt.toNat y6)) else ((km_wrongOf ((F 67 9) + 1) 6).1, (F 67 8), ((F 67 9) + 1), (F 67 10), (km_wrongOf ((F 67 9) + 1) 6).2, (A 68), (A 85)))) else ((km_wrongOf (F 67 9) 1).1, (F 67 8), (F 67 9), (F 67 10), (km_wrongOf (F 67 9) 1).2, (A 68), (A 85)))) else (if (km_isMeasure (F 67 3) ((km_here (F 67 9) (F 67 10) (A 71)) - 97)) = 0 then ((km_wrongOf (F 67 9) 1).1, (F 67 8), (F 67 9), (F 67 10), (km_wrongOf (F 67 9) 1).2, (A 68), (A 85)) else (if (km_has y3 ((km_here (F 67 9) (F 67 10) (A 71)) - 97)) = 0 then (km_ranking_54 (F 67 3) (F 67 8) (F 67 10) (F 67 11) (A 68) (A 71) x1 m (y3 ||| ((1 : Int32) <<< (((km_here (F 67 9) (F 67 10) (A 71)) - 97) &&& 31))) (y4 + 1) y6 (y6 + 1) ((F 67 9) + 1) ((A 85).set ((km_here (F 67 9) (F 67 10) (A 71)) - 97).toInt.toNat y6)) else ((km_wrongOf (F 67 9) 6).1, (F 67 8), (F 67 9), (F 67 10), (km_wrongOf (F 67 9) 6).2, (A 68), (A 85))))) := hT.symm
    clear hT
    refine w_n 3 (pc1 := 60) (ls1 := [some (.ref 67), some (.int x1), some (.int x2), some (.int y3), some (.int y4), some (.int y5), some (.int y6), o7, o8]) (st1 := [.int (F 67 3), .int y6]) (hp1 := (hz F A L)) rfl ?_
    refine w_ge (p3 := 63) rfl rfl (fun h => False.elim (by have h : (F 67 3).toInt ≤ y6.toInt := h; omega)) (fun hb => ?_)
    refine w_n 1 (pc1 := 65) (ls1 := [some (.ref 67), some (.int x1), some (.int x2), some (.int y3), some (.int y4), some (.int y5), some (.int y6), o7, o8]) (st1 := [.int y6]) (hp1 := (hz F A L)) rfl ?_
    refine w_zle (p3 := 68) rfl rfl (fun h => ?_) (fun h => ?_)
    · have h2 : y6.toInt ≤ 0 := h
      rw [if_neg (Int.not_lt.mpr h2)] at hE
      refine w_n 3 (pc1 := 86) (ls1 := [some (.ref 67), some (.int x1), some (.int x2), some (.int y3), some (.int y4), some (.int y5), some (.int y6), some (.int 0), o8]) (st1 := [.int y6]) (hp1 := (hz F A L)) rfl ?_
      refine w_zle (p3 := 89) rfl rfl (fun _ => ?_) (fun h => False.elim (by have h : 0 < y6.toInt := h; omega))
      refine w_n 1 (pc1 := 111) (ls1 := [some (.ref 67), some (.int x1), some (.int x2), some (.int y3), some (.int y4), some (.int y5), some (.int y6), some (.int 0), o8]) (st1 := [.int y6]) (hp1 := (hz F A L)) rfl ?_
      refine w_zle (p3 := 114) rfl rfl (fun _ => ?_) (fun h => False.elim (by have h : 0 < y6.toInt := h; omega))
      refine w_n 1 (pc1 := 125) (ls1 := [some (.ref 67), some (.int x1), some (.int x2), some (.int y3), some (.int y4), some (.int y5), some (.int y6), some (.int 0), o8]) (st1 := [.ref 67]) (hp1 := (hz F A L)) rfl ?_
      refine w_c rfl rfl (t_km_here ?_)
      show wl_E f _ _ mm172.2.2.2.2.2.2.2.2 128 [some (.ref 67), some (.int x1), some (.int x2), some (.int y3), some (.int y4), some (.int y5), some (.int y6), some (.int 0), o8] [.int (km_here (F 67 9) (F 67 10) (A 71))] (hz F A L) _
      generalize hG108 : (km_here (F 67 9) (F 67 10) (A 71)) = G108 at hE ⊢
      refine w_n 5 (pc1 := 136) (ls1 := [some (.ref 67), some (.int x1), some (.int x2), some (.int y3), some (.int y4), some (.int y5), some (.int y6), some (.int 0), some (.int (G108 - 97))]) (st1 := [.int (G108 - 97), .ref 67]) (hp1 := (hz F A L)) rfl ?_
      refine w_c rfl rfl (t_km_isMeasure ?_)
      show wl_E f _ _ mm172.2.2.2.2.2.2.2.2 139 [some (.ref 67), some (.int x1), some (.int x2), some (.int y3), some (.int y4), some (.int y5), some (.int y6), some (.int 0), some (.int (G108 - 97))] [.int (km_isMeasure (F 67 3) (G108 - 97))] (hz F A L) _
      generalize hG110 : (km_isMeasure (F 67 3) (G108 - 97)) = G110 at hE ⊢
      refine w_zne (p3 := 142) rfl rfl (fun h => ?_) (fun h => ?_)
      · have h3 : ¬ G110 = 0 := h
        rw [if_neg h3] at hE
        refine w_n 2 (pc1 := 151) (ls1 := [some (.ref 67), some (.int x1), some (.int x2), some (.int y3), some (.int y4), some (.int y5), some (.int y6), some (.int 0), some (.int (G108 - 97))]) (st1 := [.int (G108 - 97), .int y3]) (hp1 := (hz F A L)) rfl ?_
        refine w_c rfl rfl (t_km_has ?_)
        show wl_E f _ _ mm172.2.2.2.2.2.2.2.2 154 [some (.ref 67), some (.int x1), some (.int x2), some (.int y3), some (.int y4), some (.int y5), some (.int y6), some (.int 0), some (.int (G108 - 97))] [.int (km_has y3 (G108 - 97))] (hz F A L) _
        generalize hG111 : (km_has y3 (G108 - 97)) = G111 at hE ⊢
        refine w_zeq (p3 := 157) rfl rfl (fun h => ?_) (fun h => ?_)
        · have h4 : G111 = 0 := h
          rw [if_pos h4] at hE
          refine w_n 7 (pc1 := 173) (ls1 := [some (.ref 67), some (.int x1), some (.int x2), some (.int (y3 ||| ((1 : Int32) <<< ((G108 - 97) &&& 31)))), some (.int y4), some (.int y5), some (.int y6), some (.int 0), some (.int (G108 - 97))]) (st1 := [.int 0]) (hp1 := (hz F A L)) rfl ?_
          refine w_zeq (p3 := 176) rfl rfl (fun _ => ?_) (fun h => absurd h (by decide))
          refine w_n 4 (pc1 := 189) (ls1 := [some (.ref 67), some (.int x1), some (.int x2), some (.int (y3 ||| ((1 : Int32) <<< ((G108 - 97) &&& 31)))), some (.int y4), some (.int y6), some (.int y6), some (.int 0), some (.int (G108 - 97))]) (st1 := [.int 0, .int y4]) (hp1 := (hz F A L)) rfl ?_
          refine w_zeq (p3 := 192) rfl rfl (fun _ => ?_) (fun h => absurd h (by decide))
          refine w_n 7 (pc1 := 208) (ls1 := [some (.ref 67), some (.int x1), some (.int x2), some (.int (y3 ||| ((1 : Int32) <<< ((G108 - 97) &&& 31)))), some (.int (y4 + 1)), some (.int y6), some (.int y6), some (.int 0), some (.int (G108 - 97))]) (st1 := [.int y6, .int (G108 - 97), .ref 85]) (hp1 := (hz F A L)) rfl ?_
          refine w_as (k := 85) (l := (A 85)) (hp1 := (hz F (uA A 85 ((A 85).set (G108 - 97).toInt.toNat y6)) L)) rfl rfl rfl (hz_s85 _) (fun _ => ?_)
          refine w_n 5 (pc1 := 216) (ls1 := [some (.ref 67), some (.int x1), some (.int x2), some (.int (y3 ||| ((1 : Int32) <<< ((G108 - 97) &&& 31)))), some (.int (y4 + 1)), some (.int y6), some (.int y6), some (.int 0), some (.int (G108 - 97))]) (st1 := [.int ((F 67 9) + 1), .ref 67]) (hp1 := (hz F (uA A 85 ((A 85).set (G108 - 97).toInt.toNat y6)) L)) rfl ?_
          refine w_pf (k := 67) (fs := hz_f67 F) (hp1 := (hz (uF F 67 9 ((F 67 9) + 1)) (uA A 85 ((A 85).set (G108 - 97).toInt.toNat y6)) L)) rfl rfl rfl (hz_p67_9 _) ?_
          refine w_n 2 (pc1 := 54) (ls1 := [some (.ref 67), some (.int x1), some (.int x2), some (.int (y3 ||| ((1 : Int32) <<< ((G108 - 97) &&& 31)))), some (.int (y4 + 1)), some (.int y6), some (.int (y6 + 1)), some (.int 0), some (.int (G108 - 97))]) (st1 := []) (hp1 := (hz (uF F 67 9 ((F 67 9) + 1)) (uA A 85 ((A 85).set (G108 - 97).toInt.toNat y6)) L)) rfl ?_
          subst T
          have hb2 := i_up (B := (F 67 3)) hb
          have hb3 : y6.toInt < (F 67 3).toInt := hb
          exact ih (show m = ((F 67 3).toInt - (y6 + 1).toInt).toNat by rw [hb2]; omega) (cvQ (funext fun q => funext fun z => if k0 : q = 67 ∧ z = 8 then by obtain ⟨w1, w2⟩ := k0; subst w1; subst w2; exact Eq.trans (b := (km_ranking_54 (F 67 3) (F 67 8) (F 67 10) (F 67 11) (A 68) (A 71) x1 m (y3 ||| ((1 : Int32) <<< ((G108 - 97) &&& 31))) (y4 + 1) y6 (y6 + 1) ((F 67 9) + 1) ((A 85).set (G108 - 97).toInt.toNat y6)).2.1) rfl rfl else if k1 : q = 67 ∧ z = 9 then by obtain ⟨w1, w2⟩ := k1; subst w1; subst w2; exact Eq.trans (b := (km_ranking_54 (F 67 3) (F 67 8) (F 67 10) (F 67 11) (A 68) (A 71) x1 m (y3 ||| ((1 : Int32) <<< ((G108 - 97) &&& 31))) (y4 + 1) y6 (y6 + 1) ((F 67 9) + 1) ((A 85).set (G108 - 97).toInt.toNat y6)).2.2.1) rfl rfl else if k2 : q = 67 ∧ z = 10 then by obtain ⟨w1, w2⟩ := k2; subst w1; subst w2; exact Eq.trans (b := (km_ranking_54 (F 67 3) (F 67 8) (F 67 10) (F 67 11) (A 68) (A 71) x1 m (y3 ||| ((1 : Int32) <<< ((G108 - 97) &&& 31))) (y4 + 1) y6 (y6 + 1) ((F 67 9) + 1) ((A 85).set (G108 - 97).toInt.toNat y6)).2.2.2.1) rfl rfl else if k3 : q = 67 ∧ z = 11 then by obtain ⟨w1, w2⟩ := k3; subst w1; subst w2; exact Eq.trans (b := (km_ranking_54 (F 67 3) (F 67 8) (F 67 10) (F 67 11) (A 68) (A 71) x1 m (y3 ||| ((1 : Int32) <<< ((G108 - 97) &&& 31))) (y4 + 1) y6 (y6 + 1) ((F 67 9) + 1) ((A 85).set (G108 - 97).toInt.toNat y6)).2.2.2.2.1) rfl rfl else by unfold uF; simp only [nb2 k0, nb2 k1, nb2 k2, nb2 k3, cond_false]) (funext fun q => if k0 : q = 68 then by subst k0; exact Eq.trans (b := (km_ranking_54 (F 67 3) (F 67 8) (F 67 10) (F 67 11) (A 68) (A 71) x1 m (y3 ||| ((1 : Int32) <<< ((G108 - 97) &&& 31))) (y4 + 1) y6 (y6 + 1) ((F 67 9) + 1) ((A 85).set (G108 - 97).toInt.toNat y6)).2.2.2.2.2.1) rfl rfl else if k1 : q = 85 then by subst k1; exact Eq.trans (b := (km_ranking_54 (F 67 3) (F 67 8) (F 67 10) (F 67 11) (A 68) (A 71) x1 m (y3 ||| ((1 : Int32) <<< ((G108 - 97) &&& 31))) (y4 + 1) y6 (y6 + 1) ((F 67 9) + 1) ((A 85).set (G108 - 97).toInt.toNat y6)).2.2.2.2.2.2) rfl rfl else by unfold uA; simp only [nb1 k0, nb1 k1, cond_false]) rfl K)
        · have h4 : ¬ G111 = 0 := h
          rw [if_neg h4] at hE
          refine w_n 2 (pc1 := 160) (ls1 := [some (.ref 67), some (.int x1), some (.int x2), some (.int y3), some (.int y4), some (.int y5), some (.int y6), some (.int 0), some (.int (G108 - 97))]) (st1 := [.int 6, .ref 67]) (hp1 := (hz F A L)) rfl ?_
          refine w_c rfl rfl (t_km_wrongOf ?_)
          show wl_E f _ _ mm172.2.2.2.2.2.2.2.2 163 [some (.ref 67), some (.int x1), some (.int x2), some (.int y3), some (.int y4), some (.int y5), some (.int y6), some (.int 0), some (.int (G108 - 97))] [.int (km_wrongOf (F 67 9) 6).1] (hz (uF F 67 11 (km_wrongOf (F 67 9) 6).2) A L) _
          generalize hG112 : (km_wrongOf (F 67 9) 6) = G112 at hE ⊢
          subst T
          exact w_ri rfl (cvQ (funext fun q => funext fun z => if k0 : q = 67 ∧ z = 8 then by obtain ⟨w1, w2⟩ := k0; subst w1; subst w2; exact Eq.trans (b := (F 67 8)) rfl rfl else if k1 : q = 67 ∧ z = 9 then by obtain ⟨w1, w2⟩ := k1; subst w1; subst w2; exact Eq.trans (b := (F 67 9)) rfl rfl else if k2 : q = 67 ∧ z = 10 then by obtain ⟨w1, w2⟩ := k2; subst w1; subst w2; exact Eq.trans (b := (F 67 10)) rfl rfl else if k3 : q = 67 ∧ z = 11 then by obtain ⟨w1, w2⟩ := k3; subst w1; subst w2; exact Eq.trans (b := G112.2) rfl rfl else by unfold uF; simp only [nb2 k0, nb2 k1, nb2 k2, nb2 k3, cond_false]) (funext fun q => if k0 : q = 68 then by subst k0; exact Eq.trans (b := (A 68)) rfl rfl else if k1 : q = 85 then by subst k1; exact Eq.trans (b := (A 85)) rfl rfl else by unfold uA; simp only [nb1 k0, nb1 k1, cond_false]) rfl K)
      · have h3 : G110 = 0 := h
        rw [if_pos h3] at hE
        refine w_n 2 (pc1 := 144) (ls1 := [some (.ref 67), some (.int x1), some (.int x2), some (.int y3), some (.int y4), some (.int y5), some (.int y6), some (.int 0), some (.int (G108 - 97))]) (st1 := [.int 1, .ref 67]) (hp1 := (hz F A L)) rfl ?_
        refine w_c rfl rfl (t_km_wrongOf ?_)
        show wl_E f _ _ mm172.2.2.2.2.2.2.2.2 147 [some (.ref 67), some (.int x1), some (.int x2), some (.int y3), some (.int y4), some (.int y5), some (.int y6), some (.int 0), some (.int (G108 - 97))] [.int (km_wrongOf (F 67 9) 1).1] (hz (uF F 67 11 (km_wrongOf (F 67 9) 1).2) A L) _
        generalize hG113 : (km_wrongOf (F 67 9) 1) = G113 at hE ⊢
        subst T
        exact w_ri rfl (cvQ (funext fun q => funext fun z => if k0 : q = 67 ∧ z = 8 then by obtain ⟨w1, w2⟩ := k0; subst w1; subst w2; exact Eq.trans (b := (F 67 8)) rfl rfl else if k1 : q = 67 ∧ z = 9 then by obtain ⟨w1, w2⟩ := k1; subst w1; subst w2; exact Eq.trans (b := (F 67 9)) rfl rfl else if k2 : q = 67 ∧ z = 10 then by obtain ⟨w1, w2⟩ := k2; subst w1; subst w2; exact Eq.trans (b := (F 67 10)) rfl rfl else if k3 : q = 67 ∧ z = 11 then by obtain ⟨w1, w2⟩ := k3; subst w1; subst w2; exact Eq.trans (b := G113.2) rfl rfl else by unfold uF; simp only [nb2 k0, nb2 k1, nb2 k2, nb2 k3, cond_false]) (funext fun q => if k0 : q = 68 then by subst k0; exact Eq.trans (b := (A 68)) rfl rfl else if k1 : q = 85 then by subst k1; exact Eq.trans (b := (A 85)) rfl rfl else by unfold uA; simp only [nb1 k0, nb1 k1, cond_false]) rfl K)
    · have h2 : 0 < y6.toInt := h
      rw [if_pos h2] at hE
      refine w_n 1 (pc1 := 69) (ls1 := [some (.ref 67), some (.int x1), some (.int x2), some (.int y3), some (.int y4), some (.int y5), some (.int y6), o7, o8]) (st1 := [.ref 67]) (hp1 := (hz F A L)) rfl ?_
      refine w_c rfl rfl (t_km_here ?_)
      show wl_E f _ _ mm172.2.2.2.2.2.2.2.2 72 [some (.ref 67), some (.int x1), some (.int x2), some (.int y3), some (.int y4), some (.int y5), some (.int y6), o7, o8] [.int (km_here (F 67 9) (F 67 10) (A 71))] (hz F A L) _
      generalize hG114 : (km_here (F 67 9) (F 67 10) (A 71)) = G114 at hE ⊢
      refine w_n 1 (pc1 := 74) (ls1 := [some (.ref 67), some (.int x1), some (.int x2), some (.int y3), some (.int y4), some (.int y5), some (.int y6), o7, o8]) (st1 := [.int 61, .int G114]) (hp1 := (hz F A L)) rfl ?_
      refine w_ne (p3 := 77) rfl rfl (fun h => ?_) (fun h => ?_)
      · have h5 : ¬ G114 = 61 := h
        rw [if_neg h5] at hE
        refine w_n 3 (pc1 := 86) (ls1 := [some (.ref 67), some (.int x1), some (.int x2), some (.int y3), some (.int y4), some (.int y5), some (.int y6), some (.int 0), o8]) (st1 := [.int y6]) (hp1 := (hz F A L)) rfl ?_
        refine w_zle (p3 := 89) rfl rfl (fun h => False.elim (by have h : y6.toInt ≤ 0 := h; omega)) (fun _ => ?_)
        refine w_n 1 (pc1 := 91) (ls1 := [some (.ref 67), some (.int x1), some (.int x2), some (.int y3), some (.int y4), some (.int y5), some (.int y6), some (.int 0), o8]) (st1 := [.int 0]) (hp1 := (hz F A L)) rfl ?_
        refine w_zne (p3 := 94) rfl rfl (fun h => absurd h (by decide)) (fun _ => ?_)
        refine w_n 1 (pc1 := 95) (ls1 := [some (.ref 67), some (.int x1), some (.int x2), some (.int y3), some (.int y4), some (.int y5), some (.int y6), some (.int 0), o8]) (st1 := [.ref 67]) (hp1 := (hz F A L)) rfl ?_
        refine w_c rfl rfl (t_km_here ?_)
        show wl_E f _ _ mm172.2.2.2.2.2.2.2.2 98 [some (.ref 67), some (.int x1), some (.int x2), some (.int y3), some (.int y4), some (.int y5), some (.int y6), some (.int 0), o8] [.int (km_here (F 67 9) (F 67 10) (A 71))] (hz F A L) _
        rw [hG114]
        refine w_n 1 (pc1 := 100) (ls1 := [some (.ref 67), some (.int x1), some (.int x2), some (.int y3), some (.int y4), some (.int y5), some (.int y6), some (.int 0), o8]) (st1 := [.int 62, .int G114]) (hp1 := (hz F A L)) rfl ?_
        refine w_eq (p3 := 103) rfl rfl (fun h => ?_) (fun h => ?_)
        · have h6 : G114 = 62 := h
          rw [if_pos h6] at hE
          refine w_n 1 (pc1 := 111) (ls1 := [some (.ref 67), some (.int x1), some (.int x2), some (.int y3), some (.int y4), some (.int y5), some (.int y6), some (.int 0), o8]) (st1 := [.int y6]) (hp1 := (hz F A L)) rfl ?_
          refine w_zle (p3 := 114) rfl rfl (fun h => False.elim (by have h : y6.toInt ≤ 0 := h; omega)) (fun _ => ?_)
          refine w_n 5 (pc1 := 121) (ls1 := [some (.ref 67), some (.int x1), some (.int x2), some (.int y3), some (.int y4), some (.int y5), some (.int y6), some (.int 0), o8]) (st1 := [.int ((F 67 9) + 1), .ref 67]) (hp1 := (hz F A L)) rfl ?_
          refine w_pf (k := 67) (fs := hz_f67 F) (hp1 := (hz (uF F 67 9 ((F 67 9) + 1)) A L)) rfl rfl rfl (hz_p67_9 _) ?_
          refine w_n 1 (pc1 := 125) (ls1 := [some (.ref 67), some (.int x1), some (.int x2), some (.int y3), some (.int y4), some (.int y5), some (.int y6), some (.int 0), o8]) (st1 := [.ref 67]) (hp1 := (hz (uF F 67 9 ((F 67 9) + 1)) A L)) rfl ?_
          refine w_c rfl rfl (t_km_here ?_)
          show wl_E f _ _ mm172.2.2.2.2.2.2.2.2 128 [some (.ref 67), some (.int x1), some (.int x2), some (.int y3), some (.int y4), some (.int y5), some (.int y6), some (.int 0), o8] [.int (km_here ((F 67 9) + 1) (F 67 10) (A 71))] (hz (uF F 67 9 ((F 67 9) + 1)) A L) _
          generalize hG115 : (km_here ((F 67 9) + 1) (F 67 10) (A 71)) = G115 at hE ⊢
          refine w_n 5 (pc1 := 136) (ls1 := [some (.ref 67), some (.int x1), some (.int x2), some (.int y3), some (.int y4), some (.int y5), some (.int y6), some (.int 0), some (.int (G115 - 97))]) (st1 := [.int (G115 - 97), .ref 67]) (hp1 := (hz (uF F 67 9 ((F 67 9) + 1)) A L)) rfl ?_
          refine w_c rfl rfl (t_km_isMeasure ?_)
          show wl_E f _ _ mm172.2.2.2.2.2.2.2.2 139 [some (.ref 67), some (.int x1), some (.int x2), some (.int y3), some (.int y4), some (.int y5), some (.int y6), some (.int 0), some (.int (G115 - 97))] [.int (km_isMeasure (F 67 3) (G115 - 97))] (hz (uF F 67 9 ((F 67 9) + 1)) A L) _
          generalize hG116 : (km_isMeasure (F 67 3) (G115 - 97)) = G116 at hE ⊢
          refine w_zne (p3 := 142) rfl rfl (fun h => ?_) (fun h => ?_)
          · have h7 : ¬ G116 = 0 := h
            rw [if_neg h7] at hE
            refine w_n 2 (pc1 := 151) (ls1 := [some (.ref 67), some (.int x1), some (.int x2), some (.int y3), some (.int y4), some (.int y5), some (.int y6), some (.int 0), some (.int (G115 - 97))]) (st1 := [.int (G115 - 97), .int y3]) (hp1 := (hz (uF F 67 9 ((F 67 9) + 1)) A L)) rfl ?_
            refine w_c rfl rfl (t_km_has ?_)
            show wl_E f _ _ mm172.2.2.2.2.2.2.2.2 154 [some (.ref 67), some (.int x1), some (.int x2), some (.int y3), some (.int y4), some (.int y5), some (.int y6), some (.int 0), some (.int (G115 - 97))] [.int (km_has y3 (G115 - 97))] (hz (uF F 67 9 ((F 67 9) + 1)) A L) _
            generalize hG117 : (km_has y3 (G115 - 97)) = G117 at hE ⊢
            refine w_zeq (p3 := 157) rfl rfl (fun h => ?_) (fun h => ?_)
            · have h8 : G117 = 0 := h
              rw [if_pos h8] at hE
              refine w_n 7 (pc1 := 173) (ls1 := [some (.ref 67), some (.int x1), some (.int x2), some (.int (y3 ||| ((1 : Int32) <<< ((G115 - 97) &&& 31)))), some (.int y4), some (.int y5), some (.int y6), some (.int 0), some (.int (G115 - 97))]) (st1 := [.int 0]) (hp1 := (hz (uF F 67 9 ((F 67 9) + 1)) A L)) rfl ?_
              refine w_zeq (p3 := 176) rfl rfl (fun _ => ?_) (fun h => absurd h (by decide))
              refine w_n 4 (pc1 := 189) (ls1 := [some (.ref 67), some (.int x1), some (.int x2), some (.int (y3 ||| ((1 : Int32) <<< ((G115 - 97) &&& 31)))), some (.int y4), some (.int y6), some (.int y6), some (.int 0), some (.int (G115 - 97))]) (st1 := [.int 0, .int y4]) (hp1 := (hz (uF F 67 9 ((F 67 9) + 1)) A L)) rfl ?_
              refine w_zeq (p3 := 192) rfl rfl (fun _ => ?_) (fun h => absurd h (by decide))
              refine w_n 7 (pc1 := 208) (ls1 := [some (.ref 67), some (.int x1), some (.int x2), some (.int (y3 ||| ((1 : Int32) <<< ((G115 - 97) &&& 31)))), some (.int (y4 + 1)), some (.int y6), some (.int y6), some (.int 0), some (.int (G115 - 97))]) (st1 := [.int y6, .int (G115 - 97), .ref 85]) (hp1 := (hz (uF F 67 9 ((F 67 9) + 1)) A L)) rfl ?_
              refine w_as (k := 85) (l := (A 85)) (hp1 := (hz (uF F 67 9 ((F 67 9) + 1)) (uA A 85 ((A 85).set (G115 - 97).toInt.toNat y6)) L)) rfl rfl rfl (hz_s85 _) (fun _ => ?_)
              refine w_n 5 (pc1 := 216) (ls1 := [some (.ref 67), some (.int x1), some (.int x2), some (.int (y3 ||| ((1 : Int32) <<< ((G115 - 97) &&& 31)))), some (.int (y4 + 1)), some (.int y6), some (.int y6), some (.int 0), some (.int (G115 - 97))]) (st1 := [.int (((F 67 9) + 1) + 1), .ref 67]) (hp1 := (hz (uF F 67 9 ((F 67 9) + 1)) (uA A 85 ((A 85).set (G115 - 97).toInt.toNat y6)) L)) rfl ?_
              refine w_pf (k := 67) (fs := hz_f67 (uF F 67 9 ((F 67 9) + 1))) (hp1 := (hz (uF (uF F 67 9 ((F 67 9) + 1)) 67 9 (((F 67 9) + 1) + 1)) (uA A 85 ((A 85).set (G115 - 97).toInt.toNat y6)) L)) rfl rfl rfl (hz_p67_9 _) ?_
              refine w_n 2 (pc1 := 54) (ls1 := [some (.ref 67), some (.int x1), some (.int x2), some (.int (y3 ||| ((1 : Int32) <<< ((G115 - 97) &&& 31)))), some (.int (y4 + 1)), some (.int y6), some (.int (y6 + 1)), some (.int 0), some (.int (G115 - 97))]) (st1 := []) (hp1 := (hz (uF (uF F 67 9 ((F 67 9) + 1)) 67 9 (((F 67 9) + 1) + 1)) (uA A 85 ((A 85).set (G115 - 97).toInt.toNat y6)) L)) rfl ?_
              subst T
              have hb2 := i_up (B := (F 67 3)) hb
              have hb3 : y6.toInt < (F 67 3).toInt := hb
              exact ih (show m = ((F 67 3).toInt - (y6 + 1).toInt).toNat by rw [hb2]; omega) (cvQ (funext fun q => funext fun z => if k0 : q = 67 ∧ z = 8 then by obtain ⟨w1, w2⟩ := k0; subst w1; subst w2; exact Eq.trans (b := (km_ranking_54 (F 67 3) (F 67 8) (F 67 10) (F 67 11) (A 68) (A 71) x1 m (y3 ||| ((1 : Int32) <<< ((G115 - 97) &&& 31))) (y4 + 1) y6 (y6 + 1) (((F 67 9) + 1) + 1) ((A 85).set (G115 - 97).toInt.toNat y6)).2.1) rfl rfl else if k1 : q = 67 ∧ z = 9 then by obtain ⟨w1, w2⟩ := k1; subst w1; subst w2; exact Eq.trans (b := (km_ranking_54 (F 67 3) (F 67 8) (F 67 10) (F 67 11) (A 68) (A 71) x1 m (y3 ||| ((1 : Int32) <<< ((G115 - 97) &&& 31))) (y4 + 1) y6 (y6 + 1) (((F 67 9) + 1) + 1) ((A 85).set (G115 - 97).toInt.toNat y6)).2.2.1) rfl rfl else if k2 : q = 67 ∧ z = 10 then by obtain ⟨w1, w2⟩ := k2; subst w1; subst w2; exact Eq.trans (b := (km_ranking_54 (F 67 3) (F 67 8) (F 67 10) (F 67 11) (A 68) (A 71) x1 m (y3 ||| ((1 : Int32) <<< ((G115 - 97) &&& 31))) (y4 + 1) y6 (y6 + 1) (((F 67 9) + 1) + 1) ((A 85).set (G115 - 97).toInt.toNat y6)).2.2.2.1) rfl rfl else if k3 : q = 67 ∧ z = 11 then by obtain ⟨w1, w2⟩ := k3; subst w1; subst w2; exact Eq.trans (b := (km_ranking_54 (F 67 3) (F 67 8) (F 67 10) (F 67 11) (A 68) (A 71) x1 m (y3 ||| ((1 : Int32) <<< ((G115 - 97) &&& 31))) (y4 + 1) y6 (y6 + 1) (((F 67 9) + 1) + 1) ((A 85).set (G115 - 97).toInt.toNat y6)).2.2.2.2.1) rfl rfl else by unfold uF; simp only [nb2 k0, nb2 k1, nb2 k2, nb2 k3, cond_false]) (funext fun q => if k0 : q = 68 then by subst k0; exact Eq.trans (b := (km_ranking_54 (F 67 3) (F 67 8) (F 67 10) (F 67 11) (A 68) (A 71) x1 m (y3 ||| ((1 : Int32) <<< ((G115 - 97) &&& 31))) (y4 + 1) y6 (y6 + 1) (((F 67 9) + 1) + 1) ((A 85).set (G115 - 97).toInt.toNat y6)).2.2.2.2.2.1) rfl rfl else if k1 : q = 85 then by subst k1; exact Eq.trans (b := (km_ranking_54 (F 67 3) (F 67 8) (F 67 10) (F 67 11) (A 68) (A 71) x1 m (y3 ||| ((1 : Int32) <<< ((G115 - 97) &&& 31))) (y4 + 1) y6 (y6 + 1) (((F 67 9) + 1) + 1) ((A 85).set (G115 - 97).toInt.toNat y6)).2.2.2.2.2.2) rfl rfl else by unfold uA; simp only [nb1 k0, nb1 k1, cond_false]) rfl K)
            · have h8 : ¬ G117 = 0 := h
              rw [if_neg h8] at hE
              refine w_n 2 (pc1 := 160) (ls1 := [some (.ref 67), some (.int x1), some (.int x2), some (.int y3), some (.int y4), some (.int y5), some (.int y6), some (.int 0), some (.int (G115 - 97))]) (st1 := [.int 6, .ref 67]) (hp1 := (hz (uF F 67 9 ((F 67 9) + 1)) A L)) rfl ?_
              refine w_c rfl rfl (t_km_wrongOf ?_)
              show wl_E f _ _ mm172.2.2.2.2.2.2.2.2 163 [some (.ref 67), some (.int x1), some (.int x2), some (.int y3), some (.int y4), some (.int y5), some (.int y6), some (.int 0), some (.int (G115 - 97))] [.int (km_wrongOf ((F 67 9) + 1) 6).1] (hz (uF (uF F 67 9 ((F 67 9) + 1)) 67 11 (km_wrongOf ((F 67 9) + 1) 6).2) A L) _
              generalize hG118 : (km_wrongOf ((F 67 9) + 1) 6) = G118 at hE ⊢
              subst T
              exact w_ri rfl (cvQ (funext fun q => funext fun z => if k0 : q = 67 ∧ z = 8 then by obtain ⟨w1, w2⟩ := k0; subst w1; subst w2; exact Eq.trans (b := (F 67 8)) rfl rfl else if k1 : q = 67 ∧ z = 9 then by obtain ⟨w1, w2⟩ := k1; subst w1; subst w2; exact Eq.trans (b := ((F 67 9) + 1)) rfl rfl else if k2 : q = 67 ∧ z = 10 then by obtain ⟨w1, w2⟩ := k2; subst w1; subst w2; exact Eq.trans (b := (F 67 10)) rfl rfl else if k3 : q = 67 ∧ z = 11 then by obtain ⟨w1, w2⟩ := k3; subst w1; subst w2; exact Eq.trans (b := G118.2) rfl rfl else by unfold uF; simp only [nb2 k0, nb2 k1, nb2 k2, nb2 k3, cond_false]) (funext fun q => if k0 : q = 68 then by subst k0; exact Eq.trans (b := (A 68)) rfl rfl else if k1 : q = 85 then by subst k1; exact Eq.trans (b := (A 85)) rfl rfl else by unfold uA; simp only [nb1 k0, nb1 k1, cond_false]) rfl K)
          · have h7 : G116 = 0 := h
            rw [if_pos h7] at hE
            refine w_n 2 (pc1 := 144) (ls1 := [some (.ref 67), some (.int x1), some (.int x2), some (.int y3), some (.int y4), some (.int y5), some (.int y6), some (.int 0), some (.int (G115 - 97))]) (st1 := [.int 1, .ref 67]) (hp1 := (hz (uF F 67 9 ((F 67 9) + 1)) A L)) rfl ?_
            refine w_c rfl rfl (t_km_wrongOf ?_)
            show wl_E f _ _ mm172.2.2.2.2.2.2.2.2 147 [some (.ref 67), some (.int x1), some (.int x2), some (.int y3), some (.int y4), some (.int y5), some (.int y6), some (.int 0), some (.int (G115 - 97))] [.int (km_wrongOf ((F 67 9) + 1) 1).1] (hz (uF (uF F 67 9 ((F 67 9) + 1)) 67 11 (km_wrongOf ((F 67 9) + 1) 1).2) A L) _
            generalize hG119 : (km_wrongOf ((F 67 9) + 1) 1) = G119 at hE ⊢
            subst T
            exact w_ri rfl (cvQ (funext fun q => funext fun z => if k0 : q = 67 ∧ z = 8 then by obtain ⟨w1, w2⟩ := k0; subst w1; subst w2; exact Eq.trans (b := (F 67 8)) rfl rfl else if k1 : q = 67 ∧ z = 9 then by obtain ⟨w1, w2⟩ := k1; subst w1; subst w2; exact Eq.trans (b := ((F 67 9) + 1)) rfl rfl else if k2 : q = 67 ∧ z = 10 then by obtain ⟨w1, w2⟩ := k2; subst w1; subst w2; exact Eq.trans (b := (F 67 10)) rfl rfl else if k3 : q = 67 ∧ z = 11 then by obtain ⟨w1, w2⟩ := k3; subst w1; subst w2; exact Eq.trans (b := G119.2) rfl rfl else by unfold uF; simp only [nb2 k0, nb2 k1, nb2 k2, nb2 k3, cond_false]) (funext fun q => if k0 : q = 68 then by subst k0; exact Eq.trans (b := (A 68)) rfl rfl else if k1 : q = 85 then by subst k1; exact Eq.trans (b := (A 85)) rfl rfl else by unfold uA; simp only [nb1 k0, nb1 k1, cond_false]) rfl K)
        · have h6 : ¬ G114 = 62 := h
          rw [if_neg h6] at hE
          refine w_n 2 (pc1 := 105) (ls1 := [some (.ref 67), some (.int x1), some (.int x2), some (.int y3), some (.int y4), some (.int y5), some (.int y6), some (.int 0), o8]) (st1 := [.int 1, .ref 67]) (hp1 := (hz F A L)) rfl ?_
          refine w_c rfl rfl (t_km_wrongOf ?_)
          show wl_E f _ _ mm172.2.2.2.2.2.2.2.2 108 [some (.ref 67), some (.int x1), some (.int x2), some (.int y3), some (.int y4), some (.int y5), some (.int y6), some (.int 0), o8] [.int (km_wrongOf (F 67 9) 1).1] (hz (uF F 67 11 (km_wrongOf (F 67 9) 1).2) A L) _
          generalize hG120 : (km_wrongOf (F 67 9) 1) = G120 at hE ⊢
          subst T
          exact w_ri rfl (cvQ (funext fun q => funext fun z => if k0 : q = 67 ∧ z = 8 then by obtain ⟨w1, w2⟩ := k0; subst w1; subst w2; exact Eq.trans (b := (F 67 8)) rfl rfl else if k1 : q = 67 ∧ z = 9 then by obtain ⟨w1, w2⟩ := k1; subst w1; subst w2; exact Eq.trans (b := (F 67 9)) rfl rfl else if k2 : q = 67 ∧ z = 10 then by obtain ⟨w1, w2⟩ := k2; subst w1; subst w2; exact Eq.trans (b := (F 67 10)) rfl rfl else if k3 : q = 67 ∧ z = 11 then by obtain ⟨w1, w2⟩ := k3; subst w1; subst w2; exact Eq.trans (b := G120.2) rfl rfl else by unfold uF; simp only [nb2 k0, nb2 k1, nb2 k2, nb2 k3, cond_false]) (funext fun q => if k0 : q = 68 then by subst k0; exact Eq.trans (b := (A 68)) rfl rfl else if k1 : q = 85 then by subst k1; exact Eq.trans (b := (A 85)) rfl rfl else by unfold uA; simp only [nb1 k0, nb1 k1, cond_false]) rfl K)
      · have h5 : G114 = 61 := h
        rw [if_pos h5] at hE
        refine w_n 4 (pc1 := 86) (ls1 := [some (.ref 67), some (.int x1), some (.int x2), some (.int y3), some (.int y4), some (.int y5), some (.int y6), some (.int 1), o8]) (st1 := [.int y6]) (hp1 := (hz F A L)) rfl ?_
        refine w_zle (p3 := 89) rfl rfl (fun h => False.elim (by have h : y6.toInt ≤ 0 := h; omega)) (fun _ => ?_)
        refine w_n 1 (pc1 := 91) (ls1 := [some (.ref 67), some (.int x1), some (.int x2), some (.int y3), some (.int y4), some (.int y5), some (.int y6), some (.int 1), o8]) (st1 := [.int 1]) (hp1 := (hz F A L)) rfl ?_
        refine w_zne (p3 := 94) rfl rfl (fun _ => ?_) (fun h => absurd h (by decide))
        refine w_n 1 (pc1 := 111) (ls1 := [some (.ref 67), some (.int x1), some (.int x2), some (.int y3), some (.int y4), some (.int y5), some (.int y6), some (.int 1), o8]) (st1 := [.int y6]) (hp1 := (hz F A L)) rfl ?_
        refine w_zle (p3 := 114) rfl rfl (fun h => False.elim (by have h : y6.toInt ≤ 0 := h; omega)) (fun _ => ?_)
        refine w_n 5 (pc1 := 121) (ls1 := [some (.ref 67), some (.int x1), some (.int x2), some (.int y3), some (.int y4), some (.int y5), some (.int y6), some (.int 1), o8]) (st1 := [.int ((F 67 9) + 1), .ref 67]) (hp1 := (hz F A L)) rfl ?_
        refine w_pf (k := 67) (fs := hz_f67 F) (hp1 := (hz (uF F 67 9 ((F 67 9) + 1)) A L)) rfl rfl rfl (hz_p67_9 _) ?_
        refine w_n 1 (pc1 := 125) (ls1 := [some (.ref 67), some (.int x1), some (.int x2), some (.int y3), some (.int y4), some (.int y5), some (.int y6), some (.int 1), o8]) (st1 := [.ref 67]) (hp1 := (hz (uF F 67 9 ((F 67 9) + 1)) A L)) rfl ?_
        refine w_c rfl rfl (t_km_here ?_)
        show wl_E f _ _ mm172.2.2.2.2.2.2.2.2 128 [some (.ref 67), some (.int x1), some (.int x2), some (.int y3), some (.int y4), some (.int y5), some (.int y6), some (.int 1), o8] [.int (km_here ((F 67 9) + 1) (F 67 10) (A 71))] (hz (uF F 67 9 ((F 67 9) + 1)) A L) _
        generalize hG121 : (km_here ((F 67 9) + 1) (F 67 10) (A 71)) = G121 at hE ⊢
        refine w_n 5 (pc1 := 136) (ls1 := [some (.ref 67), some (.int x1), some (.int x2), some (.int y3), some (.int y4), some (.int y5), some (.int y6), some (.int 1), some (.int (G121 - 97))]) (st1 := [.int (G121 - 97), .ref 67]) (hp1 := (hz (uF F 67 9 ((F 67 9) + 1)) A L)) rfl ?_
        refine w_c rfl rfl (t_km_isMeasure ?_)
        show wl_E f _ _ mm172.2.2.2.2.2.2.2.2 139 [some (.ref 67), some (.int x1), some (.int x2), some (.int y3), some (.int y4), some (.int y5), some (.int y6), some (.int 1), some (.int (G121 - 97))] [.int (km_isMeasure (F 67 3) (G121 - 97))] (hz (uF F 67 9 ((F 67 9) + 1)) A L) _
        generalize hG122 : (km_isMeasure (F 67 3) (G121 - 97)) = G122 at hE ⊢
        refine w_zne (p3 := 142) rfl rfl (fun h => ?_) (fun h => ?_)
        · have h9 : ¬ G122 = 0 := h
          rw [if_neg h9] at hE
          refine w_n 2 (pc1 := 151) (ls1 := [some (.ref 67), some (.int x1), some (.int x2), some (.int y3), some (.int y4), some (.int y5), some (.int y6), some (.int 1), some (.int (G121 - 97))]) (st1 := [.int (G121 - 97), .int y3]) (hp1 := (hz (uF F 67 9 ((F 67 9) + 1)) A L)) rfl ?_
          refine w_c rfl rfl (t_km_has ?_)
          show wl_E f _ _ mm172.2.2.2.2.2.2.2.2 154 [some (.ref 67), some (.int x1), some (.int x2), some (.int y3), some (.int y4), some (.int y5), some (.int y6), some (.int 1), some (.int (G121 - 97))] [.int (km_has y3 (G121 - 97))] (hz (uF F 67 9 ((F 67 9) + 1)) A L) _
          generalize hG123 : (km_has y3 (G121 - 97)) = G123 at hE ⊢
          refine w_zeq (p3 := 157) rfl rfl (fun h => ?_) (fun h => ?_)
          · have h10 : G123 = 0 := h
            rw [if_pos h10] at hE
            refine w_n 7 (pc1 := 173) (ls1 := [some (.ref 67), some (.int x1), some (.int x2), some (.int (y3 ||| ((1 : Int32) <<< ((G121 - 97) &&& 31)))), some (.int y4), some (.int y5), some (.int y6), some (.int 1), some (.int (G121 - 97))]) (st1 := [.int 1]) (hp1 := (hz (uF F 67 9 ((F 67 9) + 1)) A L)) rfl ?_
            refine w_zeq (p3 := 176) rfl rfl (fun h => absurd h (by decide)) (fun _ => ?_)
            refine w_n 5 (pc1 := 189) (ls1 := [some (.ref 67), some (.int x1), some (.int x2), some (.int (y3 ||| ((1 : Int32) <<< ((G121 - 97) &&& 31)))), some (.int y4), some (.int y5), some (.int y6), some (.int 1), some (.int (G121 - 97))]) (st1 := [.int 1, .int y4]) (hp1 := (hz (uF F 67 9 ((F 67 9) + 1)) A L)) rfl ?_
            refine w_zeq (p3 := 192) rfl rfl (fun h => absurd h (by decide)) (fun _ => ?_)
            refine w_n 8 (pc1 := 208) (ls1 := [some (.ref 67), some (.int x1), some (.int x2), some (.int (y3 ||| ((1 : Int32) <<< ((G121 - 97) &&& 31)))), some (.int (y4 + 0)), some (.int y5), some (.int y6), some (.int 1), some (.int (G121 - 97))]) (st1 := [.int y5, .int (G121 - 97), .ref 85]) (hp1 := (hz (uF F 67 9 ((F 67 9) + 1)) A L)) rfl ?_
            refine w_as (k := 85) (l := (A 85)) (hp1 := (hz (uF F 67 9 ((F 67 9) + 1)) (uA A 85 ((A 85).set (G121 - 97).toInt.toNat y5)) L)) rfl rfl rfl (hz_s85 _) (fun _ => ?_)
            refine w_n 5 (pc1 := 216) (ls1 := [some (.ref 67), some (.int x1), some (.int x2), some (.int (y3 ||| ((1 : Int32) <<< ((G121 - 97) &&& 31)))), some (.int (y4 + 0)), some (.int y5), some (.int y6), some (.int 1), some (.int (G121 - 97))]) (st1 := [.int (((F 67 9) + 1) + 1), .ref 67]) (hp1 := (hz (uF F 67 9 ((F 67 9) + 1)) (uA A 85 ((A 85).set (G121 - 97).toInt.toNat y5)) L)) rfl ?_
            refine w_pf (k := 67) (fs := hz_f67 (uF F 67 9 ((F 67 9) + 1))) (hp1 := (hz (uF (uF F 67 9 ((F 67 9) + 1)) 67 9 (((F 67 9) + 1) + 1)) (uA A 85 ((A 85).set (G121 - 97).toInt.toNat y5)) L)) rfl rfl rfl (hz_p67_9 _) ?_
            refine w_n 2 (pc1 := 54) (ls1 := [some (.ref 67), some (.int x1), some (.int x2), some (.int (y3 ||| ((1 : Int32) <<< ((G121 - 97) &&& 31)))), some (.int (y4 + 0)), some (.int y5), some (.int (y6 + 1)), some (.int 1), some (.int (G121 - 97))]) (st1 := []) (hp1 := (hz (uF (uF F 67 9 ((F 67 9) + 1)) 67 9 (((F 67 9) + 1) + 1)) (uA A 85 ((A 85).set (G121 - 97).toInt.toNat y5)) L)) rfl ?_
            subst T
            have hb2 := i_up (B := (F 67 3)) hb
            have hb3 : y6.toInt < (F 67 3).toInt := hb
            exact ih (show m = ((F 67 3).toInt - (y6 + 1).toInt).toNat by rw [hb2]; omega) (cvQ (funext fun q => funext fun z => if k0 : q = 67 ∧ z = 8 then by obtain ⟨w1, w2⟩ := k0; subst w1; subst w2; exact Eq.trans (b := (km_ranking_54 (F 67 3) (F 67 8) (F 67 10) (F 67 11) (A 68) (A 71) x1 m (y3 ||| ((1 : Int32) <<< ((G121 - 97) &&& 31))) (y4 + 0) y5 (y6 + 1) (((F 67 9) + 1) + 1) ((A 85).set (G121 - 97).toInt.toNat y5)).2.1) rfl rfl else if k1 : q = 67 ∧ z = 9 then by obtain ⟨w1, w2⟩ := k1; subst w1; subst w2; exact Eq.trans (b := (km_ranking_54 (F 67 3) (F 67 8) (F 67 10) (F 67 11) (A 68) (A 71) x1 m (y3 ||| ((1 : Int32) <<< ((G121 - 97) &&& 31))) (y4 + 0) y5 (y6 + 1) (((F 67 9) + 1) + 1) ((A 85).set (G121 - 97).toInt.toNat y5)).2.2.1) rfl rfl else if k2 : q = 67 ∧ z = 10 then by obtain ⟨w1, w2⟩ := k2; subst w1; subst w2; exact Eq.trans (b := (km_ranking_54 (F 67 3) (F 67 8) (F 67 10) (F 67 11) (A 68) (A 71) x1 m (y3 ||| ((1 : Int32) <<< ((G121 - 97) &&& 31))) (y4 + 0) y5 (y6 + 1) (((F 67 9) + 1) + 1) ((A 85).set (G121 - 97).toInt.toNat y5)).2.2.2.1) rfl rfl else if k3 : q = 67 ∧ z = 11 then by obtain ⟨w1, w2⟩ := k3; subst w1; subst w2; exact Eq.trans (b := (km_ranking_54 (F 67 3) (F 67 8) (F 67 10) (F 67 11) (A 68) (A 71) x1 m (y3 ||| ((1 : Int32) <<< ((G121 - 97) &&& 31))) (y4 + 0) y5 (y6 + 1) (((F 67 9) + 1) + 1) ((A 85).set (G121 - 97).toInt.toNat y5)).2.2.2.2.1) rfl rfl else by unfold uF; simp only [nb2 k0, nb2 k1, nb2 k2, nb2 k3, cond_false]) (funext fun q => if k0 : q = 68 then by subst k0; exact Eq.trans (b := (km_ranking_54 (F 67 3) (F 67 8) (F 67 10) (F 67 11) (A 68) (A 71) x1 m (y3 ||| ((1 : Int32) <<< ((G121 - 97) &&& 31))) (y4 + 0) y5 (y6 + 1) (((F 67 9) + 1) + 1) ((A 85).set (G121 - 97).toInt.toNat y5)).2.2.2.2.2.1) rfl rfl else if k1 : q = 85 then by subst k1; exact Eq.trans (b := (km_ranking_54 (F 67 3) (F 67 8) (F 67 10) (F 67 11) (A 68) (A 71) x1 m (y3 ||| ((1 : Int32) <<< ((G121 - 97) &&& 31))) (y4 + 0) y5 (y6 + 1) (((F 67 9) + 1) + 1) ((A 85).set (G121 - 97).toInt.toNat y5)).2.2.2.2.2.2) rfl rfl else by unfold uA; simp only [nb1 k0, nb1 k1, cond_false]) rfl K)
          · have h10 : ¬ G123 = 0 := h
            rw [if_neg h10] at hE
            refine w_n 2 (pc1 := 160) (ls1 := [some (.ref 67), some (.int x1), some (.int x2), some (.int y3), some (.int y4), some (.int y5), some (.int y6), some (.int 1), some (.int (G121 - 97))]) (st1 := [.int 6, .ref 67]) (hp1 := (hz (uF F 67 9 ((F 67 9) + 1)) A L)) rfl ?_
            refine w_c rfl rfl (t_km_wrongOf ?_)
            show wl_E f _ _ mm172.2.2.2.2.2.2.2.2 163 [some (.ref 67), some (.int x1), some (.int x2), some (.int y3), some (.int y4), some (.int y5), some (.int y6), some (.int 1), some (.int (G121 - 97))] [.int (km_wrongOf ((F 67 9) + 1) 6).1] (hz (uF (uF F 67 9 ((F 67 9) + 1)) 67 11 (km_wrongOf ((F 67 9) + 1) 6).2) A L) _
            generalize hG124 : (km_wrongOf ((F 67 9) + 1) 6) = G124 at hE ⊢
            subst T
            exact w_ri rfl (cvQ (funext fun q => funext fun z => if k0 : q = 67 ∧ z = 8 then by obtain ⟨w1, w2⟩ := k0; subst w1; subst w2; exact Eq.trans (b := (F 67 8)) rfl rfl else if k1 : q = 67 ∧ z = 9 then by obtain ⟨w1, w2⟩ := k1; subst w1; subst w2; exact Eq.trans (b := ((F 67 9) + 1)) rfl rfl else if k2 : q = 67 ∧ z = 10 then by obtain ⟨w1, w2⟩ := k2; subst w1; subst w2; exact Eq.trans (b := (F 67 10)) rfl rfl else if k3 : q = 67 ∧ z = 11 then by obtain ⟨w1, w2⟩ := k3; subst w1; subst w2; exact Eq.trans (b := G124.2) rfl rfl else by unfold uF; simp only [nb2 k0, nb2 k1, nb2 k2, nb2 k3, cond_false]) (funext fun q => if k0 : q = 68 then by subst k0; exact Eq.trans (b := (A 68)) rfl rfl else if k1 : q = 85 then by subst k1; exact Eq.trans (b := (A 85)) rfl rfl else by unfold uA; simp only [nb1 k0, nb1 k1, cond_false]) rfl K)
        · have h9 : G122 = 0 := h
          rw [if_pos h9] at hE
          refine w_n 2 (pc1 := 144) (ls1 := [some (.ref 67), some (.int x1), some (.int x2), some (.int y3), some (.int y4), some (.int y5), some (.int y6), some (.int 1), some (.int (G121 - 97))]) (st1 := [.int 1, .ref 67]) (hp1 := (hz (uF F 67 9 ((F 67 9) + 1)) A L)) rfl ?_
          refine w_c rfl rfl (t_km_wrongOf ?_)
          show wl_E f _ _ mm172.2.2.2.2.2.2.2.2 147 [some (.ref 67), some (.int x1), some (.int x2), some (.int y3), some (.int y4), some (.int y5), some (.int y6), some (.int 1), some (.int (G121 - 97))] [.int (km_wrongOf ((F 67 9) + 1) 1).1] (hz (uF (uF F 67 9 ((F 67 9) + 1)) 67 11 (km_wrongOf ((F 67 9) + 1) 1).2) A L) _
          generalize hG125 : (km_wrongOf ((F 67 9) + 1) 1) = G125 at hE ⊢
          subst T
          exact w_ri rfl (cvQ (funext fun q => funext fun z => if k0 : q = 67 ∧ z = 8 then by obtain ⟨w1, w2⟩ := k0; subst w1; subst w2; exact Eq.trans (b := (F 67 8)) rfl rfl else if k1 : q = 67 ∧ z = 9 then by obtain ⟨w1, w2⟩ := k1; subst w1; subst w2; exact Eq.trans (b := ((F 67 9) + 1)) rfl rfl else if k2 : q = 67 ∧ z = 10 then by obtain ⟨w1, w2⟩ := k2; subst w1; subst w2; exact Eq.trans (b := (F 67 10)) rfl rfl else if k3 : q = 67 ∧ z = 11 then by obtain ⟨w1, w2⟩ := k3; subst w1; subst w2; exact Eq.trans (b := G125.2) rfl rfl else by unfold uF; simp only [nb2 k0, nb2 k1, nb2 k2, nb2 k3, cond_false]) (funext fun q => if k0 : q = 68 then by subst k0; exact Eq.trans (b := (A 68)) rfl rfl else if k1 : q = 85 then by subst k1; exact Eq.trans (b := (A 85)) rfl rfl else by unfold uA; simp only [nb1 k0, nb1 k1, cond_false]) rfl K)
noncomputable def km_ranking (f67_3 : Int32) (f67_8 : Int32) (f67_9 : Int32) (f67_10 : Int32) (f67_11 : Int32) (a68 : List Int32) (a71 : List Int32) (a85 : List Int32) (x1 : Int32) (x2 : Int32) : Int32 × Int32 × Int32 × Int32 × Int32 × List Int32 × List Int32 := (if (km_isGuest a68 x1) = 0 then ((-1), f67_8, f67_9, f67_10, f67_11, a68, a85) else (if (km_in x2 1 40) = 0 then ((-1), f67_8, f67_9, f67_10, f67_11, a68, a85) else (if f67_8.toInt < x2.toInt then ((-1), f67_8, f67_9, f67_10, f67_11, a68, a85) else (km_ranking_54 f67_3 0 x2 f67_11 a68 a71 x1 f67_3.toInt.toNat 0 0 0 0 0 a85))))
theorem t_km_ranking {f D : Nat} {F : Nat → Nat → Int32} {A : Nat → List Int32} {L : Nat → List Int64} {Q : Option Value → sm_H → Prop} {x1 : Int32} {x2 : Int32} (K : Q (some (.int ((km_ranking (F 67 3) (F 67 8) (F 67 9) (F 67 10) (F 67 11) (A 68) (A 71) (A 85) x1 x2).1))) (hz (uF (uF (uF (uF F 67 8 ((km_ranking (F 67 3) (F 67 8) (F 67 9) (F 67 10) (F 67 11) (A 68) (A 71) (A 85) x1 x2).2.1)) 67 9 ((km_ranking (F 67 3) (F 67 8) (F 67 9) (F 67 10) (F 67 11) (A 68) (A 71) (A 85) x1 x2).2.2.1)) 67 10 ((km_ranking (F 67 3) (F 67 8) (F 67 9) (F 67 10) (F 67 11) (A 68) (A 71) (A 85) x1 x2).2.2.2.1)) 67 11 ((km_ranking (F 67 3) (F 67 8) (F 67 9) (F 67 10) (F 67 11) (A 68) (A 71) (A 85) x1 x2).2.2.2.2.1)) (uA (uA A 68 ((km_ranking (F 67 3) (F 67 8) (F 67 9) (F 67 10) (F 67 11) (A 68) (A 71) (A 85) x1 x2).2.2.2.2.2.1)) 85 ((km_ranking (F 67 3) (F 67 8) (F 67 9) (F 67 10) (F 67 11) (A 68) (A 71) (A 85) x1 x2).2.2.2.2.2.2)) L)) : wl_M f D 172 [.ref 67, .int x1, .int x2] (hz F A L) Q := by
  generalize hT : (km_ranking (F 67 3) (F 67 8) (F 67 9) (F 67 10) (F 67 11) (A 68) (A 71) (A 85) x1 x2) = T at K
  have hE : T = (if (km_isGuest (A 68) x1) = 0 then ((-1), (F 67 8), (F 67 9), (F 67 10), (F 67 11), (A 68), (A 85)) else (if (km_in x2 1 40) = 0 then ((-1), (F 67 8), (F 67 9), (F 67 10), (F 67 11), (A 68), (A 85)) else (if (F 67 8).toInt < x2.toInt then ((-1), (F 67 8), (F 67 9), (F 67 10), (F 67 11), (A 68), (A 85)) else (km_ranking_54 (F 67 3) 0 x2 (F 67 11) (A 68) (A 71) x1 (F 67 3).toInt.toNat 0 0 0 0 0 (A 85))))) := hT.symm
  clear hT
  refine w_m (E := mm172) rfl ?_
  show wl_E f f (D - 1) mm172.2.2.2.2.2.2.2.2 0 [some (.ref 67), some (.int x1), some (.int x2), none, none, none, none, none, none] [] (hz F A L) Q
  refine w_n 2 (pc1 := 2) (ls1 := [some (.ref 67), some (.int x1), some (.int x2), none, none, none, none, none, none]) (st1 := [.int x1, .ref 67]) (hp1 := (hz F A L)) rfl ?_
  refine w_c rfl rfl (t_km_isGuest ?_)
  show wl_E f _ _ mm172.2.2.2.2.2.2.2.2 5 [some (.ref 67), some (.int x1), some (.int x2), none, none, none, none, none, none] [.int (km_isGuest (A 68) x1)] (hz F A L) _
  generalize hG103 : (km_isGuest (A 68) x1) = G103 at hE ⊢
  refine w_zeq (p3 := 8) rfl rfl (fun h => ?_) (fun h => ?_)
  · have h1 : G103 = 0 := h
    rw [if_pos h1] at hE
    refine w_n 1 (pc1 := 27) (ls1 := [some (.ref 67), some (.int x1), some (.int x2), none, none, none, none, none, none]) (st1 := [.int (-1)]) (hp1 := (hz F A L)) rfl ?_
    subst T
    exact w_ri rfl (cvQ (funext fun q => funext fun z => if k0 : q = 67 ∧ z = 8 then by obtain ⟨w1, w2⟩ := k0; subst w1; subst w2; exact Eq.trans (b := (F 67 8)) rfl rfl else if k1 : q = 67 ∧ z = 9 then by obtain ⟨w1, w2⟩ := k1; subst w1; subst w2; exact Eq.trans (b := (F 67 9)) rfl rfl else if k2 : q = 67 ∧ z = 10 then by obtain ⟨w1, w2⟩ := k2; subst w1; subst w2; exact Eq.trans (b := (F 67 10)) rfl rfl else if k3 : q = 67 ∧ z = 11 then by obtain ⟨w1, w2⟩ := k3; subst w1; subst w2; exact Eq.trans (b := (F 67 11)) rfl rfl else by unfold uF; simp only [nb2 k0, nb2 k1, nb2 k2, nb2 k3, cond_false]) (funext fun q => if k0 : q = 68 then by subst k0; exact Eq.trans (b := (A 68)) rfl rfl else if k1 : q = 85 then by subst k1; exact Eq.trans (b := (A 85)) rfl rfl else by unfold uA; simp only [nb1 k0, nb1 k1, cond_false]) rfl K)
  · have h1 : ¬ G103 = 0 := h
    rw [if_neg h1] at hE
    refine w_n 3 (pc1 := 12) (ls1 := [some (.ref 67), some (.int x1), some (.int x2), none, none, none, none, none, none]) (st1 := [.int 40, .int 1, .int x2]) (hp1 := (hz F A L)) rfl ?_
    refine w_c rfl rfl (t_km_in ?_)
    show wl_E f _ _ mm172.2.2.2.2.2.2.2.2 15 [some (.ref 67), some (.int x1), some (.int x2), none, none, none, none, none, none] [.int (km_in x2 1 40)] (hz F A L) _
    generalize hG104 : (km_in x2 1 40) = G104 at hE ⊢
    refine w_zeq (p3 := 18) rfl rfl (fun h => ?_) (fun h => ?_)
    · have h2 : G104 = 0 := h
      rw [if_pos h2] at hE
      refine w_n 1 (pc1 := 27) (ls1 := [some (.ref 67), some (.int x1), some (.int x2), none, none, none, none, none, none]) (st1 := [.int (-1)]) (hp1 := (hz F A L)) rfl ?_
      subst T
      exact w_ri rfl (cvQ (funext fun q => funext fun z => if k0 : q = 67 ∧ z = 8 then by obtain ⟨w1, w2⟩ := k0; subst w1; subst w2; exact Eq.trans (b := (F 67 8)) rfl rfl else if k1 : q = 67 ∧ z = 9 then by obtain ⟨w1, w2⟩ := k1; subst w1; subst w2; exact Eq.trans (b := (F 67 9)) rfl rfl else if k2 : q = 67 ∧ z = 10 then by obtain ⟨w1, w2⟩ := k2; subst w1; subst w2; exact Eq.trans (b := (F 67 10)) rfl rfl else if k3 : q = 67 ∧ z = 11 then by obtain ⟨w1, w2⟩ := k3; subst w1; subst w2; exact Eq.trans (b := (F 67 11)) rfl rfl else by unfold uF; simp only [nb2 k0, nb2 k1, nb2 k2, nb2 k3, cond_false]) (funext fun q => if k0 : q = 68 then by subst k0; exact Eq.trans (b := (A 68)) rfl rfl else if k1 : q = 85 then by subst k1; exact Eq.trans (b := (A 85)) rfl rfl else by unfold uA; simp only [nb1 k0, nb1 k1, cond_false]) rfl K)
    · have h2 : ¬ G104 = 0 := h
      rw [if_neg h2] at hE
      refine w_n 3 (pc1 := 23) (ls1 := [some (.ref 67), some (.int x1), some (.int x2), none, none, none, none, none, none]) (st1 := [.int (F 67 8), .int x2]) (hp1 := (hz F A L)) rfl ?_
      refine w_le (p3 := 26) rfl rfl (fun h => ?_) (fun h => ?_)
      · have h3 : x2.toInt ≤ (F 67 8).toInt := h
        rw [if_neg (Int.not_lt.mpr h3)] at hE
        refine w_n 2 (pc1 := 30) (ls1 := [some (.ref 67), some (.int x1), some (.int x2), none, none, none, none, none, none]) (st1 := [.int 0, .ref 67]) (hp1 := (hz F A L)) rfl ?_
        refine w_pf (k := 67) (fs := hz_f67 F) (hp1 := (hz (uF F 67 9 0) A L)) rfl rfl rfl (hz_p67_9 _) ?_
        refine w_n 2 (pc1 := 35) (ls1 := [some (.ref 67), some (.int x1), some (.int x2), none, none, none, none, none, none]) (st1 := [.int x2, .ref 67]) (hp1 := (hz (uF F 67 9 0) A L)) rfl ?_
        refine w_pf (k := 67) (fs := hz_f67 (uF F 67 9 0)) (hp1 := (hz (uF (uF F 67 9 0) 67 10 x2) A L)) rfl rfl rfl (hz_p67_10 _) ?_
        refine w_n 2 (pc1 := 40) (ls1 := [some (.ref 67), some (.int x1), some (.int x2), none, none, none, none, none, none]) (st1 := [.int 0, .ref 67]) (hp1 := (hz (uF (uF F 67 9 0) 67 10 x2) A L)) rfl ?_
        refine w_pf (k := 67) (fs := hz_f67 (uF (uF F 67 9 0) 67 10 x2)) (hp1 := (hz (uF (uF (uF F 67 9 0) 67 10 x2) 67 8 0) A L)) rfl rfl rfl (hz_p67_8 _) ?_
        refine w_n 8 (pc1 := 54) (ls1 := [some (.ref 67), some (.int x1), some (.int x2), some (.int 0), some (.int 0), some (.int 0), some (.int 0), none, none]) (st1 := []) (hp1 := (hz (uF (uF (uF F 67 9 0) 67 10 x2) 67 8 0) A L)) rfl ?_
        subst T
        exact t_km_ranking_54 _ (show (F 67 3).toInt.toNat = ((F 67 3).toInt - (0 : Int32).toInt).toNat by have e0 : (0 : Int32).toInt = 0 := rfl; first | rfl | omega) (cvQ (funext fun q => funext fun z => if k0 : q = 67 ∧ z = 8 then by obtain ⟨w1, w2⟩ := k0; subst w1; subst w2; exact Eq.trans (b := (km_ranking_54 (F 67 3) 0 x2 (F 67 11) (A 68) (A 71) x1 (F 67 3).toInt.toNat 0 0 0 0 0 (A 85)).2.1) rfl rfl else if k1 : q = 67 ∧ z = 9 then by obtain ⟨w1, w2⟩ := k1; subst w1; subst w2; exact Eq.trans (b := (km_ranking_54 (F 67 3) 0 x2 (F 67 11) (A 68) (A 71) x1 (F 67 3).toInt.toNat 0 0 0 0 0 (A 85)).2.2.1) rfl rfl else if k2 : q = 67 ∧ z = 10 then by obtain ⟨w1, w2⟩ := k2; subst w1; subst w2; exact Eq.trans (b := (km_ranking_54 (F 67 3) 0 x2 (F 67 11) (A 68) (A 71) x1 (F 67 3).toInt.toNat 0 0 0 0 0 (A 85)).2.2.2.1) rfl rfl else if k3 : q = 67 ∧ z = 11 then by obtain ⟨w1, w2⟩ := k3; subst w1; subst w2; exact Eq.trans (b := (km_ranking_54 (F 67 3) 0 x2 (F 67 11) (A 68) (A 71) x1 (F 67 3).toInt.toNat 0 0 0 0 0 (A 85)).2.2.2.2.1) rfl rfl else by unfold uF; simp only [nb2 k0, nb2 k1, nb2 k2, nb2 k3, cond_false]) (funext fun q => if k0 : q = 68 then by subst k0; exact Eq.trans (b := (km_ranking_54 (F 67 3) 0 x2 (F 67 11) (A 68) (A 71) x1 (F 67 3).toInt.toNat 0 0 0 0 0 (A 85)).2.2.2.2.2.1) rfl rfl else if k1 : q = 85 then by subst k1; exact Eq.trans (b := (km_ranking_54 (F 67 3) 0 x2 (F 67 11) (A 68) (A 71) x1 (F 67 3).toInt.toNat 0 0 0 0 0 (A 85)).2.2.2.2.2.2) rfl rfl else by unfold uA; simp only [nb1 k0, nb1 k1, cond_false]) rfl K)
      · have h3 : (F 67 8).toInt < x2.toInt := h
        rw [if_pos h3] at hE
        refine w_n 1 (pc1 := 27) (ls1 := [some (.ref 67), some (.int x1), some (.int x2), none, none, none, none, none, none]) (st1 := [.int (-1)]) (hp1 := (hz F A L)) rfl ?_
        subst T
        exact w_ri rfl (cvQ (funext fun q => funext fun z => if k0 : q = 67 ∧ z = 8 then by obtain ⟨w1, w2⟩ := k0; subst w1; subst w2; exact Eq.trans (b := (F 67 8)) rfl rfl else if k1 : q = 67 ∧ z = 9 then by obtain ⟨w1, w2⟩ := k1; subst w1; subst w2; exact Eq.trans (b := (F 67 9)) rfl rfl else if k2 : q = 67 ∧ z = 10 then by obtain ⟨w1, w2⟩ := k2; subst w1; subst w2; exact Eq.trans (b := (F 67 10)) rfl rfl else if k3 : q = 67 ∧ z = 11 then by obtain ⟨w1, w2⟩ := k3; subst w1; subst w2; exact Eq.trans (b := (F 67 11)) rfl rfl else by unfold uF; simp only [nb2 k0, nb2 k1, nb2 k2, nb2 k3, cond_false]) (funext fun q => if k0 : q = 68 then by subst k0; exact Eq.trans (b := (A 68)) rfl rfl else if k1 : q = 85 then by subst k1; exact Eq.trans (b := (A 85)) rfl rfl else by unfold uA; simp only [nb1 k0, nb1 k1, cond_false]) rfl K)
noncomputable def kv_biscuitsFor_5 (f3_1 : Int32) (a6 : List Int32) (l11 : List Int64) (x1 : Int32) (x2 : Int32) : Nat → Int32 → Int32 → Int32
  | 0, y3, _ => y3
  | m + 1, y3, y4 => (if (kt_isTold f3_1 y4) = 0 then (kv_biscuitsFor_5 f3_1 a6 l11 x1 x2 m y3 (y4 + 1)) else (if (((kt_aheadOf l11 y4 x2) >>> (x1 &&& 31)) &&& 1) = 0 then (kv_biscuitsFor_5 f3_1 a6 l11 x1 x2 m y3 (y4 + 1)) else (kv_biscuitsFor_5 f3_1 a6 l11 x1 x2 m (y3 + (a6.getD y4.toInt.toNat 0)) (y4 + 1))))
theorem t_kv_biscuitsFor_5 {f : Nat} {Q : Option Value → sm_H → Prop} : ∀ (m : Nat) {B D : Nat} {F : Nat → Nat → Int32} {A : Nat → List Int32} {L : Nat → List Int64} {x1 : Int32} {x2 : Int32} {y3 : Int32} {y4 : Int32}, m = (12 - y4.toInt).toNat → (∀ q4 : Int32, wl_E f B D mm75.2.2.2.2.2.2.2.2 60 [some (.ref 30), some (.int x1), some (.int x2), some (.int (kv_biscuitsFor_5 (F 3 1) (A 6) (L 11) x1 x2 m y3 y4)), some (.int q4)] [] (hz F A L) Q) → wl_E f B D mm75.2.2.2.2.2.2.2.2 5 [some (.ref 30), some (.int x1), some (.int x2), some (.int y3), some (.int y4)] [] (hz F A L) Q := by
  intro m
  induction m with
  | zero =>
    intro B D F A L x1 x2 y3 y4 hm K
    generalize hT : (kv_biscuitsFor_5 (F 3 1) (A 6) (L 11) x1 x2 0 y3 y4) = T at K
    have hE : T = y3 := hT.symm
    clear hT
    refine w_n 2 (pc1 := 9) (ls1 := [some (.ref 30), some (.int x1), some (.int x2), some (.int y3), some (.int y4)]) (st1 := [.int 12, .int y4]) (hp1 := (hz F A L)) rfl ?_
    refine w_ge (p3 := 12) rfl rfl (fun hb => ?_) (fun h => False.elim (by have h : y4.toInt < 12 := h; omega))
    subst T
    exact cvE rfl rfl rfl (K _)
  | succ m ih =>
    intro B D F A L x1 x2 y3 y4 hm K
    generalize hT : (kv_biscuitsFor_5 (F 3 1) (A 6) (L 11) x1 x2 (m + 1) y3 y4) = T at K
    have hE : T = (if (kt_isTold (F 3 1) y4) = 0 then (kv_biscuitsFor_5 (F 3 1) (A 6) (L 11) x1 x2 m y3 (y4 + 1)) else (if (((kt_aheadOf (L 11) y4 x2) >>> (x1 &&& 31)) &&& 1) = 0 then (kv_biscuitsFor_5 (F 3 1) (A 6) (L 11) x1 x2 m y3 (y4 + 1)) else (kv_biscuitsFor_5 (F 3 1) (A 6) (L 11) x1 x2 m (y3 + ((A 6).getD y4.toInt.toNat 0)) (y4 + 1)))) := hT.symm
    clear hT
    refine w_n 2 (pc1 := 9) (ls1 := [some (.ref 30), some (.int x1), some (.int x2), some (.int y3), some (.int y4)]) (st1 := [.int 12, .int y4]) (hp1 := (hz F A L)) rfl ?_
    refine w_ge (p3 := 12) rfl rfl (fun h => False.elim (by have h : 12 ≤ y4.toInt := h; omega)) (fun hb => ?_)
    refine w_n 3 (pc1 := 18) (ls1 := [some (.ref 30), some (.int x1), some (.int x2), some (.int y3), some (.int y4)]) (st1 := [.int y4, .ref 3]) (hp1 := (hz F A L)) rfl ?_
    refine w_c rfl rfl (t_kt_isTold ?_)
    show wl_E f _ _ mm75.2.2.2.2.2.2.2.2 21 [some (.ref 30), some (.int x1), some (.int x2), some (.int y3), some (.int y4)] [.int (kt_isTold (F 3 1) y4)] (hz F A L) _
    generalize hG128 : (kt_isTold (F 3 1) y4) = G128 at hE ⊢
    refine w_zeq (p3 := 24) rfl rfl (fun h => ?_) (fun h => ?_)
    · have h1 : G128 = 0 := h
      rw [if_pos h1] at hE
      refine w_n 2 (pc1 := 5) (ls1 := [some (.ref 30), some (.int x1), some (.int x2), some (.int y3), some (.int (y4 + 1))]) (st1 := []) (hp1 := (hz F A L)) rfl ?_
      subst T
      have hb2 := i_up (B := (12 : Int32)) hb
      have hb3 : y4.toInt < 12 := hb
      exact ih (show m = (12 - (y4 + 1).toInt).toNat by rw [hb2]; omega) (fun q4 => cvE rfl rfl rfl (K q4))
    · have h1 : ¬ G128 = 0 := h
      rw [if_neg h1] at hE
      refine w_n 4 (pc1 := 31) (ls1 := [some (.ref 30), some (.int x1), some (.int x2), some (.int y3), some (.int y4)]) (st1 := [.int x2, .int y4, .ref 3]) (hp1 := (hz F A L)) rfl ?_
      refine w_c rfl rfl (t_kt_aheadOf ?_)
      show wl_E f _ _ mm75.2.2.2.2.2.2.2.2 34 [some (.ref 30), some (.int x1), some (.int x2), some (.int y3), some (.int y4)] [.int (kt_aheadOf (L 11) y4 x2)] (hz F A L) _
      generalize hG129 : (kt_aheadOf (L 11) y4 x2) = G129 at hE ⊢
      refine w_n 4 (pc1 := 38) (ls1 := [some (.ref 30), some (.int x1), some (.int x2), some (.int y3), some (.int y4)]) (st1 := [.int ((G129 >>> (x1 &&& 31)) &&& 1)]) (hp1 := (hz F A L)) rfl ?_
      refine w_zeq (p3 := 41) rfl rfl (fun h => ?_) (fun h => ?_)
      · have h2 : ((G129 >>> (x1 &&& 31)) &&& 1) = 0 := h
        rw [if_pos h2] at hE
        refine w_n 2 (pc1 := 5) (ls1 := [some (.ref 30), some (.int x1), some (.int x2), some (.int y3), some (.int (y4 + 1))]) (st1 := []) (hp1 := (hz F A L)) rfl ?_
        subst T
        have hb2 := i_up (B := (12 : Int32)) hb
        have hb3 : y4.toInt < 12 := hb
        exact ih (show m = (12 - (y4 + 1).toInt).toNat by rw [hb2]; omega) (fun q4 => cvE rfl rfl rfl (K q4))
      · have h2 : ¬ ((G129 >>> (x1 &&& 31)) &&& 1) = 0 := h
        rw [if_neg h2] at hE
        refine w_n 5 (pc1 := 51) (ls1 := [some (.ref 30), some (.int x1), some (.int x2), some (.int y3), some (.int y4)]) (st1 := [.int y4, .ref 6, .int y3]) (hp1 := (hz F A L)) rfl ?_
        refine w_al (k := 6) (l := (A 6)) rfl rfl rfl (fun ab => ?_)
        refine w_n 4 (pc1 := 5) (ls1 := [some (.ref 30), some (.int x1), some (.int x2), some (.int (y3 + ((A 6).getD y4.toInt.toNat 0))), some (.int (y4 + 1))]) (st1 := []) (hp1 := (hz F A L)) rfl ?_
        subst T
        have hb2 := i_up (B := (12 : Int32)) hb
        have hb3 : y4.toInt < 12 := hb
        exact ih (show m = (12 - (y4 + 1).toInt).toNat by rw [hb2]; omega) (fun q4 => cvE rfl rfl rfl (K q4))
noncomputable def kv_biscuitsFor (f3_1 : Int32) (a6 : List Int32) (l11 : List Int64) (x1 : Int32) (x2 : Int32) : Int32 := (kv_biscuitsFor_5 f3_1 a6 l11 x1 x2 12 0 0)
theorem t_kv_biscuitsFor {f D : Nat} {F : Nat → Nat → Int32} {A : Nat → List Int32} {L : Nat → List Int64} {Q : Option Value → sm_H → Prop} {x1 : Int32} {x2 : Int32} (K : Q (some (.int (kv_biscuitsFor (F 3 1) (A 6) (L 11) x1 x2))) (hz F A L)) : wl_M f D 75 [.ref 30, .int x1, .int x2] (hz F A L) Q := by
  generalize hT : (kv_biscuitsFor (F 3 1) (A 6) (L 11) x1 x2) = T at K
  have hE : T = (kv_biscuitsFor_5 (F 3 1) (A 6) (L 11) x1 x2 12 0 0) := hT.symm
  clear hT
  refine w_m (E := mm75) rfl ?_
  show wl_E f f (D - 1) mm75.2.2.2.2.2.2.2.2 0 [some (.ref 30), some (.int x1), some (.int x2), none, none] [] (hz F A L) Q
  refine w_n 4 (pc1 := 5) (ls1 := [some (.ref 30), some (.int x1), some (.int x2), some (.int 0), some (.int 0)]) (st1 := []) (hp1 := (hz F A L)) rfl ?_
  refine t_kv_biscuitsFor_5 12 (show (12 : Nat) = (12 - (0 : Int32).toInt).toNat by have e0 : (0 : Int32).toInt = 0 := rfl; first | rfl | omega) ?_
  intro r1
  show wl_E f _ _ mm75.2.2.2.2.2.2.2.2 60 [some (.ref 30), some (.int x1), some (.int x2), some (.int (kv_biscuitsFor_5 (F 3 1) (A 6) (L 11) x1 x2 12 0 0)), some (.int r1)] [] (hz F A L) _
  generalize hG130 : (kv_biscuitsFor_5 (F 3 1) (A 6) (L 11) x1 x2 12 0 0) = G130 at hE ⊢
  refine w_n 1 (pc1 := 61) (ls1 := [some (.ref 30), some (.int x1), some (.int x2), some (.int G130), some (.int r1)]) (st1 := [.int G130]) (hp1 := (hz F A L)) rfl ?_
  subst T
  exact w_ri rfl (cvQ rfl rfl rfl K)
noncomputable def kc_pair (f3_0 : Int32) (f3_1 : Int32) (a6 : List Int32) (l11 : List Int64) (x1 : Int32) (x2 : Int32) : Int32 := (if (kt_isMeasure f3_0 x1) = 0 then (-1) else (if (kt_isMeasure f3_0 x2) = 0 then (-1) else (if x1 = x2 then (-1) else (kv_biscuitsFor f3_1 a6 l11 x1 x2))))
theorem t_kc_pair {f D : Nat} {F : Nat → Nat → Int32} {A : Nat → List Int32} {L : Nat → List Int64} {Q : Option Value → sm_H → Prop} {x1 : Int32} {x2 : Int32} (K : Q (some (.int (kc_pair (F 3 0) (F 3 1) (A 6) (L 11) x1 x2))) (hz F A L)) : wl_M f D 74 [.ref 0, .int x1, .int x2] (hz F A L) Q := by
  generalize hT : (kc_pair (F 3 0) (F 3 1) (A 6) (L 11) x1 x2) = T at K
  have hE : T = (if (kt_isMeasure (F 3 0) x1) = 0 then (-1) else (if (kt_isMeasure (F 3 0) x2) = 0 then (-1) else (if x1 = x2 then (-1) else (kv_biscuitsFor (F 3 1) (A 6) (L 11) x1 x2)))) := hT.symm
  clear hT
  refine w_m (E := mm74) rfl ?_
  show wl_E f f (D - 1) mm74.2.2.2.2.2.2.2.2 0 [some (.ref 0), some (.int x1), some (.int x2)] [] (hz F A L) Q
  refine w_n 3 (pc1 := 5) (ls1 := [some (.ref 0), some (.int x1), some (.int x2)]) (st1 := [.int x1, .ref 3]) (hp1 := (hz F A L)) rfl ?_
  refine w_c rfl rfl (t_kt_isMeasure ?_)
  show wl_E f _ _ mm74.2.2.2.2.2.2.2.2 8 [some (.ref 0), some (.int x1), some (.int x2)] [.int (kt_isMeasure (F 3 0) x1)] (hz F A L) _
  generalize hG126 : (kt_isMeasure (F 3 0) x1) = G126 at hE ⊢
  refine w_zeq (p3 := 11) rfl rfl (fun h => ?_) (fun h => ?_)
  · have h1 : G126 = 0 := h
    rw [if_pos h1] at hE
    refine w_n 1 (pc1 := 28) (ls1 := [some (.ref 0), some (.int x1), some (.int x2)]) (st1 := [.int (-1)]) (hp1 := (hz F A L)) rfl ?_
    subst T
    exact w_ri rfl (cvQ rfl rfl rfl K)
  · have h1 : ¬ G126 = 0 := h
    rw [if_neg h1] at hE
    refine w_n 3 (pc1 := 16) (ls1 := [some (.ref 0), some (.int x1), some (.int x2)]) (st1 := [.int x2, .ref 3]) (hp1 := (hz F A L)) rfl ?_
    refine w_c rfl rfl (t_kt_isMeasure ?_)
    show wl_E f _ _ mm74.2.2.2.2.2.2.2.2 19 [some (.ref 0), some (.int x1), some (.int x2)] [.int (kt_isMeasure (F 3 0) x2)] (hz F A L) _
    generalize hG127 : (kt_isMeasure (F 3 0) x2) = G127 at hE ⊢
    refine w_zeq (p3 := 22) rfl rfl (fun h => ?_) (fun h => ?_)
    · have h2 : G127 = 0 := h
      rw [if_pos h2] at hE
      refine w_n 1 (pc1 := 28) (ls1 := [some (.ref 0), some (.int x1), some (.int x2)]) (st1 := [.int (-1)]) (hp1 := (hz F A L)) rfl ?_
      subst T
      exact w_ri rfl (cvQ rfl rfl rfl K)
    · have h2 : ¬ G127 = 0 := h
      rw [if_neg h2] at hE
      refine w_n 2 (pc1 := 24) (ls1 := [some (.ref 0), some (.int x1), some (.int x2)]) (st1 := [.int x2, .int x1]) (hp1 := (hz F A L)) rfl ?_
      refine w_ne (p3 := 27) rfl rfl (fun h => ?_) (fun h => ?_)
      · have h3 : ¬ x1 = x2 := h
        rw [if_neg h3] at hE
        refine w_n 4 (pc1 := 35) (ls1 := [some (.ref 0), some (.int x1), some (.int x2)]) (st1 := [.int x2, .int x1, .ref 30]) (hp1 := (hz F A L)) rfl ?_
        refine w_c rfl rfl (t_kv_biscuitsFor ?_)
        show wl_E f _ _ mm74.2.2.2.2.2.2.2.2 38 [some (.ref 0), some (.int x1), some (.int x2)] [.int (kv_biscuitsFor (F 3 1) (A 6) (L 11) x1 x2)] (hz F A L) _
        generalize hG131 : (kv_biscuitsFor (F 3 1) (A 6) (L 11) x1 x2) = G131 at hE ⊢
        subst T
        exact w_ri rfl (cvQ rfl rfl rfl K)
      · have h3 : x1 = x2 := h
        rw [if_pos h3] at hE
        refine w_n 1 (pc1 := 28) (ls1 := [some (.ref 0), some (.int x1), some (.int x2)]) (st1 := [.int (-1)]) (hp1 := (hz F A L)) rfl ?_
        subst T
        exact w_ri rfl (cvQ rfl rfl rfl K)
noncomputable def km_placeOf (a68 : List Int32) (x1 : Int32) (x2 : Int32) : Int32 := (a68.getD ((72 + (6 * x1)) + x2).toInt.toNat 0)
theorem t_km_placeOf {f D : Nat} {F : Nat → Nat → Int32} {A : Nat → List Int32} {L : Nat → List Int64} {Q : Option Value → sm_H → Prop} {x1 : Int32} {x2 : Int32} (K : Q (some (.int (km_placeOf (A 68) x1 x2))) (hz F A L)) : wl_M f D 192 [.ref 67, .int x1, .int x2] (hz F A L) Q := by
  generalize hT : (km_placeOf (A 68) x1 x2) = T at K
  have hE : T = ((A 68).getD ((72 + (6 * x1)) + x2).toInt.toNat 0) := hT.symm
  clear hT
  refine w_m (E := mm192) rfl ?_
  show wl_E f f (D - 1) mm192.2.2.2.2.2.2.2.2 0 [some (.ref 67), some (.int x1), some (.int x2)] [] (hz F A L) Q
  refine w_n 9 (pc1 := 13) (ls1 := [some (.ref 67), some (.int x1), some (.int x2)]) (st1 := [.int ((72 + (6 * x1)) + x2), .ref 68]) (hp1 := (hz F A L)) rfl ?_
  refine w_al (k := 68) (l := (A 68)) rfl rfl rfl (fun _ => ?_)
  subst T
  exact w_ri rfl (cvQ rfl rfl rfl K)
noncomputable def km_pairOf_5 (a68 : List Int32) (x1 : Int32) (x2 : Int32) : Nat → Int32 → Int32 → Int32
  | 0, y3, _ => y3
  | m + 1, y3, y4 => (if (km_isGuest a68 y4) = 0 then (km_pairOf_5 a68 x1 x2 m y3 (y4 + 1)) else (if (km_placeOf a68 y4 x1).toInt < (km_placeOf a68 y4 x2).toInt then (km_pairOf_5 a68 x1 x2 m (y3 + (a68.getD (12 + y4).toInt.toNat 0)) (y4 + 1)) else (km_pairOf_5 a68 x1 x2 m y3 (y4 + 1))))
theorem t_km_pairOf_5 {f : Nat} {Q : Option Value → sm_H → Prop} : ∀ (m : Nat) {B D : Nat} {F : Nat → Nat → Int32} {A : Nat → List Int32} {L : Nat → List Int64} {x1 : Int32} {x2 : Int32} {y3 : Int32} {y4 : Int32}, m = (12 - y4.toInt).toNat → (∀ q4 : Int32, wl_E f B D mm203.2.2.2.2.2.2.2.2 57 [some (.ref 67), some (.int x1), some (.int x2), some (.int (km_pairOf_5 (A 68) x1 x2 m y3 y4)), some (.int q4)] [] (hz F A L) Q) → wl_E f B D mm203.2.2.2.2.2.2.2.2 5 [some (.ref 67), some (.int x1), some (.int x2), some (.int y3), some (.int y4)] [] (hz F A L) Q := by
  intro m
  induction m with
  | zero =>
    intro B D F A L x1 x2 y3 y4 hm K
    generalize hT : (km_pairOf_5 (A 68) x1 x2 0 y3 y4) = T at K
    have hE : T = y3 := hT.symm
    clear hT
    refine w_n 2 (pc1 := 9) (ls1 := [some (.ref 67), some (.int x1), some (.int x2), some (.int y3), some (.int y4)]) (st1 := [.int 12, .int y4]) (hp1 := (hz F A L)) rfl ?_
    refine w_ge (p3 := 12) rfl rfl (fun hb => ?_) (fun h => False.elim (by have h : y4.toInt < 12 := h; omega))
    subst T
    exact cvE rfl rfl rfl (K _)
  | succ m ih =>
    intro B D F A L x1 x2 y3 y4 hm K
    generalize hT : (km_pairOf_5 (A 68) x1 x2 (m + 1) y3 y4) = T at K
    have hE : T = (if (km_isGuest (A 68) y4) = 0 then (km_pairOf_5 (A 68) x1 x2 m y3 (y4 + 1)) else (if (km_placeOf (A 68) y4 x1).toInt < (km_placeOf (A 68) y4 x2).toInt then (km_pairOf_5 (A 68) x1 x2 m (y3 + ((A 68).getD (12 + y4).toInt.toNat 0)) (y4 + 1)) else (km_pairOf_5 (A 68) x1 x2 m y3 (y4 + 1)))) := hT.symm
    clear hT
    refine w_n 2 (pc1 := 9) (ls1 := [some (.ref 67), some (.int x1), some (.int x2), some (.int y3), some (.int y4)]) (st1 := [.int 12, .int y4]) (hp1 := (hz F A L)) rfl ?_
    refine w_ge (p3 := 12) rfl rfl (fun h => False.elim (by have h : 12 ≤ y4.toInt := h; omega)) (fun hb => ?_)
    refine w_n 2 (pc1 := 15) (ls1 := [some (.ref 67), some (.int x1), some (.int x2), some (.int y3), some (.int y4)]) (st1 := [.int y4, .ref 67]) (hp1 := (hz F A L)) rfl ?_
    refine w_c rfl rfl (t_km_isGuest ?_)
    show wl_E f _ _ mm203.2.2.2.2.2.2.2.2 18 [some (.ref 67), some (.int x1), some (.int x2), some (.int y3), some (.int y4)] [.int (km_isGuest (A 68) y4)] (hz F A L) _
    generalize hG134 : (km_isGuest (A 68) y4) = G134 at hE ⊢
    refine w_zeq (p3 := 21) rfl rfl (fun h => ?_) (fun h => ?_)
    · have h1 : G134 = 0 := h
      rw [if_pos h1] at hE
      refine w_n 2 (pc1 := 5) (ls1 := [some (.ref 67), some (.int x1), some (.int x2), some (.int y3), some (.int (y4 + 1))]) (st1 := []) (hp1 := (hz F A L)) rfl ?_
      subst T
      have hb2 := i_up (B := (12 : Int32)) hb
      have hb3 : y4.toInt < 12 := hb
      exact ih (show m = (12 - (y4 + 1).toInt).toNat by rw [hb2]; omega) (fun q4 => cvE rfl rfl rfl (K q4))
    · have h1 : ¬ G134 = 0 := h
      rw [if_neg h1] at hE
      refine w_n 3 (pc1 := 25) (ls1 := [some (.ref 67), some (.int x1), some (.int x2), some (.int y3), some (.int y4)]) (st1 := [.int x1, .int y4, .ref 67]) (hp1 := (hz F A L)) rfl ?_
      refine w_c rfl rfl (t_km_placeOf ?_)
      show wl_E f _ _ mm203.2.2.2.2.2.2.2.2 28 [some (.ref 67), some (.int x1), some (.int x2), some (.int y3), some (.int y4)] [.int (km_placeOf (A 68) y4 x1)] (hz F A L) _
      generalize hG135 : (km_placeOf (A 68) y4 x1) = G135 at hE ⊢
      refine w_n 3 (pc1 := 32) (ls1 := [some (.ref 67), some (.int x1), some (.int x2), some (.int y3), some (.int y4)]) (st1 := [.int x2, .int y4, .ref 67, .int G135]) (hp1 := (hz F A L)) rfl ?_
      refine w_c rfl rfl (t_km_placeOf ?_)
      show wl_E f _ _ mm203.2.2.2.2.2.2.2.2 35 [some (.ref 67), some (.int x1), some (.int x2), some (.int y3), some (.int y4)] [.int (km_placeOf (A 68) y4 x2), .int G135] (hz F A L) _
      generalize hG136 : (km_placeOf (A 68) y4 x2) = G136 at hE ⊢
      refine w_ge (p3 := 38) rfl rfl (fun h => ?_) (fun h => ?_)
      · have h2 : G136.toInt ≤ G135.toInt := h
        rw [if_neg (Int.not_lt.mpr h2)] at hE
        refine w_n 2 (pc1 := 5) (ls1 := [some (.ref 67), some (.int x1), some (.int x2), some (.int y3), some (.int (y4 + 1))]) (st1 := []) (hp1 := (hz F A L)) rfl ?_
        subst T
        have hb2 := i_up (B := (12 : Int32)) hb
        have hb3 : y4.toInt < 12 := hb
        exact ih (show m = (12 - (y4 + 1).toInt).toNat by rw [hb2]; omega) (fun q4 => cvE rfl rfl rfl (K q4))
      · have h2 : G135.toInt < G136.toInt := h
        rw [if_pos h2] at hE
        refine w_n 6 (pc1 := 48) (ls1 := [some (.ref 67), some (.int x1), some (.int x2), some (.int y3), some (.int y4)]) (st1 := [.int (12 + y4), .ref 68, .int y3]) (hp1 := (hz F A L)) rfl ?_
        refine w_al (k := 68) (l := (A 68)) rfl rfl rfl (fun _ => ?_)
        refine w_n 4 (pc1 := 5) (ls1 := [some (.ref 67), some (.int x1), some (.int x2), some (.int (y3 + ((A 68).getD (12 + y4).toInt.toNat 0))), some (.int (y4 + 1))]) (st1 := []) (hp1 := (hz F A L)) rfl ?_
        subst T
        have hb2 := i_up (B := (12 : Int32)) hb
        have hb3 : y4.toInt < 12 := hb
        exact ih (show m = (12 - (y4 + 1).toInt).toNat by rw [hb2]; omega) (fun q4 => cvE rfl rfl rfl (K q4))
noncomputable def km_pairOf (a68 : List Int32) (x1 : Int32) (x2 : Int32) : Int32 := (km_pairOf_5 a68 x1 x2 12 0 0)
theorem t_km_pairOf {f D : Nat} {F : Nat → Nat → Int32} {A : Nat → List Int32} {L : Nat → List Int64} {Q : Option Value → sm_H → Prop} {x1 : Int32} {x2 : Int32} (K : Q (some (.int (km_pairOf (A 68) x1 x2))) (hz F A L)) : wl_M f D 203 [.ref 67, .int x1, .int x2] (hz F A L) Q := by
  generalize hT : (km_pairOf (A 68) x1 x2) = T at K
  have hE : T = (km_pairOf_5 (A 68) x1 x2 12 0 0) := hT.symm
  clear hT
  refine w_m (E := mm203) rfl ?_
  show wl_E f f (D - 1) mm203.2.2.2.2.2.2.2.2 0 [some (.ref 67), some (.int x1), some (.int x2), none, none] [] (hz F A L) Q
  refine w_n 4 (pc1 := 5) (ls1 := [some (.ref 67), some (.int x1), some (.int x2), some (.int 0), some (.int 0)]) (st1 := []) (hp1 := (hz F A L)) rfl ?_
  refine t_km_pairOf_5 12 (show (12 : Nat) = (12 - (0 : Int32).toInt).toNat by have e0 : (0 : Int32).toInt = 0 := rfl; first | rfl | omega) ?_
  intro r1
  show wl_E f _ _ mm203.2.2.2.2.2.2.2.2 57 [some (.ref 67), some (.int x1), some (.int x2), some (.int (km_pairOf_5 (A 68) x1 x2 12 0 0)), some (.int r1)] [] (hz F A L) _
  generalize hG137 : (km_pairOf_5 (A 68) x1 x2 12 0 0) = G137 at hE ⊢
  refine w_n 1 (pc1 := 58) (ls1 := [some (.ref 67), some (.int x1), some (.int x2), some (.int G137), some (.int r1)]) (st1 := [.int G137]) (hp1 := (hz F A L)) rfl ?_
  subst T
  exact w_ri rfl (cvQ rfl rfl rfl K)
noncomputable def km_pair (f67_3 : Int32) (a68 : List Int32) (x1 : Int32) (x2 : Int32) : Int32 := (if (km_isMeasure f67_3 x1) = 0 then (-1) else (if (km_isMeasure f67_3 x2) = 0 then (-1) else (if x1 = x2 then (-1) else (km_pairOf a68 x1 x2))))
theorem t_km_pair {f D : Nat} {F : Nat → Nat → Int32} {A : Nat → List Int32} {L : Nat → List Int64} {Q : Option Value → sm_H → Prop} {x1 : Int32} {x2 : Int32} (K : Q (some (.int (km_pair (F 67 3) (A 68) x1 x2))) (hz F A L)) : wl_M f D 202 [.ref 67, .int x1, .int x2] (hz F A L) Q := by
  generalize hT : (km_pair (F 67 3) (A 68) x1 x2) = T at K
  have hE : T = (if (km_isMeasure (F 67 3) x1) = 0 then (-1) else (if (km_isMeasure (F 67 3) x2) = 0 then (-1) else (if x1 = x2 then (-1) else (km_pairOf (A 68) x1 x2)))) := hT.symm
  clear hT
  refine w_m (E := mm202) rfl ?_
  show wl_E f f (D - 1) mm202.2.2.2.2.2.2.2.2 0 [some (.ref 67), some (.int x1), some (.int x2)] [] (hz F A L) Q
  refine w_n 2 (pc1 := 2) (ls1 := [some (.ref 67), some (.int x1), some (.int x2)]) (st1 := [.int x1, .ref 67]) (hp1 := (hz F A L)) rfl ?_
  refine w_c rfl rfl (t_km_isMeasure ?_)
  show wl_E f _ _ mm202.2.2.2.2.2.2.2.2 5 [some (.ref 67), some (.int x1), some (.int x2)] [.int (km_isMeasure (F 67 3) x1)] (hz F A L) _
  generalize hG132 : (km_isMeasure (F 67 3) x1) = G132 at hE ⊢
  refine w_zeq (p3 := 8) rfl rfl (fun h => ?_) (fun h => ?_)
  · have h1 : G132 = 0 := h
    rw [if_pos h1] at hE
    refine w_n 1 (pc1 := 31) (ls1 := [some (.ref 67), some (.int x1), some (.int x2)]) (st1 := [.int (-1)]) (hp1 := (hz F A L)) rfl ?_
    subst T
    exact w_ri rfl (cvQ rfl rfl rfl K)
  · have h1 : ¬ G132 = 0 := h
    rw [if_neg h1] at hE
    refine w_n 2 (pc1 := 10) (ls1 := [some (.ref 67), some (.int x1), some (.int x2)]) (st1 := [.int x2, .ref 67]) (hp1 := (hz F A L)) rfl ?_
    refine w_c rfl rfl (t_km_isMeasure ?_)
    show wl_E f _ _ mm202.2.2.2.2.2.2.2.2 13 [some (.ref 67), some (.int x1), some (.int x2)] [.int (km_isMeasure (F 67 3) x2)] (hz F A L) _
    generalize hG133 : (km_isMeasure (F 67 3) x2) = G133 at hE ⊢
    refine w_zeq (p3 := 16) rfl rfl (fun h => ?_) (fun h => ?_)
    · have h2 : G133 = 0 := h
      rw [if_pos h2] at hE
      refine w_n 1 (pc1 := 31) (ls1 := [some (.ref 67), some (.int x1), some (.int x2)]) (st1 := [.int (-1)]) (hp1 := (hz F A L)) rfl ?_
      subst T
      exact w_ri rfl (cvQ rfl rfl rfl K)
    · have h2 : ¬ G133 = 0 := h
      rw [if_neg h2] at hE
      refine w_n 2 (pc1 := 18) (ls1 := [some (.ref 67), some (.int x1), some (.int x2)]) (st1 := [.int x2, .int x1]) (hp1 := (hz F A L)) rfl ?_
      refine w_eq (p3 := 21) rfl rfl (fun h => ?_) (fun h => ?_)
      · have h3 : x1 = x2 := h
        rw [if_pos h3] at hE
        refine w_n 1 (pc1 := 31) (ls1 := [some (.ref 67), some (.int x1), some (.int x2)]) (st1 := [.int (-1)]) (hp1 := (hz F A L)) rfl ?_
        subst T
        exact w_ri rfl (cvQ rfl rfl rfl K)
      · have h3 : ¬ x1 = x2 := h
        rw [if_neg h3] at hE
        refine w_n 3 (pc1 := 24) (ls1 := [some (.ref 67), some (.int x1), some (.int x2)]) (st1 := [.int x2, .int x1, .ref 67]) (hp1 := (hz F A L)) rfl ?_
        refine w_c rfl rfl (t_km_pairOf ?_)
        show wl_E f _ _ mm202.2.2.2.2.2.2.2.2 27 [some (.ref 67), some (.int x1), some (.int x2)] [.int (km_pairOf (A 68) x1 x2)] (hz F A L) _
        generalize hG138 : (km_pairOf (A 68) x1 x2) = G138 at hE ⊢
        refine w_n 1 (pc1 := 31) (ls1 := [some (.ref 67), some (.int x1), some (.int x2)]) (st1 := [.int G138]) (hp1 := (hz F A L)) rfl ?_
        subst T
        exact w_ri rfl (cvQ rfl rfl rfl K)
noncomputable def kt_allMeasures (f3_0 : Int32) : Int32 := (((1 : Int32) <<< (f3_0 &&& 31)) - 1)
theorem t_kt_allMeasures {f D : Nat} {F : Nat → Nat → Int32} {A : Nat → List Int32} {L : Nat → List Int64} {Q : Option Value → sm_H → Prop} (K : Q (some (.int (kt_allMeasures (F 3 0)))) (hz F A L)) : wl_M f D 59 [.ref 3] (hz F A L) Q := by
  generalize hT : (kt_allMeasures (F 3 0)) = T at K
  have hE : T = (((1 : Int32) <<< ((F 3 0) &&& 31)) - 1) := hT.symm
  clear hT
  refine w_m (E := mm59) rfl ?_
  show wl_E f f (D - 1) mm59.2.2.2.2.2.2.2.2 0 [some (.ref 3)] [] (hz F A L) Q
  refine w_n 6 (pc1 := 8) (ls1 := [some (.ref 3)]) (st1 := [.int (((1 : Int32) <<< ((F 3 0) &&& 31)) - 1)]) (hp1 := (hz F A L)) rfl ?_
  subst T
  exact w_ri rfl (cvQ rfl rfl rfl K)
noncomputable def kv_tallyFirsts_8  (x3 : Int32) : Nat → Int32 → List Int32 → List Int32
  | 0, _, a35 => a35
  | m + 1, y4, a35 => (kv_tallyFirsts_8 x3 m (y4 + 1) (a35.set (x3 + y4).toInt.toNat 0))
theorem t_kv_tallyFirsts_8 {f : Nat} {Q : Option Value → sm_H → Prop} : ∀ (m : Nat) {B D : Nat} {F : Nat → Nat → Int32} {A : Nat → List Int32} {L : Nat → List Int64} {x1 : Int32} {x2 : Int32} {x3 : Int32} {y4 : Int32} {o5 : Option Value}, m = (6 - y4.toInt).toNat → (∀ q4 : Int32, wl_E f B D mm78.2.2.2.2.2.2.2.2 31 [some (.ref 30), some (.int x1), some (.int x2), some (.int x3), some (.int q4), o5] [] (hz F (uA A 35 (kv_tallyFirsts_8 x3 m y4 (A 35))) L) Q) → wl_E f B D mm78.2.2.2.2.2.2.2.2 8 [some (.ref 30), some (.int x1), some (.int x2), some (.int x3), some (.int y4), o5] [] (hz F A L) Q := by
  intro m
  induction m with
  | zero =>
    intro B D F A L x1 x2 x3 y4 o5 hm K
    generalize hT : (kv_tallyFirsts_8 x3 0 y4 (A 35)) = T at K
    have hE : T = (A 35) := hT.symm
    clear hT
    refine w_n 2 (pc1 := 12) (ls1 := [some (.ref 30), some (.int x1), some (.int x2), some (.int x3), some (.int y4), o5]) (st1 := [.int 6, .int y4]) (hp1 := (hz F A L)) rfl ?_
    refine w_ge (p3 := 15) rfl rfl (fun hb => ?_) (fun h => False.elim (by have h : y4.toInt < 6 := h; omega))
    subst T
    exact cvE rfl (funext fun q => if k0 : q = 35 then by subst k0; exact Eq.trans (b := (A 35)) rfl rfl else by unfold uA; simp only [nb1 k0, cond_false]) rfl (K _)
  | succ m ih =>
    intro B D F A L x1 x2 x3 y4 o5 hm K
    generalize hT : (kv_tallyFirsts_8 x3 (m + 1) y4 (A 35)) = T at K
    have hE : T = (kv_tallyFirsts_8 x3 m (y4 + 1) ((A 35).set (x3 + y4).toInt.toNat 0)) := hT.symm
    clear hT
    refine w_n 2 (pc1 := 12) (ls1 := [some (.ref 30), some (.int x1), some (.int x2), some (.int x3), some (.int y4), o5]) (st1 := [.int 6, .int y4]) (hp1 := (hz F A L)) rfl ?_
    refine w_ge (p3 := 15) rfl rfl (fun h => False.elim (by have h : 6 ≤ y4.toInt := h; omega)) (fun hb => ?_)
    refine w_n 6 (pc1 := 24) (ls1 := [some (.ref 30), some (.int x1), some (.int x2), some (.int x3), some (.int y4), o5]) (st1 := [.int 0, .int (x3 + y4), .ref 35]) (hp1 := (hz F A L)) rfl ?_
    refine w_as (k := 35) (l := (A 35)) (hp1 := (hz F (uA A 35 ((A 35).set (x3 + y4).toInt.toNat 0)) L)) rfl rfl rfl (hz_s35 _) (fun _ => ?_)
    refine w_n 2 (pc1 := 8) (ls1 := [some (.ref 30), some (.int x1), some (.int x2), some (.int x3), some (.int (y4 + 1)), o5]) (st1 := []) (hp1 := (hz F (uA A 35 ((A 35).set (x3 + y4).toInt.toNat 0)) L)) rfl ?_
    subst T
    have hb2 := i_up (B := (6 : Int32)) hb
    have hb3 : y4.toInt < 6 := hb
    exact ih (show m = (6 - (y4 + 1).toInt).toNat by rw [hb2]; omega) (fun q4 => cvE rfl (funext fun q => if k0 : q = 35 then by subst k0; exact Eq.trans (b := (kv_tallyFirsts_8 x3 m (y4 + 1) ((A 35).set (x3 + y4).toInt.toNat 0))) rfl rfl else by unfold uA; simp only [nb1 k0, cond_false]) rfl (K q4))
noncomputable def kt_favourite_2 (l11 : List Int64) (x1 : Int32) (x2 : Int32) : Nat → Int32 → Int32
  | 0, _ => (-1)
  | m + 1, y3 => (if ((x2 >>> (y3 &&& 31)) &&& 1) = 0 then (kt_favourite_2 l11 x1 x2 m (y3 + 1)) else (if ((kt_aheadOf l11 x1 y3) &&& x2) = 0 then y3 else (kt_favourite_2 l11 x1 x2 m (y3 + 1))))
theorem t_kt_favourite_2 {f : Nat} {Q : Option Value → sm_H → Prop} : ∀ (m : Nat) {B D : Nat} {F : Nat → Nat → Int32} {A : Nat → List Int32} {L : Nat → List Int64} {x1 : Int32} {x2 : Int32} {y3 : Int32}, m = ((F 3 0).toInt - y3.toInt).toNat → (Q (some (.int (kt_favourite_2 (L 11) x1 x2 m y3))) (hz F A L)) → wl_E f B D mm60.2.2.2.2.2.2.2.2 2 [some (.ref 3), some (.int x1), some (.int x2), some (.int y3)] [] (hz F A L) Q := by
  intro m
  induction m with
  | zero =>
    intro B D F A L x1 x2 y3 hm K
    generalize hT : (kt_favourite_2 (L 11) x1 x2 0 y3) = T at K
    have hE : T = (-1) := hT.symm
    clear hT
    refine w_n 3 (pc1 := 7) (ls1 := [some (.ref 3), some (.int x1), some (.int x2), some (.int y3)]) (st1 := [.int (F 3 0), .int y3]) (hp1 := (hz F A L)) rfl ?_
    refine w_ge (p3 := 10) rfl rfl (fun hb => ?_) (fun h => False.elim (by have h : y3.toInt < (F 3 0).toInt := h; omega))
    refine w_n 1 (pc1 := 38) (ls1 := [some (.ref 3), some (.int x1), some (.int x2), some (.int y3)]) (st1 := [.int (-1)]) (hp1 := (hz F A L)) rfl ?_
    subst T
    exact w_ri rfl (cvQ rfl rfl rfl K)
  | succ m ih =>
    intro B D F A L x1 x2 y3 hm K
    generalize hT : (kt_favourite_2 (L 11) x1 x2 (m + 1) y3) = T at K
    have hE : T = (if ((x2 >>> (y3 &&& 31)) &&& 1) = 0 then (kt_favourite_2 (L 11) x1 x2 m (y3 + 1)) else (if ((kt_aheadOf (L 11) x1 y3) &&& x2) = 0 then y3 else (kt_favourite_2 (L 11) x1 x2 m (y3 + 1)))) := hT.symm
    clear hT
    refine w_n 3 (pc1 := 7) (ls1 := [some (.ref 3), some (.int x1), some (.int x2), some (.int y3)]) (st1 := [.int (F 3 0), .int y3]) (hp1 := (hz F A L)) rfl ?_
    refine w_ge (p3 := 10) rfl rfl (fun h => False.elim (by have h : (F 3 0).toInt ≤ y3.toInt := h; omega)) (fun hb => ?_)
    refine w_n 5 (pc1 := 15) (ls1 := [some (.ref 3), some (.int x1), some (.int x2), some (.int y3)]) (st1 := [.int ((x2 >>> (y3 &&& 31)) &&& 1)]) (hp1 := (hz F A L)) rfl ?_
    refine w_zeq (p3 := 18) rfl rfl (fun h => ?_) (fun h => ?_)
    · have h1 : ((x2 >>> (y3 &&& 31)) &&& 1) = 0 := h
      rw [if_pos h1] at hE
      refine w_n 2 (pc1 := 2) (ls1 := [some (.ref 3), some (.int x1), some (.int x2), some (.int (y3 + 1))]) (st1 := []) (hp1 := (hz F A L)) rfl ?_
      subst T
      have hb2 := i_up (B := (F 3 0)) hb
      have hb3 : y3.toInt < (F 3 0).toInt := hb
      exact ih (show m = ((F 3 0).toInt - (y3 + 1).toInt).toNat by rw [hb2]; omega) (cvQ rfl rfl rfl K)
    · have h1 : ¬ ((x2 >>> (y3 &&& 31)) &&& 1) = 0 := h
      rw [if_neg h1] at hE
      refine w_n 3 (pc1 := 21) (ls1 := [some (.ref 3), some (.int x1), some (.int x2), some (.int y3)]) (st1 := [.int y3, .int x1, .ref 3]) (hp1 := (hz F A L)) rfl ?_
      refine w_c rfl rfl (t_kt_aheadOf ?_)
      show wl_E f _ _ mm60.2.2.2.2.2.2.2.2 24 [some (.ref 3), some (.int x1), some (.int x2), some (.int y3)] [.int (kt_aheadOf (L 11) x1 y3)] (hz F A L) _
      generalize hG142 : (kt_aheadOf (L 11) x1 y3) = G142 at hE ⊢
      refine w_n 2 (pc1 := 26) (ls1 := [some (.ref 3), some (.int x1), some (.int x2), some (.int y3)]) (st1 := [.int (G142 &&& x2)]) (hp1 := (hz F A L)) rfl ?_
      refine w_zne (p3 := 29) rfl rfl (fun h => ?_) (fun h => ?_)
      · have h2 : ¬ (G142 &&& x2) = 0 := h
        rw [if_neg h2] at hE
        refine w_n 2 (pc1 := 2) (ls1 := [some (.ref 3), some (.int x1), some (.int x2), some (.int (y3 + 1))]) (st1 := []) (hp1 := (hz F A L)) rfl ?_
        subst T
        have hb2 := i_up (B := (F 3 0)) hb
        have hb3 : y3.toInt < (F 3 0).toInt := hb
        exact ih (show m = ((F 3 0).toInt - (y3 + 1).toInt).toNat by rw [hb2]; omega) (cvQ rfl rfl rfl K)
      · have h2 : (G142 &&& x2) = 0 := h
        rw [if_pos h2] at hE
        refine w_n 1 (pc1 := 30) (ls1 := [some (.ref 3), some (.int x1), some (.int x2), some (.int y3)]) (st1 := [.int y3]) (hp1 := (hz F A L)) rfl ?_
        subst T
        exact w_ri rfl (cvQ rfl rfl rfl K)
