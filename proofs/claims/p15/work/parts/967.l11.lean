/-! lifts, printed by genlift.py: 11 -/
def km_isWon_29 (a87 : List Int32) (x1 : Int32) : Nat → Int32 → Int32 × List Int32
  | 0, _ => (1, a87)
  | m + 1, y3 => (if y3 = x1 then (km_isWon_29 a87 x1 m (y3 + 1)) else (if (a87.getD y3.toInt.toNat 0).toInt < (a87.getD x1.toInt.toNat 0).toInt then (km_isWon_29 a87 x1 m (y3 + 1)) else (0, a87)))
theorem t_km_isWon_29 {f : Nat} {Q : Option Value → sm_H → Prop} : ∀ (m : Nat) {B D : Nat} {F : Nat → Nat → Int32} {A : Nat → List Int32} {L : Nat → List Int64} {x1 : Int32} {x2 : Int32} {y3 : Int32}, m = ((F 67 3).toInt - y3.toInt).toNat → (Q (some (.int ((km_isWon_29 (A 87) x1 m y3).1))) (hz F (uA A 87 ((km_isWon_29 (A 87) x1 m y3).2)) L)) → wl_E f B D mm233.2.2.2.2.2.2.2.2 29 [some (.ref 67), some (.int x1), some (.int x2), some (.int y3)] [] (hz F A L) Q := by
  intro m
  induction m with
  | zero =>
    intro B D F A L x1 x2 y3 hm K
    generalize hT : (km_isWon_29 (A 87) x1 0 y3) = T at K
    have hE : T = (1, (A 87)) := hT.symm
    clear hT
    refine w_n 3 (pc1 := 34) (ls1 := [some (.ref 67), some (.int x1), some (.int x2), some (.int y3)]) (st1 := [.int (F 67 3), .int y3]) (hp1 := (hz F A L)) rfl ?_
    refine w_ge (p3 := 37) rfl rfl (fun hb => ?_) (fun h => False.elim (by have h : y3.toInt < (F 67 3).toInt := h; omega))
    refine w_n 1 (pc1 := 66) (ls1 := [some (.ref 67), some (.int x1), some (.int x2), some (.int y3)]) (st1 := [.int 1]) (hp1 := (hz F A L)) rfl ?_
    subst T
    exact w_ri rfl (cvQ rfl (funext fun q => if k0 : q = 87 then by subst k0; exact Eq.trans (b := (A 87)) rfl rfl else by unfold uA; simp only [nb1 k0, cond_false]) rfl K)
  | succ m ih =>
    intro B D F A L x1 x2 y3 hm K
    generalize hT : (km_isWon_29 (A 87) x1 (m + 1) y3) = T at K
    have hE : T = (if y3 = x1 then (km_isWon_29 (A 87) x1 m (y3 + 1)) else (if ((A 87).getD y3.toInt.toNat 0).toInt < ((A 87).getD x1.toInt.toNat 0).toInt then (km_isWon_29 (A 87) x1 m (y3 + 1)) else (0, (A 87)))) := hT.symm
    clear hT
    refine w_n 3 (pc1 := 34) (ls1 := [some (.ref 67), some (.int x1), some (.int x2), some (.int y3)]) (st1 := [.int (F 67 3), .int y3]) (hp1 := (hz F A L)) rfl ?_
    refine w_ge (p3 := 37) rfl rfl (fun h => False.elim (by have h : (F 67 3).toInt ≤ y3.toInt := h; omega)) (fun hb => ?_)
    refine w_n 2 (pc1 := 39) (ls1 := [some (.ref 67), some (.int x1), some (.int x2), some (.int y3)]) (st1 := [.int x1, .int y3]) (hp1 := (hz F A L)) rfl ?_
    refine w_eq (p3 := 42) rfl rfl (fun h => ?_) (fun h => ?_)
    · have h1 : y3 = x1 := h
      rw [if_pos h1] at hE
      refine w_n 2 (pc1 := 29) (ls1 := [some (.ref 67), some (.int x1), some (.int x2), some (.int (y3 + 1))]) (st1 := []) (hp1 := (hz F A L)) rfl ?_
      subst T
      have hb2 := i_up (B := (F 67 3)) hb
      have hb3 : y3.toInt < (F 67 3).toInt := hb
      exact ih (show m = ((F 67 3).toInt - (y3 + 1).toInt).toNat by rw [hb2]; omega) (cvQ rfl (funext fun q => if k0 : q = 87 then by subst k0; exact Eq.trans (b := (km_isWon_29 (A 87) x1 m (y3 + 1)).2) rfl rfl else by unfold uA; simp only [nb1 k0, cond_false]) rfl K)
    · have h1 : ¬ y3 = x1 := h
      rw [if_neg h1] at hE
      refine w_n 3 (pc1 := 47) (ls1 := [some (.ref 67), some (.int x1), some (.int x2), some (.int y3)]) (st1 := [.int y3, .ref 87]) (hp1 := (hz F A L)) rfl ?_
      refine w_al (k := 87) (l := (A 87)) rfl rfl rfl (fun ab => ?_)
      refine w_n 3 (pc1 := 53) (ls1 := [some (.ref 67), some (.int x1), some (.int x2), some (.int y3)]) (st1 := [.int x1, .ref 87, .int ((A 87).getD y3.toInt.toNat 0)]) (hp1 := (hz F A L)) rfl ?_
      refine w_al (k := 87) (l := (A 87)) rfl rfl rfl (fun _ => ?_)
      refine w_lt (p3 := 57) rfl rfl (fun h => ?_) (fun h => ?_)
      · have h2 : ((A 87).getD y3.toInt.toNat 0).toInt < ((A 87).getD x1.toInt.toNat 0).toInt := h
        rw [if_pos h2] at hE
        refine w_n 2 (pc1 := 29) (ls1 := [some (.ref 67), some (.int x1), some (.int x2), some (.int (y3 + 1))]) (st1 := []) (hp1 := (hz F A L)) rfl ?_
        subst T
        have hb2 := i_up (B := (F 67 3)) hb
        have hb3 : y3.toInt < (F 67 3).toInt := hb
        exact ih (show m = ((F 67 3).toInt - (y3 + 1).toInt).toNat by rw [hb2]; omega) (cvQ rfl (funext fun q => if k0 : q = 87 then by subst k0; exact Eq.trans (b := (km_isWon_29 (A 87) x1 m (y3 + 1)).2) rfl rfl else by unfold uA; simp only [nb1 k0, cond_false]) rfl K)
      · have h2 : ((A 87).getD x1.toInt.toNat 0).toInt ≤ ((A 87).getD y3.toInt.toNat 0).toInt := h
        rw [if_neg (Int.not_lt.mpr h2)] at hE
        refine w_n 1 (pc1 := 58) (ls1 := [some (.ref 67), some (.int x1), some (.int x2), some (.int y3)]) (st1 := [.int 0]) (hp1 := (hz F A L)) rfl ?_
        subst T
        exact w_ri rfl (cvQ rfl (funext fun q => if k0 : q = 87 then by subst k0; exact Eq.trans (b := (A 87)) rfl rfl else by unfold uA; simp only [nb1 k0, cond_false]) rfl K)
def km_isWon (f67_3 : Int32) (a68 : List Int32) (a87 : List Int32) (x1 : Int32) (x2 : Int32) : Int32 × List Int32 := (km_isWon_29 ((km_laysFirsts f67_3 a68 a87 (km_allMeasures f67_3) x2).set x1.toInt.toNat (((km_laysFirsts f67_3 a68 a87 (km_allMeasures f67_3) x2).getD x1.toInt.toNat 0) + (km_biscuitsOf a68 x2))) x1 f67_3.toInt.toNat 0)
theorem t_km_isWon {f D : Nat} {F : Nat → Nat → Int32} {A : Nat → List Int32} {L : Nat → List Int64} {Q : Option Value → sm_H → Prop} {x1 : Int32} {x2 : Int32} (K : Q (some (.int ((km_isWon (F 67 3) (A 68) (A 87) x1 x2).1))) (hz F (uA A 87 ((km_isWon (F 67 3) (A 68) (A 87) x1 x2).2)) L)) : wl_M f D 233 [.ref 67, .int x1, .int x2] (hz F A L) Q := by
  generalize hT : (km_isWon (F 67 3) (A 68) (A 87) x1 x2) = T at K
  have hE : T = (km_isWon_29 ((km_laysFirsts (F 67 3) (A 68) (A 87) (km_allMeasures (F 67 3)) x2).set x1.toInt.toNat (((km_laysFirsts (F 67 3) (A 68) (A 87) (km_allMeasures (F 67 3)) x2).getD x1.toInt.toNat 0) + (km_biscuitsOf (A 68) x2))) x1 (F 67 3).toInt.toNat 0) := hT.symm
  clear hT
  refine w_m (E := mm233) rfl ?_
  show wl_E f f (D - 1) mm233.2.2.2.2.2.2.2.2 0 [some (.ref 67), some (.int x1), some (.int x2), none] [] (hz F A L) Q
  refine w_n 2 (pc1 := 2) (ls1 := [some (.ref 67), some (.int x1), some (.int x2), none]) (st1 := [.ref 67, .ref 67]) (hp1 := (hz F A L)) rfl ?_
  refine w_c rfl rfl (t_km_allMeasures ?_)
  show wl_E f _ _ mm233.2.2.2.2.2.2.2.2 5 [some (.ref 67), some (.int x1), some (.int x2), none] [.int (km_allMeasures (F 67 3)), .ref 67] (hz F A L) _
  generalize hG370 : (km_allMeasures (F 67 3)) = G370 at hE ⊢
  refine w_n 1 (pc1 := 6) (ls1 := [some (.ref 67), some (.int x1), some (.int x2), none]) (st1 := [.int x2, .int G370, .ref 67]) (hp1 := (hz F A L)) rfl ?_
  refine w_c rfl rfl (t_km_laysFirsts ?_)
  show wl_E f _ _ mm233.2.2.2.2.2.2.2.2 9 [some (.ref 67), some (.int x1), some (.int x2), none] [] (hz F (uA A 87 (km_laysFirsts (F 67 3) (A 68) (A 87) G370 x2)) L) _
  generalize hG371 : (km_laysFirsts (F 67 3) (A 68) (A 87) G370 x2) = G371 at hE ⊢
  refine w_n 6 (pc1 := 19) (ls1 := [some (.ref 67), some (.int x1), some (.int x2), none]) (st1 := [.int x1, .ref 87, .int x1, .ref 87]) (hp1 := (hz F (uA A 87 G371) L)) rfl ?_
  refine w_al (k := 87) (l := G371) rfl rfl rfl (fun _ => ?_)
  refine w_n 2 (pc1 := 22) (ls1 := [some (.ref 67), some (.int x1), some (.int x2), none]) (st1 := [.int x2, .ref 67, .int (G371.getD x1.toInt.toNat 0), .int x1, .ref 87]) (hp1 := (hz F (uA A 87 G371) L)) rfl ?_
  refine w_c rfl rfl (t_km_biscuitsOf ?_)
  show wl_E f _ _ mm233.2.2.2.2.2.2.2.2 25 [some (.ref 67), some (.int x1), some (.int x2), none] [.int (km_biscuitsOf (A 68) x2), .int (G371.getD x1.toInt.toNat 0), .int x1, .ref 87] (hz F (uA A 87 G371) L) _
  generalize hG372 : (km_biscuitsOf (A 68) x2) = G372 at hE ⊢
  refine w_n 1 (pc1 := 26) (ls1 := [some (.ref 67), some (.int x1), some (.int x2), none]) (st1 := [.int ((G371.getD x1.toInt.toNat 0) + G372), .int x1, .ref 87]) (hp1 := (hz F (uA A 87 G371) L)) rfl ?_
  refine w_as (k := 87) (l := G371) (hp1 := (hz F (uA (uA A 87 G371) 87 (G371.set x1.toInt.toNat ((G371.getD x1.toInt.toNat 0) + G372))) L)) rfl rfl rfl (hz_s87 _) (fun _ => ?_)
  refine w_n 2 (pc1 := 29) (ls1 := [some (.ref 67), some (.int x1), some (.int x2), some (.int 0)]) (st1 := []) (hp1 := (hz F (uA (uA A 87 G371) 87 (G371.set x1.toInt.toNat ((G371.getD x1.toInt.toNat 0) + G372))) L)) rfl ?_
  subst T
  exact t_km_isWon_29 _ (show (F 67 3).toInt.toNat = ((F 67 3).toInt - (0 : Int32).toInt).toNat by have e0 : (0 : Int32).toInt = 0 := rfl; first | rfl | omega) (cvQ rfl (funext fun q => if k0 : q = 87 then by subst k0; exact Eq.trans (b := (km_isWon_29 (G371.set x1.toInt.toNat ((G371.getD x1.toInt.toNat 0) + G372)) x1 (F 67 3).toInt.toNat 0).2) rfl rfl else by unfold uA; simp only [nb1 k0, cond_false]) rfl K)
def km_wonOver_25 (f67_3 : Int32) (a68 : List Int32) (x1 : Int32) : Nat → Int32 → Int32 → List Int32 → Int32 × List Int32
  | 0, y3, _, a87 => (y3, a87)
  | m + 1, y3, y4, a87 => (if (y4 &&& ((a68.getD 144 0) ^^^ (-1))) = 0 then (if y3 = (-2) then (if (km_isWon f67_3 a68 a87 x1 y4).1 = 0 then (km_wonOver_25 f67_3 a68 x1 m y3 (y4 + 1) (km_isWon f67_3 a68 a87 x1 y4).2) else (km_wonOver_25 f67_3 a68 x1 m y4 (y4 + 1) (km_isWon f67_3 a68 a87 x1 y4).2)) else (if (km_bits y4).toInt < (km_bits y3).toInt then (if (km_isWon f67_3 a68 a87 x1 y4).1 = 0 then (km_wonOver_25 f67_3 a68 x1 m y3 (y4 + 1) (km_isWon f67_3 a68 a87 x1 y4).2) else (km_wonOver_25 f67_3 a68 x1 m y4 (y4 + 1) (km_isWon f67_3 a68 a87 x1 y4).2)) else (km_wonOver_25 f67_3 a68 x1 m y3 (y4 + 1) a87))) else (km_wonOver_25 f67_3 a68 x1 m y3 (y4 + 1) a87))
theorem t_km_wonOver_25 {f : Nat} {Q : Option Value → sm_H → Prop} : ∀ (m : Nat) {B D : Nat} {F : Nat → Nat → Int32} {A : Nat → List Int32} {L : Nat → List Int64} {x1 : Int32} {x2 : Int32} {y3 : Int32} {y4 : Int32}, m = (((A 68).getD 144 0).toInt + 1 - y4.toInt).toNat → (_ : ((A 68).getD 144 0).toInt < 2147483647) → (∀ q4 : Int32, wl_E f B D mm232.2.2.2.2.2.2.2.2 94 [some (.ref 67), some (.int x1), some (.int x2), some (.int ((km_wonOver_25 (F 67 3) (A 68) x1 m y3 y4 (A 87)).1)), some (.int q4)] [] (hz F (uA A 87 ((km_wonOver_25 (F 67 3) (A 68) x1 m y3 y4 (A 87)).2)) L) Q) → wl_E f B D mm232.2.2.2.2.2.2.2.2 25 [some (.ref 67), some (.int x1), some (.int x2), some (.int y3), some (.int y4)] [] (hz F A L) Q := by
  intro m
  induction m with
  | zero =>
    intro B D F A L x1 x2 y3 y4 hm hh0 K
    generalize hT : (km_wonOver_25 (F 67 3) (A 68) x1 0 y3 y4 (A 87)) = T at K
    have hE : T = (y3, (A 87)) := hT.symm
    clear hT
    refine w_n 4 (pc1 := 34) (ls1 := [some (.ref 67), some (.int x1), some (.int x2), some (.int y3), some (.int y4)]) (st1 := [.int 144, .ref 68, .int y4]) (hp1 := (hz F A L)) rfl ?_
    refine w_al (k := 68) (l := (A 68)) rfl rfl rfl (fun _ => ?_)
    refine w_gt (p3 := 38) rfl rfl (fun hb => ?_) (fun h => False.elim (by have h : y4.toInt ≤ ((A 68).getD 144 0).toInt := h; omega))
    subst T
    exact cvE rfl (funext fun q => if k0 : q = 87 then by subst k0; exact Eq.trans (b := (A 87)) rfl rfl else by unfold uA; simp only [nb1 k0, cond_false]) rfl (K _)
  | succ m ih =>
    intro B D F A L x1 x2 y3 y4 hm hh0 K
    generalize hT : (km_wonOver_25 (F 67 3) (A 68) x1 (m + 1) y3 y4 (A 87)) = T at K
    have hE : T = (if (y4 &&& (((A 68).getD 144 0) ^^^ (-1))) = 0 then (if y3 = (-2) then (if (km_isWon (F 67 3) (A 68) (A 87) x1 y4).1 = 0 then (km_wonOver_25 (F 67 3) (A 68) x1 m y3 (y4 + 1) (km_isWon (F 67 3) (A 68) (A 87) x1 y4).2) else (km_wonOver_25 (F 67 3) (A 68) x1 m y4 (y4 + 1) (km_isWon (F 67 3) (A 68) (A 87) x1 y4).2)) else (if (km_bits y4).toInt < (km_bits y3).toInt then (if (km_isWon (F 67 3) (A 68) (A 87) x1 y4).1 = 0 then (km_wonOver_25 (F 67 3) (A 68) x1 m y3 (y4 + 1) (km_isWon (F 67 3) (A 68) (A 87) x1 y4).2) else (km_wonOver_25 (F 67 3) (A 68) x1 m y4 (y4 + 1) (km_isWon (F 67 3) (A 68) (A 87) x1 y4).2)) else (km_wonOver_25 (F 67 3) (A 68) x1 m y3 (y4 + 1) (A 87)))) else (km_wonOver_25 (F 67 3) (A 68) x1 m y3 (y4 + 1) (A 87))) := hT.symm
    clear hT
    refine w_n 4 (pc1 := 34) (ls1 := [some (.ref 67), some (.int x1), some (.int x2), some (.int y3), some (.int y4)]) (st1 := [.int 144, .ref 68, .int y4]) (hp1 := (hz F A L)) rfl ?_
    refine w_al (k := 68) (l := (A 68)) rfl rfl rfl (fun _ => ?_)
    refine w_gt (p3 := 38) rfl rfl (fun h => False.elim (by have h : ((A 68).getD 144 0).toInt < y4.toInt := h; omega)) (fun hb => ?_)
    refine w_n 4 (pc1 := 47) (ls1 := [some (.ref 67), some (.int x1), some (.int x2), some (.int y3), some (.int y4)]) (st1 := [.int 144, .ref 68, .int y4]) (hp1 := (hz F A L)) rfl ?_
    refine w_al (k := 68) (l := (A 68)) rfl rfl rfl (fun _ => ?_)
    refine w_n 3 (pc1 := 51) (ls1 := [some (.ref 67), some (.int x1), some (.int x2), some (.int y3), some (.int y4)]) (st1 := [.int (y4 &&& (((A 68).getD 144 0) ^^^ (-1)))]) (hp1 := (hz F A L)) rfl ?_
    refine w_zne (p3 := 54) rfl rfl (fun h => ?_) (fun h => ?_)
    · have h1 : ¬ (y4 &&& (((A 68).getD 144 0) ^^^ (-1))) = 0 := h
      rw [if_neg h1] at hE
      refine w_n 2 (pc1 := 25) (ls1 := [some (.ref 67), some (.int x1), some (.int x2), some (.int y3), some (.int (y4 + 1))]) (st1 := []) (hp1 := (hz F A L)) rfl ?_
      subst T
      have hb2 := i_up2 (B := ((A 68).getD 144 0)) hb (by first | decide | exact hB | assumption)
      have hb3 : y4.toInt ≤ ((A 68).getD 144 0).toInt := hb
      exact ih (show m = (((A 68).getD 144 0).toInt + 1 - (y4 + 1).toInt).toNat by rw [hb2]; omega) hh0 (fun q4 => cvE rfl (funext fun q => if k0 : q = 87 then by subst k0; exact Eq.trans (b := (km_wonOver_25 (F 67 3) (A 68) x1 m y3 (y4 + 1) (A 87)).2) rfl rfl else by unfold uA; simp only [nb1 k0, cond_false]) rfl (K q4))
    · have h1 : (y4 &&& (((A 68).getD 144 0) ^^^ (-1))) = 0 := h
      rw [if_pos h1] at hE
      refine w_n 2 (pc1 := 57) (ls1 := [some (.ref 67), some (.int x1), some (.int x2), some (.int y3), some (.int y4)]) (st1 := [.int (-2), .int y3]) (hp1 := (hz F A L)) rfl ?_
      refine w_eq (p3 := 60) rfl rfl (fun h => ?_) (fun h => ?_)
      · have h2 : y3 = (-2) := h
        rw [if_pos h2] at hE
        refine w_n 3 (pc1 := 76) (ls1 := [some (.ref 67), some (.int x1), some (.int x2), some (.int y3), some (.int y4)]) (st1 := [.int y4, .int x1, .ref 67]) (hp1 := (hz F A L)) rfl ?_
        refine w_c rfl rfl (t_km_isWon ?_)
        show wl_E f _ _ mm232.2.2.2.2.2.2.2.2 79 [some (.ref 67), some (.int x1), some (.int x2), some (.int y3), some (.int y4)] [.int (km_isWon (F 67 3) (A 68) (A 87) x1 y4).1] (hz F (uA A 87 (km_isWon (F 67 3) (A 68) (A 87) x1 y4).2) L) _
        generalize hG373 : (km_isWon (F 67 3) (A 68) (A 87) x1 y4) = G373 at hE ⊢
        refine w_zne (p3 := 82) rfl rfl (fun h => ?_) (fun h => ?_)
        · have h3 : ¬ G373.1 = 0 := h
          rw [if_neg h3] at hE
          refine w_n 4 (pc1 := 25) (ls1 := [some (.ref 67), some (.int x1), some (.int x2), some (.int y4), some (.int (y4 + 1))]) (st1 := []) (hp1 := (hz F (uA A 87 G373.2) L)) rfl ?_
          subst T
          have hb2 := i_up2 (B := ((A 68).getD 144 0)) hb (by first | decide | exact hB | assumption)
          have hb3 : y4.toInt ≤ ((A 68).getD 144 0).toInt := hb
          exact ih (show m = (((A 68).getD 144 0).toInt + 1 - (y4 + 1).toInt).toNat by rw [hb2]; omega) hh0 (fun q4 => cvE rfl (funext fun q => if k0 : q = 87 then by subst k0; exact Eq.trans (b := (km_wonOver_25 (F 67 3) (A 68) x1 m y4 (y4 + 1) G373.2).2) rfl rfl else by unfold uA; simp only [nb1 k0, cond_false]) rfl (K q4))
        · have h3 : G373.1 = 0 := h
          rw [if_pos h3] at hE
          refine w_n 3 (pc1 := 25) (ls1 := [some (.ref 67), some (.int x1), some (.int x2), some (.int y3), some (.int (y4 + 1))]) (st1 := []) (hp1 := (hz F (uA A 87 G373.2) L)) rfl ?_
          subst T
          have hb2 := i_up2 (B := ((A 68).getD 144 0)) hb (by first | decide | exact hB | assumption)
          have hb3 : y4.toInt ≤ ((A 68).getD 144 0).toInt := hb
          exact ih (show m = (((A 68).getD 144 0).toInt + 1 - (y4 + 1).toInt).toNat by rw [hb2]; omega) hh0 (fun q4 => cvE rfl (funext fun q => if k0 : q = 87 then by subst k0; exact Eq.trans (b := (km_wonOver_25 (F 67 3) (A 68) x1 m y3 (y4 + 1) G373.2).2) rfl rfl else by unfold uA; simp only [nb1 k0, cond_false]) rfl (K q4))
      · have h2 : ¬ y3 = (-2) := h
        rw [if_neg h2] at hE
        refine w_n 1 (pc1 := 62) (ls1 := [some (.ref 67), some (.int x1), some (.int x2), some (.int y3), some (.int y4)]) (st1 := [.int y4]) (hp1 := (hz F A L)) rfl ?_
        refine w_c rfl rfl (t_km_bits ?_)
        show wl_E f _ _ mm232.2.2.2.2.2.2.2.2 65 [some (.ref 67), some (.int x1), some (.int x2), some (.int y3), some (.int y4)] [.int (km_bits y4)] (hz F A L) _
        generalize hG374 : (km_bits y4) = G374 at hE ⊢
        refine w_n 1 (pc1 := 66) (ls1 := [some (.ref 67), some (.int x1), some (.int x2), some (.int y3), some (.int y4)]) (st1 := [.int y3, .int G374]) (hp1 := (hz F A L)) rfl ?_
        refine w_c rfl rfl (t_km_bits ?_)
        show wl_E f _ _ mm232.2.2.2.2.2.2.2.2 69 [some (.ref 67), some (.int x1), some (.int x2), some (.int y3), some (.int y4)] [.int (km_bits y3), .int G374] (hz F A L) _
        generalize hG375 : (km_bits y3) = G375 at hE ⊢
        refine w_ge (p3 := 72) rfl rfl (fun h => ?_) (fun h => ?_)
        · have h4 : G375.toInt ≤ G374.toInt := h
          rw [if_neg (Int.not_lt.mpr h4)] at hE
          refine w_n 2 (pc1 := 25) (ls1 := [some (.ref 67), some (.int x1), some (.int x2), some (.int y3), some (.int (y4 + 1))]) (st1 := []) (hp1 := (hz F A L)) rfl ?_
          subst T
          have hb2 := i_up2 (B := ((A 68).getD 144 0)) hb (by first | decide | exact hB | assumption)
          have hb3 : y4.toInt ≤ ((A 68).getD 144 0).toInt := hb
          exact ih (show m = (((A 68).getD 144 0).toInt + 1 - (y4 + 1).toInt).toNat by rw [hb2]; omega) hh0 (fun q4 => cvE rfl (funext fun q => if k0 : q = 87 then by subst k0; exact Eq.trans (b := (km_wonOver_25 (F 67 3) (A 68) x1 m y3 (y4 + 1) (A 87)).2) rfl rfl else by unfold uA; simp only [nb1 k0, cond_false]) rfl (K q4))
        · have h4 : G374.toInt < G375.toInt := h
          rw [if_pos h4] at hE
          refine w_n 3 (pc1 := 76) (ls1 := [some (.ref 67), some (.int x1), some (.int x2), some (.int y3), some (.int y4)]) (st1 := [.int y4, .int x1, .ref 67]) (hp1 := (hz F A L)) rfl ?_
          refine w_c rfl rfl (t_km_isWon ?_)
          show wl_E f _ _ mm232.2.2.2.2.2.2.2.2 79 [some (.ref 67), some (.int x1), some (.int x2), some (.int y3), some (.int y4)] [.int (km_isWon (F 67 3) (A 68) (A 87) x1 y4).1] (hz F (uA A 87 (km_isWon (F 67 3) (A 68) (A 87) x1 y4).2) L) _
          generalize hG376 : (km_isWon (F 67 3) (A 68) (A 87) x1 y4) = G376 at hE ⊢
          refine w_zne (p3 := 82) rfl rfl (fun h => ?_) (fun h => ?_)
          · have h5 : ¬ G376.1 = 0 := h
            rw [if_neg h5] at hE
            refine w_n 4 (pc1 := 25) (ls1 := [some (.ref 67), some (.int x1), some (.int x2), some (.int y4), some (.int (y4 + 1))]) (st1 := []) (hp1 := (hz F (uA A 87 G376.2) L)) rfl ?_
            subst T
            have hb2 := i_up2 (B := ((A 68).getD 144 0)) hb (by first | decide | exact hB | assumption)
            have hb3 : y4.toInt ≤ ((A 68).getD 144 0).toInt := hb
            exact ih (show m = (((A 68).getD 144 0).toInt + 1 - (y4 + 1).toInt).toNat by rw [hb2]; omega) hh0 (fun q4 => cvE rfl (funext fun q => if k0 : q = 87 then by subst k0; exact Eq.trans (b := (km_wonOver_25 (F 67 3) (A 68) x1 m y4 (y4 + 1) G376.2).2) rfl rfl else by unfold uA; simp only [nb1 k0, cond_false]) rfl (K q4))
          · have h5 : G376.1 = 0 := h
            rw [if_pos h5] at hE
            refine w_n 3 (pc1 := 25) (ls1 := [some (.ref 67), some (.int x1), some (.int x2), some (.int y3), some (.int (y4 + 1))]) (st1 := []) (hp1 := (hz F (uA A 87 G376.2) L)) rfl ?_
            subst T
            have hb2 := i_up2 (B := ((A 68).getD 144 0)) hb (by first | decide | exact hB | assumption)
            have hb3 : y4.toInt ≤ ((A 68).getD 144 0).toInt := hb
            exact ih (show m = (((A 68).getD 144 0).toInt + 1 - (y4 + 1).toInt).toNat by rw [hb2]; omega) hh0 (fun q4 => cvE rfl (funext fun q => if k0 : q = 87 then by subst k0; exact Eq.trans (b := (km_wonOver_25 (F 67 3) (A 68) x1 m y3 (y4 + 1) G376.2).2) rfl rfl else by unfold uA; simp only [nb1 k0, cond_false]) rfl (K q4))
def km_wonOver (f67_3 : Int32) (a68 : List Int32) (a87 : List Int32) (x1 : Int32) (x2 : Int32) : Int32 × List Int32 := (if (km_isMeasure f67_3 x1) = 0 then ((-1), a87) else (if (km_in x2 0 1) = 0 then ((-1), a87) else (if x2 = 1 then ((km_wonOver_25 f67_3 a68 x1 ((a68.getD 144 0).toInt + 1).toNat (-2) 0 a87).1, (km_wonOver_25 f67_3 a68 x1 ((a68.getD 144 0).toInt + 1).toNat (-2) 0 a87).2) else (if (km_wonOver_25 f67_3 a68 x1 ((a68.getD 144 0).toInt + 1).toNat (-2) 0 a87).1 = (-2) then ((km_wonOver_25 f67_3 a68 x1 ((a68.getD 144 0).toInt + 1).toNat (-2) 0 a87).1, (km_wonOver_25 f67_3 a68 x1 ((a68.getD 144 0).toInt + 1).toNat (-2) 0 a87).2) else ((km_bits (km_wonOver_25 f67_3 a68 x1 ((a68.getD 144 0).toInt + 1).toNat (-2) 0 a87).1), (km_wonOver_25 f67_3 a68 x1 ((a68.getD 144 0).toInt + 1).toNat (-2) 0 a87).2)))))
theorem t_km_wonOver {f D : Nat} {F : Nat → Nat → Int32} {A : Nat → List Int32} {L : Nat → List Int64} {Q : Option Value → sm_H → Prop} {x1 : Int32} {x2 : Int32} (hh0 : ((A 68).getD 144 0).toInt < 2147483647) (K : Q (some (.int ((km_wonOver (F 67 3) (A 68) (A 87) x1 x2).1))) (hz F (uA A 87 ((km_wonOver (F 67 3) (A 68) (A 87) x1 x2).2)) L)) : wl_M f D 232 [.ref 67, .int x1, .int x2] (hz F A L) Q := by
  generalize hT : (km_wonOver (F 67 3) (A 68) (A 87) x1 x2) = T at K
  have hE : T = (if (km_isMeasure (F 67 3) x1) = 0 then ((-1), (A 87)) else (if (km_in x2 0 1) = 0 then ((-1), (A 87)) else (if x2 = 1 then ((km_wonOver_25 (F 67 3) (A 68) x1 (((A 68).getD 144 0).toInt + 1).toNat (-2) 0 (A 87)).1, (km_wonOver_25 (F 67 3) (A 68) x1 (((A 68).getD 144 0).toInt + 1).toNat (-2) 0 (A 87)).2) else (if (km_wonOver_25 (F 67 3) (A 68) x1 (((A 68).getD 144 0).toInt + 1).toNat (-2) 0 (A 87)).1 = (-2) then ((km_wonOver_25 (F 67 3) (A 68) x1 (((A 68).getD 144 0).toInt + 1).toNat (-2) 0 (A 87)).1, (km_wonOver_25 (F 67 3) (A 68) x1 (((A 68).getD 144 0).toInt + 1).toNat (-2) 0 (A 87)).2) else ((km_bits (km_wonOver_25 (F 67 3) (A 68) x1 (((A 68).getD 144 0).toInt + 1).toNat (-2) 0 (A 87)).1), (km_wonOver_25 (F 67 3) (A 68) x1 (((A 68).getD 144 0).toInt + 1).toNat (-2) 0 (A 87)).2))))) := hT.symm
  clear hT
  refine w_m (E := mm232) rfl ?_
  show wl_E f f (D - 1) mm232.2.2.2.2.2.2.2.2 0 [some (.ref 67), some (.int x1), some (.int x2), none, none] [] (hz F A L) Q
  refine w_n 2 (pc1 := 2) (ls1 := [some (.ref 67), some (.int x1), some (.int x2), none, none]) (st1 := [.int x1, .ref 67]) (hp1 := (hz F A L)) rfl ?_
  refine w_c rfl rfl (t_km_isMeasure ?_)
  show wl_E f _ _ mm232.2.2.2.2.2.2.2.2 5 [some (.ref 67), some (.int x1), some (.int x2), none, none] [.int (km_isMeasure (F 67 3) x1)] (hz F A L) _
  generalize hG368 : (km_isMeasure (F 67 3) x1) = G368 at hE ⊢
  refine w_zeq (p3 := 8) rfl rfl (fun h => ?_) (fun h => ?_)
  · have h1 : G368 = 0 := h
    rw [if_pos h1] at hE
    refine w_n 1 (pc1 := 18) (ls1 := [some (.ref 67), some (.int x1), some (.int x2), none, none]) (st1 := [.int (-1)]) (hp1 := (hz F A L)) rfl ?_
    subst T
    exact w_ri rfl (cvQ rfl (funext fun q => if k0 : q = 87 then by subst k0; exact Eq.trans (b := (A 87)) rfl rfl else by unfold uA; simp only [nb1 k0, cond_false]) rfl K)
  · have h1 : ¬ G368 = 0 := h
    rw [if_neg h1] at hE
    refine w_n 3 (pc1 := 11) (ls1 := [some (.ref 67), some (.int x1), some (.int x2), none, none]) (st1 := [.int 1, .int 0, .int x2]) (hp1 := (hz F A L)) rfl ?_
    refine w_c rfl rfl (t_km_in ?_)
    show wl_E f _ _ mm232.2.2.2.2.2.2.2.2 14 [some (.ref 67), some (.int x1), some (.int x2), none, none] [.int (km_in x2 0 1)] (hz F A L) _
    generalize hG369 : (km_in x2 0 1) = G369 at hE ⊢
    refine w_zne (p3 := 17) rfl rfl (fun h => ?_) (fun h => ?_)
    · have h2 : ¬ G369 = 0 := h
      rw [if_neg h2] at hE
      refine w_n 4 (pc1 := 25) (ls1 := [some (.ref 67), some (.int x1), some (.int x2), some (.int (-2)), some (.int 0)]) (st1 := []) (hp1 := (hz F A L)) rfl ?_
      refine t_km_wonOver_25 ((((A 68).getD 144 0).toInt + 1).toNat) (show (((A 68).getD 144 0).toInt + 1).toNat = (((A 68).getD 144 0).toInt + 1 - (0 : Int32).toInt).toNat by have e0 : (0 : Int32).toInt = 0 := rfl; first | rfl | omega) hh0 ?_
      intro r1
      show wl_E f _ _ mm232.2.2.2.2.2.2.2.2 94 [some (.ref 67), some (.int x1), some (.int x2), some (.int (km_wonOver_25 (F 67 3) (A 68) x1 (((A 68).getD 144 0).toInt + 1).toNat (-2) 0 (A 87)).1), some (.int r1)] [] (hz F (uA A 87 (km_wonOver_25 (F 67 3) (A 68) x1 (((A 68).getD 144 0).toInt + 1).toNat (-2) 0 (A 87)).2) L) _
      generalize hG377 : (km_wonOver_25 (F 67 3) (A 68) x1 (((A 68).getD 144 0).toInt + 1).toNat (-2) 0 (A 87)) = G377 at hE ⊢
      refine w_n 2 (pc1 := 96) (ls1 := [some (.ref 67), some (.int x1), some (.int x2), some (.int G377.1), some (.int r1)]) (st1 := [.int 1, .int x2]) (hp1 := (hz F (uA A 87 G377.2) L)) rfl ?_
      refine w_eq (p3 := 99) rfl rfl (fun h => ?_) (fun h => ?_)
      · have h3 : x2 = 1 := h
        rw [if_pos h3] at hE
        refine w_n 2 (pc1 := 113) (ls1 := [some (.ref 67), some (.int x1), some (.int x2), some (.int G377.1), some (.int r1)]) (st1 := [.int G377.1]) (hp1 := (hz F (uA A 87 G377.2) L)) rfl ?_
        subst T
        exact w_ri rfl (cvQ rfl rfl rfl K)
      · have h3 : ¬ x2 = 1 := h
        rw [if_neg h3] at hE
        refine w_n 2 (pc1 := 102) (ls1 := [some (.ref 67), some (.int x1), some (.int x2), some (.int G377.1), some (.int r1)]) (st1 := [.int (-2), .int G377.1]) (hp1 := (hz F (uA A 87 G377.2) L)) rfl ?_
        refine w_ne (p3 := 105) rfl rfl (fun h => ?_) (fun h => ?_)
        · have h4 : ¬ G377.1 = (-2) := h
          rw [if_neg h4] at hE
          refine w_n 1 (pc1 := 110) (ls1 := [some (.ref 67), some (.int x1), some (.int x2), some (.int G377.1), some (.int r1)]) (st1 := [.int G377.1]) (hp1 := (hz F (uA A 87 G377.2) L)) rfl ?_
          refine w_c rfl rfl (t_km_bits ?_)
          show wl_E f _ _ mm232.2.2.2.2.2.2.2.2 113 [some (.ref 67), some (.int x1), some (.int x2), some (.int G377.1), some (.int r1)] [.int (km_bits G377.1)] (hz F (uA A 87 G377.2) L) _
          generalize hG378 : (km_bits G377.1) = G378 at hE ⊢
          subst T
          exact w_ri rfl (cvQ rfl rfl rfl K)
        · have h4 : G377.1 = (-2) := h
          rw [if_pos h4] at hE
          refine w_n 2 (pc1 := 113) (ls1 := [some (.ref 67), some (.int x1), some (.int x2), some (.int G377.1), some (.int r1)]) (st1 := [.int G377.1]) (hp1 := (hz F (uA A 87 G377.2) L)) rfl ?_
          subst T
          exact w_ri rfl (cvQ rfl rfl rfl K)
    · have h2 : G369 = 0 := h
      rw [if_pos h2] at hE
      refine w_n 1 (pc1 := 18) (ls1 := [some (.ref 67), some (.int x1), some (.int x2), none, none]) (st1 := [.int (-1)]) (hp1 := (hz F A L)) rfl ?_
      subst T
      exact w_ri rfl (cvQ rfl (funext fun q => if k0 : q = 87 then by subst k0; exact Eq.trans (b := (A 87)) rfl rfl else by unfold uA; simp only [nb1 k0, cond_false]) rfl K)
def kv_countLies_29 (f3_0 : Int32) (f3_1 : Int32) (a6 : List Int32) (l11 : List Int64) (x1 : Int32) : Nat → Int32 → List Int32 → List Int32
  | 0, _, a35 => a35
  | m + 1, y3, a35 => (kv_countLies_29 f3_0 f3_1 a6 l11 x1 m (y3 + 1) (kv_tallyFirsts f3_0 f3_1 a6 a35 l11 y3 x1))
theorem t_kv_countLies_29 {f : Nat} {Q : Option Value → sm_H → Prop} : ∀ (m : Nat) {B D : Nat} {F : Nat → Nat → Int32} {A : Nat → List Int32} {L : Nat → List Int64} {x1 : Int32} {x2 : Int32} {y3 : Int32} {o4 : Option Value}, m = ((kt_allMeasures (F 3 0)).toInt + 1 - y3.toInt).toNat → (_ : (kt_allMeasures (F 3 0)).toInt < 2147483647) → (∀ q3 : Int32, wl_E f B D mm115.2.2.2.2.2.2.2.2 52 [some (.ref 30), some (.int x1), some (.int x2), some (.int q3), o4] [] (hz F (uA A 35 (kv_countLies_29 (F 3 0) (F 3 1) (A 6) (L 11) x1 m y3 (A 35))) L) Q) → wl_E f B D mm115.2.2.2.2.2.2.2.2 29 [some (.ref 30), some (.int x1), some (.int x2), some (.int y3), o4] [] (hz F A L) Q := by
  intro m
  induction m with
  | zero =>
    intro B D F A L x1 x2 y3 o4 hm hh0 K
    generalize hT : (kv_countLies_29 (F 3 0) (F 3 1) (A 6) (L 11) x1 0 y3 (A 35)) = T at K
    have hE : T = (A 35) := hT.symm
    clear hT
    refine w_n 3 (pc1 := 34) (ls1 := [some (.ref 30), some (.int x1), some (.int x2), some (.int y3), o4]) (st1 := [.ref 3, .int y3]) (hp1 := (hz F A L)) rfl ?_
    refine w_c rfl rfl (t_kt_allMeasures ?_)
    show wl_E f _ _ mm115.2.2.2.2.2.2.2.2 37 [some (.ref 30), some (.int x1), some (.int x2), some (.int y3), o4] [.int (kt_allMeasures (F 3 0)), .int y3] (hz F A L) _
    refine w_gt (p3 := 40) rfl rfl (fun hb => ?_) (fun h => False.elim (by have h : y3.toInt ≤ (kt_allMeasures (F 3 0)).toInt := h; omega))
    subst T
    exact cvE rfl (funext fun q => if k0 : q = 35 then by subst k0; exact Eq.trans (b := (A 35)) rfl rfl else by unfold uA; simp only [nb1 k0, cond_false]) rfl (K _)
  | succ m ih =>
    intro B D F A L x1 x2 y3 o4 hm hh0 K
    generalize hT : (kv_countLies_29 (F 3 0) (F 3 1) (A 6) (L 11) x1 (m + 1) y3 (A 35)) = T at K
    have hE : T = (kv_countLies_29 (F 3 0) (F 3 1) (A 6) (L 11) x1 m (y3 + 1) (kv_tallyFirsts (F 3 0) (F 3 1) (A 6) (A 35) (L 11) y3 x1)) := hT.symm
    clear hT
    refine w_n 3 (pc1 := 34) (ls1 := [some (.ref 30), some (.int x1), some (.int x2), some (.int y3), o4]) (st1 := [.ref 3, .int y3]) (hp1 := (hz F A L)) rfl ?_
    refine w_c rfl rfl (t_kt_allMeasures ?_)
    show wl_E f _ _ mm115.2.2.2.2.2.2.2.2 37 [some (.ref 30), some (.int x1), some (.int x2), some (.int y3), o4] [.int (kt_allMeasures (F 3 0)), .int y3] (hz F A L) _
    refine w_gt (p3 := 40) rfl rfl (fun h => False.elim (by have h : (kt_allMeasures (F 3 0)).toInt < y3.toInt := h; omega)) (fun hb => ?_)
    refine w_n 3 (pc1 := 43) (ls1 := [some (.ref 30), some (.int x1), some (.int x2), some (.int y3), o4]) (st1 := [.int x1, .int y3, .ref 30]) (hp1 := (hz F A L)) rfl ?_
    refine w_c rfl rfl (t_kv_tallyFirsts ?_)
    show wl_E f _ _ mm115.2.2.2.2.2.2.2.2 46 [some (.ref 30), some (.int x1), some (.int x2), some (.int y3), o4] [] (hz F (uA A 35 (kv_tallyFirsts (F 3 0) (F 3 1) (A 6) (A 35) (L 11) y3 x1)) L) _
    generalize hG382 : (kv_tallyFirsts (F 3 0) (F 3 1) (A 6) (A 35) (L 11) y3 x1) = G382 at hE ⊢
    refine w_n 2 (pc1 := 29) (ls1 := [some (.ref 30), some (.int x1), some (.int x2), some (.int (y3 + 1)), o4]) (st1 := []) (hp1 := (hz F (uA A 35 G382) L)) rfl ?_
    subst T
    have hb2 := i_up2 (B := (kt_allMeasures (F 3 0))) hb (by first | decide | exact hB | assumption)
    have hb3 : y3.toInt ≤ (kt_allMeasures (F 3 0)).toInt := hb
    exact ih (show m = ((kt_allMeasures (F 3 0)).toInt + 1 - (y3 + 1).toInt).toNat by rw [hb2]; omega) hh0 (fun q3 => cvE rfl (funext fun q => if k0 : q = 35 then by subst k0; exact Eq.trans (b := (kv_countLies_29 (F 3 0) (F 3 1) (A 6) (L 11) x1 m (y3 + 1) G382)) rfl rfl else by unfold uA; simp only [nb1 k0, cond_false]) rfl (K q3))
def kv_countLies_54   : Nat → Int32 → List Int32 → List Int32
  | 0, _, a38 => a38
  | m + 1, y3, a38 => (kv_countLies_54 m (y3 + 1) (a38.set y3.toInt.toNat y3))
theorem t_kv_countLies_54 {f : Nat} {Q : Option Value → sm_H → Prop} : ∀ (m : Nat) {B D : Nat} {F : Nat → Nat → Int32} {A : Nat → List Int32} {L : Nat → List Int64} {x1 : Int32} {x2 : Int32} {y3 : Int32} {o4 : Option Value}, m = (6 - y3.toInt).toNat → (∀ q3 : Int32, wl_E f B D mm115.2.2.2.2.2.2.2.2 73 [some (.ref 30), some (.int x1), some (.int x2), some (.int q3), o4] [] (hz F (uA A 38 (kv_countLies_54 m y3 (A 38))) L) Q) → wl_E f B D mm115.2.2.2.2.2.2.2.2 54 [some (.ref 30), some (.int x1), some (.int x2), some (.int y3), o4] [] (hz F A L) Q := by
  intro m
  induction m with
  | zero =>
    intro B D F A L x1 x2 y3 o4 hm K
    generalize hT : (kv_countLies_54 0 y3 (A 38)) = T at K
    have hE : T = (A 38) := hT.symm
    clear hT
    refine w_n 2 (pc1 := 57) (ls1 := [some (.ref 30), some (.int x1), some (.int x2), some (.int y3), o4]) (st1 := [.int 6, .int y3]) (hp1 := (hz F A L)) rfl ?_
    refine w_ge (p3 := 60) rfl rfl (fun hb => ?_) (fun h => False.elim (by have h : y3.toInt < 6 := h; omega))
    subst T
    exact cvE rfl (funext fun q => if k0 : q = 38 then by subst k0; exact Eq.trans (b := (A 38)) rfl rfl else by unfold uA; simp only [nb1 k0, cond_false]) rfl (K _)
  | succ m ih =>
    intro B D F A L x1 x2 y3 o4 hm K
    generalize hT : (kv_countLies_54 (m + 1) y3 (A 38)) = T at K
    have hE : T = (kv_countLies_54 m (y3 + 1) ((A 38).set y3.toInt.toNat y3)) := hT.symm
    clear hT
    refine w_n 2 (pc1 := 57) (ls1 := [some (.ref 30), some (.int x1), some (.int x2), some (.int y3), o4]) (st1 := [.int 6, .int y3]) (hp1 := (hz F A L)) rfl ?_
    refine w_ge (p3 := 60) rfl rfl (fun h => False.elim (by have h : 6 ≤ y3.toInt := h; omega)) (fun hb => ?_)
    refine w_n 4 (pc1 := 66) (ls1 := [some (.ref 30), some (.int x1), some (.int x2), some (.int y3), o4]) (st1 := [.int y3, .int y3, .ref 38]) (hp1 := (hz F A L)) rfl ?_
    refine w_as (k := 38) (l := (A 38)) (hp1 := (hz F (uA A 38 ((A 38).set y3.toInt.toNat y3)) L)) rfl rfl rfl (hz_s38 _) (fun ab => ?_)
    refine w_n 2 (pc1 := 54) (ls1 := [some (.ref 30), some (.int x1), some (.int x2), some (.int (y3 + 1)), o4]) (st1 := []) (hp1 := (hz F (uA A 38 ((A 38).set y3.toInt.toNat y3)) L)) rfl ?_
    subst T
    have hb2 := i_up (B := (6 : Int32)) hb
    have hb3 : y3.toInt < 6 := hb
    exact ih (show m = (6 - (y3 + 1).toInt).toNat by rw [hb2]; omega) (fun q3 => cvE rfl (funext fun q => if k0 : q = 38 then by subst k0; exact Eq.trans (b := (kv_countLies_54 m (y3 + 1) ((A 38).set y3.toInt.toNat y3))) rfl rfl else by unfold uA; simp only [nb1 k0, cond_false]) rfl (K q3))
def kv_firstInRow_2 (a38 : List Int32) (x1 : Int32) : Nat → Int32 → Int32
  | 0, _ => (-1)
  | m + 1, y2 => (if ((x1 >>> ((a38.getD y2.toInt.toNat 0) &&& 31)) &&& 1) = 0 then (kv_firstInRow_2 a38 x1 m (y2 + 1)) else (a38.getD y2.toInt.toNat 0))
theorem t_kv_firstInRow_2 {f : Nat} {Q : Option Value → sm_H → Prop} : ∀ (m : Nat) {B D : Nat} {F : Nat → Nat → Int32} {A : Nat → List Int32} {L : Nat → List Int64} {x1 : Int32} {y2 : Int32}, m = ((F 3 0).toInt - y2.toInt).toNat → (Q (some (.int (kv_firstInRow_2 (A 38) x1 m y2))) (hz F A L)) → wl_E f B D mm117.2.2.2.2.2.2.2.2 2 [some (.ref 30), some (.int x1), some (.int y2)] [] (hz F A L) Q := by
  intro m
  induction m with
  | zero =>
    intro B D F A L x1 y2 hm K
    generalize hT : (kv_firstInRow_2 (A 38) x1 0 y2) = T at K
    have hE : T = (-1) := hT.symm
    clear hT
    refine w_n 4 (pc1 := 10) (ls1 := [some (.ref 30), some (.int x1), some (.int y2)]) (st1 := [.int (F 3 0), .int y2]) (hp1 := (hz F A L)) rfl ?_
    refine w_ge (p3 := 13) rfl rfl (fun hb => ?_) (fun h => False.elim (by have h : y2.toInt < (F 3 0).toInt := h; omega))
    refine w_n 1 (pc1 := 40) (ls1 := [some (.ref 30), some (.int x1), some (.int y2)]) (st1 := [.int (-1)]) (hp1 := (hz F A L)) rfl ?_
    subst T
    exact w_ri rfl (cvQ rfl rfl rfl K)
  | succ m ih =>
    intro B D F A L x1 y2 hm K
    generalize hT : (kv_firstInRow_2 (A 38) x1 (m + 1) y2) = T at K
    have hE : T = (if ((x1 >>> (((A 38).getD y2.toInt.toNat 0) &&& 31)) &&& 1) = 0 then (kv_firstInRow_2 (A 38) x1 m (y2 + 1)) else ((A 38).getD y2.toInt.toNat 0)) := hT.symm
    clear hT
    refine w_n 4 (pc1 := 10) (ls1 := [some (.ref 30), some (.int x1), some (.int y2)]) (st1 := [.int (F 3 0), .int y2]) (hp1 := (hz F A L)) rfl ?_
    refine w_ge (p3 := 13) rfl rfl (fun h => False.elim (by have h : (F 3 0).toInt ≤ y2.toInt := h; omega)) (fun hb => ?_)
    refine w_n 4 (pc1 := 19) (ls1 := [some (.ref 30), some (.int x1), some (.int y2)]) (st1 := [.int y2, .ref 38, .int x1]) (hp1 := (hz F A L)) rfl ?_
    refine w_al (k := 38) (l := (A 38)) rfl rfl rfl (fun ab => ?_)
    refine w_n 3 (pc1 := 23) (ls1 := [some (.ref 30), some (.int x1), some (.int y2)]) (st1 := [.int ((x1 >>> (((A 38).getD y2.toInt.toNat 0) &&& 31)) &&& 1)]) (hp1 := (hz F A L)) rfl ?_
    refine w_zeq (p3 := 26) rfl rfl (fun h => ?_) (fun h => ?_)
    · have h1 : ((x1 >>> (((A 38).getD y2.toInt.toNat 0) &&& 31)) &&& 1) = 0 := h
      rw [if_pos h1] at hE
      refine w_n 2 (pc1 := 2) (ls1 := [some (.ref 30), some (.int x1), some (.int (y2 + 1))]) (st1 := []) (hp1 := (hz F A L)) rfl ?_
      subst T
      have hb2 := i_up (B := (F 3 0)) hb
      have hb3 : y2.toInt < (F 3 0).toInt := hb
      exact ih (show m = ((F 3 0).toInt - (y2 + 1).toInt).toNat by rw [hb2]; omega) (cvQ rfl rfl rfl K)
    · have h1 : ¬ ((x1 >>> (((A 38).getD y2.toInt.toNat 0) &&& 31)) &&& 1) = 0 := h
      rw [if_neg h1] at hE
      refine w_n 3 (pc1 := 31) (ls1 := [some (.ref 30), some (.int x1), some (.int y2)]) (st1 := [.int y2, .ref 38]) (hp1 := (hz F A L)) rfl ?_
      refine w_al (k := 38) (l := (A 38)) rfl rfl rfl (fun ab => ?_)
      subst T
      exact w_ri rfl (cvQ rfl rfl rfl K)
def kv_firstInRow (f3_0 : Int32) (a38 : List Int32) (x1 : Int32) : Int32 := (kv_firstInRow_2 a38 x1 f3_0.toInt.toNat 0)
theorem t_kv_firstInRow {f D : Nat} {F : Nat → Nat → Int32} {A : Nat → List Int32} {L : Nat → List Int64} {Q : Option Value → sm_H → Prop} {x1 : Int32} (K : Q (some (.int (kv_firstInRow (F 3 0) (A 38) x1))) (hz F A L)) : wl_M f D 117 [.ref 30, .int x1] (hz F A L) Q := by
  generalize hT : (kv_firstInRow (F 3 0) (A 38) x1) = T at K
  have hE : T = (kv_firstInRow_2 (A 38) x1 (F 3 0).toInt.toNat 0) := hT.symm
  clear hT
  refine w_m (E := mm117) rfl ?_
  show wl_E f f (D - 1) mm117.2.2.2.2.2.2.2.2 0 [some (.ref 30), some (.int x1), none] [] (hz F A L) Q
  refine w_n 2 (pc1 := 2) (ls1 := [some (.ref 30), some (.int x1), some (.int 0)]) (st1 := []) (hp1 := (hz F A L)) rfl ?_
  subst T
  exact t_kv_firstInRow_2 _ (show (F 3 0).toInt.toNat = ((F 3 0).toInt - (0 : Int32).toInt).toNat by have e0 : (0 : Int32).toInt = 0 := rfl; first | rfl | omega) (cvQ rfl rfl rfl K)
def kv_lastLeft_13 (f3_0 : Int32) (a35 : List Int32) (a38 : List Int32) (x1 : Int32) : Nat → Int32 → Int32 → Int32 → Int32
  | 0, _, y3, _ => y3
  | m + 1, y2, _, y4 => (kv_lastLeft_13 f3_0 a35 a38 x1 m (y2 &&& (((1 : Int32) <<< ((kv_goesOut f3_0 a35 y2 (kv_firstInRow f3_0 a38 y2) x1) &&& 31)) ^^^ (-1))) (kv_goesOut f3_0 a35 y2 (kv_firstInRow f3_0 a38 y2) x1) (y4 + 1))
theorem t_kv_lastLeft_13 {f : Nat} {Q : Option Value → sm_H → Prop} : ∀ (m : Nat) {B D : Nat} {F : Nat → Nat → Int32} {A : Nat → List Int32} {L : Nat → List Int64} {x1 : Int32} {y2 : Int32} {y3 : Int32} {y4 : Int32}, m = ((F 3 0).toInt - y4.toInt).toNat → (∀ q2 : Int32, ∀ q4 : Int32, wl_E f B D mm116.2.2.2.2.2.2.2.2 51 [some (.ref 30), some (.int x1), some (.int q2), some (.int (kv_lastLeft_13 (F 3 0) (A 35) (A 38) x1 m y2 y3 y4)), some (.int q4)] [] (hz F A L) Q) → wl_E f B D mm116.2.2.2.2.2.2.2.2 13 [some (.ref 30), some (.int x1), some (.int y2), some (.int y3), some (.int y4)] [] (hz F A L) Q := by
  intro m
  induction m with
  | zero =>
    intro B D F A L x1 y2 y3 y4 hm K
    generalize hT : (kv_lastLeft_13 (F 3 0) (A 35) (A 38) x1 0 y2 y3 y4) = T at K
    have hE : T = y3 := hT.symm
    clear hT
    refine w_n 4 (pc1 := 22) (ls1 := [some (.ref 30), some (.int x1), some (.int y2), some (.int y3), some (.int y4)]) (st1 := [.int (F 3 0), .int y4]) (hp1 := (hz F A L)) rfl ?_
    refine w_ge (p3 := 25) rfl rfl (fun hb => ?_) (fun h => False.elim (by have h : y4.toInt < (F 3 0).toInt := h; omega))
    subst T
    exact cvE rfl rfl rfl (K _ _)
  | succ m ih =>
    intro B D F A L x1 y2 y3 y4 hm K
    generalize hT : (kv_lastLeft_13 (F 3 0) (A 35) (A 38) x1 (m + 1) y2 y3 y4) = T at K
    have hE : T = (kv_lastLeft_13 (F 3 0) (A 35) (A 38) x1 m (y2 &&& (((1 : Int32) <<< ((kv_goesOut (F 3 0) (A 35) y2 (kv_firstInRow (F 3 0) (A 38) y2) x1) &&& 31)) ^^^ (-1))) (kv_goesOut (F 3 0) (A 35) y2 (kv_firstInRow (F 3 0) (A 38) y2) x1) (y4 + 1)) := hT.symm
    clear hT
    refine w_n 4 (pc1 := 22) (ls1 := [some (.ref 30), some (.int x1), some (.int y2), some (.int y3), some (.int y4)]) (st1 := [.int (F 3 0), .int y4]) (hp1 := (hz F A L)) rfl ?_
    refine w_ge (p3 := 25) rfl rfl (fun h => False.elim (by have h : (F 3 0).toInt ≤ y4.toInt := h; omega)) (fun hb => ?_)
    refine w_n 4 (pc1 := 29) (ls1 := [some (.ref 30), some (.int x1), some (.int y2), some (.int y3), some (.int y4)]) (st1 := [.int y2, .ref 30, .int y2, .ref 30]) (hp1 := (hz F A L)) rfl ?_
    refine w_c rfl rfl (t_kv_firstInRow ?_)
    show wl_E f _ _ mm116.2.2.2.2.2.2.2.2 32 [some (.ref 30), some (.int x1), some (.int y2), some (.int y3), some (.int y4)] [.int (kv_firstInRow (F 3 0) (A 38) y2), .int y2, .ref 30] (hz F A L) _
    generalize hG386 : (kv_firstInRow (F 3 0) (A 38) y2) = G386 at hE ⊢
    refine w_n 1 (pc1 := 33) (ls1 := [some (.ref 30), some (.int x1), some (.int y2), some (.int y3), some (.int y4)]) (st1 := [.int x1, .int G386, .int y2, .ref 30]) (hp1 := (hz F A L)) rfl ?_
    refine w_c rfl rfl (t_kv_goesOut ?_)
    show wl_E f _ _ mm116.2.2.2.2.2.2.2.2 36 [some (.ref 30), some (.int x1), some (.int y2), some (.int y3), some (.int y4)] [.int (kv_goesOut (F 3 0) (A 35) y2 G386 x1)] (hz F A L) _
    generalize hG387 : (kv_goesOut (F 3 0) (A 35) y2 G386 x1) = G387 at hE ⊢
    refine w_n 11 (pc1 := 13) (ls1 := [some (.ref 30), some (.int x1), some (.int (y2 &&& (((1 : Int32) <<< (G387 &&& 31)) ^^^ (-1)))), some (.int G387), some (.int (y4 + 1))]) (st1 := []) (hp1 := (hz F A L)) rfl ?_
    subst T
    have hb2 := i_up (B := (F 3 0)) hb
    have hb3 : y4.toInt < (F 3 0).toInt := hb
    exact ih (show m = ((F 3 0).toInt - (y4 + 1).toInt).toNat by rw [hb2]; omega) (fun q2 q4 => cvE rfl rfl rfl (K q2 q4))
def kv_lastLeft (f3_0 : Int32) (a35 : List Int32) (a38 : List Int32) (x1 : Int32) : Int32 := (kv_lastLeft_13 f3_0 a35 a38 x1 f3_0.toInt.toNat (kt_allMeasures f3_0) 0 0)
theorem t_kv_lastLeft {f D : Nat} {F : Nat → Nat → Int32} {A : Nat → List Int32} {L : Nat → List Int64} {Q : Option Value → sm_H → Prop} {x1 : Int32} (K : Q (some (.int (kv_lastLeft (F 3 0) (A 35) (A 38) x1))) (hz F A L)) : wl_M f D 116 [.ref 30, .int x1] (hz F A L) Q := by
  generalize hT : (kv_lastLeft (F 3 0) (A 35) (A 38) x1) = T at K
  have hE : T = (kv_lastLeft_13 (F 3 0) (A 35) (A 38) x1 (F 3 0).toInt.toNat (kt_allMeasures (F 3 0)) 0 0) := hT.symm
  clear hT
  refine w_m (E := mm116) rfl ?_
  show wl_E f f (D - 1) mm116.2.2.2.2.2.2.2.2 0 [some (.ref 30), some (.int x1), none, none, none] [] (hz F A L) Q
  refine w_n 2 (pc1 := 4) (ls1 := [some (.ref 30), some (.int x1), none, none, none]) (st1 := [.ref 3]) (hp1 := (hz F A L)) rfl ?_
  refine w_c rfl rfl (t_kt_allMeasures ?_)
  show wl_E f _ _ mm116.2.2.2.2.2.2.2.2 7 [some (.ref 30), some (.int x1), none, none, none] [.int (kt_allMeasures (F 3 0))] (hz F A L) _
  generalize hG385 : (kt_allMeasures (F 3 0)) = G385 at hE ⊢
  refine w_n 5 (pc1 := 13) (ls1 := [some (.ref 30), some (.int x1), some (.int G385), some (.int 0), some (.int 0)]) (st1 := []) (hp1 := (hz F A L)) rfl ?_
  refine t_kv_lastLeft_13 (F 3 0).toInt.toNat (show (F 3 0).toInt.toNat = ((F 3 0).toInt - (0 : Int32).toInt).toNat by have e0 : (0 : Int32).toInt = 0 := rfl; first | rfl | omega) ?_
  intro r1 r2
  show wl_E f _ _ mm116.2.2.2.2.2.2.2.2 51 [some (.ref 30), some (.int x1), some (.int r1), some (.int (kv_lastLeft_13 (F 3 0) (A 35) (A 38) x1 (F 3 0).toInt.toNat G385 0 0)), some (.int r2)] [] (hz F A L) _
  generalize hG388 : (kv_lastLeft_13 (F 3 0) (A 35) (A 38) x1 (F 3 0).toInt.toNat G385 0 0) = G388 at hE ⊢
  refine w_n 1 (pc1 := 52) (ls1 := [some (.ref 30), some (.int x1), some (.int r1), some (.int G388), some (.int r2)]) (st1 := [.int G388]) (hp1 := (hz F A L)) rfl ?_
  subst T
  exact w_ri rfl (cvQ rfl rfl rfl K)
def kv_nextRow_14 (a38 : List Int32)  : Nat → Int32 → Int32
  | 0, y2 => y2
  | m + 1, y2 => (if (a38.getD (y2 + 1).toInt.toNat 0).toInt < (a38.getD y2.toInt.toNat 0).toInt then (kv_nextRow_14 a38 m (y2 + (-1))) else y2)
theorem t_kv_nextRow_14 {f : Nat} {Q : Option Value → sm_H → Prop} : ∀ (m : Nat) {B D : Nat} {F : Nat → Nat → Int32} {A : Nat → List Int32} {L : Nat → List Int64} {x1 : Int32} {y2 : Int32} {o3 : Option Value} {o4 : Option Value} {o5 : Option Value}, m = (y2.toInt + 1 - 0).toNat → (wl_E f B D mm118.2.2.2.2.2.2.2.2 41 [some (.ref 30), some (.int x1), some (.int (kv_nextRow_14 (A 38) m y2)), o3, o4, o5] [] (hz F A L) Q) → wl_E f B D mm118.2.2.2.2.2.2.2.2 14 [some (.ref 30), some (.int x1), some (.int y2), o3, o4, o5] [] (hz F A L) Q := by
  intro m
  induction m with
  | zero =>
    intro B D F A L x1 y2 o3 o4 o5 hm K
    generalize hT : (kv_nextRow_14 (A 38) 0 y2) = T at K
    have hE : T = y2 := hT.symm
    clear hT
    refine w_n 1 (pc1 := 15) (ls1 := [some (.ref 30), some (.int x1), some (.int y2), o3, o4, o5]) (st1 := [.int y2]) (hp1 := (hz F A L)) rfl ?_
    refine w_zlt (p3 := 18) rfl rfl (fun hb => ?_) (fun h => False.elim (by have h : 0 ≤ y2.toInt := h; omega))
    subst T
    exact cvE rfl rfl rfl (K)
  | succ m ih =>
    intro B D F A L x1 y2 o3 o4 o5 hm K
    generalize hT : (kv_nextRow_14 (A 38) (m + 1) y2) = T at K
    have hE : T = (if ((A 38).getD (y2 + 1).toInt.toNat 0).toInt < ((A 38).getD y2.toInt.toNat 0).toInt then (kv_nextRow_14 (A 38) m (y2 + (-1))) else y2) := hT.symm
    clear hT
    refine w_n 1 (pc1 := 15) (ls1 := [some (.ref 30), some (.int x1), some (.int y2), o3, o4, o5]) (st1 := [.int y2]) (hp1 := (hz F A L)) rfl ?_
    refine w_zlt (p3 := 18) rfl rfl (fun h => False.elim (by have h : y2.toInt < 0 := h; omega)) (fun hb => ?_)
    refine w_n 3 (pc1 := 23) (ls1 := [some (.ref 30), some (.int x1), some (.int y2), o3, o4, o5]) (st1 := [.int y2, .ref 38]) (hp1 := (hz F A L)) rfl ?_
    refine w_al (k := 38) (l := (A 38)) rfl rfl rfl (fun ab => ?_)
    refine w_n 5 (pc1 := 31) (ls1 := [some (.ref 30), some (.int x1), some (.int y2), o3, o4, o5]) (st1 := [.int (y2 + 1), .ref 38, .int ((A 38).getD y2.toInt.toNat 0)]) (hp1 := (hz F A L)) rfl ?_
    refine w_al (k := 38) (l := (A 38)) rfl rfl rfl (fun _ => ?_)
    refine w_le (p3 := 35) rfl rfl (fun h => ?_) (fun h => ?_)
    · have h1 : ((A 38).getD y2.toInt.toNat 0).toInt ≤ ((A 38).getD (y2 + 1).toInt.toNat 0).toInt := h
      rw [if_neg (Int.not_lt.mpr h1)] at hE
      subst T
      exact cvE rfl rfl rfl (K)
    · have h1 : ((A 38).getD (y2 + 1).toInt.toNat 0).toInt < ((A 38).getD y2.toInt.toNat 0).toInt := h
      rw [if_pos h1] at hE
      refine w_n 2 (pc1 := 14) (ls1 := [some (.ref 30), some (.int x1), some (.int (y2 + (-1))), o3, o4, o5]) (st1 := []) (hp1 := (hz F A L)) rfl ?_
      subst T
      have hb2 := i_dn32 (B := (0 : Int32)) hb (by first | decide | exact hB | assumption)
      have hb3 : 0 ≤ y2.toInt := hb
      exact ih (show m = ((y2 + (-1)).toInt + 1 - 0).toNat by rw [hb2]; omega) (cvE rfl rfl rfl (K))
def kv_nextRow_49 (a38 : List Int32) (x2 : Int32) : Nat → Int32 → Int32
  | 0, y3 => y3
  | m + 1, y3 => (if (a38.getD y3.toInt.toNat 0).toInt < (a38.getD x2.toInt.toNat 0).toInt then (kv_nextRow_49 a38 x2 m (y3 + (-1))) else y3)
theorem t_kv_nextRow_49 {f : Nat} {Q : Option Value → sm_H → Prop} : ∀ (m : Nat) {B D : Nat} {F : Nat → Nat → Int32} {A : Nat → List Int32} {L : Nat → List Int64} {x1 : Int32} {x2 : Int32} {y3 : Int32} {o4 : Option Value} {o5 : Option Value}, m = (y3.toInt - x2.toInt).toNat → (wl_E f B D mm118.2.2.2.2.2.2.2.2 75 [some (.ref 30), some (.int x1), some (.int x2), some (.int (kv_nextRow_49 (A 38) x2 m y3)), o4, o5] [] (hz F A L) Q) → wl_E f B D mm118.2.2.2.2.2.2.2.2 49 [some (.ref 30), some (.int x1), some (.int x2), some (.int y3), o4, o5] [] (hz F A L) Q := by
  intro m
  induction m with
  | zero =>
    intro B D F A L x1 x2 y3 o4 o5 hm K
    generalize hT : (kv_nextRow_49 (A 38) x2 0 y3) = T at K
    have hE : T = y3 := hT.symm
    clear hT
    refine w_n 2 (pc1 := 51) (ls1 := [some (.ref 30), some (.int x1), some (.int x2), some (.int y3), o4, o5]) (st1 := [.int x2, .int y3]) (hp1 := (hz F A L)) rfl ?_
    refine w_le (p3 := 54) rfl rfl (fun hb => ?_) (fun h => False.elim (by have h : x2.toInt < y3.toInt := h; omega))
    subst T
    exact cvE rfl rfl rfl (K)
  | succ m ih =>
    intro B D F A L x1 x2 y3 o4 o5 hm K
    generalize hT : (kv_nextRow_49 (A 38) x2 (m + 1) y3) = T at K
    have hE : T = (if ((A 38).getD y3.toInt.toNat 0).toInt < ((A 38).getD x2.toInt.toNat 0).toInt then (kv_nextRow_49 (A 38) x2 m (y3 + (-1))) else y3) := hT.symm
    clear hT
    refine w_n 2 (pc1 := 51) (ls1 := [some (.ref 30), some (.int x1), some (.int x2), some (.int y3), o4, o5]) (st1 := [.int x2, .int y3]) (hp1 := (hz F A L)) rfl ?_
    refine w_le (p3 := 54) rfl rfl (fun h => False.elim (by have h : y3.toInt ≤ x2.toInt := h; omega)) (fun hb => ?_)
    refine w_n 3 (pc1 := 59) (ls1 := [some (.ref 30), some (.int x1), some (.int x2), some (.int y3), o4, o5]) (st1 := [.int y3, .ref 38]) (hp1 := (hz F A L)) rfl ?_
    refine w_al (k := 38) (l := (A 38)) rfl rfl rfl (fun ab => ?_)
    refine w_n 3 (pc1 := 65) (ls1 := [some (.ref 30), some (.int x1), some (.int x2), some (.int y3), o4, o5]) (st1 := [.int x2, .ref 38, .int ((A 38).getD y3.toInt.toNat 0)]) (hp1 := (hz F A L)) rfl ?_
    refine w_al (k := 38) (l := (A 38)) rfl rfl rfl (fun _ => ?_)
    refine w_ge (p3 := 69) rfl rfl (fun h => ?_) (fun h => ?_)
    · have h1 : ((A 38).getD x2.toInt.toNat 0).toInt ≤ ((A 38).getD y3.toInt.toNat 0).toInt := h
      rw [if_neg (Int.not_lt.mpr h1)] at hE
      subst T
      exact cvE rfl rfl rfl (K)
    · have h1 : ((A 38).getD y3.toInt.toNat 0).toInt < ((A 38).getD x2.toInt.toNat 0).toInt := h
      rw [if_pos h1] at hE
      refine w_n 2 (pc1 := 49) (ls1 := [some (.ref 30), some (.int x1), some (.int x2), some (.int (y3 + (-1))), o4, o5]) (st1 := []) (hp1 := (hz F A L)) rfl ?_
      subst T
      have hb2 := i_dn2 (B := x2) hb
      have hb3 : x2.toInt < y3.toInt := hb
      exact ih (show m = ((y3 + (-1)).toInt - x2.toInt).toNat by rw [hb2]; omega) (cvE rfl rfl rfl (K))
def kv_swapInRow (a38 : List Int32) (x1 : Int32) (x2 : Int32) : List Int32 := ((a38.set x1.toInt.toNat (a38.getD x2.toInt.toNat 0)).set x2.toInt.toNat (a38.getD x1.toInt.toNat 0))
theorem t_kv_swapInRow {f D : Nat} {F : Nat → Nat → Int32} {A : Nat → List Int32} {L : Nat → List Int64} {Q : Option Value → sm_H → Prop} {x1 : Int32} {x2 : Int32} (K : Q none (hz F (uA A 38 (kv_swapInRow (A 38) x1 x2)) L)) : wl_M f D 119 [.ref 30, .int x1, .int x2] (hz F A L) Q := by
  generalize hT : (kv_swapInRow (A 38) x1 x2) = T at K
  have hE : T = (((A 38).set x1.toInt.toNat ((A 38).getD x2.toInt.toNat 0)).set x2.toInt.toNat ((A 38).getD x1.toInt.toNat 0)) := hT.symm
  clear hT
  refine w_m (E := mm119) rfl ?_
  show wl_E f f (D - 1) mm119.2.2.2.2.2.2.2.2 0 [some (.ref 30), some (.int x1), some (.int x2), none] [] (hz F A L) Q
  refine w_n 3 (pc1 := 5) (ls1 := [some (.ref 30), some (.int x1), some (.int x2), none]) (st1 := [.int x1, .ref 38]) (hp1 := (hz F A L)) rfl ?_
  refine w_al (k := 38) (l := (A 38)) rfl rfl rfl (fun _ => ?_)
  refine w_n 7 (pc1 := 17) (ls1 := [some (.ref 30), some (.int x1), some (.int x2), some (.int ((A 38).getD x1.toInt.toNat 0))]) (st1 := [.int x2, .ref 38, .int x1, .ref 38]) (hp1 := (hz F A L)) rfl ?_
  refine w_al (k := 38) (l := (A 38)) rfl rfl rfl (fun _ => ?_)
  refine w_as (k := 38) (l := (A 38)) (hp1 := (hz F (uA A 38 ((A 38).set x1.toInt.toNat ((A 38).getD x2.toInt.toNat 0))) L)) rfl rfl rfl (hz_s38 _) (fun _ => ?_)
  refine w_n 4 (pc1 := 25) (ls1 := [some (.ref 30), some (.int x1), some (.int x2), some (.int ((A 38).getD x1.toInt.toNat 0))]) (st1 := [.int ((A 38).getD x1.toInt.toNat 0), .int x2, .ref 38]) (hp1 := (hz F (uA A 38 ((A 38).set x1.toInt.toNat ((A 38).getD x2.toInt.toNat 0))) L)) rfl ?_
  refine w_as (k := 38) (l := ((A 38).set x1.toInt.toNat ((A 38).getD x2.toInt.toNat 0))) (hp1 := (hz F (uA (uA A 38 ((A 38).set x1.toInt.toNat ((A 38).getD x2.toInt.toNat 0))) 38 (((A 38).set x1.toInt.toNat ((A 38).getD x2.toInt.toNat 0)).set x2.toInt.toNat ((A 38).getD x1.toInt.toNat 0))) L)) rfl rfl rfl (hz_s38 _) (fun _ => ?_)
  subst T
  exact w_r rfl rfl (cvQ rfl (funext fun q => if k0 : q = 38 then by subst k0; exact Eq.trans (b := (((A 38).set x1.toInt.toNat ((A 38).getD x2.toInt.toNat 0)).set x2.toInt.toNat ((A 38).getD x1.toInt.toNat 0))) rfl rfl else by unfold uA; simp only [nb1 k0, cond_false]) rfl K)
def kv_nextRow_89   : Nat → Int32 → Int32 → List Int32 → List Int32
  | 0, _, _, a38 => a38
  | m + 1, y4, y5, a38 => (if y4.toInt < y5.toInt then (kv_nextRow_89 m (y4 + 1) (y5 + (-1)) (kv_swapInRow a38 y4 y5)) else a38)
theorem t_kv_nextRow_89 {f : Nat} {Q : Option Value → sm_H → Prop} : ∀ (m : Nat) (B : Nat) {D : Nat} {F : Nat → Nat → Int32} {A : Nat → List Int32} {L : Nat → List Int64} {x1 : Int32} {x2 : Int32} {x3 : Int32} {y4 : Int32} {y5 : Int32}, B ≤ m → (∀ q4 : Int32, ∀ q5 : Int32, wl_E f B D mm118.2.2.2.2.2.2.2.2 113 [some (.ref 30), some (.int x1), some (.int x2), some (.int x3), some (.int q4), some (.int q5)] [] (hz F (uA A 38 (kv_nextRow_89 m y4 y5 (A 38))) L) Q) → wl_E f B D mm118.2.2.2.2.2.2.2.2 89 [some (.ref 30), some (.int x1), some (.int x2), some (.int x3), some (.int y4), some (.int y5)] [] (hz F A L) Q := by
  intro m
  induction m with
  | zero =>
    intro B D F A L x1 x2 x3 y4 y5 hm K
    rw [show B = 0 by omega]
    exact w_0
  | succ m ih =>
    intro B D F A L x1 x2 x3 y4 y5 hm K
    cases B with
    | zero => exact w_0
    | succ B =>
      generalize hT : (kv_nextRow_89 (m + 1) y4 y5 (A 38)) = T at K
      have hE : T = (if y4.toInt < y5.toInt then (kv_nextRow_89 m (y4 + 1) (y5 + (-1)) (kv_swapInRow (A 38) y4 y5)) else (A 38)) := hT.symm
      clear hT
      refine w_n1 (pc1 := 91) (ls1 := [some (.ref 30), some (.int x1), some (.int x2), some (.int x3), some (.int y4), some (.int y5)]) (st1 := [.int y4]) (hp1 := (hz F A L)) rfl ?_
      refine w_n 1 (pc1 := 93) (ls1 := [some (.ref 30), some (.int x1), some (.int x2), some (.int x3), some (.int y4), some (.int y5)]) (st1 := [.int y5, .int y4]) (hp1 := (hz F A L)) rfl ?_
      refine w_ge (p3 := 96) rfl rfl (fun h => ?_) (fun h => ?_)
      · have h1 : y5.toInt ≤ y4.toInt := h
        rw [if_neg (Int.not_lt.mpr h1)] at hE
        subst T
        exact cvE rfl (funext fun q => if k0 : q = 38 then by subst k0; exact Eq.trans (b := (A 38)) rfl rfl else by unfold uA; simp only [nb1 k0, cond_false]) rfl (wl_le (Nat.le_succ _) (K _ _))
      · have h1 : y4.toInt < y5.toInt := h
        rw [if_pos h1] at hE
        refine w_n 3 (pc1 := 101) (ls1 := [some (.ref 30), some (.int x1), some (.int x2), some (.int x3), some (.int y4), some (.int y5)]) (st1 := [.int y5, .int y4, .ref 30]) (hp1 := (hz F A L)) rfl ?_
        refine w_c rfl rfl (t_kv_swapInRow ?_)
        show wl_E f _ _ mm118.2.2.2.2.2.2.2.2 104 [some (.ref 30), some (.int x1), some (.int x2), some (.int x3), some (.int y4), some (.int y5)] [] (hz F (uA A 38 (kv_swapInRow (A 38) y4 y5)) L) _
        generalize hG393 : (kv_swapInRow (A 38) y4 y5) = G393 at hE ⊢
        refine w_n 3 (pc1 := 89) (ls1 := [some (.ref 30), some (.int x1), some (.int x2), some (.int x3), some (.int (y4 + 1)), some (.int (y5 + (-1)))]) (st1 := []) (hp1 := (hz F (uA A 38 G393) L)) rfl ?_
        subst T
        exact ih _ (by omega) (fun q4 q5 => cvE rfl (funext fun q => if k0 : q = 38 then by subst k0; exact Eq.trans (b := (kv_nextRow_89 m (y4 + 1) (y5 + (-1)) G393)) rfl rfl else by unfold uA; simp only [nb1 k0, cond_false]) rfl (wl_le (Nat.le_succ _) (K q4 q5)))
def kv_nextRow (f : Nat) (f3_0 : Int32) (a38 : List Int32) : Int32 × List Int32 := (if (kv_nextRow_14 a38 (((f3_0 - 1) - 1).toInt + 1).toNat ((f3_0 - 1) - 1)).toInt < 0 then (0, a38) else (1, (kv_nextRow_89 f ((kv_nextRow_14 a38 (((f3_0 - 1) - 1).toInt + 1).toNat ((f3_0 - 1) - 1)) + 1) (f3_0 - 1) (kv_swapInRow a38 (kv_nextRow_14 a38 (((f3_0 - 1) - 1).toInt + 1).toNat ((f3_0 - 1) - 1)) (kv_nextRow_49 a38 (kv_nextRow_14 a38 (((f3_0 - 1) - 1).toInt + 1).toNat ((f3_0 - 1) - 1)) ((f3_0 - 1).toInt - (kv_nextRow_14 a38 (((f3_0 - 1) - 1).toInt + 1).toNat ((f3_0 - 1) - 1)).toInt).toNat (f3_0 - 1))))))
theorem t_kv_nextRow {f D : Nat} {F : Nat → Nat → Int32} {A : Nat → List Int32} {L : Nat → List Int64} {Q : Option Value → sm_H → Prop} (K : Q (some (.int ((kv_nextRow f (F 3 0) (A 38)).1))) (hz F (uA A 38 ((kv_nextRow f (F 3 0) (A 38)).2)) L)) : wl_M f D 118 [.ref 30] (hz F A L) Q := by
  generalize hT : (kv_nextRow f (F 3 0) (A 38)) = T at K
  have hE : T = (if (kv_nextRow_14 (A 38) ((((F 3 0) - 1) - 1).toInt + 1).toNat (((F 3 0) - 1) - 1)).toInt < 0 then (0, (A 38)) else (1, (kv_nextRow_89 f ((kv_nextRow_14 (A 38) ((((F 3 0) - 1) - 1).toInt + 1).toNat (((F 3 0) - 1) - 1)) + 1) ((F 3 0) - 1) (kv_swapInRow (A 38) (kv_nextRow_14 (A 38) ((((F 3 0) - 1) - 1).toInt + 1).toNat (((F 3 0) - 1) - 1)) (kv_nextRow_49 (A 38) (kv_nextRow_14 (A 38) ((((F 3 0) - 1) - 1).toInt + 1).toNat (((F 3 0) - 1) - 1)) (((F 3 0) - 1).toInt - (kv_nextRow_14 (A 38) ((((F 3 0) - 1) - 1).toInt + 1).toNat (((F 3 0) - 1) - 1)).toInt).toNat ((F 3 0) - 1)))))) := hT.symm
  clear hT
  refine w_m (E := mm118) rfl ?_
  show wl_E f f (D - 1) mm118.2.2.2.2.2.2.2.2 0 [some (.ref 30), none, none, none, none, none] [] (hz F A L) Q
  refine w_n 10 (pc1 := 14) (ls1 := [some (.ref 30), some (.int ((F 3 0) - 1)), some (.int (((F 3 0) - 1) - 1)), none, none, none]) (st1 := []) (hp1 := (hz F A L)) rfl ?_
  refine t_kv_nextRow_14 (((((F 3 0) - 1) - 1).toInt + 1).toNat) (show ((((F 3 0) - 1) - 1).toInt + 1).toNat = ((((F 3 0) - 1) - 1).toInt + 1 - 0).toNat by first | rfl | omega) ?_
  show wl_E f _ _ mm118.2.2.2.2.2.2.2.2 41 [some (.ref 30), some (.int ((F 3 0) - 1)), some (.int (kv_nextRow_14 (A 38) ((((F 3 0) - 1) - 1).toInt + 1).toNat (((F 3 0) - 1) - 1))), none, none, none] [] (hz F A L) _
  generalize hG390 : (kv_nextRow_14 (A 38) ((((F 3 0) - 1) - 1).toInt + 1).toNat (((F 3 0) - 1) - 1)) = G390 at hE ⊢
  refine w_n 1 (pc1 := 42) (ls1 := [some (.ref 30), some (.int ((F 3 0) - 1)), some (.int G390), none, none, none]) (st1 := [.int G390]) (hp1 := (hz F A L)) rfl ?_
  refine w_zge (p3 := 45) rfl rfl (fun h => ?_) (fun h => ?_)
  · have h1 : 0 ≤ G390.toInt := h
    rw [if_neg (Int.not_lt.mpr h1)] at hE
    refine w_n 2 (pc1 := 49) (ls1 := [some (.ref 30), some (.int ((F 3 0) - 1)), some (.int G390), some (.int ((F 3 0) - 1)), none, none]) (st1 := []) (hp1 := (hz F A L)) rfl ?_
    refine t_kv_nextRow_49 ((((F 3 0) - 1).toInt - G390.toInt).toNat) (show (((F 3 0) - 1).toInt - G390.toInt).toNat = (((F 3 0) - 1).toInt - G390.toInt).toNat by first | rfl | omega) ?_
    show wl_E f _ _ mm118.2.2.2.2.2.2.2.2 75 [some (.ref 30), some (.int ((F 3 0) - 1)), some (.int G390), some (.int (kv_nextRow_49 (A 38) G390 (((F 3 0) - 1).toInt - G390.toInt).toNat ((F 3 0) - 1))), none, none] [] (hz F A L) _
    generalize hG391 : (kv_nextRow_49 (A 38) G390 (((F 3 0) - 1).toInt - G390.toInt).toNat ((F 3 0) - 1)) = G391 at hE ⊢
    refine w_n 3 (pc1 := 78) (ls1 := [some (.ref 30), some (.int ((F 3 0) - 1)), some (.int G390), some (.int G391), none, none]) (st1 := [.int G391, .int G390, .ref 30]) (hp1 := (hz F A L)) rfl ?_
    refine w_c rfl rfl (t_kv_swapInRow ?_)
    show wl_E f _ _ mm118.2.2.2.2.2.2.2.2 81 [some (.ref 30), some (.int ((F 3 0) - 1)), some (.int G390), some (.int G391), none, none] [] (hz F (uA A 38 (kv_swapInRow (A 38) G390 G391)) L) _
    generalize hG392 : (kv_swapInRow (A 38) G390 G391) = G392 at hE ⊢
    refine w_n 6 (pc1 := 89) (ls1 := [some (.ref 30), some (.int ((F 3 0) - 1)), some (.int G390), some (.int G391), some (.int (G390 + 1)), some (.int ((F 3 0) - 1))]) (st1 := []) (hp1 := (hz F (uA A 38 G392) L)) rfl ?_
    refine t_kv_nextRow_89 f _ (Nat.le_refl _) ?_
    intro r1 r2
    show wl_E f _ _ mm118.2.2.2.2.2.2.2.2 113 [some (.ref 30), some (.int ((F 3 0) - 1)), some (.int G390), some (.int G391), some (.int r1), some (.int r2)] [] (hz F (uA (uA A 38 G392) 38 (kv_nextRow_89 f (G390 + 1) ((F 3 0) - 1) G392)) L) _
    generalize hG394 : (kv_nextRow_89 f (G390 + 1) ((F 3 0) - 1) G392) = G394 at hE ⊢
    refine w_n 1 (pc1 := 114) (ls1 := [some (.ref 30), some (.int ((F 3 0) - 1)), some (.int G390), some (.int G391), some (.int r1), some (.int r2)]) (st1 := [.int 1]) (hp1 := (hz F (uA (uA A 38 G392) 38 G394) L)) rfl ?_
    subst T
    exact w_ri rfl (cvQ rfl (funext fun q => if k0 : q = 38 then by subst k0; exact Eq.trans (b := G394) rfl rfl else by unfold uA; simp only [nb1 k0, cond_false]) rfl K)
  · have h1 : G390.toInt < 0 := h
    rw [if_pos h1] at hE
    refine w_n 1 (pc1 := 46) (ls1 := [some (.ref 30), some (.int ((F 3 0) - 1)), some (.int G390), none, none, none]) (st1 := [.int 0]) (hp1 := (hz F A L)) rfl ?_
    subst T
    exact w_ri rfl (cvQ rfl (funext fun q => if k0 : q = 38 then by subst k0; exact Eq.trans (b := (A 38)) rfl rfl else by unfold uA; simp only [nb1 k0, cond_false]) rfl K)
def kv_countLies_78 (f : Nat) (f3_0 : Int32) (a6 : List Int32) (a35 : List Int32) (x1 : Int32) (x2 : Int32) : Nat → Int32 → Int32 → List Int32 → List Int32 → Int32 × List Int32 × List Int32
  | 0, y3, _, a38, a39 => (y3, a38, a39)
  | m + 1, y3, y4, a38, a39 => (if ((x2 >>> ((kv_lastLeft f3_0 a35 a38 (a6.getD x1.toInt.toNat 0)) &&& 31)) &&& 1) = 0 then (if (kv_nextRow f f3_0 a38).1 = 0 then (y3, (kv_nextRow f f3_0 a38).2, a39) else (kv_countLies_78 f f3_0 a6 a35 x1 x2 m y3 (y4 + 1) (kv_nextRow f f3_0 a38).2 a39)) else (if y3 = 0 then (if (kv_nextRow f f3_0 a38).1 = 0 then ((y3 + 1), (kv_nextRow f f3_0 a38).2, (sm_cpy a38 a39 0 0 6)) else (kv_countLies_78 f f3_0 a6 a35 x1 x2 m (y3 + 1) (y4 + 1) (kv_nextRow f f3_0 a38).2 (sm_cpy a38 a39 0 0 6))) else (if (kv_nextRow f f3_0 a38).1 = 0 then ((y3 + 1), (kv_nextRow f f3_0 a38).2, a39) else (kv_countLies_78 f f3_0 a6 a35 x1 x2 m (y3 + 1) (y4 + 1) (kv_nextRow f f3_0 a38).2 a39))))
theorem t_kv_countLies_78 {f : Nat} {Q : Option Value → sm_H → Prop} : ∀ (m : Nat) {B D : Nat} {F : Nat → Nat → Int32} {A : Nat → List Int32} {L : Nat → List Int64} {x1 : Int32} {x2 : Int32} {y3 : Int32} {y4 : Int32}, m = (120 - y4.toInt).toNat → (∀ q4 : Int32, wl_E f B D mm115.2.2.2.2.2.2.2.2 143 [some (.ref 30), some (.int x1), some (.int x2), some (.int ((kv_countLies_78 f (F 3 0) (A 6) (A 35) x1 x2 m y3 y4 (A 38) (A 39)).1)), some (.int q4)] [] (hz F (uA (uA A 38 ((kv_countLies_78 f (F 3 0) (A 6) (A 35) x1 x2 m y3 y4 (A 38) (A 39)).2.1)) 39 ((kv_countLies_78 f (F 3 0) (A 6) (A 35) x1 x2 m y3 y4 (A 38) (A 39)).2.2)) L) Q) → wl_E f B D mm115.2.2.2.2.2.2.2.2 78 [some (.ref 30), some (.int x1), some (.int x2), some (.int y3), some (.int y4)] [] (hz F A L) Q := by
  intro m
  induction m with
  | zero =>
    intro B D F A L x1 x2 y3 y4 hm K
    generalize hT : (kv_countLies_78 f (F 3 0) (A 6) (A 35) x1 x2 0 y3 y4 (A 38) (A 39)) = T at K
    have hE : T = (y3, (A 38), (A 39)) := hT.symm
    clear hT
    refine w_n 2 (pc1 := 82) (ls1 := [some (.ref 30), some (.int x1), some (.int x2), some (.int y3), some (.int y4)]) (st1 := [.int 120, .int y4]) (hp1 := (hz F A L)) rfl ?_
    refine w_ge (p3 := 85) rfl rfl (fun hb => ?_) (fun h => False.elim (by have h : y4.toInt < 120 := h; omega))
    subst T
    exact cvE rfl (funext fun q => if k0 : q = 38 then by subst k0; exact Eq.trans (b := (A 38)) rfl rfl else if k1 : q = 39 then by subst k1; exact Eq.trans (b := (A 39)) rfl rfl else by unfold uA; simp only [nb1 k0, nb1 k1, cond_false]) rfl (K _)
  | succ m ih =>
    intro B D F A L x1 x2 y3 y4 hm K
    generalize hT : (kv_countLies_78 f (F 3 0) (A 6) (A 35) x1 x2 (m + 1) y3 y4 (A 38) (A 39)) = T at K
    have hE : T = (if ((x2 >>> ((kv_lastLeft (F 3 0) (A 35) (A 38) ((A 6).getD x1.toInt.toNat 0)) &&& 31)) &&& 1) = 0 then (if (kv_nextRow f (F 3 0) (A 38)).1 = 0 then (y3, (kv_nextRow f (F 3 0) (A 38)).2, (A 39)) else (kv_countLies_78 f (F 3 0) (A 6) (A 35) x1 x2 m y3 (y4 + 1) (kv_nextRow f (F 3 0) (A 38)).2 (A 39))) else (if y3 = 0 then (if (kv_nextRow f (F 3 0) (A 38)).1 = 0 then ((y3 + 1), (kv_nextRow f (F 3 0) (A 38)).2, (sm_cpy (A 38) (A 39) 0 0 6)) else (kv_countLies_78 f (F 3 0) (A 6) (A 35) x1 x2 m (y3 + 1) (y4 + 1) (kv_nextRow f (F 3 0) (A 38)).2 (sm_cpy (A 38) (A 39) 0 0 6))) else (if (kv_nextRow f (F 3 0) (A 38)).1 = 0 then ((y3 + 1), (kv_nextRow f (F 3 0) (A 38)).2, (A 39)) else (kv_countLies_78 f (F 3 0) (A 6) (A 35) x1 x2 m (y3 + 1) (y4 + 1) (kv_nextRow f (F 3 0) (A 38)).2 (A 39))))) := hT.symm
    clear hT
    refine w_n 2 (pc1 := 82) (ls1 := [some (.ref 30), some (.int x1), some (.int x2), some (.int y3), some (.int y4)]) (st1 := [.int 120, .int y4]) (hp1 := (hz F A L)) rfl ?_
    refine w_ge (p3 := 85) rfl rfl (fun h => False.elim (by have h : 120 ≤ y4.toInt := h; omega)) (fun hb => ?_)
    refine w_n 6 (pc1 := 95) (ls1 := [some (.ref 30), some (.int x1), some (.int x2), some (.int y3), some (.int y4)]) (st1 := [.int x1, .ref 6, .ref 30, .int x2]) (hp1 := (hz F A L)) rfl ?_
    refine w_al (k := 6) (l := (A 6)) rfl rfl rfl (fun _ => ?_)
    refine w_c rfl rfl (t_kv_lastLeft ?_)
    show wl_E f _ _ mm115.2.2.2.2.2.2.2.2 99 [some (.ref 30), some (.int x1), some (.int x2), some (.int y3), some (.int y4)] [.int (kv_lastLeft (F 3 0) (A 35) (A 38) ((A 6).getD x1.toInt.toNat 0)), .int x2] (hz F A L) _
    generalize hG389 : (kv_lastLeft (F 3 0) (A 35) (A 38) ((A 6).getD x1.toInt.toNat 0)) = G389 at hE ⊢
    refine w_n 3 (pc1 := 102) (ls1 := [some (.ref 30), some (.int x1), some (.int x2), some (.int y3), some (.int y4)]) (st1 := [.int ((x2 >>> (G389 &&& 31)) &&& 1)]) (hp1 := (hz F A L)) rfl ?_
    refine w_zeq (p3 := 105) rfl rfl (fun h => ?_) (fun h => ?_)
    · have h1 : ((x2 >>> (G389 &&& 31)) &&& 1) = 0 := h
      rw [if_pos h1] at hE
      refine w_n 1 (pc1 := 128) (ls1 := [some (.ref 30), some (.int x1), some (.int x2), some (.int y3), some (.int y4)]) (st1 := [.ref 30]) (hp1 := (hz F A L)) rfl ?_
      refine w_c rfl rfl (t_kv_nextRow ?_)
      show wl_E f _ _ mm115.2.2.2.2.2.2.2.2 131 [some (.ref 30), some (.int x1), some (.int x2), some (.int y3), some (.int y4)] [.int (kv_nextRow f (F 3 0) (A 38)).1] (hz F (uA A 38 (kv_nextRow f (F 3 0) (A 38)).2) L) _
      generalize hG395 : (kv_nextRow f (F 3 0) (A 38)) = G395 at hE ⊢
      refine w_zne (p3 := 134) rfl rfl (fun h => ?_) (fun h => ?_)
      · have h2 : ¬ G395.1 = 0 := h
        rw [if_neg h2] at hE
        refine w_n 2 (pc1 := 78) (ls1 := [some (.ref 30), some (.int x1), some (.int x2), some (.int y3), some (.int (y4 + 1))]) (st1 := []) (hp1 := (hz F (uA A 38 G395.2) L)) rfl ?_
        subst T
        have hb2 := i_up (B := (120 : Int32)) hb
        have hb3 : y4.toInt < 120 := hb
        exact ih (show m = (120 - (y4 + 1).toInt).toNat by rw [hb2]; omega) (fun q4 => cvE rfl (funext fun q => if k0 : q = 38 then by subst k0; exact Eq.trans (b := (kv_countLies_78 f (F 3 0) (A 6) (A 35) x1 x2 m y3 (y4 + 1) G395.2 (A 39)).2.1) rfl rfl else if k1 : q = 39 then by subst k1; exact Eq.trans (b := (kv_countLies_78 f (F 3 0) (A 6) (A 35) x1 x2 m y3 (y4 + 1) G395.2 (A 39)).2.2) rfl rfl else by unfold uA; simp only [nb1 k0, nb1 k1, cond_false]) rfl (K q4))
      · have h2 : G395.1 = 0 := h
        rw [if_pos h2] at hE
        refine w_n 1 (pc1 := 143) (ls1 := [some (.ref 30), some (.int x1), some (.int x2), some (.int y3), some (.int y4)]) (st1 := []) (hp1 := (hz F (uA A 38 G395.2) L)) rfl ?_
        subst T
        exact cvE rfl (funext fun q => if k0 : q = 38 then by subst k0; exact Eq.trans (b := G395.2) rfl rfl else if k1 : q = 39 then by subst k1; exact Eq.trans (b := (A 39)) rfl rfl else by unfold uA; simp only [nb1 k0, nb1 k1, cond_false]) rfl (K _)
    · have h1 : ¬ ((x2 >>> (G389 &&& 31)) &&& 1) = 0 := h
      rw [if_neg h1] at hE
      refine w_n 1 (pc1 := 106) (ls1 := [some (.ref 30), some (.int x1), some (.int x2), some (.int y3), some (.int y4)]) (st1 := [.int y3]) (hp1 := (hz F A L)) rfl ?_
      refine w_zne (p3 := 109) rfl rfl (fun h => ?_) (fun h => ?_)
      · have h3 : ¬ y3 = 0 := h
        rw [if_neg h3] at hE
        refine w_n 2 (pc1 := 128) (ls1 := [some (.ref 30), some (.int x1), some (.int x2), some (.int (y3 + 1)), some (.int y4)]) (st1 := [.ref 30]) (hp1 := (hz F A L)) rfl ?_
        refine w_c rfl rfl (t_kv_nextRow ?_)
        show wl_E f _ _ mm115.2.2.2.2.2.2.2.2 131 [some (.ref 30), some (.int x1), some (.int x2), some (.int (y3 + 1)), some (.int y4)] [.int (kv_nextRow f (F 3 0) (A 38)).1] (hz F (uA A 38 (kv_nextRow f (F 3 0) (A 38)).2) L) _
        generalize hG396 : (kv_nextRow f (F 3 0) (A 38)) = G396 at hE ⊢
        refine w_zne (p3 := 134) rfl rfl (fun h => ?_) (fun h => ?_)
        · have h4 : ¬ G396.1 = 0 := h
          rw [if_neg h4] at hE
          refine w_n 2 (pc1 := 78) (ls1 := [some (.ref 30), some (.int x1), some (.int x2), some (.int (y3 + 1)), some (.int (y4 + 1))]) (st1 := []) (hp1 := (hz F (uA A 38 G396.2) L)) rfl ?_
          subst T
          have hb2 := i_up (B := (120 : Int32)) hb
          have hb3 : y4.toInt < 120 := hb
          exact ih (show m = (120 - (y4 + 1).toInt).toNat by rw [hb2]; omega) (fun q4 => cvE rfl (funext fun q => if k0 : q = 38 then by subst k0; exact Eq.trans (b := (kv_countLies_78 f (F 3 0) (A 6) (A 35) x1 x2 m (y3 + 1) (y4 + 1) G396.2 (A 39)).2.1) rfl rfl else if k1 : q = 39 then by subst k1; exact Eq.trans (b := (kv_countLies_78 f (F 3 0) (A 6) (A 35) x1 x2 m (y3 + 1) (y4 + 1) G396.2 (A 39)).2.2) rfl rfl else by unfold uA; simp only [nb1 k0, nb1 k1, cond_false]) rfl (K q4))
        · have h4 : G396.1 = 0 := h
          rw [if_pos h4] at hE
          refine w_n 1 (pc1 := 143) (ls1 := [some (.ref 30), some (.int x1), some (.int x2), some (.int (y3 + 1)), some (.int y4)]) (st1 := []) (hp1 := (hz F (uA A 38 G396.2) L)) rfl ?_
          subst T
          exact cvE rfl (funext fun q => if k0 : q = 38 then by subst k0; exact Eq.trans (b := G396.2) rfl rfl else if k1 : q = 39 then by subst k1; exact Eq.trans (b := (A 39)) rfl rfl else by unfold uA; simp only [nb1 k0, nb1 k1, cond_false]) rfl (K _)
      · have h3 : y3 = 0 := h
        rw [if_pos h3] at hE
        refine w_n 7 (pc1 := 121) (ls1 := [some (.ref 30), some (.int x1), some (.int x2), some (.int y3), some (.int y4)]) (st1 := [.int 6, .int 0, .ref 39, .int 0, .ref 38]) (hp1 := (hz F A L)) rfl ?_
        refine w_ac (ks := 38) (kd := 39) (u := (A 38)) (g := (A 39)) (hp1 := (hz F (uA A 39 (sm_cpy (A 38) (A 39) 0 0 6)) L)) rfl rfl rfl rfl (hz_s39 _) (fun _ => ?_)
        refine w_n 2 (pc1 := 128) (ls1 := [some (.ref 30), some (.int x1), some (.int x2), some (.int (y3 + 1)), some (.int y4)]) (st1 := [.ref 30]) (hp1 := (hz F (uA A 39 (sm_cpy (A 38) (A 39) 0 0 6)) L)) rfl ?_
        refine w_c rfl rfl (t_kv_nextRow ?_)
        show wl_E f _ _ mm115.2.2.2.2.2.2.2.2 131 [some (.ref 30), some (.int x1), some (.int x2), some (.int (y3 + 1)), some (.int y4)] [.int (kv_nextRow f (F 3 0) (A 38)).1] (hz F (uA (uA A 39 (sm_cpy (A 38) (A 39) 0 0 6)) 38 (kv_nextRow f (F 3 0) (A 38)).2) L) _
        generalize hG397 : (kv_nextRow f (F 3 0) (A 38)) = G397 at hE ⊢
        refine w_zne (p3 := 134) rfl rfl (fun h => ?_) (fun h => ?_)
        · have h5 : ¬ G397.1 = 0 := h
          rw [if_neg h5] at hE
          refine w_n 2 (pc1 := 78) (ls1 := [some (.ref 30), some (.int x1), some (.int x2), some (.int (y3 + 1)), some (.int (y4 + 1))]) (st1 := []) (hp1 := (hz F (uA (uA A 39 (sm_cpy (A 38) (A 39) 0 0 6)) 38 G397.2) L)) rfl ?_
          subst T
          have hb2 := i_up (B := (120 : Int32)) hb
          have hb3 : y4.toInt < 120 := hb
          exact ih (show m = (120 - (y4 + 1).toInt).toNat by rw [hb2]; omega) (fun q4 => cvE rfl (funext fun q => if k0 : q = 38 then by subst k0; exact Eq.trans (b := (kv_countLies_78 f (F 3 0) (A 6) (A 35) x1 x2 m (y3 + 1) (y4 + 1) G397.2 (sm_cpy (A 38) (A 39) 0 0 6)).2.1) rfl rfl else if k1 : q = 39 then by subst k1; exact Eq.trans (b := (kv_countLies_78 f (F 3 0) (A 6) (A 35) x1 x2 m (y3 + 1) (y4 + 1) G397.2 (sm_cpy (A 38) (A 39) 0 0 6)).2.2) rfl rfl else by unfold uA; simp only [nb1 k0, nb1 k1, cond_false]) rfl (K q4))
        · have h5 : G397.1 = 0 := h
          rw [if_pos h5] at hE
          refine w_n 1 (pc1 := 143) (ls1 := [some (.ref 30), some (.int x1), some (.int x2), some (.int (y3 + 1)), some (.int y4)]) (st1 := []) (hp1 := (hz F (uA (uA A 39 (sm_cpy (A 38) (A 39) 0 0 6)) 38 G397.2) L)) rfl ?_
          subst T
          exact cvE rfl (funext fun q => if k0 : q = 38 then by subst k0; exact Eq.trans (b := G397.2) rfl rfl else if k1 : q = 39 then by subst k1; exact Eq.trans (b := (sm_cpy (A 38) (A 39) 0 0 6)) rfl rfl else by unfold uA; simp only [nb1 k0, nb1 k1, cond_false]) rfl (K _)
def kv_countLies (f : Nat) (f3_0 : Int32) (f3_1 : Int32) (a6 : List Int32) (a35 : List Int32) (a36 : List Int32) (a38 : List Int32) (a39 : List Int32) (l11 : List Int64) (x1 : Int32) : Int32 × List Int32 × List Int32 × List Int32 × List Int32 := ((kv_countLies_78 f f3_0 a6 (kv_countLies_29 f3_0 f3_1 a6 l11 x1 ((kt_allMeasures f3_0).toInt + 1 - 1).toNat 1 (kv_countRunOff f3_0 f3_1 a6 a35 a36 l11).1) x1 (kt_aheadOf l11 x1 ((kv_countRunOff f3_0 f3_1 a6 a35 a36 l11).2.getD (f3_0 - 1).toInt.toNat 0)) 120 0 0 (kv_countLies_54 6 0 a38) a39).1, (kv_countLies_29 f3_0 f3_1 a6 l11 x1 ((kt_allMeasures f3_0).toInt + 1 - 1).toNat 1 (kv_countRunOff f3_0 f3_1 a6 a35 a36 l11).1), (kv_countRunOff f3_0 f3_1 a6 a35 a36 l11).2, (kv_countLies_78 f f3_0 a6 (kv_countLies_29 f3_0 f3_1 a6 l11 x1 ((kt_allMeasures f3_0).toInt + 1 - 1).toNat 1 (kv_countRunOff f3_0 f3_1 a6 a35 a36 l11).1) x1 (kt_aheadOf l11 x1 ((kv_countRunOff f3_0 f3_1 a6 a35 a36 l11).2.getD (f3_0 - 1).toInt.toNat 0)) 120 0 0 (kv_countLies_54 6 0 a38) a39).2.1, (kv_countLies_78 f f3_0 a6 (kv_countLies_29 f3_0 f3_1 a6 l11 x1 ((kt_allMeasures f3_0).toInt + 1 - 1).toNat 1 (kv_countRunOff f3_0 f3_1 a6 a35 a36 l11).1) x1 (kt_aheadOf l11 x1 ((kv_countRunOff f3_0 f3_1 a6 a35 a36 l11).2.getD (f3_0 - 1).toInt.toNat 0)) 120 0 0 (kv_countLies_54 6 0 a38) a39).2.2)
theorem t_kv_countLies {f D : Nat} {F : Nat → Nat → Int32} {A : Nat → List Int32} {L : Nat → List Int64} {Q : Option Value → sm_H → Prop} {x1 : Int32} (hh0 : (kt_allMeasures (F 3 0)).toInt < 2147483647) (K : Q (some (.int ((kv_countLies f (F 3 0) (F 3 1) (A 6) (A 35) (A 36) (A 38) (A 39) (L 11) x1).1))) (hz F (uA (uA (uA (uA A 35 ((kv_countLies f (F 3 0) (F 3 1) (A 6) (A 35) (A 36) (A 38) (A 39) (L 11) x1).2.1)) 36 ((kv_countLies f (F 3 0) (F 3 1) (A 6) (A 35) (A 36) (A 38) (A 39) (L 11) x1).2.2.1)) 38 ((kv_countLies f (F 3 0) (F 3 1) (A 6) (A 35) (A 36) (A 38) (A 39) (L 11) x1).2.2.2.1)) 39 ((kv_countLies f (F 3 0) (F 3 1) (A 6) (A 35) (A 36) (A 38) (A 39) (L 11) x1).2.2.2.2)) L)) : wl_M f D 115 [.ref 30, .int x1] (hz F A L) Q := by
  generalize hT : (kv_countLies f (F 3 0) (F 3 1) (A 6) (A 35) (A 36) (A 38) (A 39) (L 11) x1) = T at K
  have hE : T = ((kv_countLies_78 f (F 3 0) (A 6) (kv_countLies_29 (F 3 0) (F 3 1) (A 6) (L 11) x1 ((kt_allMeasures (F 3 0)).toInt + 1 - 1).toNat 1 (kv_countRunOff (F 3 0) (F 3 1) (A 6) (A 35) (A 36) (L 11)).1) x1 (kt_aheadOf (L 11) x1 ((kv_countRunOff (F 3 0) (F 3 1) (A 6) (A 35) (A 36) (L 11)).2.getD ((F 3 0) - 1).toInt.toNat 0)) 120 0 0 (kv_countLies_54 6 0 (A 38)) (A 39)).1, (kv_countLies_29 (F 3 0) (F 3 1) (A 6) (L 11) x1 ((kt_allMeasures (F 3 0)).toInt + 1 - 1).toNat 1 (kv_countRunOff (F 3 0) (F 3 1) (A 6) (A 35) (A 36) (L 11)).1), (kv_countRunOff (F 3 0) (F 3 1) (A 6) (A 35) (A 36) (L 11)).2, (kv_countLies_78 f (F 3 0) (A 6) (kv_countLies_29 (F 3 0) (F 3 1) (A 6) (L 11) x1 ((kt_allMeasures (F 3 0)).toInt + 1 - 1).toNat 1 (kv_countRunOff (F 3 0) (F 3 1) (A 6) (A 35) (A 36) (L 11)).1) x1 (kt_aheadOf (L 11) x1 ((kv_countRunOff (F 3 0) (F 3 1) (A 6) (A 35) (A 36) (L 11)).2.getD ((F 3 0) - 1).toInt.toNat 0)) 120 0 0 (kv_countLies_54 6 0 (A 38)) (A 39)).2.1, (kv_countLies_78 f (F 3 0) (A 6) (kv_countLies_29 (F 3 0) (F 3 1) (A 6) (L 11) x1 ((kt_allMeasures (F 3 0)).toInt + 1 - 1).toNat 1 (kv_countRunOff (F 3 0) (F 3 1) (A 6) (A 35) (A 36) (L 11)).1) x1 (kt_aheadOf (L 11) x1 ((kv_countRunOff (F 3 0) (F 3 1) (A 6) (A 35) (A 36) (L 11)).2.getD ((F 3 0) - 1).toInt.toNat 0)) 120 0 0 (kv_countLies_54 6 0 (A 38)) (A 39)).2.2) := hT.symm
  clear hT
  refine w_m (E := mm115) rfl ?_
  show wl_E f f (D - 1) mm115.2.2.2.2.2.2.2.2 0 [some (.ref 30), some (.int x1), none, none, none] [] (hz F A L) Q
  refine w_n 1 (pc1 := 1) (ls1 := [some (.ref 30), some (.int x1), none, none, none]) (st1 := [.ref 30]) (hp1 := (hz F A L)) rfl ?_
  refine w_c rfl rfl (t_kv_countRunOff ?_)
  show wl_E f _ _ mm115.2.2.2.2.2.2.2.2 4 [some (.ref 30), some (.int x1), none, none, none] [] (hz F (uA (uA A 35 (kv_countRunOff (F 3 0) (F 3 1) (A 6) (A 35) (A 36) (L 11)).1) 36 (kv_countRunOff (F 3 0) (F 3 1) (A 6) (A 35) (A 36) (L 11)).2) L) _
  generalize hG380 : (kv_countRunOff (F 3 0) (F 3 1) (A 6) (A 35) (A 36) (L 11)) = G380 at hE ⊢
  refine w_n 10 (pc1 := 22) (ls1 := [some (.ref 30), some (.int x1), none, none, none]) (st1 := [.int ((F 3 0) - 1), .ref 36, .int x1, .ref 3]) (hp1 := (hz F (uA (uA A 35 G380.1) 36 G380.2) L)) rfl ?_
  refine w_al (k := 36) (l := G380.2) rfl rfl rfl (fun _ => ?_)
  refine w_c rfl rfl (t_kt_aheadOf ?_)
  show wl_E f _ _ mm115.2.2.2.2.2.2.2.2 26 [some (.ref 30), some (.int x1), none, none, none] [.int (kt_aheadOf (L 11) x1 (G380.2.getD ((F 3 0) - 1).toInt.toNat 0))] (hz F (uA (uA A 35 G380.1) 36 G380.2) L) _
  generalize hG381 : (kt_aheadOf (L 11) x1 (G380.2.getD ((F 3 0) - 1).toInt.toNat 0)) = G381 at hE ⊢
  refine w_n 3 (pc1 := 29) (ls1 := [some (.ref 30), some (.int x1), some (.int G381), some (.int 1), none]) (st1 := []) (hp1 := (hz F (uA (uA A 35 G380.1) 36 G380.2) L)) rfl ?_
  refine t_kv_countLies_29 (((kt_allMeasures (F 3 0)).toInt + 1 - 1).toNat) (show ((kt_allMeasures (F 3 0)).toInt + 1 - 1).toNat = ((kt_allMeasures (F 3 0)).toInt + 1 - (1 : Int32).toInt).toNat by have e0 : (1 : Int32).toInt = 1 := rfl; first | rfl | omega) hh0 ?_
  intro r1
  show wl_E f _ _ mm115.2.2.2.2.2.2.2.2 52 [some (.ref 30), some (.int x1), some (.int G381), some (.int r1), none] [] (hz F (uA (uA (uA A 35 G380.1) 36 G380.2) 35 (kv_countLies_29 (F 3 0) (F 3 1) (A 6) (L 11) x1 ((kt_allMeasures (F 3 0)).toInt + 1 - 1).toNat 1 G380.1)) L) _
  generalize hG383 : (kv_countLies_29 (F 3 0) (F 3 1) (A 6) (L 11) x1 ((kt_allMeasures (F 3 0)).toInt + 1 - 1).toNat 1 G380.1) = G383 at hE ⊢
  refine w_n 2 (pc1 := 54) (ls1 := [some (.ref 30), some (.int x1), some (.int G381), some (.int 0), none]) (st1 := []) (hp1 := (hz F (uA (uA (uA A 35 G380.1) 36 G380.2) 35 G383) L)) rfl ?_
  refine t_kv_countLies_54 6 (show (6 : Nat) = (6 - (0 : Int32).toInt).toNat by have e0 : (0 : Int32).toInt = 0 := rfl; first | rfl | omega) ?_
  intro r2
  show wl_E f _ _ mm115.2.2.2.2.2.2.2.2 73 [some (.ref 30), some (.int x1), some (.int G381), some (.int r2), none] [] (hz F (uA (uA (uA (uA A 35 G380.1) 36 G380.2) 35 G383) 38 (kv_countLies_54 6 0 (A 38))) L) _
  generalize hG384 : (kv_countLies_54 6 0 (A 38)) = G384 at hE ⊢
  refine w_n 4 (pc1 := 78) (ls1 := [some (.ref 30), some (.int x1), some (.int G381), some (.int 0), some (.int 0)]) (st1 := []) (hp1 := (hz F (uA (uA (uA (uA A 35 G380.1) 36 G380.2) 35 G383) 38 G384) L)) rfl ?_
  refine t_kv_countLies_78 120 (show (120 : Nat) = (120 - (0 : Int32).toInt).toNat by have e0 : (0 : Int32).toInt = 0 := rfl; first | rfl | omega) ?_
  intro r3
  show wl_E f _ _ mm115.2.2.2.2.2.2.2.2 143 [some (.ref 30), some (.int x1), some (.int G381), some (.int (kv_countLies_78 f (F 3 0) (A 6) G383 x1 G381 120 0 0 G384 (A 39)).1), some (.int r3)] [] (hz F (uA (uA (uA (uA (uA (uA A 35 G380.1) 36 G380.2) 35 G383) 38 G384) 38 (kv_countLies_78 f (F 3 0) (A 6) G383 x1 G381 120 0 0 G384 (A 39)).2.1) 39 (kv_countLies_78 f (F 3 0) (A 6) G383 x1 G381 120 0 0 G384 (A 39)).2.2) L) _
  generalize hG398 : (kv_countLies_78 f (F 3 0) (A 6) G383 x1 G381 120 0 0 G384 (A 39)) = G398 at hE ⊢
  refine w_n 1 (pc1 := 144) (ls1 := [some (.ref 30), some (.int x1), some (.int G381), some (.int G398.1), some (.int r3)]) (st1 := [.int G398.1]) (hp1 := (hz F (uA (uA (uA (uA (uA (uA A 35 G380.1) 36 G380.2) 35 G383) 38 G384) 38 G398.2.1) 39 G398.2.2) L)) rfl ?_
  subst T
  exact w_ri rfl (cvQ rfl (funext fun q => if k0 : q = 35 then by subst k0; exact Eq.trans (b := G383) rfl rfl else if k1 : q = 36 then by subst k1; exact Eq.trans (b := G380.2) rfl rfl else if k2 : q = 38 then by subst k2; exact Eq.trans (b := G398.2.1) rfl rfl else if k3 : q = 39 then by subst k3; exact Eq.trans (b := G398.2.2) rfl rfl else by unfold uA; simp only [nb1 k0, nb1 k1, nb1 k2, nb1 k3, cond_false]) rfl K)
def kc_lie (f : Nat) (f3_0 : Int32) (f3_1 : Int32) (a6 : List Int32) (a35 : List Int32) (a36 : List Int32) (a38 : List Int32) (a39 : List Int32) (l11 : List Int64) (x1 : Int32) (x2 : Int32) : Int32 × List Int32 × List Int32 × List Int32 × List Int32 := (if (kt_isTold f3_1 x1) = 0 then ((-1), a35, a36, a38, a39) else (if x2 = 10 then (if f3_0 = 6 then ((-3), a35, a36, a38, a39) else ((kv_countLies f f3_0 f3_1 a6 a35 a36 a38 a39 l11 x1).1, (kv_countLies f f3_0 f3_1 a6 a35 a36 a38 a39 l11 x1).2.1, (kv_countLies f f3_0 f3_1 a6 a35 a36 a38 a39 l11 x1).2.2.1, (kv_countLies f f3_0 f3_1 a6 a35 a36 a38 a39 l11 x1).2.2.2.1, (kv_countLies f f3_0 f3_1 a6 a35 a36 a38 a39 l11 x1).2.2.2.2)) else (if (kt_isMeasure f3_0 x2) = 0 then ((-1), a35, a36, a38, a39) else (if f3_0 = 6 then ((-3), a35, a36, a38, a39) else (if (kv_countLies f f3_0 f3_1 a6 a35 a36 a38 a39 l11 x1).1 = 0 then ((-2), (kv_countLies f f3_0 f3_1 a6 a35 a36 a38 a39 l11 x1).2.1, (kv_countLies f f3_0 f3_1 a6 a35 a36 a38 a39 l11 x1).2.2.1, (kv_countLies f f3_0 f3_1 a6 a35 a36 a38 a39 l11 x1).2.2.2.1, (kv_countLies f f3_0 f3_1 a6 a35 a36 a38 a39 l11 x1).2.2.2.2) else (((kv_countLies f f3_0 f3_1 a6 a35 a36 a38 a39 l11 x1).2.2.2.2.getD x2.toInt.toNat 0), (kv_countLies f f3_0 f3_1 a6 a35 a36 a38 a39 l11 x1).2.1, (kv_countLies f f3_0 f3_1 a6 a35 a36 a38 a39 l11 x1).2.2.1, (kv_countLies f f3_0 f3_1 a6 a35 a36 a38 a39 l11 x1).2.2.2.1, (kv_countLies f f3_0 f3_1 a6 a35 a36 a38 a39 l11 x1).2.2.2.2))))))
theorem t_kc_lie {f D : Nat} {F : Nat → Nat → Int32} {A : Nat → List Int32} {L : Nat → List Int64} {Q : Option Value → sm_H → Prop} {x1 : Int32} {x2 : Int32} (hh0 : (kt_allMeasures (F 3 0)).toInt < 2147483647) (K : Q (some (.int ((kc_lie f (F 3 0) (F 3 1) (A 6) (A 35) (A 36) (A 38) (A 39) (L 11) x1 x2).1))) (hz F (uA (uA (uA (uA A 35 ((kc_lie f (F 3 0) (F 3 1) (A 6) (A 35) (A 36) (A 38) (A 39) (L 11) x1 x2).2.1)) 36 ((kc_lie f (F 3 0) (F 3 1) (A 6) (A 35) (A 36) (A 38) (A 39) (L 11) x1 x2).2.2.1)) 38 ((kc_lie f (F 3 0) (F 3 1) (A 6) (A 35) (A 36) (A 38) (A 39) (L 11) x1 x2).2.2.2.1)) 39 ((kc_lie f (F 3 0) (F 3 1) (A 6) (A 35) (A 36) (A 38) (A 39) (L 11) x1 x2).2.2.2.2)) L)) : wl_M f D 114 [.ref 0, .int x1, .int x2] (hz F A L) Q := by
  generalize hT : (kc_lie f (F 3 0) (F 3 1) (A 6) (A 35) (A 36) (A 38) (A 39) (L 11) x1 x2) = T at K
  have hE : T = (if (kt_isTold (F 3 1) x1) = 0 then ((-1), (A 35), (A 36), (A 38), (A 39)) else (if x2 = 10 then (if (F 3 0) = 6 then ((-3), (A 35), (A 36), (A 38), (A 39)) else ((kv_countLies f (F 3 0) (F 3 1) (A 6) (A 35) (A 36) (A 38) (A 39) (L 11) x1).1, (kv_countLies f (F 3 0) (F 3 1) (A 6) (A 35) (A 36) (A 38) (A 39) (L 11) x1).2.1, (kv_countLies f (F 3 0) (F 3 1) (A 6) (A 35) (A 36) (A 38) (A 39) (L 11) x1).2.2.1, (kv_countLies f (F 3 0) (F 3 1) (A 6) (A 35) (A 36) (A 38) (A 39) (L 11) x1).2.2.2.1, (kv_countLies f (F 3 0) (F 3 1) (A 6) (A 35) (A 36) (A 38) (A 39) (L 11) x1).2.2.2.2)) else (if (kt_isMeasure (F 3 0) x2) = 0 then ((-1), (A 35), (A 36), (A 38), (A 39)) else (if (F 3 0) = 6 then ((-3), (A 35), (A 36), (A 38), (A 39)) else (if (kv_countLies f (F 3 0) (F 3 1) (A 6) (A 35) (A 36) (A 38) (A 39) (L 11) x1).1 = 0 then ((-2), (kv_countLies f (F 3 0) (F 3 1) (A 6) (A 35) (A 36) (A 38) (A 39) (L 11) x1).2.1, (kv_countLies f (F 3 0) (F 3 1) (A 6) (A 35) (A 36) (A 38) (A 39) (L 11) x1).2.2.1, (kv_countLies f (F 3 0) (F 3 1) (A 6) (A 35) (A 36) (A 38) (A 39) (L 11) x1).2.2.2.1, (kv_countLies f (F 3 0) (F 3 1) (A 6) (A 35) (A 36) (A 38) (A 39) (L 11) x1).2.2.2.2) else (((kv_countLies f (F 3 0) (F 3 1) (A 6) (A 35) (A 36) (A 38) (A 39) (L 11) x1).2.2.2.2.getD x2.toInt.toNat 0), (kv_countLies f (F 3 0) (F 3 1) (A 6) (A 35) (A 36) (A 38) (A 39) (L 11) x1).2.1, (kv_countLies f (F 3 0) (F 3 1) (A 6) (A 35) (A 36) (A 38) (A 39) (L 11) x1).2.2.1, (kv_countLies f (F 3 0) (F 3 1) (A 6) (A 35) (A 36) (A 38) (A 39) (L 11) x1).2.2.2.1, (kv_countLies f (F 3 0) (F 3 1) (A 6) (A 35) (A 36) (A 38) (A 39) (L 11) x1).2.2.2.2)))))) := hT.symm
  clear hT
  refine w_m (E := mm114) rfl ?_
  show wl_E f f (D - 1) mm114.2.2.2.2.2.2.2.2 0 [some (.ref 0), some (.int x1), some (.int x2), none] [] (hz F A L) Q
  refine w_n 3 (pc1 := 5) (ls1 := [some (.ref 0), some (.int x1), some (.int x2), none]) (st1 := [.int x1, .ref 3]) (hp1 := (hz F A L)) rfl ?_
  refine w_c rfl rfl (t_kt_isTold ?_)
  show wl_E f _ _ mm114.2.2.2.2.2.2.2.2 8 [some (.ref 0), some (.int x1), some (.int x2), none] [.int (kt_isTold (F 3 1) x1)] (hz F A L) _
  generalize hG379 : (kt_isTold (F 3 1) x1) = G379 at hE ⊢
  refine w_zeq (p3 := 11) rfl rfl (fun h => ?_) (fun h => ?_)
  · have h1 : G379 = 0 := h
    rw [if_pos h1] at hE
    refine w_n 1 (pc1 := 29) (ls1 := [some (.ref 0), some (.int x1), some (.int x2), none]) (st1 := [.int (-1)]) (hp1 := (hz F A L)) rfl ?_
    subst T
    exact w_ri rfl (cvQ rfl (funext fun q => if k0 : q = 35 then by subst k0; exact Eq.trans (b := (A 35)) rfl rfl else if k1 : q = 36 then by subst k1; exact Eq.trans (b := (A 36)) rfl rfl else if k2 : q = 38 then by subst k2; exact Eq.trans (b := (A 38)) rfl rfl else if k3 : q = 39 then by subst k3; exact Eq.trans (b := (A 39)) rfl rfl else by unfold uA; simp only [nb1 k0, nb1 k1, nb1 k2, nb1 k3, cond_false]) rfl K)
  · have h1 : ¬ G379 = 0 := h
    rw [if_neg h1] at hE
    refine w_n 2 (pc1 := 14) (ls1 := [some (.ref 0), some (.int x1), some (.int x2), none]) (st1 := [.int 10, .int x2]) (hp1 := (hz F A L)) rfl ?_
    refine w_eq (p3 := 17) rfl rfl (fun h => ?_) (fun h => ?_)
    · have h2 : x2 = 10 := h
      rw [if_pos h2] at hE
      refine w_n 4 (pc1 := 39) (ls1 := [some (.ref 0), some (.int x1), some (.int x2), none]) (st1 := [.int 6, .int (F 3 0)]) (hp1 := (hz F A L)) rfl ?_
      refine w_ne (p3 := 42) rfl rfl (fun h => ?_) (fun h => ?_)
      · have h3 : ¬ (F 3 0) = 6 := h
        rw [if_neg h3] at hE
        refine w_n 3 (pc1 := 50) (ls1 := [some (.ref 0), some (.int x1), some (.int x2), none]) (st1 := [.int x1, .ref 30]) (hp1 := (hz F A L)) rfl ?_
        refine w_c rfl rfl (t_kv_countLies hh0 ?_)
        show wl_E f _ _ mm114.2.2.2.2.2.2.2.2 53 [some (.ref 0), some (.int x1), some (.int x2), none] [.int (kv_countLies f (F 3 0) (F 3 1) (A 6) (A 35) (A 36) (A 38) (A 39) (L 11) x1).1] (hz F (uA (uA (uA (uA A 35 (kv_countLies f (F 3 0) (F 3 1) (A 6) (A 35) (A 36) (A 38) (A 39) (L 11) x1).2.1) 36 (kv_countLies f (F 3 0) (F 3 1) (A 6) (A 35) (A 36) (A 38) (A 39) (L 11) x1).2.2.1) 38 (kv_countLies f (F 3 0) (F 3 1) (A 6) (A 35) (A 36) (A 38) (A 39) (L 11) x1).2.2.2.1) 39 (kv_countLies f (F 3 0) (F 3 1) (A 6) (A 35) (A 36) (A 38) (A 39) (L 11) x1).2.2.2.2) L) _
        generalize hG399 : (kv_countLies f (F 3 0) (F 3 1) (A 6) (A 35) (A 36) (A 38) (A 39) (L 11) x1) = G399 at hE ⊢
        refine w_n 3 (pc1 := 57) (ls1 := [some (.ref 0), some (.int x1), some (.int x2), some (.int G399.1)]) (st1 := [.int 10, .int x2]) (hp1 := (hz F (uA (uA (uA (uA A 35 G399.2.1) 36 G399.2.2.1) 38 G399.2.2.2.1) 39 G399.2.2.2.2) L)) rfl ?_
        refine w_ne (p3 := 60) rfl rfl (fun h => absurd h2 h) (fun _ => ?_)
        refine w_n 1 (pc1 := 61) (ls1 := [some (.ref 0), some (.int x1), some (.int x2), some (.int G399.1)]) (st1 := [.int G399.1]) (hp1 := (hz F (uA (uA (uA (uA A 35 G399.2.1) 36 G399.2.2.1) 38 G399.2.2.2.1) 39 G399.2.2.2.2) L)) rfl ?_
        subst T
        exact w_ri rfl (cvQ rfl rfl rfl K)
      · have h3 : (F 3 0) = 6 := h
        rw [if_pos h3] at hE
        refine w_n 1 (pc1 := 44) (ls1 := [some (.ref 0), some (.int x1), some (.int x2), none]) (st1 := [.int (-3)]) (hp1 := (hz F A L)) rfl ?_
        subst T
        exact w_ri rfl (cvQ rfl (funext fun q => if k0 : q = 35 then by subst k0; exact Eq.trans (b := (A 35)) rfl rfl else if k1 : q = 36 then by subst k1; exact Eq.trans (b := (A 36)) rfl rfl else if k2 : q = 38 then by subst k2; exact Eq.trans (b := (A 38)) rfl rfl else if k3 : q = 39 then by subst k3; exact Eq.trans (b := (A 39)) rfl rfl else by unfold uA; simp only [nb1 k0, nb1 k1, nb1 k2, nb1 k3, cond_false]) rfl K)
    · have h2 : ¬ x2 = 10 := h
      rw [if_neg h2] at hE
      refine w_n 3 (pc1 := 22) (ls1 := [some (.ref 0), some (.int x1), some (.int x2), none]) (st1 := [.int x2, .ref 3]) (hp1 := (hz F A L)) rfl ?_
      refine w_c rfl rfl (t_kt_isMeasure ?_)
      show wl_E f _ _ mm114.2.2.2.2.2.2.2.2 25 [some (.ref 0), some (.int x1), some (.int x2), none] [.int (kt_isMeasure (F 3 0) x2)] (hz F A L) _
      generalize hG400 : (kt_isMeasure (F 3 0) x2) = G400 at hE ⊢
      refine w_zne (p3 := 28) rfl rfl (fun h => ?_) (fun h => ?_)
      · have h4 : ¬ G400 = 0 := h
        rw [if_neg h4] at hE
        refine w_n 4 (pc1 := 39) (ls1 := [some (.ref 0), some (.int x1), some (.int x2), none]) (st1 := [.int 6, .int (F 3 0)]) (hp1 := (hz F A L)) rfl ?_
        refine w_ne (p3 := 42) rfl rfl (fun h => ?_) (fun h => ?_)
        · have h5 : ¬ (F 3 0) = 6 := h
          rw [if_neg h5] at hE
          refine w_n 3 (pc1 := 50) (ls1 := [some (.ref 0), some (.int x1), some (.int x2), none]) (st1 := [.int x1, .ref 30]) (hp1 := (hz F A L)) rfl ?_
          refine w_c rfl rfl (t_kv_countLies hh0 ?_)
          show wl_E f _ _ mm114.2.2.2.2.2.2.2.2 53 [some (.ref 0), some (.int x1), some (.int x2), none] [.int (kv_countLies f (F 3 0) (F 3 1) (A 6) (A 35) (A 36) (A 38) (A 39) (L 11) x1).1] (hz F (uA (uA (uA (uA A 35 (kv_countLies f (F 3 0) (F 3 1) (A 6) (A 35) (A 36) (A 38) (A 39) (L 11) x1).2.1) 36 (kv_countLies f (F 3 0) (F 3 1) (A 6) (A 35) (A 36) (A 38) (A 39) (L 11) x1).2.2.1) 38 (kv_countLies f (F 3 0) (F 3 1) (A 6) (A 35) (A 36) (A 38) (A 39) (L 11) x1).2.2.2.1) 39 (kv_countLies f (F 3 0) (F 3 1) (A 6) (A 35) (A 36) (A 38) (A 39) (L 11) x1).2.2.2.2) L) _
          generalize hG401 : (kv_countLies f (F 3 0) (F 3 1) (A 6) (A 35) (A 36) (A 38) (A 39) (L 11) x1) = G401 at hE ⊢
          refine w_n 3 (pc1 := 57) (ls1 := [some (.ref 0), some (.int x1), some (.int x2), some (.int G401.1)]) (st1 := [.int 10, .int x2]) (hp1 := (hz F (uA (uA (uA (uA A 35 G401.2.1) 36 G401.2.2.1) 38 G401.2.2.2.1) 39 G401.2.2.2.2) L)) rfl ?_
          refine w_ne (p3 := 60) rfl rfl (fun _ => ?_) (fun h => absurd h h2)
          refine w_n 1 (pc1 := 63) (ls1 := [some (.ref 0), some (.int x1), some (.int x2), some (.int G401.1)]) (st1 := [.int G401.1]) (hp1 := (hz F (uA (uA (uA (uA A 35 G401.2.1) 36 G401.2.2.1) 38 G401.2.2.2.1) 39 G401.2.2.2.2) L)) rfl ?_
          refine w_zne (p3 := 66) rfl rfl (fun h => ?_) (fun h => ?_)
          · have h6 : ¬ G401.1 = 0 := h
            rw [if_neg h6] at hE
            refine w_n 4 (pc1 := 79) (ls1 := [some (.ref 0), some (.int x1), some (.int x2), some (.int G401.1)]) (st1 := [.int x2, .ref 39]) (hp1 := (hz F (uA (uA (uA (uA A 35 G401.2.1) 36 G401.2.2.1) 38 G401.2.2.2.1) 39 G401.2.2.2.2) L)) rfl ?_
            refine w_al (k := 39) (l := G401.2.2.2.2) rfl rfl rfl (fun _ => ?_)
            subst T
            exact w_ri rfl (cvQ rfl rfl rfl K)
          · have h6 : G401.1 = 0 := h
            rw [if_pos h6] at hE
            refine w_n 2 (pc1 := 80) (ls1 := [some (.ref 0), some (.int x1), some (.int x2), some (.int G401.1)]) (st1 := [.int (-2)]) (hp1 := (hz F (uA (uA (uA (uA A 35 G401.2.1) 36 G401.2.2.1) 38 G401.2.2.2.1) 39 G401.2.2.2.2) L)) rfl ?_
            subst T
            exact w_ri rfl (cvQ rfl rfl rfl K)
        · have h5 : (F 3 0) = 6 := h
          rw [if_pos h5] at hE
          refine w_n 1 (pc1 := 44) (ls1 := [some (.ref 0), some (.int x1), some (.int x2), none]) (st1 := [.int (-3)]) (hp1 := (hz F A L)) rfl ?_
          subst T
          exact w_ri rfl (cvQ rfl (funext fun q => if k0 : q = 35 then by subst k0; exact Eq.trans (b := (A 35)) rfl rfl else if k1 : q = 36 then by subst k1; exact Eq.trans (b := (A 36)) rfl rfl else if k2 : q = 38 then by subst k2; exact Eq.trans (b := (A 38)) rfl rfl else if k3 : q = 39 then by subst k3; exact Eq.trans (b := (A 39)) rfl rfl else by unfold uA; simp only [nb1 k0, nb1 k1, nb1 k2, nb1 k3, cond_false]) rfl K)
      · have h4 : G400 = 0 := h
        rw [if_pos h4] at hE
        refine w_n 1 (pc1 := 29) (ls1 := [some (.ref 0), some (.int x1), some (.int x2), none]) (st1 := [.int (-1)]) (hp1 := (hz F A L)) rfl ?_
        subst T
        exact w_ri rfl (cvQ rfl (funext fun q => if k0 : q = 35 then by subst k0; exact Eq.trans (b := (A 35)) rfl rfl else if k1 : q = 36 then by subst k1; exact Eq.trans (b := (A 36)) rfl rfl else if k2 : q = 38 then by subst k2; exact Eq.trans (b := (A 38)) rfl rfl else if k3 : q = 39 then by subst k3; exact Eq.trans (b := (A 39)) rfl rfl else by unfold uA; simp only [nb1 k0, nb1 k1, nb1 k2, nb1 k3, cond_false]) rfl K)
