/-! lifts, printed by genlift.py: 7 -/
noncomputable def km_comesTo (f : Nat) (a78 : List Int32) (a83 : List Int32) (a84 : List Int32) (x1 : Int32) (x2 : Int32) : Int32 × List Int32 := (km_comesTo_16 a78 a84 x2 (260 * (x1 / 260)) f 0 x1 a83)
theorem t_km_comesTo {f D : Nat} {F : Nat → Nat → Int32} {A : Nat → List Int32} {L : Nat → List Int64} {Q : Option Value → sm_H → Prop} {x1 : Int32} {x2 : Int32} (K : Q (some (.int ((km_comesTo f (A 78) (A 83) (A 84) x1 x2).1))) (hz F (uA A 83 ((km_comesTo f (A 78) (A 83) (A 84) x1 x2).2)) L)) : wl_M f D 181 [.ref 67, .int x1, .int x2] (hz F A L) Q := by
  generalize hT : (km_comesTo f (A 78) (A 83) (A 84) x1 x2) = T at K
  have hE : T = (km_comesTo_16 (A 78) (A 84) x2 (260 * (x1 / 260)) f 0 x1 (A 83)) := hT.symm
  clear hT
  refine w_m (E := mm181) rfl ?_
  show wl_E f f (D - 1) mm181.2.2.2.2.2.2.2.2 0 [some (.ref 67), some (.int x1), some (.int x2), none, none, none, none, none] [] (hz F A L) Q
  refine w_n 5 (pc1 := 9) (ls1 := [some (.ref 67), some (.int x1), some (.int x2), some (.int 0), none, none, none, none]) (st1 := [.int 260, .int x1, .int 260]) (hp1 := (hz F A L)) rfl ?_
  refine w_dv rfl rfl (fun _ => ?_)
  refine w_n 4 (pc1 := 16) (ls1 := [some (.ref 67), some (.int x1), some (.int x2), some (.int 0), some (.int (260 * (x1 / 260))), some (.int x1), none, none]) (st1 := []) (hp1 := (hz F A L)) rfl ?_
  subst T
  exact t_km_comesTo_16 _ _ (Nat.le_refl _) (cvQ rfl (funext fun q => if k0 : q = 83 then by subst k0; exact Eq.trans (b := (km_comesTo_16 (A 78) (A 84) x2 (260 * (x1 / 260)) f 0 x1 (A 83)).2) rfl rfl else by unfold uA; simp only [nb1 k0, cond_false]) rfl K)
noncomputable def km_byLaw_2 (f : Nat) (a78 : List Int32) (a79 : List Int32) (a80 : List Int32) (a81 : List Int32) (a82 : List Int32) (a84 : List Int32) (x1 : Int32) (x2 : Int32) : Nat → Int32 → List Int32 → Int32 × List Int32
  | 0, _, a83 => (0, a83)
  | m + 1, y3, a83 => (if (a79.getD y3.toInt.toNat 0) = x1 then (if (km_comesTo f a78 a83 a84 (a81.getD y3.toInt.toNat 0) (a82.getD y3.toInt.toNat 0)).1 = 1 then (if (km_comesTo f a78 (km_comesTo f a78 a83 a84 (a81.getD y3.toInt.toNat 0) (a82.getD y3.toInt.toNat 0)).2 a84 (a80.getD y3.toInt.toNat 0) (a81.getD y3.toInt.toNat 0)).1.toInt < 0 then (0, (km_comesTo f a78 (km_comesTo f a78 a83 a84 (a81.getD y3.toInt.toNat 0) (a82.getD y3.toInt.toNat 0)).2 a84 (a80.getD y3.toInt.toNat 0) (a81.getD y3.toInt.toNat 0)).2) else (if x2.toInt < (km_comesTo f a78 (km_comesTo f a78 a83 a84 (a81.getD y3.toInt.toNat 0) (a82.getD y3.toInt.toNat 0)).2 a84 (a80.getD y3.toInt.toNat 0) (a81.getD y3.toInt.toNat 0)).1.toInt then (x2, (km_comesTo f a78 (km_comesTo f a78 a83 a84 (a81.getD y3.toInt.toNat 0) (a82.getD y3.toInt.toNat 0)).2 a84 (a80.getD y3.toInt.toNat 0) (a81.getD y3.toInt.toNat 0)).2) else ((km_comesTo f a78 (km_comesTo f a78 a83 a84 (a81.getD y3.toInt.toNat 0) (a82.getD y3.toInt.toNat 0)).2 a84 (a80.getD y3.toInt.toNat 0) (a81.getD y3.toInt.toNat 0)).1, (km_comesTo f a78 (km_comesTo f a78 a83 a84 (a81.getD y3.toInt.toNat 0) (a82.getD y3.toInt.toNat 0)).2 a84 (a80.getD y3.toInt.toNat 0) (a81.getD y3.toInt.toNat 0)).2))) else (km_byLaw_2 f a78 a79 a80 a81 a82 a84 x1 x2 m (y3 + 1) (km_comesTo f a78 a83 a84 (a81.getD y3.toInt.toNat 0) (a82.getD y3.toInt.toNat 0)).2)) else (km_byLaw_2 f a78 a79 a80 a81 a82 a84 x1 x2 m (y3 + 1) a83))
theorem t_km_byLaw_2 {f : Nat} {Q : Option Value → sm_H → Prop} : ∀ (m : Nat) {B D : Nat} {F : Nat → Nat → Int32} {A : Nat → List Int32} {L : Nat → List Int64} {x1 : Int32} {x2 : Int32} {y3 : Int32} {o4 : Option Value}, m = ((F 67 17).toInt - y3.toInt).toNat → (Q (some (.int ((km_byLaw_2 f (A 78) (A 79) (A 80) (A 81) (A 82) (A 84) x1 x2 m y3 (A 83)).1))) (hz F (uA A 83 ((km_byLaw_2 f (A 78) (A 79) (A 80) (A 81) (A 82) (A 84) x1 x2 m y3 (A 83)).2)) L)) → wl_E f B D mm180.2.2.2.2.2.2.2.2 2 [some (.ref 67), some (.int x1), some (.int x2), some (.int y3), o4] [] (hz F A L) Q := by
  intro m
  induction m with
  | zero =>
    intro B D F A L x1 x2 y3 o4 hm K
    generalize hT : (km_byLaw_2 f (A 78) (A 79) (A 80) (A 81) (A 82) (A 84) x1 x2 0 y3 (A 83)) = T at K
    have hE : T = (0, (A 83)) := hT.symm
    clear hT
    refine w_n 3 (pc1 := 7) (ls1 := [some (.ref 67), some (.int x1), some (.int x2), some (.int y3), o4]) (st1 := [.int (F 67 17), .int y3]) (hp1 := (hz F A L)) rfl ?_
    refine w_ge (p3 := 10) rfl rfl (fun hb => ?_) (fun h => False.elim (by have h : y3.toInt < (F 67 17).toInt := h; omega))
    refine w_n 1 (pc1 := 90) (ls1 := [some (.ref 67), some (.int x1), some (.int x2), some (.int y3), o4]) (st1 := [.int 0]) (hp1 := (hz F A L)) rfl ?_
    subst T
    exact w_ri rfl (cvQ rfl (funext fun q => if k0 : q = 83 then by subst k0; exact Eq.trans (b := (A 83)) rfl rfl else by unfold uA; simp only [nb1 k0, cond_false]) rfl K)
  | succ m ih =>
    intro B D F A L x1 x2 y3 o4 hm K
    generalize hT : (km_byLaw_2 f (A 78) (A 79) (A 80) (A 81) (A 82) (A 84) x1 x2 (m + 1) y3 (A 83)) = T at K
    have hE : T = (if ((A 79).getD y3.toInt.toNat 0) = x1 then (if (km_comesTo f (A 78) (A 83) (A 84) ((A 81).getD y3.toInt.toNat 0) ((A 82).getD y3.toInt.toNat 0)).1 = 1 then (if (km_comesTo f (A 78) (km_comesTo f (A 78) (A 83) (A 84) ((A 81).getD y3.toInt.toNat 0) ((A 82).getD y3.toInt.toNat 0)).2 (A 84) ((A 80).getD y3.toInt.toNat 0) ((A 81).getD y3.toInt.toNat 0)).1.toInt < 0 then (0, (km_comesTo f (A 78) (km_comesTo f (A 78) (A 83) (A 84) ((A 81).getD y3.toInt.toNat 0) ((A 82).getD y3.toInt.toNat 0)).2 (A 84) ((A 80).getD y3.toInt.toNat 0) ((A 81).getD y3.toInt.toNat 0)).2) else (if x2.toInt < (km_comesTo f (A 78) (km_comesTo f (A 78) (A 83) (A 84) ((A 81).getD y3.toInt.toNat 0) ((A 82).getD y3.toInt.toNat 0)).2 (A 84) ((A 80).getD y3.toInt.toNat 0) ((A 81).getD y3.toInt.toNat 0)).1.toInt then (x2, (km_comesTo f (A 78) (km_comesTo f (A 78) (A 83) (A 84) ((A 81).getD y3.toInt.toNat 0) ((A 82).getD y3.toInt.toNat 0)).2 (A 84) ((A 80).getD y3.toInt.toNat 0) ((A 81).getD y3.toInt.toNat 0)).2) else ((km_comesTo f (A 78) (km_comesTo f (A 78) (A 83) (A 84) ((A 81).getD y3.toInt.toNat 0) ((A 82).getD y3.toInt.toNat 0)).2 (A 84) ((A 80).getD y3.toInt.toNat 0) ((A 81).getD y3.toInt.toNat 0)).1, (km_comesTo f (A 78) (km_comesTo f (A 78) (A 83) (A 84) ((A 81).getD y3.toInt.toNat 0) ((A 82).getD y3.toInt.toNat 0)).2 (A 84) ((A 80).getD y3.toInt.toNat 0) ((A 81).getD y3.toInt.toNat 0)).2))) else (km_byLaw_2 f (A 78) (A 79) (A 80) (A 81) (A 82) (A 84) x1 x2 m (y3 + 1) (km_comesTo f (A 78) (A 83) (A 84) ((A 81).getD y3.toInt.toNat 0) ((A 82).getD y3.toInt.toNat 0)).2)) else (km_byLaw_2 f (A 78) (A 79) (A 80) (A 81) (A 82) (A 84) x1 x2 m (y3 + 1) (A 83))) := hT.symm
    clear hT
    refine w_n 3 (pc1 := 7) (ls1 := [some (.ref 67), some (.int x1), some (.int x2), some (.int y3), o4]) (st1 := [.int (F 67 17), .int y3]) (hp1 := (hz F A L)) rfl ?_
    refine w_ge (p3 := 10) rfl rfl (fun h => False.elim (by have h : (F 67 17).toInt ≤ y3.toInt := h; omega)) (fun hb => ?_)
    refine w_n 3 (pc1 := 15) (ls1 := [some (.ref 67), some (.int x1), some (.int x2), some (.int y3), o4]) (st1 := [.int y3, .ref 79]) (hp1 := (hz F A L)) rfl ?_
    refine w_al (k := 79) (l := (A 79)) rfl rfl rfl (fun ab => ?_)
    refine w_n 1 (pc1 := 17) (ls1 := [some (.ref 67), some (.int x1), some (.int x2), some (.int y3), o4]) (st1 := [.int x1, .int ((A 79).getD y3.toInt.toNat 0)]) (hp1 := (hz F A L)) rfl ?_
    refine w_ne (p3 := 20) rfl rfl (fun h => ?_) (fun h => ?_)
    · have h1 : ¬ ((A 79).getD y3.toInt.toNat 0) = x1 := h
      rw [if_neg h1] at hE
      refine w_n 2 (pc1 := 2) (ls1 := [some (.ref 67), some (.int x1), some (.int x2), some (.int (y3 + 1)), o4]) (st1 := []) (hp1 := (hz F A L)) rfl ?_
      subst T
      have hb2 := i_up (B := (F 67 17)) hb
      have hb3 : y3.toInt < (F 67 17).toInt := hb
      exact ih (show m = ((F 67 17).toInt - (y3 + 1).toInt).toNat by rw [hb2]; omega) (cvQ rfl (funext fun q => if k0 : q = 83 then by subst k0; exact Eq.trans (b := (km_byLaw_2 f (A 78) (A 79) (A 80) (A 81) (A 82) (A 84) x1 x2 m (y3 + 1) (A 83)).2) rfl rfl else by unfold uA; simp only [nb1 k0, cond_false]) rfl K)
    · have h1 : ((A 79).getD y3.toInt.toNat 0) = x1 := h
      rw [if_pos h1] at hE
      refine w_n 4 (pc1 := 26) (ls1 := [some (.ref 67), some (.int x1), some (.int x2), some (.int y3), o4]) (st1 := [.int y3, .ref 81, .ref 67]) (hp1 := (hz F A L)) rfl ?_
      refine w_al (k := 81) (l := (A 81)) rfl rfl rfl (fun ab => ?_)
      refine w_n 3 (pc1 := 32) (ls1 := [some (.ref 67), some (.int x1), some (.int x2), some (.int y3), o4]) (st1 := [.int y3, .ref 82, .int ((A 81).getD y3.toInt.toNat 0), .ref 67]) (hp1 := (hz F A L)) rfl ?_
      refine w_al (k := 82) (l := (A 82)) rfl rfl rfl (fun ab => ?_)
      refine w_c rfl rfl (t_km_comesTo ?_)
      show wl_E f _ _ mm180.2.2.2.2.2.2.2.2 36 [some (.ref 67), some (.int x1), some (.int x2), some (.int y3), o4] [.int (km_comesTo f (A 78) (A 83) (A 84) ((A 81).getD y3.toInt.toNat 0) ((A 82).getD y3.toInt.toNat 0)).1] (hz F (uA A 83 (km_comesTo f (A 78) (A 83) (A 84) ((A 81).getD y3.toInt.toNat 0) ((A 82).getD y3.toInt.toNat 0)).2) L) _
      generalize hG202 : (km_comesTo f (A 78) (A 83) (A 84) ((A 81).getD y3.toInt.toNat 0) ((A 82).getD y3.toInt.toNat 0)) = G202 at hE ⊢
      refine w_n 1 (pc1 := 37) (ls1 := [some (.ref 67), some (.int x1), some (.int x2), some (.int y3), o4]) (st1 := [.int 1, .int G202.1]) (hp1 := (hz F (uA A 83 G202.2) L)) rfl ?_
      refine w_eq (p3 := 40) rfl rfl (fun h => ?_) (fun h => ?_)
      · have h2 : G202.1 = 1 := h
        rw [if_pos h2] at hE
        refine w_n 4 (pc1 := 49) (ls1 := [some (.ref 67), some (.int x1), some (.int x2), some (.int y3), o4]) (st1 := [.int y3, .ref 80, .ref 67]) (hp1 := (hz F (uA A 83 G202.2) L)) rfl ?_
        refine w_al (k := 80) (l := (A 80)) rfl rfl rfl (fun ab => ?_)
        refine w_n 3 (pc1 := 55) (ls1 := [some (.ref 67), some (.int x1), some (.int x2), some (.int y3), o4]) (st1 := [.int y3, .ref 81, .int ((A 80).getD y3.toInt.toNat 0), .ref 67]) (hp1 := (hz F (uA A 83 G202.2) L)) rfl ?_
        refine w_al (k := 81) (l := (A 81)) rfl rfl rfl (fun ab => ?_)
        refine w_c rfl rfl (t_km_comesTo ?_)
        show wl_E f _ _ mm180.2.2.2.2.2.2.2.2 59 [some (.ref 67), some (.int x1), some (.int x2), some (.int y3), o4] [.int (km_comesTo f (A 78) G202.2 (A 84) ((A 80).getD y3.toInt.toNat 0) ((A 81).getD y3.toInt.toNat 0)).1] (hz F (uA (uA A 83 G202.2) 83 (km_comesTo f (A 78) G202.2 (A 84) ((A 80).getD y3.toInt.toNat 0) ((A 81).getD y3.toInt.toNat 0)).2) L) _
        generalize hG203 : (km_comesTo f (A 78) G202.2 (A 84) ((A 80).getD y3.toInt.toNat 0) ((A 81).getD y3.toInt.toNat 0)) = G203 at hE ⊢
        refine w_n 2 (pc1 := 63) (ls1 := [some (.ref 67), some (.int x1), some (.int x2), some (.int y3), some (.int G203.1)]) (st1 := [.int G203.1]) (hp1 := (hz F (uA (uA A 83 G202.2) 83 G203.2) L)) rfl ?_
        refine w_zge (p3 := 66) rfl rfl (fun h => ?_) (fun h => ?_)
        · have h3 : 0 ≤ G203.1.toInt := h
          rw [if_neg (Int.not_lt.mpr h3)] at hE
          refine w_n 2 (pc1 := 73) (ls1 := [some (.ref 67), some (.int x1), some (.int x2), some (.int y3), some (.int G203.1)]) (st1 := [.int x2, .int G203.1]) (hp1 := (hz F (uA (uA A 83 G202.2) 83 G203.2) L)) rfl ?_
          refine w_le (p3 := 76) rfl rfl (fun h => ?_) (fun h => ?_)
          · have h4 : G203.1.toInt ≤ x2.toInt := h
            rw [if_neg (Int.not_lt.mpr h4)] at hE
            refine w_n 1 (pc1 := 82) (ls1 := [some (.ref 67), some (.int x1), some (.int x2), some (.int y3), some (.int G203.1)]) (st1 := [.int G203.1]) (hp1 := (hz F (uA (uA A 83 G202.2) 83 G203.2) L)) rfl ?_
            subst T
            exact w_ri rfl (cvQ rfl (funext fun q => if k0 : q = 83 then by subst k0; exact Eq.trans (b := G203.2) rfl rfl else by unfold uA; simp only [nb1 k0, cond_false]) rfl K)
          · have h4 : x2.toInt < G203.1.toInt := h
            rw [if_pos h4] at hE
            refine w_n 2 (pc1 := 82) (ls1 := [some (.ref 67), some (.int x1), some (.int x2), some (.int y3), some (.int G203.1)]) (st1 := [.int x2]) (hp1 := (hz F (uA (uA A 83 G202.2) 83 G203.2) L)) rfl ?_
            subst T
            exact w_ri rfl (cvQ rfl (funext fun q => if k0 : q = 83 then by subst k0; exact Eq.trans (b := G203.2) rfl rfl else by unfold uA; simp only [nb1 k0, cond_false]) rfl K)
        · have h3 : G203.1.toInt < 0 := h
          rw [if_pos h3] at hE
          refine w_n 2 (pc1 := 82) (ls1 := [some (.ref 67), some (.int x1), some (.int x2), some (.int y3), some (.int G203.1)]) (st1 := [.int 0]) (hp1 := (hz F (uA (uA A 83 G202.2) 83 G203.2) L)) rfl ?_
          subst T
          exact w_ri rfl (cvQ rfl (funext fun q => if k0 : q = 83 then by subst k0; exact Eq.trans (b := G203.2) rfl rfl else by unfold uA; simp only [nb1 k0, cond_false]) rfl K)
      · have h2 : ¬ G202.1 = 1 := h
        rw [if_neg h2] at hE
        refine w_n 3 (pc1 := 2) (ls1 := [some (.ref 67), some (.int x1), some (.int x2), some (.int (y3 + 1)), o4]) (st1 := []) (hp1 := (hz F (uA A 83 G202.2) L)) rfl ?_
        subst T
        have hb2 := i_up (B := (F 67 17)) hb
        have hb3 : y3.toInt < (F 67 17).toInt := hb
        exact ih (show m = ((F 67 17).toInt - (y3 + 1).toInt).toNat by rw [hb2]; omega) (cvQ rfl (funext fun q => if k0 : q = 83 then by subst k0; exact Eq.trans (b := (km_byLaw_2 f (A 78) (A 79) (A 80) (A 81) (A 82) (A 84) x1 x2 m (y3 + 1) G202.2).2) rfl rfl else by unfold uA; simp only [nb1 k0, cond_false]) rfl K)
noncomputable def km_byLaw (f : Nat) (f67_17 : Int32) (a78 : List Int32) (a79 : List Int32) (a80 : List Int32) (a81 : List Int32) (a82 : List Int32) (a83 : List Int32) (a84 : List Int32) (x1 : Int32) (x2 : Int32) : Int32 × List Int32 := (km_byLaw_2 f a78 a79 a80 a81 a82 a84 x1 x2 f67_17.toInt.toNat 0 a83)
theorem t_km_byLaw {f D : Nat} {F : Nat → Nat → Int32} {A : Nat → List Int32} {L : Nat → List Int64} {Q : Option Value → sm_H → Prop} {x1 : Int32} {x2 : Int32} (K : Q (some (.int ((km_byLaw f (F 67 17) (A 78) (A 79) (A 80) (A 81) (A 82) (A 83) (A 84) x1 x2).1))) (hz F (uA A 83 ((km_byLaw f (F 67 17) (A 78) (A 79) (A 80) (A 81) (A 82) (A 83) (A 84) x1 x2).2)) L)) : wl_M f D 180 [.ref 67, .int x1, .int x2] (hz F A L) Q := by
  generalize hT : (km_byLaw f (F 67 17) (A 78) (A 79) (A 80) (A 81) (A 82) (A 83) (A 84) x1 x2) = T at K
  have hE : T = (km_byLaw_2 f (A 78) (A 79) (A 80) (A 81) (A 82) (A 84) x1 x2 (F 67 17).toInt.toNat 0 (A 83)) := hT.symm
  clear hT
  refine w_m (E := mm180) rfl ?_
  show wl_E f f (D - 1) mm180.2.2.2.2.2.2.2.2 0 [some (.ref 67), some (.int x1), some (.int x2), none, none] [] (hz F A L) Q
  refine w_n 2 (pc1 := 2) (ls1 := [some (.ref 67), some (.int x1), some (.int x2), some (.int 0), none]) (st1 := []) (hp1 := (hz F A L)) rfl ?_
  subst T
  exact t_km_byLaw_2 _ (show (F 67 17).toInt.toNat = ((F 67 17).toInt - (0 : Int32).toInt).toNat by have e0 : (0 : Int32).toInt = 0 := rfl; first | rfl | omega) (cvQ rfl (funext fun q => if k0 : q = 83 then by subst k0; exact Eq.trans (b := (km_byLaw_2 f (A 78) (A 79) (A 80) (A 81) (A 82) (A 84) x1 x2 (F 67 17).toInt.toNat 0 (A 83)).2) rfl rfl else by unfold uA; simp only [nb1 k0, cond_false]) rfl K)
noncomputable def km_spillsBy (f : Nat) (f67_17 : Int32) (a68 : List Int32) (a78 : List Int32) (a79 : List Int32) (a80 : List Int32) (a81 : List Int32) (a82 : List Int32) (a83 : List Int32) (a84 : List Int32) : Int32 × List Int32 × List Int32 := ((km_byLaw f f67_17 a78 a79 a80 a81 a82 a83 (km_feelsOne a68 a84 (a68.getD 145 0)) 100 10).1, (km_byLaw f f67_17 a78 a79 a80 a81 a82 a83 (km_feelsOne a68 a84 (a68.getD 145 0)) 100 10).2, (km_feelsOne a68 a84 (a68.getD 145 0)))
theorem t_km_spillsBy {f D : Nat} {F : Nat → Nat → Int32} {A : Nat → List Int32} {L : Nat → List Int64} {Q : Option Value → sm_H → Prop} (K : Q (some (.int ((km_spillsBy f (F 67 17) (A 68) (A 78) (A 79) (A 80) (A 81) (A 82) (A 83) (A 84)).1))) (hz F (uA (uA A 83 ((km_spillsBy f (F 67 17) (A 68) (A 78) (A 79) (A 80) (A 81) (A 82) (A 83) (A 84)).2.1)) 84 ((km_spillsBy f (F 67 17) (A 68) (A 78) (A 79) (A 80) (A 81) (A 82) (A 83) (A 84)).2.2)) L)) : wl_M f D 178 [.ref 67] (hz F A L) Q := by
  generalize hT : (km_spillsBy f (F 67 17) (A 68) (A 78) (A 79) (A 80) (A 81) (A 82) (A 83) (A 84)) = T at K
  have hE : T = ((km_byLaw f (F 67 17) (A 78) (A 79) (A 80) (A 81) (A 82) (A 83) (km_feelsOne (A 68) (A 84) ((A 68).getD 145 0)) 100 10).1, (km_byLaw f (F 67 17) (A 78) (A 79) (A 80) (A 81) (A 82) (A 83) (km_feelsOne (A 68) (A 84) ((A 68).getD 145 0)) 100 10).2, (km_feelsOne (A 68) (A 84) ((A 68).getD 145 0))) := hT.symm
  clear hT
  refine w_m (E := mm178) rfl ?_
  show wl_E f f (D - 1) mm178.2.2.2.2.2.2.2.2 0 [some (.ref 67)] [] (hz F A L) Q
  refine w_n 4 (pc1 := 8) (ls1 := [some (.ref 67)]) (st1 := [.int 145, .ref 68, .ref 67]) (hp1 := (hz F A L)) rfl ?_
  refine w_al (k := 68) (l := (A 68)) rfl rfl rfl (fun _ => ?_)
  refine w_c rfl rfl (t_km_feelsOne ?_)
  show wl_E f _ _ mm178.2.2.2.2.2.2.2.2 12 [some (.ref 67)] [] (hz F (uA A 84 (km_feelsOne (A 68) (A 84) ((A 68).getD 145 0))) L) _
  generalize hG198 : (km_feelsOne (A 68) (A 84) ((A 68).getD 145 0)) = G198 at hE ⊢
  refine w_n 3 (pc1 := 17) (ls1 := [some (.ref 67)]) (st1 := [.int 10, .int 100, .ref 67]) (hp1 := (hz F (uA A 84 G198) L)) rfl ?_
  refine w_c rfl rfl (t_km_byLaw ?_)
  show wl_E f _ _ mm178.2.2.2.2.2.2.2.2 20 [some (.ref 67)] [.int (km_byLaw f (F 67 17) (A 78) (A 79) (A 80) (A 81) (A 82) (A 83) G198 100 10).1] (hz F (uA (uA A 84 G198) 83 (km_byLaw f (F 67 17) (A 78) (A 79) (A 80) (A 81) (A 82) (A 83) G198 100 10).2) L) _
  generalize hG204 : (km_byLaw f (F 67 17) (A 78) (A 79) (A 80) (A 81) (A 82) (A 83) G198 100 10) = G204 at hE ⊢
  subst T
  exact w_ri rfl (cvQ rfl (funext fun q => if k0 : q = 83 then by subst k0; exact Eq.trans (b := G204.2) rfl rfl else if k1 : q = 84 then by subst k1; exact Eq.trans (b := G198) rfl rfl else by unfold uA; simp only [nb1 k0, nb1 k1, cond_false]) rfl K)
noncomputable def km_coolsBy (f : Nat) (f67_17 : Int32) (a68 : List Int32) (a78 : List Int32) (a79 : List Int32) (a80 : List Int32) (a81 : List Int32) (a82 : List Int32) (a83 : List Int32) (a84 : List Int32) : Int32 × List Int32 × List Int32 := ((km_byLaw f f67_17 a78 a79 a80 a81 a82 a83 (km_feelsOne a68 a84 (a68.getD 145 0)) 107 20).1, (km_byLaw f f67_17 a78 a79 a80 a81 a82 a83 (km_feelsOne a68 a84 (a68.getD 145 0)) 107 20).2, (km_feelsOne a68 a84 (a68.getD 145 0)))
theorem t_km_coolsBy {f D : Nat} {F : Nat → Nat → Int32} {A : Nat → List Int32} {L : Nat → List Int64} {Q : Option Value → sm_H → Prop} (K : Q (some (.int ((km_coolsBy f (F 67 17) (A 68) (A 78) (A 79) (A 80) (A 81) (A 82) (A 83) (A 84)).1))) (hz F (uA (uA A 83 ((km_coolsBy f (F 67 17) (A 68) (A 78) (A 79) (A 80) (A 81) (A 82) (A 83) (A 84)).2.1)) 84 ((km_coolsBy f (F 67 17) (A 68) (A 78) (A 79) (A 80) (A 81) (A 82) (A 83) (A 84)).2.2)) L)) : wl_M f D 183 [.ref 67] (hz F A L) Q := by
  generalize hT : (km_coolsBy f (F 67 17) (A 68) (A 78) (A 79) (A 80) (A 81) (A 82) (A 83) (A 84)) = T at K
  have hE : T = ((km_byLaw f (F 67 17) (A 78) (A 79) (A 80) (A 81) (A 82) (A 83) (km_feelsOne (A 68) (A 84) ((A 68).getD 145 0)) 107 20).1, (km_byLaw f (F 67 17) (A 78) (A 79) (A 80) (A 81) (A 82) (A 83) (km_feelsOne (A 68) (A 84) ((A 68).getD 145 0)) 107 20).2, (km_feelsOne (A 68) (A 84) ((A 68).getD 145 0))) := hT.symm
  clear hT
  refine w_m (E := mm183) rfl ?_
  show wl_E f f (D - 1) mm183.2.2.2.2.2.2.2.2 0 [some (.ref 67)] [] (hz F A L) Q
  refine w_n 4 (pc1 := 8) (ls1 := [some (.ref 67)]) (st1 := [.int 145, .ref 68, .ref 67]) (hp1 := (hz F A L)) rfl ?_
  refine w_al (k := 68) (l := (A 68)) rfl rfl rfl (fun _ => ?_)
  refine w_c rfl rfl (t_km_feelsOne ?_)
  show wl_E f _ _ mm183.2.2.2.2.2.2.2.2 12 [some (.ref 67)] [] (hz F (uA A 84 (km_feelsOne (A 68) (A 84) ((A 68).getD 145 0))) L) _
  generalize hG206 : (km_feelsOne (A 68) (A 84) ((A 68).getD 145 0)) = G206 at hE ⊢
  refine w_n 3 (pc1 := 17) (ls1 := [some (.ref 67)]) (st1 := [.int 20, .int 107, .ref 67]) (hp1 := (hz F (uA A 84 G206) L)) rfl ?_
  refine w_c rfl rfl (t_km_byLaw ?_)
  show wl_E f _ _ mm183.2.2.2.2.2.2.2.2 20 [some (.ref 67)] [.int (km_byLaw f (F 67 17) (A 78) (A 79) (A 80) (A 81) (A 82) (A 83) G206 107 20).1] (hz F (uA (uA A 84 G206) 83 (km_byLaw f (F 67 17) (A 78) (A 79) (A 80) (A 81) (A 82) (A 83) G206 107 20).2) L) _
  generalize hG207 : (km_byLaw f (F 67 17) (A 78) (A 79) (A 80) (A 81) (A 82) (A 83) G206 107 20) = G207 at hE ⊢
  subst T
  exact w_ri rfl (cvQ rfl (funext fun q => if k0 : q = 83 then by subst k0; exact Eq.trans (b := G207.2) rfl rfl else if k1 : q = 84 then by subst k1; exact Eq.trans (b := G206) rfl rfl else by unfold uA; simp only [nb1 k0, nb1 k1, cond_false]) rfl K)
noncomputable def km_leftOf (a68 : List Int32) (x1 : Int32) (x2 : Int32) : Int32 := ((((a68.getD (0 + x2).toInt.toNat 0) - (a68.getD (0 + x1).toInt.toNat 0)) + 12) - (((a68.getD (0 + x2).toInt.toNat 0) - (a68.getD (0 + x1).toInt.toNat 0)) + 12) / 12 * 12)
theorem t_km_leftOf {f D : Nat} {F : Nat → Nat → Int32} {A : Nat → List Int32} {L : Nat → List Int64} {Q : Option Value → sm_H → Prop} {x1 : Int32} {x2 : Int32} (K : Q (some (.int (km_leftOf (A 68) x1 x2))) (hz F A L)) : wl_M f D 186 [.ref 67, .int x1, .int x2] (hz F A L) Q := by
  generalize hT : (km_leftOf (A 68) x1 x2) = T at K
  have hE : T = (((((A 68).getD (0 + x2).toInt.toNat 0) - ((A 68).getD (0 + x1).toInt.toNat 0)) + 12) - ((((A 68).getD (0 + x2).toInt.toNat 0) - ((A 68).getD (0 + x1).toInt.toNat 0)) + 12) / 12 * 12) := hT.symm
  clear hT
  refine w_m (E := mm186) rfl ?_
  show wl_E f f (D - 1) mm186.2.2.2.2.2.2.2.2 0 [some (.ref 67), some (.int x1), some (.int x2)] [] (hz F A L) Q
  refine w_n 5 (pc1 := 7) (ls1 := [some (.ref 67), some (.int x1), some (.int x2)]) (st1 := [.int (0 + x2), .ref 68]) (hp1 := (hz F A L)) rfl ?_
  refine w_al (k := 68) (l := (A 68)) rfl rfl rfl (fun _ => ?_)
  refine w_n 5 (pc1 := 15) (ls1 := [some (.ref 67), some (.int x1), some (.int x2)]) (st1 := [.int (0 + x1), .ref 68, .int ((A 68).getD (0 + x2).toInt.toNat 0)]) (hp1 := (hz F A L)) rfl ?_
  refine w_al (k := 68) (l := (A 68)) rfl rfl rfl (fun _ => ?_)
  refine w_n 4 (pc1 := 22) (ls1 := [some (.ref 67), some (.int x1), some (.int x2)]) (st1 := [.int 12, .int ((((A 68).getD (0 + x2).toInt.toNat 0) - ((A 68).getD (0 + x1).toInt.toNat 0)) + 12)]) (hp1 := (hz F A L)) rfl ?_
  refine w_rm rfl rfl (fun _ => ?_)
  subst T
  exact w_ri rfl (cvQ rfl rfl rfl K)
noncomputable def km_cupOf_36 (a68 : List Int32) (x3 : Int32) : Nat → Int32 → Int32 → Int32
  | 0, y2, _ => y2
  | m + 1, y2, y4 => (if (km_isGuest a68 y4) = 0 then (km_cupOf_36 a68 x3 m y2 (y4 + 1)) else (if y4 = (a68.getD 145 0) then (km_cupOf_36 a68 x3 m y2 (y4 + 1)) else (if (km_leftOf a68 (a68.getD 145 0) y4).toInt < x3.toInt then (km_cupOf_36 a68 x3 m (y2 + 1) (y4 + 1)) else (km_cupOf_36 a68 x3 m y2 (y4 + 1)))))
theorem t_km_cupOf_36 {f : Nat} {Q : Option Value → sm_H → Prop} : ∀ (m : Nat) {B D : Nat} {F : Nat → Nat → Int32} {A : Nat → List Int32} {L : Nat → List Int64} {x1 : Int32} {y2 : Int32} {x3 : Int32} {y4 : Int32}, m = (12 - y4.toInt).toNat → (∀ q4 : Int32, wl_E f B D mm185.2.2.2.2.2.2.2.2 93 [some (.ref 67), some (.int x1), some (.int (km_cupOf_36 (A 68) x3 m y2 y4)), some (.int x3), some (.int q4)] [] (hz F A L) Q) → wl_E f B D mm185.2.2.2.2.2.2.2.2 36 [some (.ref 67), some (.int x1), some (.int y2), some (.int x3), some (.int y4)] [] (hz F A L) Q := by
  intro m
  induction m with
  | zero =>
    intro B D F A L x1 y2 x3 y4 hm K
    generalize hT : (km_cupOf_36 (A 68) x3 0 y2 y4) = T at K
    have hE : T = y2 := hT.symm
    clear hT
    refine w_n 2 (pc1 := 40) (ls1 := [some (.ref 67), some (.int x1), some (.int y2), some (.int x3), some (.int y4)]) (st1 := [.int 12, .int y4]) (hp1 := (hz F A L)) rfl ?_
    refine w_ge (p3 := 43) rfl rfl (fun hb => ?_) (fun h => False.elim (by have h : y4.toInt < 12 := h; omega))
    subst T
    exact cvE rfl rfl rfl (K _)
  | succ m ih =>
    intro B D F A L x1 y2 x3 y4 hm K
    generalize hT : (km_cupOf_36 (A 68) x3 (m + 1) y2 y4) = T at K
    have hE : T = (if (km_isGuest (A 68) y4) = 0 then (km_cupOf_36 (A 68) x3 m y2 (y4 + 1)) else (if y4 = ((A 68).getD 145 0) then (km_cupOf_36 (A 68) x3 m y2 (y4 + 1)) else (if (km_leftOf (A 68) ((A 68).getD 145 0) y4).toInt < x3.toInt then (km_cupOf_36 (A 68) x3 m (y2 + 1) (y4 + 1)) else (km_cupOf_36 (A 68) x3 m y2 (y4 + 1))))) := hT.symm
    clear hT
    refine w_n 2 (pc1 := 40) (ls1 := [some (.ref 67), some (.int x1), some (.int y2), some (.int x3), some (.int y4)]) (st1 := [.int 12, .int y4]) (hp1 := (hz F A L)) rfl ?_
    refine w_ge (p3 := 43) rfl rfl (fun h => False.elim (by have h : 12 ≤ y4.toInt := h; omega)) (fun hb => ?_)
    refine w_n 2 (pc1 := 46) (ls1 := [some (.ref 67), some (.int x1), some (.int y2), some (.int x3), some (.int y4)]) (st1 := [.int y4, .ref 67]) (hp1 := (hz F A L)) rfl ?_
    refine w_c rfl rfl (t_km_isGuest ?_)
    show wl_E f _ _ mm185.2.2.2.2.2.2.2.2 49 [some (.ref 67), some (.int x1), some (.int y2), some (.int x3), some (.int y4)] [.int (km_isGuest (A 68) y4)] (hz F A L) _
    generalize hG211 : (km_isGuest (A 68) y4) = G211 at hE ⊢
    refine w_zeq (p3 := 52) rfl rfl (fun h => ?_) (fun h => ?_)
    · have h1 : G211 = 0 := h
      rw [if_pos h1] at hE
      refine w_n 2 (pc1 := 36) (ls1 := [some (.ref 67), some (.int x1), some (.int y2), some (.int x3), some (.int (y4 + 1))]) (st1 := []) (hp1 := (hz F A L)) rfl ?_
      subst T
      have hb2 := i_up (B := (12 : Int32)) hb
      have hb3 : y4.toInt < 12 := hb
      exact ih (show m = (12 - (y4 + 1).toInt).toNat by rw [hb2]; omega) (fun q4 => cvE rfl rfl rfl (K q4))
    · have h1 : ¬ G211 = 0 := h
      rw [if_neg h1] at hE
      refine w_n 4 (pc1 := 61) (ls1 := [some (.ref 67), some (.int x1), some (.int y2), some (.int x3), some (.int y4)]) (st1 := [.int 145, .ref 68, .int y4]) (hp1 := (hz F A L)) rfl ?_
      refine w_al (k := 68) (l := (A 68)) rfl rfl rfl (fun _ => ?_)
      refine w_eq (p3 := 65) rfl rfl (fun h => ?_) (fun h => ?_)
      · have h2 : y4 = ((A 68).getD 145 0) := h
        rw [if_pos h2] at hE
        refine w_n 2 (pc1 := 36) (ls1 := [some (.ref 67), some (.int x1), some (.int y2), some (.int x3), some (.int (y4 + 1))]) (st1 := []) (hp1 := (hz F A L)) rfl ?_
        subst T
        have hb2 := i_up (B := (12 : Int32)) hb
        have hb3 : y4.toInt < 12 := hb
        exact ih (show m = (12 - (y4 + 1).toInt).toNat by rw [hb2]; omega) (fun q4 => cvE rfl rfl rfl (K q4))
      · have h2 : ¬ y4 = ((A 68).getD 145 0) := h
        rw [if_neg h2] at hE
        refine w_n 4 (pc1 := 73) (ls1 := [some (.ref 67), some (.int x1), some (.int y2), some (.int x3), some (.int y4)]) (st1 := [.int 145, .ref 68, .ref 67]) (hp1 := (hz F A L)) rfl ?_
        refine w_al (k := 68) (l := (A 68)) rfl rfl rfl (fun _ => ?_)
        refine w_n 1 (pc1 := 76) (ls1 := [some (.ref 67), some (.int x1), some (.int y2), some (.int x3), some (.int y4)]) (st1 := [.int y4, .int ((A 68).getD 145 0), .ref 67]) (hp1 := (hz F A L)) rfl ?_
        refine w_c rfl rfl (t_km_leftOf ?_)
        show wl_E f _ _ mm185.2.2.2.2.2.2.2.2 79 [some (.ref 67), some (.int x1), some (.int y2), some (.int x3), some (.int y4)] [.int (km_leftOf (A 68) ((A 68).getD 145 0) y4)] (hz F A L) _
        generalize hG212 : (km_leftOf (A 68) ((A 68).getD 145 0) y4) = G212 at hE ⊢
        refine w_n 1 (pc1 := 80) (ls1 := [some (.ref 67), some (.int x1), some (.int y2), some (.int x3), some (.int y4)]) (st1 := [.int x3, .int G212]) (hp1 := (hz F A L)) rfl ?_
        refine w_ge (p3 := 83) rfl rfl (fun h => ?_) (fun h => ?_)
        · have h3 : x3.toInt ≤ G212.toInt := h
          rw [if_neg (Int.not_lt.mpr h3)] at hE
          refine w_n 2 (pc1 := 36) (ls1 := [some (.ref 67), some (.int x1), some (.int y2), some (.int x3), some (.int (y4 + 1))]) (st1 := []) (hp1 := (hz F A L)) rfl ?_
          subst T
          have hb2 := i_up (B := (12 : Int32)) hb
          have hb3 : y4.toInt < 12 := hb
          exact ih (show m = (12 - (y4 + 1).toInt).toNat by rw [hb2]; omega) (fun q4 => cvE rfl rfl rfl (K q4))
        · have h3 : G212.toInt < x3.toInt := h
          rw [if_pos h3] at hE
          refine w_n 6 (pc1 := 36) (ls1 := [some (.ref 67), some (.int x1), some (.int (y2 + 1)), some (.int x3), some (.int (y4 + 1))]) (st1 := []) (hp1 := (hz F A L)) rfl ?_
          subst T
          have hb2 := i_up (B := (12 : Int32)) hb
          have hb3 : y4.toInt < 12 := hb
          exact ih (show m = (12 - (y4 + 1).toInt).toNat by rw [hb2]; omega) (fun q4 => cvE rfl rfl rfl (K q4))
noncomputable def km_cupOf (a68 : List Int32) (x1 : Int32) : Int32 := (if x1 = (a68.getD 145 0) then (km_cupOf_36 a68 12 12 0 0) else (km_cupOf_36 a68 (km_leftOf a68 (a68.getD 145 0) x1) 12 0 0))
theorem t_km_cupOf {f D : Nat} {F : Nat → Nat → Int32} {A : Nat → List Int32} {L : Nat → List Int64} {Q : Option Value → sm_H → Prop} {x1 : Int32} (K : Q (some (.int (km_cupOf (A 68) x1))) (hz F A L)) : wl_M f D 185 [.ref 67, .int x1] (hz F A L) Q := by
  generalize hT : (km_cupOf (A 68) x1) = T at K
  have hE : T = (if x1 = ((A 68).getD 145 0) then (km_cupOf_36 (A 68) 12 12 0 0) else (km_cupOf_36 (A 68) (km_leftOf (A 68) ((A 68).getD 145 0) x1) 12 0 0)) := hT.symm
  clear hT
  refine w_m (E := mm185) rfl ?_
  show wl_E f f (D - 1) mm185.2.2.2.2.2.2.2.2 0 [some (.ref 67), some (.int x1), none, none, none] [] (hz F A L) Q
  refine w_n 6 (pc1 := 10) (ls1 := [some (.ref 67), some (.int x1), some (.int 0), none, none]) (st1 := [.int 145, .ref 68, .int x1]) (hp1 := (hz F A L)) rfl ?_
  refine w_al (k := 68) (l := (A 68)) rfl rfl rfl (fun _ => ?_)
  refine w_ne (p3 := 14) rfl rfl (fun h => ?_) (fun h => ?_)
  · have h1 : ¬ x1 = ((A 68).getD 145 0) := h
    rw [if_neg h1] at hE
    refine w_n 4 (pc1 := 27) (ls1 := [some (.ref 67), some (.int x1), some (.int 0), none, none]) (st1 := [.int 145, .ref 68, .ref 67]) (hp1 := (hz F A L)) rfl ?_
    refine w_al (k := 68) (l := (A 68)) rfl rfl rfl (fun _ => ?_)
    refine w_n 1 (pc1 := 29) (ls1 := [some (.ref 67), some (.int x1), some (.int 0), none, none]) (st1 := [.int x1, .int ((A 68).getD 145 0), .ref 67]) (hp1 := (hz F A L)) rfl ?_
    refine w_c rfl rfl (t_km_leftOf ?_)
    show wl_E f _ _ mm185.2.2.2.2.2.2.2.2 32 [some (.ref 67), some (.int x1), some (.int 0), none, none] [.int (km_leftOf (A 68) ((A 68).getD 145 0) x1)] (hz F A L) _
    generalize hG210 : (km_leftOf (A 68) ((A 68).getD 145 0) x1) = G210 at hE ⊢
    refine w_n 3 (pc1 := 36) (ls1 := [some (.ref 67), some (.int x1), some (.int 0), some (.int G210), some (.int 0)]) (st1 := []) (hp1 := (hz F A L)) rfl ?_
    refine t_km_cupOf_36 12 (show (12 : Nat) = (12 - (0 : Int32).toInt).toNat by have e0 : (0 : Int32).toInt = 0 := rfl; first | rfl | omega) ?_
    intro r1
    show wl_E f _ _ mm185.2.2.2.2.2.2.2.2 93 [some (.ref 67), some (.int x1), some (.int (km_cupOf_36 (A 68) G210 12 0 0)), some (.int G210), some (.int r1)] [] (hz F A L) _
    generalize hG213 : (km_cupOf_36 (A 68) G210 12 0 0) = G213 at hE ⊢
    refine w_n 1 (pc1 := 94) (ls1 := [some (.ref 67), some (.int x1), some (.int G213), some (.int G210), some (.int r1)]) (st1 := [.int G213]) (hp1 := (hz F A L)) rfl ?_
    subst T
    exact w_ri rfl (cvQ rfl rfl rfl K)
  · have h1 : x1 = ((A 68).getD 145 0) := h
    rw [if_pos h1] at hE
    refine w_n 5 (pc1 := 36) (ls1 := [some (.ref 67), some (.int x1), some (.int 0), some (.int 12), some (.int 0)]) (st1 := []) (hp1 := (hz F A L)) rfl ?_
    refine t_km_cupOf_36 12 (show (12 : Nat) = (12 - (0 : Int32).toInt).toNat by have e0 : (0 : Int32).toInt = 0 := rfl; first | rfl | omega) ?_
    intro r2
    show wl_E f _ _ mm185.2.2.2.2.2.2.2.2 93 [some (.ref 67), some (.int x1), some (.int (km_cupOf_36 (A 68) 12 12 0 0)), some (.int 12), some (.int r2)] [] (hz F A L) _
    generalize hG214 : (km_cupOf_36 (A 68) 12 12 0 0) = G214 at hE ⊢
    refine w_n 1 (pc1 := 94) (ls1 := [some (.ref 67), some (.int x1), some (.int G214), some (.int 12), some (.int r2)]) (st1 := [.int G214]) (hp1 := (hz F A L)) rfl ?_
    subst T
    exact w_ri rfl (cvQ rfl rfl rfl K)
noncomputable def km_max (x0 : Int32) (x1 : Int32) : Int32 := (if x1.toInt < x0.toInt then x0 else x1)
theorem t_km_max {f D : Nat} {F : Nat → Nat → Int32} {A : Nat → List Int32} {L : Nat → List Int64} {Q : Option Value → sm_H → Prop} {x0 : Int32} {x1 : Int32} (K : Q (some (.int (km_max x0 x1))) (hz F A L)) : wl_M f D 187 [.int x0, .int x1] (hz F A L) Q := by
  generalize hT : (km_max x0 x1) = T at K
  have hE : T = (if x1.toInt < x0.toInt then x0 else x1) := hT.symm
  clear hT
  refine w_m (E := mm187) rfl ?_
  show wl_E f f (D - 1) mm187.2.2.2.2.2.2.2.2 0 [some (.int x0), some (.int x1)] [] (hz F A L) Q
  refine w_n 2 (pc1 := 2) (ls1 := [some (.int x0), some (.int x1)]) (st1 := [.int x1, .int x0]) (hp1 := (hz F A L)) rfl ?_
  refine w_le (p3 := 5) rfl rfl (fun h => ?_) (fun h => ?_)
  · have h1 : x0.toInt ≤ x1.toInt := h
    rw [if_neg (Int.not_lt.mpr h1)] at hE
    refine w_n 1 (pc1 := 10) (ls1 := [some (.int x0), some (.int x1)]) (st1 := [.int x1]) (hp1 := (hz F A L)) rfl ?_
    subst T
    exact w_ri rfl (cvQ rfl rfl rfl K)
  · have h1 : x1.toInt < x0.toInt := h
    rw [if_pos h1] at hE
    refine w_n 2 (pc1 := 10) (ls1 := [some (.int x0), some (.int x1)]) (st1 := [.int x0]) (hp1 := (hz F A L)) rfl ?_
    subst T
    exact w_ri rfl (cvQ rfl rfl rfl K)
noncomputable def km_pours_4 (f67_4 : Int32) (f67_5 : Int32) (x1 : Int32) : Nat → Int32 → Int32 → Int32 → List Int32 → Int32 × Int32 × List Int32
  | 0, y2, _, f67_32, a68 => (y2, f67_32, a68)
  | m + 1, y2, y3, f67_32, a68 => (if (km_isGuest a68 y3) = 0 then (km_pours_4 f67_4 f67_5 x1 m y2 (y3 + 1) f67_32 a68) else (if (km_cupOf a68 y3).toInt < f67_5.toInt then (if (a68.getD (24 + y3).toInt.toNat 0).toInt < (km_max 0 (f67_4 - (x1 * (km_cupOf a68 y3)))).toInt then (km_pours_4 f67_4 f67_5 x1 m y2 (y3 + 1) (f67_32 + 1) ((a68.set (48 + y3).toInt.toNat ((a68.getD (48 + y3).toInt.toNat 0) + 1)).set (36 + y3).toInt.toNat (km_max 0 (((a68.set (48 + y3).toInt.toNat ((a68.getD (48 + y3).toInt.toNat 0) + 1)).getD (36 + y3).toInt.toNat 0) - 1)))) else (km_pours_4 f67_4 f67_5 x1 m (y2 ||| ((1 : Int32) <<< (y3 &&& 31))) (y3 + 1) f67_32 a68)) else (km_pours_4 f67_4 f67_5 x1 m y2 (y3 + 1) f67_32 a68)))
theorem t_km_pours_4 {f : Nat} {Q : Option Value → sm_H → Prop} : ∀ (m : Nat) {B D : Nat} {F : Nat → Nat → Int32} {A : Nat → List Int32} {L : Nat → List Int64} {x1 : Int32} {y2 : Int32} {y3 : Int32}, m = (12 - y3.toInt).toNat → (∀ q3 : Int32, wl_E f B D mm184.2.2.2.2.2.2.2.2 130 [some (.ref 67), some (.int x1), some (.int ((km_pours_4 (F 67 4) (F 67 5) x1 m y2 y3 (F 67 32) (A 68)).1)), some (.int q3)] [] (hz (uF F 67 32 ((km_pours_4 (F 67 4) (F 67 5) x1 m y2 y3 (F 67 32) (A 68)).2.1)) (uA A 68 ((km_pours_4 (F 67 4) (F 67 5) x1 m y2 y3 (F 67 32) (A 68)).2.2)) L) Q) → wl_E f B D mm184.2.2.2.2.2.2.2.2 4 [some (.ref 67), some (.int x1), some (.int y2), some (.int y3)] [] (hz F A L) Q := by
  intro m
  induction m with
  | zero =>
    intro B D F A L x1 y2 y3 hm K
    generalize hT : (km_pours_4 (F 67 4) (F 67 5) x1 0 y2 y3 (F 67 32) (A 68)) = T at K
    have hE : T = (y2, (F 67 32), (A 68)) := hT.symm
    clear hT
    refine w_n 2 (pc1 := 7) (ls1 := [some (.ref 67), some (.int x1), some (.int y2), some (.int y3)]) (st1 := [.int 12, .int y3]) (hp1 := (hz F A L)) rfl ?_
    refine w_ge (p3 := 10) rfl rfl (fun hb => ?_) (fun h => False.elim (by have h : y3.toInt < 12 := h; omega))
    subst T
    exact cvE (funext fun q => funext fun z => if k0 : q = 67 ∧ z = 32 then by obtain ⟨w1, w2⟩ := k0; subst w1; subst w2; exact Eq.trans (b := (F 67 32)) rfl rfl else by unfold uF; simp only [nb2 k0, cond_false]) (funext fun q => if k0 : q = 68 then by subst k0; exact Eq.trans (b := (A 68)) rfl rfl else by unfold uA; simp only [nb1 k0, cond_false]) rfl (K _)
  | succ m ih =>
    intro B D F A L x1 y2 y3 hm K
    generalize hT : (km_pours_4 (F 67 4) (F 67 5) x1 (m + 1) y2 y3 (F 67 32) (A 68)) = T at K
    have hE : T = (if (km_isGuest (A 68) y3) = 0 then (km_pours_4 (F 67 4) (F 67 5) x1 m y2 (y3 + 1) (F 67 32) (A 68)) else (if (km_cupOf (A 68) y3).toInt < (F 67 5).toInt then (if ((A 68).getD (24 + y3).toInt.toNat 0).toInt < (km_max 0 ((F 67 4) - (x1 * (km_cupOf (A 68) y3)))).toInt then (km_pours_4 (F 67 4) (F 67 5) x1 m y2 (y3 + 1) ((F 67 32) + 1) (((A 68).set (48 + y3).toInt.toNat (((A 68).getD (48 + y3).toInt.toNat 0) + 1)).set (36 + y3).toInt.toNat (km_max 0 ((((A 68).set (48 + y3).toInt.toNat (((A 68).getD (48 + y3).toInt.toNat 0) + 1)).getD (36 + y3).toInt.toNat 0) - 1)))) else (km_pours_4 (F 67 4) (F 67 5) x1 m (y2 ||| ((1 : Int32) <<< (y3 &&& 31))) (y3 + 1) (F 67 32) (A 68))) else (km_pours_4 (F 67 4) (F 67 5) x1 m y2 (y3 + 1) (F 67 32) (A 68)))) := hT.symm
    clear hT
    refine w_n 2 (pc1 := 7) (ls1 := [some (.ref 67), some (.int x1), some (.int y2), some (.int y3)]) (st1 := [.int 12, .int y3]) (hp1 := (hz F A L)) rfl ?_
    refine w_ge (p3 := 10) rfl rfl (fun h => False.elim (by have h : 12 ≤ y3.toInt := h; omega)) (fun hb => ?_)
    refine w_n 2 (pc1 := 12) (ls1 := [some (.ref 67), some (.int x1), some (.int y2), some (.int y3)]) (st1 := [.int y3, .ref 67]) (hp1 := (hz F A L)) rfl ?_
    refine w_c rfl rfl (t_km_isGuest ?_)
    show wl_E f _ _ mm184.2.2.2.2.2.2.2.2 15 [some (.ref 67), some (.int x1), some (.int y2), some (.int y3)] [.int (km_isGuest (A 68) y3)] (hz F A L) _
    generalize hG209 : (km_isGuest (A 68) y3) = G209 at hE ⊢
    refine w_zeq (p3 := 18) rfl rfl (fun h => ?_) (fun h => ?_)
    · have h1 : G209 = 0 := h
      rw [if_pos h1] at hE
      refine w_n 2 (pc1 := 4) (ls1 := [some (.ref 67), some (.int x1), some (.int y2), some (.int (y3 + 1))]) (st1 := []) (hp1 := (hz F A L)) rfl ?_
      subst T
      have hb2 := i_up (B := (12 : Int32)) hb
      have hb3 : y3.toInt < 12 := hb
      exact ih (show m = (12 - (y3 + 1).toInt).toNat by rw [hb2]; omega) (fun q3 => cvE (funext fun q => funext fun z => if k0 : q = 67 ∧ z = 32 then by obtain ⟨w1, w2⟩ := k0; subst w1; subst w2; exact Eq.trans (b := (km_pours_4 (F 67 4) (F 67 5) x1 m y2 (y3 + 1) (F 67 32) (A 68)).2.1) rfl rfl else by unfold uF; simp only [nb2 k0, cond_false]) (funext fun q => if k0 : q = 68 then by subst k0; exact Eq.trans (b := (km_pours_4 (F 67 4) (F 67 5) x1 m y2 (y3 + 1) (F 67 32) (A 68)).2.2) rfl rfl else by unfold uA; simp only [nb1 k0, cond_false]) rfl (K q3))
    · have h1 : ¬ G209 = 0 := h
      rw [if_neg h1] at hE
      refine w_n 2 (pc1 := 20) (ls1 := [some (.ref 67), some (.int x1), some (.int y2), some (.int y3)]) (st1 := [.int y3, .ref 67]) (hp1 := (hz F A L)) rfl ?_
      refine w_c rfl rfl (t_km_cupOf ?_)
      show wl_E f _ _ mm184.2.2.2.2.2.2.2.2 23 [some (.ref 67), some (.int x1), some (.int y2), some (.int y3)] [.int (km_cupOf (A 68) y3)] (hz F A L) _
      generalize hG215 : (km_cupOf (A 68) y3) = G215 at hE ⊢
      refine w_n 2 (pc1 := 27) (ls1 := [some (.ref 67), some (.int x1), some (.int y2), some (.int y3)]) (st1 := [.int (F 67 5), .int G215]) (hp1 := (hz F A L)) rfl ?_
      refine w_lt (p3 := 30) rfl rfl (fun h => ?_) (fun h => ?_)
      · have h2 : G215.toInt < (F 67 5).toInt := h
        rw [if_pos h2] at hE
        refine w_n 5 (pc1 := 41) (ls1 := [some (.ref 67), some (.int x1), some (.int y2), some (.int y3)]) (st1 := [.int (24 + y3), .ref 68]) (hp1 := (hz F A L)) rfl ?_
        refine w_al (k := 68) (l := (A 68)) rfl rfl rfl (fun _ => ?_)
        refine w_n 6 (pc1 := 50) (ls1 := [some (.ref 67), some (.int x1), some (.int y2), some (.int y3)]) (st1 := [.int y3, .ref 67, .int x1, .int (F 67 4), .int 0, .int ((A 68).getD (24 + y3).toInt.toNat 0)]) (hp1 := (hz F A L)) rfl ?_
        refine w_c rfl rfl (t_km_cupOf ?_)
        show wl_E f _ _ mm184.2.2.2.2.2.2.2.2 53 [some (.ref 67), some (.int x1), some (.int y2), some (.int y3)] [.int (km_cupOf (A 68) y3), .int x1, .int (F 67 4), .int 0, .int ((A 68).getD (24 + y3).toInt.toNat 0)] (hz F A L) _
        rw [hG215]
        refine w_n 2 (pc1 := 55) (ls1 := [some (.ref 67), some (.int x1), some (.int y2), some (.int y3)]) (st1 := [.int ((F 67 4) - (x1 * G215)), .int 0, .int ((A 68).getD (24 + y3).toInt.toNat 0)]) (hp1 := (hz F A L)) rfl ?_
        refine w_c rfl rfl (t_km_max ?_)
        show wl_E f _ _ mm184.2.2.2.2.2.2.2.2 58 [some (.ref 67), some (.int x1), some (.int y2), some (.int y3)] [.int (km_max 0 ((F 67 4) - (x1 * G215))), .int ((A 68).getD (24 + y3).toInt.toNat 0)] (hz F A L) _
        generalize hG216 : (km_max 0 ((F 67 4) - (x1 * G215))) = G216 at hE ⊢
        refine w_lt (p3 := 61) rfl rfl (fun h => ?_) (fun h => ?_)
        · have h3 : ((A 68).getD (24 + y3).toInt.toNat 0).toInt < G216.toInt := h
          rw [if_pos h3] at hE
          refine w_n 10 (pc1 := 86) (ls1 := [some (.ref 67), some (.int x1), some (.int y2), some (.int y3)]) (st1 := [.int (48 + y3), .ref 68, .int (48 + y3), .ref 68]) (hp1 := (hz F A L)) rfl ?_
          refine w_al (k := 68) (l := (A 68)) rfl rfl rfl (fun _ => ?_)
          refine w_n 2 (pc1 := 89) (ls1 := [some (.ref 67), some (.int x1), some (.int y2), some (.int y3)]) (st1 := [.int (((A 68).getD (48 + y3).toInt.toNat 0) + 1), .int (48 + y3), .ref 68]) (hp1 := (hz F A L)) rfl ?_
          refine w_as (k := 68) (l := (A 68)) (hp1 := (hz F (uA A 68 ((A 68).set (48 + y3).toInt.toNat (((A 68).getD (48 + y3).toInt.toNat 0) + 1))) L)) rfl rfl rfl (hz_s68 _) (fun _ => ?_)
          refine w_n 11 (pc1 := 107) (ls1 := [some (.ref 67), some (.int x1), some (.int y2), some (.int y3)]) (st1 := [.int (36 + y3), .ref 68, .int 0, .int (36 + y3), .ref 68]) (hp1 := (hz F (uA A 68 ((A 68).set (48 + y3).toInt.toNat (((A 68).getD (48 + y3).toInt.toNat 0) + 1))) L)) rfl ?_
          refine w_al (k := 68) (l := ((A 68).set (48 + y3).toInt.toNat (((A 68).getD (48 + y3).toInt.toNat 0) + 1))) rfl rfl rfl (fun _ => ?_)
          refine w_n 2 (pc1 := 110) (ls1 := [some (.ref 67), some (.int x1), some (.int y2), some (.int y3)]) (st1 := [.int ((((A 68).set (48 + y3).toInt.toNat (((A 68).getD (48 + y3).toInt.toNat 0) + 1)).getD (36 + y3).toInt.toNat 0) - 1), .int 0, .int (36 + y3), .ref 68]) (hp1 := (hz F (uA A 68 ((A 68).set (48 + y3).toInt.toNat (((A 68).getD (48 + y3).toInt.toNat 0) + 1))) L)) rfl ?_
          refine w_c rfl rfl (t_km_max ?_)
          show wl_E f _ _ mm184.2.2.2.2.2.2.2.2 113 [some (.ref 67), some (.int x1), some (.int y2), some (.int y3)] [.int (km_max 0 ((((A 68).set (48 + y3).toInt.toNat (((A 68).getD (48 + y3).toInt.toNat 0) + 1)).getD (36 + y3).toInt.toNat 0) - 1)), .int (36 + y3), .ref 68] (hz F (uA A 68 ((A 68).set (48 + y3).toInt.toNat (((A 68).getD (48 + y3).toInt.toNat 0) + 1))) L) _
          generalize hG217 : (km_max 0 ((((A 68).set (48 + y3).toInt.toNat (((A 68).getD (48 + y3).toInt.toNat 0) + 1)).getD (36 + y3).toInt.toNat 0) - 1)) = G217 at hE ⊢
          refine w_as (k := 68) (l := ((A 68).set (48 + y3).toInt.toNat (((A 68).getD (48 + y3).toInt.toNat 0) + 1))) (hp1 := (hz F (uA (uA A 68 ((A 68).set (48 + y3).toInt.toNat (((A 68).getD (48 + y3).toInt.toNat 0) + 1))) 68 (((A 68).set (48 + y3).toInt.toNat (((A 68).getD (48 + y3).toInt.toNat 0) + 1)).set (36 + y3).toInt.toNat G217)) L)) rfl rfl rfl (hz_s68 _) (fun _ => ?_)
          refine w_n 5 (pc1 := 121) (ls1 := [some (.ref 67), some (.int x1), some (.int y2), some (.int y3)]) (st1 := [.int ((F 67 32) + 1), .ref 67]) (hp1 := (hz F (uA (uA A 68 ((A 68).set (48 + y3).toInt.toNat (((A 68).getD (48 + y3).toInt.toNat 0) + 1))) 68 (((A 68).set (48 + y3).toInt.toNat (((A 68).getD (48 + y3).toInt.toNat 0) + 1)).set (36 + y3).toInt.toNat G217)) L)) rfl ?_
          refine w_pf (k := 67) (fs := hz_f67 F) (hp1 := (hz (uF F 67 32 ((F 67 32) + 1)) (uA (uA A 68 ((A 68).set (48 + y3).toInt.toNat (((A 68).getD (48 + y3).toInt.toNat 0) + 1))) 68 (((A 68).set (48 + y3).toInt.toNat (((A 68).getD (48 + y3).toInt.toNat 0) + 1)).set (36 + y3).toInt.toNat G217)) L)) rfl rfl rfl (hz_p67_32 _) ?_
          refine w_n 2 (pc1 := 4) (ls1 := [some (.ref 67), some (.int x1), some (.int y2), some (.int (y3 + 1))]) (st1 := []) (hp1 := (hz (uF F 67 32 ((F 67 32) + 1)) (uA (uA A 68 ((A 68).set (48 + y3).toInt.toNat (((A 68).getD (48 + y3).toInt.toNat 0) + 1))) 68 (((A 68).set (48 + y3).toInt.toNat (((A 68).getD (48 + y3).toInt.toNat 0) + 1)).set (36 + y3).toInt.toNat G217)) L)) rfl ?_
          subst T
          have hb2 := i_up (B := (12 : Int32)) hb
          have hb3 : y3.toInt < 12 := hb
          exact ih (show m = (12 - (y3 + 1).toInt).toNat by rw [hb2]; omega) (fun q3 => cvE (funext fun q => funext fun z => if k0 : q = 67 ∧ z = 32 then by obtain ⟨w1, w2⟩ := k0; subst w1; subst w2; exact Eq.trans (b := (km_pours_4 (F 67 4) (F 67 5) x1 m y2 (y3 + 1) ((F 67 32) + 1) (((A 68).set (48 + y3).toInt.toNat (((A 68).getD (48 + y3).toInt.toNat 0) + 1)).set (36 + y3).toInt.toNat G217)).2.1) rfl rfl else by unfold uF; simp only [nb2 k0, cond_false]) (funext fun q => if k0 : q = 68 then by subst k0; exact Eq.trans (b := (km_pours_4 (F 67 4) (F 67 5) x1 m y2 (y3 + 1) ((F 67 32) + 1) (((A 68).set (48 + y3).toInt.toNat (((A 68).getD (48 + y3).toInt.toNat 0) + 1)).set (36 + y3).toInt.toNat G217)).2.2) rfl rfl else by unfold uA; simp only [nb1 k0, cond_false]) rfl (K q3))
        · have h3 : G216.toInt ≤ ((A 68).getD (24 + y3).toInt.toNat 0).toInt := h
          rw [if_neg (Int.not_lt.mpr h3)] at hE
          refine w_n 9 (pc1 := 4) (ls1 := [some (.ref 67), some (.int x1), some (.int (y2 ||| ((1 : Int32) <<< (y3 &&& 31)))), some (.int (y3 + 1))]) (st1 := []) (hp1 := (hz F A L)) rfl ?_
          subst T
          have hb2 := i_up (B := (12 : Int32)) hb
          have hb3 : y3.toInt < 12 := hb
          exact ih (show m = (12 - (y3 + 1).toInt).toNat by rw [hb2]; omega) (fun q3 => cvE (funext fun q => funext fun z => if k0 : q = 67 ∧ z = 32 then by obtain ⟨w1, w2⟩ := k0; subst w1; subst w2; exact Eq.trans (b := (km_pours_4 (F 67 4) (F 67 5) x1 m (y2 ||| ((1 : Int32) <<< (y3 &&& 31))) (y3 + 1) (F 67 32) (A 68)).2.1) rfl rfl else by unfold uF; simp only [nb2 k0, cond_false]) (funext fun q => if k0 : q = 68 then by subst k0; exact Eq.trans (b := (km_pours_4 (F 67 4) (F 67 5) x1 m (y2 ||| ((1 : Int32) <<< (y3 &&& 31))) (y3 + 1) (F 67 32) (A 68)).2.2) rfl rfl else by unfold uA; simp only [nb1 k0, cond_false]) rfl (K q3))
      · have h2 : (F 67 5).toInt ≤ G215.toInt := h
        rw [if_neg (Int.not_lt.mpr h2)] at hE
        refine w_n 3 (pc1 := 4) (ls1 := [some (.ref 67), some (.int x1), some (.int y2), some (.int (y3 + 1))]) (st1 := []) (hp1 := (hz F A L)) rfl ?_
        subst T
        have hb2 := i_up (B := (12 : Int32)) hb
        have hb3 : y3.toInt < 12 := hb
        exact ih (show m = (12 - (y3 + 1).toInt).toNat by rw [hb2]; omega) (fun q3 => cvE (funext fun q => funext fun z => if k0 : q = 67 ∧ z = 32 then by obtain ⟨w1, w2⟩ := k0; subst w1; subst w2; exact Eq.trans (b := (km_pours_4 (F 67 4) (F 67 5) x1 m y2 (y3 + 1) (F 67 32) (A 68)).2.1) rfl rfl else by unfold uF; simp only [nb2 k0, cond_false]) (funext fun q => if k0 : q = 68 then by subst k0; exact Eq.trans (b := (km_pours_4 (F 67 4) (F 67 5) x1 m y2 (y3 + 1) (F 67 32) (A 68)).2.2) rfl rfl else by unfold uA; simp only [nb1 k0, cond_false]) rfl (K q3))
noncomputable def km_pours (f67_4 : Int32) (f67_5 : Int32) (f67_32 : Int32) (a68 : List Int32) (x1 : Int32) : Int32 × Int32 × List Int32 := ((km_pours_4 f67_4 f67_5 x1 12 0 0 f67_32 a68).1, (km_pours_4 f67_4 f67_5 x1 12 0 0 f67_32 a68).2.1, (km_pours_4 f67_4 f67_5 x1 12 0 0 f67_32 a68).2.2)
theorem t_km_pours {f D : Nat} {F : Nat → Nat → Int32} {A : Nat → List Int32} {L : Nat → List Int64} {Q : Option Value → sm_H → Prop} {x1 : Int32} (K : Q (some (.int ((km_pours (F 67 4) (F 67 5) (F 67 32) (A 68) x1).1))) (hz (uF F 67 32 ((km_pours (F 67 4) (F 67 5) (F 67 32) (A 68) x1).2.1)) (uA A 68 ((km_pours (F 67 4) (F 67 5) (F 67 32) (A 68) x1).2.2)) L)) : wl_M f D 184 [.ref 67, .int x1] (hz F A L) Q := by
  generalize hT : (km_pours (F 67 4) (F 67 5) (F 67 32) (A 68) x1) = T at K
  have hE : T = ((km_pours_4 (F 67 4) (F 67 5) x1 12 0 0 (F 67 32) (A 68)).1, (km_pours_4 (F 67 4) (F 67 5) x1 12 0 0 (F 67 32) (A 68)).2.1, (km_pours_4 (F 67 4) (F 67 5) x1 12 0 0 (F 67 32) (A 68)).2.2) := hT.symm
  clear hT
  refine w_m (E := mm184) rfl ?_
  show wl_E f f (D - 1) mm184.2.2.2.2.2.2.2.2 0 [some (.ref 67), some (.int x1), none, none] [] (hz F A L) Q
  refine w_n 4 (pc1 := 4) (ls1 := [some (.ref 67), some (.int x1), some (.int 0), some (.int 0)]) (st1 := []) (hp1 := (hz F A L)) rfl ?_
  refine t_km_pours_4 12 (show (12 : Nat) = (12 - (0 : Int32).toInt).toNat by have e0 : (0 : Int32).toInt = 0 := rfl; first | rfl | omega) ?_
  intro r1
  show wl_E f _ _ mm184.2.2.2.2.2.2.2.2 130 [some (.ref 67), some (.int x1), some (.int (km_pours_4 (F 67 4) (F 67 5) x1 12 0 0 (F 67 32) (A 68)).1), some (.int r1)] [] (hz (uF F 67 32 (km_pours_4 (F 67 4) (F 67 5) x1 12 0 0 (F 67 32) (A 68)).2.1) (uA A 68 (km_pours_4 (F 67 4) (F 67 5) x1 12 0 0 (F 67 32) (A 68)).2.2) L) _
  generalize hG218 : (km_pours_4 (F 67 4) (F 67 5) x1 12 0 0 (F 67 32) (A 68)) = G218 at hE ⊢
  refine w_n 1 (pc1 := 131) (ls1 := [some (.ref 67), some (.int x1), some (.int G218.1), some (.int r1)]) (st1 := [.int G218.1]) (hp1 := (hz (uF F 67 32 G218.2.1) (uA A 68 G218.2.2) L)) rfl ?_
  subst T
  exact w_ri rfl (cvQ rfl rfl rfl K)
noncomputable def km_decides (f67_3 : Int32) (a68 : List Int32) : List Int32 := (if ((((1 : Int32) <<< (f67_3 &&& 31)) - 1) &&& ((a68.getD 146 0) ^^^ (-1))) = 0 then (a68.set 146 0) else (a68.set 146 ((a68.getD 146 0) ||| ((1 : Int32) <<< ((km_highestOf f67_3 a68 (a68.getD 145 0) ((((1 : Int32) <<< (f67_3 &&& 31)) - 1) &&& ((a68.getD 146 0) ^^^ (-1)))) &&& 31)))))
theorem t_km_decides {f D : Nat} {F : Nat → Nat → Int32} {A : Nat → List Int32} {L : Nat → List Int64} {Q : Option Value → sm_H → Prop} (K : Q none (hz F (uA A 68 (km_decides (F 67 3) (A 68))) L)) : wl_M f D 190 [.ref 67] (hz F A L) Q := by
  generalize hT : (km_decides (F 67 3) (A 68)) = T at K
  have hE : T = (if ((((1 : Int32) <<< ((F 67 3) &&& 31)) - 1) &&& (((A 68).getD 146 0) ^^^ (-1))) = 0 then ((A 68).set 146 0) else ((A 68).set 146 (((A 68).getD 146 0) ||| ((1 : Int32) <<< ((km_highestOf (F 67 3) (A 68) ((A 68).getD 145 0) ((((1 : Int32) <<< ((F 67 3) &&& 31)) - 1) &&& (((A 68).getD 146 0) ^^^ (-1)))) &&& 31))))) := hT.symm
  clear hT
  refine w_m (E := mm190) rfl ?_
  show wl_E f f (D - 1) mm190.2.2.2.2.2.2.2.2 0 [some (.ref 67), none] [] (hz F A L) Q
  refine w_n 9 (pc1 := 15) (ls1 := [some (.ref 67), none]) (st1 := [.int 146, .ref 68, .int (((1 : Int32) <<< ((F 67 3) &&& 31)) - 1)]) (hp1 := (hz F A L)) rfl ?_
  refine w_al (k := 68) (l := (A 68)) rfl rfl rfl (fun _ => ?_)
  refine w_n 8 (pc1 := 28) (ls1 := [some (.ref 67), some (.int ((((1 : Int32) <<< ((F 67 3) &&& 31)) - 1) &&& (((A 68).getD 146 0) ^^^ (-1))))]) (st1 := [.int ((((1 : Int32) <<< ((F 67 3) &&& 31)) - 1) &&& (((A 68).getD 146 0) ^^^ (-1))), .int 146, .ref 68]) (hp1 := (hz F A L)) rfl ?_
  refine w_zne (p3 := 31) rfl rfl (fun h => ?_) (fun h => ?_)
  · have h1 : ¬ ((((1 : Int32) <<< ((F 67 3) &&& 31)) - 1) &&& (((A 68).getD 146 0) ^^^ (-1))) = 0 := h
    rw [if_neg h1] at hE
    refine w_n 3 (pc1 := 42) (ls1 := [some (.ref 67), some (.int ((((1 : Int32) <<< ((F 67 3) &&& 31)) - 1) &&& (((A 68).getD 146 0) ^^^ (-1))))]) (st1 := [.int 146, .ref 68, .int 146, .ref 68]) (hp1 := (hz F A L)) rfl ?_
    refine w_al (k := 68) (l := (A 68)) rfl rfl rfl (fun _ => ?_)
    refine w_n 5 (pc1 := 52) (ls1 := [some (.ref 67), some (.int ((((1 : Int32) <<< ((F 67 3) &&& 31)) - 1) &&& (((A 68).getD 146 0) ^^^ (-1))))]) (st1 := [.int 145, .ref 68, .ref 67, .int 1, .int ((A 68).getD 146 0), .int 146, .ref 68]) (hp1 := (hz F A L)) rfl ?_
    refine w_al (k := 68) (l := (A 68)) rfl rfl rfl (fun _ => ?_)
    refine w_n 1 (pc1 := 54) (ls1 := [some (.ref 67), some (.int ((((1 : Int32) <<< ((F 67 3) &&& 31)) - 1) &&& (((A 68).getD 146 0) ^^^ (-1))))]) (st1 := [.int ((((1 : Int32) <<< ((F 67 3) &&& 31)) - 1) &&& (((A 68).getD 146 0) ^^^ (-1))), .int ((A 68).getD 145 0), .ref 67, .int 1, .int ((A 68).getD 146 0), .int 146, .ref 68]) (hp1 := (hz F A L)) rfl ?_
    refine w_c rfl rfl (t_km_highestOf ?_)
    show wl_E f _ _ mm190.2.2.2.2.2.2.2.2 57 [some (.ref 67), some (.int ((((1 : Int32) <<< ((F 67 3) &&& 31)) - 1) &&& (((A 68).getD 146 0) ^^^ (-1))))] [.int (km_highestOf (F 67 3) (A 68) ((A 68).getD 145 0) ((((1 : Int32) <<< ((F 67 3) &&& 31)) - 1) &&& (((A 68).getD 146 0) ^^^ (-1)))), .int 1, .int ((A 68).getD 146 0), .int 146, .ref 68] (hz F A L) _
    generalize hG220 : (km_highestOf (F 67 3) (A 68) ((A 68).getD 145 0) ((((1 : Int32) <<< ((F 67 3) &&& 31)) - 1) &&& (((A 68).getD 146 0) ^^^ (-1)))) = G220 at hE ⊢
    refine w_n 2 (pc1 := 59) (ls1 := [some (.ref 67), some (.int ((((1 : Int32) <<< ((F 67 3) &&& 31)) - 1) &&& (((A 68).getD 146 0) ^^^ (-1))))]) (st1 := [.int (((A 68).getD 146 0) ||| ((1 : Int32) <<< (G220 &&& 31))), .int 146, .ref 68]) (hp1 := (hz F A L)) rfl ?_
    refine w_as (k := 68) (l := (A 68)) (hp1 := (hz F (uA A 68 ((A 68).set 146 (((A 68).getD 146 0) ||| ((1 : Int32) <<< (G220 &&& 31))))) L)) rfl rfl rfl (hz_s68 _) (fun _ => ?_)
    subst T
    exact w_r rfl rfl (cvQ rfl rfl rfl K)
  · have h1 : ((((1 : Int32) <<< ((F 67 3) &&& 31)) - 1) &&& (((A 68).getD 146 0) ^^^ (-1))) = 0 := h
    rw [if_pos h1] at hE
    refine w_n 2 (pc1 := 59) (ls1 := [some (.ref 67), some (.int ((((1 : Int32) <<< ((F 67 3) &&& 31)) - 1) &&& (((A 68).getD 146 0) ^^^ (-1))))]) (st1 := [.int 0, .int 146, .ref 68]) (hp1 := (hz F A L)) rfl ?_
    refine w_as (k := 68) (l := (A 68)) (hp1 := (hz F (uA A 68 ((A 68).set 146 0)) L)) rfl rfl rfl (hz_s68 _) (fun _ => ?_)
    subst T
    exact w_r rfl rfl (cvQ rfl rfl rfl K)
noncomputable def km_changesMother_2   : Nat → Int32 → List Int32 → List Int32
  | 0, _, a86 => a86
  | m + 1, y2, a86 => (km_changesMother_2 m (y2 + 1) (a86.set y2.toInt.toNat 0))
theorem t_km_changesMother_2 {f : Nat} {Q : Option Value → sm_H → Prop} : ∀ (m : Nat) {B D : Nat} {F : Nat → Nat → Int32} {A : Nat → List Int32} {L : Nat → List Int64} {x1 : Int32} {y2 : Int32} {o3 : Option Value} {o4 : Option Value} {o5 : Option Value} {o6 : Option Value}, m = (12 - y2.toInt).toNat → (∀ q2 : Int32, wl_E f B D mm193.2.2.2.2.2.2.2.2 21 [some (.ref 67), some (.int x1), some (.int q2), o3, o4, o5, o6] [] (hz F (uA A 86 (km_changesMother_2 m y2 (A 86))) L) Q) → wl_E f B D mm193.2.2.2.2.2.2.2.2 2 [some (.ref 67), some (.int x1), some (.int y2), o3, o4, o5, o6] [] (hz F A L) Q := by
  intro m
  induction m with
  | zero =>
    intro B D F A L x1 y2 o3 o4 o5 o6 hm K
    generalize hT : (km_changesMother_2 0 y2 (A 86)) = T at K
    have hE : T = (A 86) := hT.symm
    clear hT
    refine w_n 2 (pc1 := 5) (ls1 := [some (.ref 67), some (.int x1), some (.int y2), o3, o4, o5, o6]) (st1 := [.int 12, .int y2]) (hp1 := (hz F A L)) rfl ?_
    refine w_ge (p3 := 8) rfl rfl (fun hb => ?_) (fun h => False.elim (by have h : y2.toInt < 12 := h; omega))
    subst T
    exact cvE rfl (funext fun q => if k0 : q = 86 then by subst k0; exact Eq.trans (b := (A 86)) rfl rfl else by unfold uA; simp only [nb1 k0, cond_false]) rfl (K _)
  | succ m ih =>
    intro B D F A L x1 y2 o3 o4 o5 o6 hm K
    generalize hT : (km_changesMother_2 (m + 1) y2 (A 86)) = T at K
    have hE : T = (km_changesMother_2 m (y2 + 1) ((A 86).set y2.toInt.toNat 0)) := hT.symm
    clear hT
    refine w_n 2 (pc1 := 5) (ls1 := [some (.ref 67), some (.int x1), some (.int y2), o3, o4, o5, o6]) (st1 := [.int 12, .int y2]) (hp1 := (hz F A L)) rfl ?_
    refine w_ge (p3 := 8) rfl rfl (fun h => False.elim (by have h : 12 ≤ y2.toInt := h; omega)) (fun hb => ?_)
    refine w_n 4 (pc1 := 14) (ls1 := [some (.ref 67), some (.int x1), some (.int y2), o3, o4, o5, o6]) (st1 := [.int 0, .int y2, .ref 86]) (hp1 := (hz F A L)) rfl ?_
    refine w_as (k := 86) (l := (A 86)) (hp1 := (hz F (uA A 86 ((A 86).set y2.toInt.toNat 0)) L)) rfl rfl rfl (hz_s86 _) (fun ab => ?_)
    refine w_n 2 (pc1 := 2) (ls1 := [some (.ref 67), some (.int x1), some (.int (y2 + 1)), o3, o4, o5, o6]) (st1 := []) (hp1 := (hz F (uA A 86 ((A 86).set y2.toInt.toNat 0)) L)) rfl ?_
    subst T
    have hb2 := i_up (B := (12 : Int32)) hb
    have hb3 : y2.toInt < 12 := hb
    exact ih (show m = (12 - (y2 + 1).toInt).toNat by rw [hb2]; omega) (fun q2 => cvE rfl (funext fun q => if k0 : q = 86 then by subst k0; exact Eq.trans (b := (km_changesMother_2 m (y2 + 1) ((A 86).set y2.toInt.toNat 0))) rfl rfl else by unfold uA; simp only [nb1 k0, cond_false]) rfl (K q2))
noncomputable def km_areTwo (a68 : List Int32) (x1 : Int32) (x2 : Int32) : Int32 := (if (km_isGuest a68 x1) = 0 then 0 else (if (km_isGuest a68 x2) = 0 then 0 else (if x1 = x2 then 0 else 1)))
theorem t_km_areTwo {f D : Nat} {F : Nat → Nat → Int32} {A : Nat → List Int32} {L : Nat → List Int64} {Q : Option Value → sm_H → Prop} {x1 : Int32} {x2 : Int32} (K : Q (some (.int (km_areTwo (A 68) x1 x2))) (hz F A L)) : wl_M f D 189 [.ref 67, .int x1, .int x2] (hz F A L) Q := by
  generalize hT : (km_areTwo (A 68) x1 x2) = T at K
  have hE : T = (if (km_isGuest (A 68) x1) = 0 then 0 else (if (km_isGuest (A 68) x2) = 0 then 0 else (if x1 = x2 then 0 else 1))) := hT.symm
  clear hT
  refine w_m (E := mm189) rfl ?_
  show wl_E f f (D - 1) mm189.2.2.2.2.2.2.2.2 0 [some (.ref 67), some (.int x1), some (.int x2)] [] (hz F A L) Q
  refine w_n 2 (pc1 := 2) (ls1 := [some (.ref 67), some (.int x1), some (.int x2)]) (st1 := [.int x1, .ref 67]) (hp1 := (hz F A L)) rfl ?_
  refine w_c rfl rfl (t_km_isGuest ?_)
  show wl_E f _ _ mm189.2.2.2.2.2.2.2.2 5 [some (.ref 67), some (.int x1), some (.int x2)] [.int (km_isGuest (A 68) x1)] (hz F A L) _
  generalize hG224 : (km_isGuest (A 68) x1) = G224 at hE ⊢
  refine w_zeq (p3 := 8) rfl rfl (fun h => ?_) (fun h => ?_)
  · have h1 : G224 = 0 := h
    rw [if_pos h1] at hE
    refine w_n 1 (pc1 := 26) (ls1 := [some (.ref 67), some (.int x1), some (.int x2)]) (st1 := [.int 0]) (hp1 := (hz F A L)) rfl ?_
    subst T
    exact w_ri rfl (cvQ rfl rfl rfl K)
  · have h1 : ¬ G224 = 0 := h
    rw [if_neg h1] at hE
    refine w_n 2 (pc1 := 10) (ls1 := [some (.ref 67), some (.int x1), some (.int x2)]) (st1 := [.int x2, .ref 67]) (hp1 := (hz F A L)) rfl ?_
    refine w_c rfl rfl (t_km_isGuest ?_)
    show wl_E f _ _ mm189.2.2.2.2.2.2.2.2 13 [some (.ref 67), some (.int x1), some (.int x2)] [.int (km_isGuest (A 68) x2)] (hz F A L) _
    generalize hG225 : (km_isGuest (A 68) x2) = G225 at hE ⊢
    refine w_zeq (p3 := 16) rfl rfl (fun h => ?_) (fun h => ?_)
    · have h2 : G225 = 0 := h
      rw [if_pos h2] at hE
      refine w_n 1 (pc1 := 26) (ls1 := [some (.ref 67), some (.int x1), some (.int x2)]) (st1 := [.int 0]) (hp1 := (hz F A L)) rfl ?_
      subst T
      exact w_ri rfl (cvQ rfl rfl rfl K)
    · have h2 : ¬ G225 = 0 := h
      rw [if_neg h2] at hE
      refine w_n 2 (pc1 := 18) (ls1 := [some (.ref 67), some (.int x1), some (.int x2)]) (st1 := [.int x2, .int x1]) (hp1 := (hz F A L)) rfl ?_
      refine w_eq (p3 := 21) rfl rfl (fun h => ?_) (fun h => ?_)
      · have h3 : x1 = x2 := h
        rw [if_pos h3] at hE
        refine w_n 1 (pc1 := 26) (ls1 := [some (.ref 67), some (.int x1), some (.int x2)]) (st1 := [.int 0]) (hp1 := (hz F A L)) rfl ?_
        subst T
        exact w_ri rfl (cvQ rfl rfl rfl K)
      · have h3 : ¬ x1 = x2 := h
        rw [if_neg h3] at hE
        refine w_n 2 (pc1 := 26) (ls1 := [some (.ref 67), some (.int x1), some (.int x2)]) (st1 := [.int 1]) (hp1 := (hz F A L)) rfl ?_
        subst T
        exact w_ri rfl (cvQ rfl rfl rfl K)
noncomputable def km_mindOf_17 (a68 : List Int32) (x1 : Int32) (x2 : Int32) (x4 : Int32) : Nat → Int32 → Int32 → Int32
  | 0, y3, _ => y3
  | m + 1, y3, y5 => (if (km_placeOf a68 x1 x4).toInt < (km_placeOf a68 x1 y5).toInt then (if (km_placeOf a68 x2 x4).toInt < (km_placeOf a68 x2 y5).toInt then (km_mindOf_17 a68 x1 x2 x4 m (y3 + 1) (y5 + 1)) else (km_mindOf_17 a68 x1 x2 x4 m (y3 + 0) (y5 + 1))) else (km_mindOf_17 a68 x1 x2 x4 m (y3 + 0) (y5 + 1)))
theorem t_km_mindOf_17 {f : Nat} {Q : Option Value → sm_H → Prop} : ∀ (m : Nat) {B D : Nat} {F : Nat → Nat → Int32} {A : Nat → List Int32} {L : Nat → List Int64} {x1 : Int32} {x2 : Int32} {y3 : Int32} {x4 : Int32} {y5 : Int32} {o6 : Option Value}, m = ((F 67 3).toInt - y5.toInt).toNat → (∀ q5 : Int32, ∀ q6 : Option Value, wl_E f B D mm196.2.2.2.2.2.2.2.2 86 [some (.ref 67), some (.int x1), some (.int x2), some (.int (km_mindOf_17 (A 68) x1 x2 x4 m y3 y5)), some (.int x4), some (.int q5), q6] [] (hz F A L) Q) → wl_E f B D mm196.2.2.2.2.2.2.2.2 17 [some (.ref 67), some (.int x1), some (.int x2), some (.int y3), some (.int x4), some (.int y5), o6] [] (hz F A L) Q := by
  intro m
  induction m with
  | zero =>
    intro B D F A L x1 x2 y3 x4 y5 o6 hm K
    generalize hT : (km_mindOf_17 (A 68) x1 x2 x4 0 y3 y5) = T at K
    have hE : T = y3 := hT.symm
    clear hT
    refine w_n 3 (pc1 := 23) (ls1 := [some (.ref 67), some (.int x1), some (.int x2), some (.int y3), some (.int x4), some (.int y5), o6]) (st1 := [.int (F 67 3), .int y5]) (hp1 := (hz F A L)) rfl ?_
    refine w_ge (p3 := 26) rfl rfl (fun hb => ?_) (fun h => False.elim (by have h : y5.toInt < (F 67 3).toInt := h; omega))
    subst T
    exact cvE rfl rfl rfl (K _ _)
  | succ m ih =>
    intro B D F A L x1 x2 y3 x4 y5 o6 hm K
    generalize hT : (km_mindOf_17 (A 68) x1 x2 x4 (m + 1) y3 y5) = T at K
    have hE : T = (if (km_placeOf (A 68) x1 x4).toInt < (km_placeOf (A 68) x1 y5).toInt then (if (km_placeOf (A 68) x2 x4).toInt < (km_placeOf (A 68) x2 y5).toInt then (km_mindOf_17 (A 68) x1 x2 x4 m (y3 + 1) (y5 + 1)) else (km_mindOf_17 (A 68) x1 x2 x4 m (y3 + 0) (y5 + 1))) else (km_mindOf_17 (A 68) x1 x2 x4 m (y3 + 0) (y5 + 1))) := hT.symm
    clear hT
    refine w_n 3 (pc1 := 23) (ls1 := [some (.ref 67), some (.int x1), some (.int x2), some (.int y3), some (.int x4), some (.int y5), o6]) (st1 := [.int (F 67 3), .int y5]) (hp1 := (hz F A L)) rfl ?_
    refine w_ge (p3 := 26) rfl rfl (fun h => False.elim (by have h : (F 67 3).toInt ≤ y5.toInt := h; omega)) (fun hb => ?_)
    refine w_n 3 (pc1 := 30) (ls1 := [some (.ref 67), some (.int x1), some (.int x2), some (.int y3), some (.int x4), some (.int y5), o6]) (st1 := [.int x4, .int x1, .ref 67]) (hp1 := (hz F A L)) rfl ?_
    refine w_c rfl rfl (t_km_placeOf ?_)
    show wl_E f _ _ mm196.2.2.2.2.2.2.2.2 33 [some (.ref 67), some (.int x1), some (.int x2), some (.int y3), some (.int x4), some (.int y5), o6] [.int (km_placeOf (A 68) x1 x4)] (hz F A L) _
    generalize hG229 : (km_placeOf (A 68) x1 x4) = G229 at hE ⊢
    refine w_n 3 (pc1 := 37) (ls1 := [some (.ref 67), some (.int x1), some (.int x2), some (.int y3), some (.int x4), some (.int y5), o6]) (st1 := [.int y5, .int x1, .ref 67, .int G229]) (hp1 := (hz F A L)) rfl ?_
    refine w_c rfl rfl (t_km_placeOf ?_)
    show wl_E f _ _ mm196.2.2.2.2.2.2.2.2 40 [some (.ref 67), some (.int x1), some (.int x2), some (.int y3), some (.int x4), some (.int y5), o6] [.int (km_placeOf (A 68) x1 y5), .int G229] (hz F A L) _
    generalize hG230 : (km_placeOf (A 68) x1 y5) = G230 at hE ⊢
    refine w_ge (p3 := 43) rfl rfl (fun h => ?_) (fun h => ?_)
    · have h1 : G230.toInt ≤ G229.toInt := h
      rw [if_neg (Int.not_lt.mpr h1)] at hE
      refine w_n 4 (pc1 := 70) (ls1 := [some (.ref 67), some (.int x1), some (.int x2), some (.int y3), some (.int x4), some (.int y5), some (.int 0)]) (st1 := [.int 0, .int y3]) (hp1 := (hz F A L)) rfl ?_
      refine w_zeq (p3 := 73) rfl rfl (fun _ => ?_) (fun h => absurd h (by decide))
      refine w_n 5 (pc1 := 17) (ls1 := [some (.ref 67), some (.int x1), some (.int x2), some (.int (y3 + 0)), some (.int x4), some (.int (y5 + 1)), some (.int 0)]) (st1 := []) (hp1 := (hz F A L)) rfl ?_
      subst T
      have hb2 := i_up (B := (F 67 3)) hb
      have hb3 : y5.toInt < (F 67 3).toInt := hb
      exact ih (show m = ((F 67 3).toInt - (y5 + 1).toInt).toNat by rw [hb2]; omega) (fun q5 q6 => cvE rfl rfl rfl (K q5 q6))
    · have h1 : G229.toInt < G230.toInt := h
      rw [if_pos h1] at hE
      refine w_n 3 (pc1 := 47) (ls1 := [some (.ref 67), some (.int x1), some (.int x2), some (.int y3), some (.int x4), some (.int y5), o6]) (st1 := [.int x4, .int x2, .ref 67]) (hp1 := (hz F A L)) rfl ?_
      refine w_c rfl rfl (t_km_placeOf ?_)
      show wl_E f _ _ mm196.2.2.2.2.2.2.2.2 50 [some (.ref 67), some (.int x1), some (.int x2), some (.int y3), some (.int x4), some (.int y5), o6] [.int (km_placeOf (A 68) x2 x4)] (hz F A L) _
      generalize hG231 : (km_placeOf (A 68) x2 x4) = G231 at hE ⊢
      refine w_n 3 (pc1 := 54) (ls1 := [some (.ref 67), some (.int x1), some (.int x2), some (.int y3), some (.int x4), some (.int y5), o6]) (st1 := [.int y5, .int x2, .ref 67, .int G231]) (hp1 := (hz F A L)) rfl ?_
      refine w_c rfl rfl (t_km_placeOf ?_)
      show wl_E f _ _ mm196.2.2.2.2.2.2.2.2 57 [some (.ref 67), some (.int x1), some (.int x2), some (.int y3), some (.int x4), some (.int y5), o6] [.int (km_placeOf (A 68) x2 y5), .int G231] (hz F A L) _
      generalize hG232 : (km_placeOf (A 68) x2 y5) = G232 at hE ⊢
      refine w_ge (p3 := 60) rfl rfl (fun h => ?_) (fun h => ?_)
      · have h2 : G232.toInt ≤ G231.toInt := h
        rw [if_neg (Int.not_lt.mpr h2)] at hE
        refine w_n 4 (pc1 := 70) (ls1 := [some (.ref 67), some (.int x1), some (.int x2), some (.int y3), some (.int x4), some (.int y5), some (.int 0)]) (st1 := [.int 0, .int y3]) (hp1 := (hz F A L)) rfl ?_
        refine w_zeq (p3 := 73) rfl rfl (fun _ => ?_) (fun h => absurd h (by decide))
        refine w_n 5 (pc1 := 17) (ls1 := [some (.ref 67), some (.int x1), some (.int x2), some (.int (y3 + 0)), some (.int x4), some (.int (y5 + 1)), some (.int 0)]) (st1 := []) (hp1 := (hz F A L)) rfl ?_
        subst T
        have hb2 := i_up (B := (F 67 3)) hb
        have hb3 : y5.toInt < (F 67 3).toInt := hb
        exact ih (show m = ((F 67 3).toInt - (y5 + 1).toInt).toNat by rw [hb2]; omega) (fun q5 q6 => cvE rfl rfl rfl (K q5 q6))
      · have h2 : G231.toInt < G232.toInt := h
        rw [if_pos h2] at hE
        refine w_n 5 (pc1 := 70) (ls1 := [some (.ref 67), some (.int x1), some (.int x2), some (.int y3), some (.int x4), some (.int y5), some (.int 1)]) (st1 := [.int 1, .int y3]) (hp1 := (hz F A L)) rfl ?_
        refine w_zeq (p3 := 73) rfl rfl (fun h => absurd h (by decide)) (fun _ => ?_)
        refine w_n 6 (pc1 := 17) (ls1 := [some (.ref 67), some (.int x1), some (.int x2), some (.int (y3 + 1)), some (.int x4), some (.int (y5 + 1)), some (.int 1)]) (st1 := []) (hp1 := (hz F A L)) rfl ?_
        subst T
        have hb2 := i_up (B := (F 67 3)) hb
        have hb3 : y5.toInt < (F 67 3).toInt := hb
        exact ih (show m = ((F 67 3).toInt - (y5 + 1).toInt).toNat by rw [hb2]; omega) (fun q5 q6 => cvE rfl rfl rfl (K q5 q6))
noncomputable def km_mindOf_5 (f67_3 : Int32) (a68 : List Int32) (x1 : Int32) (x2 : Int32) : Nat → Int32 → Int32 → Int32
  | 0, y3, _ => y3
  | m + 1, y3, y4 => (km_mindOf_5 f67_3 a68 x1 x2 m (km_mindOf_17 a68 x1 x2 y4 f67_3.toInt.toNat y3 0) (y4 + 1))
theorem t_km_mindOf_5 {f : Nat} {Q : Option Value → sm_H → Prop} : ∀ (m : Nat) {B D : Nat} {F : Nat → Nat → Int32} {A : Nat → List Int32} {L : Nat → List Int64} {x1 : Int32} {x2 : Int32} {y3 : Int32} {y4 : Int32} {o5 : Option Value} {o6 : Option Value}, m = ((F 67 3).toInt - y4.toInt).toNat → (∀ q4 : Int32, ∀ q5 : Option Value, ∀ q6 : Option Value, wl_E f B D mm196.2.2.2.2.2.2.2.2 92 [some (.ref 67), some (.int x1), some (.int x2), some (.int (km_mindOf_5 (F 67 3) (A 68) x1 x2 m y3 y4)), some (.int q4), q5, q6] [] (hz F A L) Q) → wl_E f B D mm196.2.2.2.2.2.2.2.2 5 [some (.ref 67), some (.int x1), some (.int x2), some (.int y3), some (.int y4), o5, o6] [] (hz F A L) Q := by
  intro m
  induction m with
  | zero =>
    intro B D F A L x1 x2 y3 y4 o5 o6 hm K
    generalize hT : (km_mindOf_5 (F 67 3) (A 68) x1 x2 0 y3 y4) = T at K
    have hE : T = y3 := hT.symm
    clear hT
    refine w_n 3 (pc1 := 11) (ls1 := [some (.ref 67), some (.int x1), some (.int x2), some (.int y3), some (.int y4), o5, o6]) (st1 := [.int (F 67 3), .int y4]) (hp1 := (hz F A L)) rfl ?_
    refine w_ge (p3 := 14) rfl rfl (fun hb => ?_) (fun h => False.elim (by have h : y4.toInt < (F 67 3).toInt := h; omega))
    subst T
    exact cvE rfl rfl rfl (K _ _ _)
  | succ m ih =>
    intro B D F A L x1 x2 y3 y4 o5 o6 hm K
    generalize hT : (km_mindOf_5 (F 67 3) (A 68) x1 x2 (m + 1) y3 y4) = T at K
    have hE : T = (km_mindOf_5 (F 67 3) (A 68) x1 x2 m (km_mindOf_17 (A 68) x1 x2 y4 (F 67 3).toInt.toNat y3 0) (y4 + 1)) := hT.symm
    clear hT
    refine w_n 3 (pc1 := 11) (ls1 := [some (.ref 67), some (.int x1), some (.int x2), some (.int y3), some (.int y4), o5, o6]) (st1 := [.int (F 67 3), .int y4]) (hp1 := (hz F A L)) rfl ?_
    refine w_ge (p3 := 14) rfl rfl (fun h => False.elim (by have h : (F 67 3).toInt ≤ y4.toInt := h; omega)) (fun hb => ?_)
    refine w_n 2 (pc1 := 17) (ls1 := [some (.ref 67), some (.int x1), some (.int x2), some (.int y3), some (.int y4), some (.int 0), o6]) (st1 := []) (hp1 := (hz F A L)) rfl ?_
    refine t_km_mindOf_17 (F 67 3).toInt.toNat (show (F 67 3).toInt.toNat = ((F 67 3).toInt - (0 : Int32).toInt).toNat by have e0 : (0 : Int32).toInt = 0 := rfl; first | rfl | omega) ?_
    intro r1 r2
    show wl_E f _ _ mm196.2.2.2.2.2.2.2.2 86 [some (.ref 67), some (.int x1), some (.int x2), some (.int (km_mindOf_17 (A 68) x1 x2 y4 (F 67 3).toInt.toNat y3 0)), some (.int y4), some (.int r1), r2] [] (hz F A L) _
    generalize hG233 : (km_mindOf_17 (A 68) x1 x2 y4 (F 67 3).toInt.toNat y3 0) = G233 at hE ⊢
    refine w_n 2 (pc1 := 5) (ls1 := [some (.ref 67), some (.int x1), some (.int x2), some (.int G233), some (.int (y4 + 1)), some (.int r1), r2]) (st1 := []) (hp1 := (hz F A L)) rfl ?_
    subst T
    have hb2 := i_up (B := (F 67 3)) hb
    have hb3 : y4.toInt < (F 67 3).toInt := hb
    exact ih (show m = ((F 67 3).toInt - (y4 + 1).toInt).toNat by rw [hb2]; omega) (fun q4 q5 q6 => cvE rfl rfl rfl (K q4 q5 q6))
noncomputable def km_mindOf (f67_3 : Int32) (a68 : List Int32) (x1 : Int32) (x2 : Int32) : Int32 := (km_mindOf_5 f67_3 a68 x1 x2 f67_3.toInt.toNat 0 0)
theorem t_km_mindOf {f D : Nat} {F : Nat → Nat → Int32} {A : Nat → List Int32} {L : Nat → List Int64} {Q : Option Value → sm_H → Prop} {x1 : Int32} {x2 : Int32} (K : Q (some (.int (km_mindOf (F 67 3) (A 68) x1 x2))) (hz F A L)) : wl_M f D 196 [.ref 67, .int x1, .int x2] (hz F A L) Q := by
  generalize hT : (km_mindOf (F 67 3) (A 68) x1 x2) = T at K
  have hE : T = (km_mindOf_5 (F 67 3) (A 68) x1 x2 (F 67 3).toInt.toNat 0 0) := hT.symm
  clear hT
  refine w_m (E := mm196) rfl ?_
  show wl_E f f (D - 1) mm196.2.2.2.2.2.2.2.2 0 [some (.ref 67), some (.int x1), some (.int x2), none, none, none, none] [] (hz F A L) Q
  refine w_n 4 (pc1 := 5) (ls1 := [some (.ref 67), some (.int x1), some (.int x2), some (.int 0), some (.int 0), none, none]) (st1 := []) (hp1 := (hz F A L)) rfl ?_
  refine t_km_mindOf_5 (F 67 3).toInt.toNat (show (F 67 3).toInt.toNat = ((F 67 3).toInt - (0 : Int32).toInt).toNat by have e0 : (0 : Int32).toInt = 0 := rfl; first | rfl | omega) ?_
  intro r1 r2 r3
  show wl_E f _ _ mm196.2.2.2.2.2.2.2.2 92 [some (.ref 67), some (.int x1), some (.int x2), some (.int (km_mindOf_5 (F 67 3) (A 68) x1 x2 (F 67 3).toInt.toNat 0 0)), some (.int r1), r2, r3] [] (hz F A L) _
  generalize hG234 : (km_mindOf_5 (F 67 3) (A 68) x1 x2 (F 67 3).toInt.toNat 0 0) = G234 at hE ⊢
  refine w_n 1 (pc1 := 93) (ls1 := [some (.ref 67), some (.int x1), some (.int x2), some (.int G234), some (.int r1), r2, r3]) (st1 := [.int G234]) (hp1 := (hz F A L)) rfl ?_
  subst T
  exact w_ri rfl (cvQ rfl rfl rfl K)
noncomputable def km_holdsAny_2 (f : Nat) (a78 : List Int32) (a79 : List Int32) (a81 : List Int32) (a82 : List Int32) (a84 : List Int32) (x1 : Int32) : Nat → Int32 → List Int32 → Int32 × List Int32
  | 0, _, a83 => (0, a83)
  | m + 1, y2, a83 => (if (a79.getD y2.toInt.toNat 0) = x1 then (if (km_comesTo f a78 a83 a84 (a81.getD y2.toInt.toNat 0) (a82.getD y2.toInt.toNat 0)).1 = 1 then (1, (km_comesTo f a78 a83 a84 (a81.getD y2.toInt.toNat 0) (a82.getD y2.toInt.toNat 0)).2) else (km_holdsAny_2 f a78 a79 a81 a82 a84 x1 m (y2 + 1) (km_comesTo f a78 a83 a84 (a81.getD y2.toInt.toNat 0) (a82.getD y2.toInt.toNat 0)).2)) else (km_holdsAny_2 f a78 a79 a81 a82 a84 x1 m (y2 + 1) a83))
theorem t_km_holdsAny_2 {f : Nat} {Q : Option Value → sm_H → Prop} : ∀ (m : Nat) {B D : Nat} {F : Nat → Nat → Int32} {A : Nat → List Int32} {L : Nat → List Int64} {x1 : Int32} {y2 : Int32}, m = ((F 67 17).toInt - y2.toInt).toNat → (Q (some (.int ((km_holdsAny_2 f (A 78) (A 79) (A 81) (A 82) (A 84) x1 m y2 (A 83)).1))) (hz F (uA A 83 ((km_holdsAny_2 f (A 78) (A 79) (A 81) (A 82) (A 84) x1 m y2 (A 83)).2)) L)) → wl_E f B D mm197.2.2.2.2.2.2.2.2 2 [some (.ref 67), some (.int x1), some (.int y2)] [] (hz F A L) Q := by
  intro m
  induction m with
  | zero =>
    intro B D F A L x1 y2 hm K
    generalize hT : (km_holdsAny_2 f (A 78) (A 79) (A 81) (A 82) (A 84) x1 0 y2 (A 83)) = T at K
    have hE : T = (0, (A 83)) := hT.symm
    clear hT
    refine w_n 3 (pc1 := 7) (ls1 := [some (.ref 67), some (.int x1), some (.int y2)]) (st1 := [.int (F 67 17), .int y2]) (hp1 := (hz F A L)) rfl ?_
    refine w_ge (p3 := 10) rfl rfl (fun hb => ?_) (fun h => False.elim (by have h : y2.toInt < (F 67 17).toInt := h; omega))
    refine w_n 1 (pc1 := 49) (ls1 := [some (.ref 67), some (.int x1), some (.int y2)]) (st1 := [.int 0]) (hp1 := (hz F A L)) rfl ?_
    subst T
    exact w_ri rfl (cvQ rfl (funext fun q => if k0 : q = 83 then by subst k0; exact Eq.trans (b := (A 83)) rfl rfl else by unfold uA; simp only [nb1 k0, cond_false]) rfl K)
  | succ m ih =>
    intro B D F A L x1 y2 hm K
    generalize hT : (km_holdsAny_2 f (A 78) (A 79) (A 81) (A 82) (A 84) x1 (m + 1) y2 (A 83)) = T at K
    have hE : T = (if ((A 79).getD y2.toInt.toNat 0) = x1 then (if (km_comesTo f (A 78) (A 83) (A 84) ((A 81).getD y2.toInt.toNat 0) ((A 82).getD y2.toInt.toNat 0)).1 = 1 then (1, (km_comesTo f (A 78) (A 83) (A 84) ((A 81).getD y2.toInt.toNat 0) ((A 82).getD y2.toInt.toNat 0)).2) else (km_holdsAny_2 f (A 78) (A 79) (A 81) (A 82) (A 84) x1 m (y2 + 1) (km_comesTo f (A 78) (A 83) (A 84) ((A 81).getD y2.toInt.toNat 0) ((A 82).getD y2.toInt.toNat 0)).2)) else (km_holdsAny_2 f (A 78) (A 79) (A 81) (A 82) (A 84) x1 m (y2 + 1) (A 83))) := hT.symm
    clear hT
    refine w_n 3 (pc1 := 7) (ls1 := [some (.ref 67), some (.int x1), some (.int y2)]) (st1 := [.int (F 67 17), .int y2]) (hp1 := (hz F A L)) rfl ?_
    refine w_ge (p3 := 10) rfl rfl (fun h => False.elim (by have h : (F 67 17).toInt ≤ y2.toInt := h; omega)) (fun hb => ?_)
    refine w_n 3 (pc1 := 15) (ls1 := [some (.ref 67), some (.int x1), some (.int y2)]) (st1 := [.int y2, .ref 79]) (hp1 := (hz F A L)) rfl ?_
    refine w_al (k := 79) (l := (A 79)) rfl rfl rfl (fun ab => ?_)
    refine w_n 1 (pc1 := 17) (ls1 := [some (.ref 67), some (.int x1), some (.int y2)]) (st1 := [.int x1, .int ((A 79).getD y2.toInt.toNat 0)]) (hp1 := (hz F A L)) rfl ?_
    refine w_ne (p3 := 20) rfl rfl (fun h => ?_) (fun h => ?_)
    · have h1 : ¬ ((A 79).getD y2.toInt.toNat 0) = x1 := h
      rw [if_neg h1] at hE
      refine w_n 2 (pc1 := 2) (ls1 := [some (.ref 67), some (.int x1), some (.int (y2 + 1))]) (st1 := []) (hp1 := (hz F A L)) rfl ?_
      subst T
      have hb2 := i_up (B := (F 67 17)) hb
      have hb3 : y2.toInt < (F 67 17).toInt := hb
      exact ih (show m = ((F 67 17).toInt - (y2 + 1).toInt).toNat by rw [hb2]; omega) (cvQ rfl (funext fun q => if k0 : q = 83 then by subst k0; exact Eq.trans (b := (km_holdsAny_2 f (A 78) (A 79) (A 81) (A 82) (A 84) x1 m (y2 + 1) (A 83)).2) rfl rfl else by unfold uA; simp only [nb1 k0, cond_false]) rfl K)
    · have h1 : ((A 79).getD y2.toInt.toNat 0) = x1 := h
      rw [if_pos h1] at hE
      refine w_n 4 (pc1 := 26) (ls1 := [some (.ref 67), some (.int x1), some (.int y2)]) (st1 := [.int y2, .ref 81, .ref 67]) (hp1 := (hz F A L)) rfl ?_
      refine w_al (k := 81) (l := (A 81)) rfl rfl rfl (fun ab => ?_)
      refine w_n 3 (pc1 := 32) (ls1 := [some (.ref 67), some (.int x1), some (.int y2)]) (st1 := [.int y2, .ref 82, .int ((A 81).getD y2.toInt.toNat 0), .ref 67]) (hp1 := (hz F A L)) rfl ?_
      refine w_al (k := 82) (l := (A 82)) rfl rfl rfl (fun ab => ?_)
      refine w_c rfl rfl (t_km_comesTo ?_)
      show wl_E f _ _ mm197.2.2.2.2.2.2.2.2 36 [some (.ref 67), some (.int x1), some (.int y2)] [.int (km_comesTo f (A 78) (A 83) (A 84) ((A 81).getD y2.toInt.toNat 0) ((A 82).getD y2.toInt.toNat 0)).1] (hz F (uA A 83 (km_comesTo f (A 78) (A 83) (A 84) ((A 81).getD y2.toInt.toNat 0) ((A 82).getD y2.toInt.toNat 0)).2) L) _
      generalize hG236 : (km_comesTo f (A 78) (A 83) (A 84) ((A 81).getD y2.toInt.toNat 0) ((A 82).getD y2.toInt.toNat 0)) = G236 at hE ⊢
      refine w_n 1 (pc1 := 37) (ls1 := [some (.ref 67), some (.int x1), some (.int y2)]) (st1 := [.int 1, .int G236.1]) (hp1 := (hz F (uA A 83 G236.2) L)) rfl ?_
      refine w_ne (p3 := 40) rfl rfl (fun h => ?_) (fun h => ?_)
      · have h2 : ¬ G236.1 = 1 := h
        rw [if_neg h2] at hE
        refine w_n 2 (pc1 := 2) (ls1 := [some (.ref 67), some (.int x1), some (.int (y2 + 1))]) (st1 := []) (hp1 := (hz F (uA A 83 G236.2) L)) rfl ?_
        subst T
        have hb2 := i_up (B := (F 67 17)) hb
        have hb3 : y2.toInt < (F 67 17).toInt := hb
        exact ih (show m = ((F 67 17).toInt - (y2 + 1).toInt).toNat by rw [hb2]; omega) (cvQ rfl (funext fun q => if k0 : q = 83 then by subst k0; exact Eq.trans (b := (km_holdsAny_2 f (A 78) (A 79) (A 81) (A 82) (A 84) x1 m (y2 + 1) G236.2).2) rfl rfl else by unfold uA; simp only [nb1 k0, cond_false]) rfl K)
      · have h2 : G236.1 = 1 := h
        rw [if_pos h2] at hE
        refine w_n 1 (pc1 := 41) (ls1 := [some (.ref 67), some (.int x1), some (.int y2)]) (st1 := [.int 1]) (hp1 := (hz F (uA A 83 G236.2) L)) rfl ?_
        subst T
        exact w_ri rfl (cvQ rfl rfl rfl K)
noncomputable def km_holdsAny (f : Nat) (f67_17 : Int32) (a78 : List Int32) (a79 : List Int32) (a81 : List Int32) (a82 : List Int32) (a83 : List Int32) (a84 : List Int32) (x1 : Int32) : Int32 × List Int32 := (km_holdsAny_2 f a78 a79 a81 a82 a84 x1 f67_17.toInt.toNat 0 a83)
theorem t_km_holdsAny {f D : Nat} {F : Nat → Nat → Int32} {A : Nat → List Int32} {L : Nat → List Int64} {Q : Option Value → sm_H → Prop} {x1 : Int32} (K : Q (some (.int ((km_holdsAny f (F 67 17) (A 78) (A 79) (A 81) (A 82) (A 83) (A 84) x1).1))) (hz F (uA A 83 ((km_holdsAny f (F 67 17) (A 78) (A 79) (A 81) (A 82) (A 83) (A 84) x1).2)) L)) : wl_M f D 197 [.ref 67, .int x1] (hz F A L) Q := by
  generalize hT : (km_holdsAny f (F 67 17) (A 78) (A 79) (A 81) (A 82) (A 83) (A 84) x1) = T at K
  have hE : T = (km_holdsAny_2 f (A 78) (A 79) (A 81) (A 82) (A 84) x1 (F 67 17).toInt.toNat 0 (A 83)) := hT.symm
  clear hT
  refine w_m (E := mm197) rfl ?_
  show wl_E f f (D - 1) mm197.2.2.2.2.2.2.2.2 0 [some (.ref 67), some (.int x1), none] [] (hz F A L) Q
  refine w_n 2 (pc1 := 2) (ls1 := [some (.ref 67), some (.int x1), some (.int 0)]) (st1 := []) (hp1 := (hz F A L)) rfl ?_
  subst T
  exact t_km_holdsAny_2 _ (show (F 67 17).toInt.toNat = ((F 67 17).toInt - (0 : Int32).toInt).toNat by have e0 : (0 : Int32).toInt = 0 := rfl; first | rfl | omega) (cvQ rfl (funext fun q => if k0 : q = 83 then by subst k0; exact Eq.trans (b := (km_holdsAny_2 f (A 78) (A 79) (A 81) (A 82) (A 84) x1 (F 67 17).toInt.toNat 0 (A 83)).2) rfl rfl else by unfold uA; simp only [nb1 k0, cond_false]) rfl K)
noncomputable def km_likesBy (f : Nat) (f67_3 : Int32) (f67_17 : Int32) (a68 : List Int32) (a78 : List Int32) (a79 : List Int32) (a80 : List Int32) (a81 : List Int32) (a82 : List Int32) (a83 : List Int32) (a84 : List Int32) (x1 : Int32) (x2 : Int32) : Int32 × List Int32 × List Int32 := (if (km_holdsAny f f67_17 a78 a79 a81 a82 a83 (((((km_feelsOne a68 a84 x2).set 0 x1).set 1 x2).set 2 (km_leftOf a68 x1 x2)).set 3 (km_mindOf f67_3 a68 x1 x2)) 120).1 = 0 then ((km_byLaw f f67_17 a78 a79 a80 a81 a82 (km_holdsAny f f67_17 a78 a79 a81 a82 a83 (((((km_feelsOne a68 a84 x2).set 0 x1).set 1 x2).set 2 (km_leftOf a68 x1 x2)).set 3 (km_mindOf f67_3 a68 x1 x2)) 120).2 (((((km_feelsOne a68 a84 x2).set 0 x1).set 1 x2).set 2 (km_leftOf a68 x1 x2)).set 3 (km_mindOf f67_3 a68 x1 x2)) 101 9999).1, (km_byLaw f f67_17 a78 a79 a80 a81 a82 (km_holdsAny f f67_17 a78 a79 a81 a82 a83 (((((km_feelsOne a68 a84 x2).set 0 x1).set 1 x2).set 2 (km_leftOf a68 x1 x2)).set 3 (km_mindOf f67_3 a68 x1 x2)) 120).2 (((((km_feelsOne a68 a84 x2).set 0 x1).set 1 x2).set 2 (km_leftOf a68 x1 x2)).set 3 (km_mindOf f67_3 a68 x1 x2)) 101 9999).2, (((((km_feelsOne a68 a84 x2).set 0 x1).set 1 x2).set 2 (km_leftOf a68 x1 x2)).set 3 (km_mindOf f67_3 a68 x1 x2))) else (0, (km_holdsAny f f67_17 a78 a79 a81 a82 a83 (((((km_feelsOne a68 a84 x2).set 0 x1).set 1 x2).set 2 (km_leftOf a68 x1 x2)).set 3 (km_mindOf f67_3 a68 x1 x2)) 120).2, (((((km_feelsOne a68 a84 x2).set 0 x1).set 1 x2).set 2 (km_leftOf a68 x1 x2)).set 3 (km_mindOf f67_3 a68 x1 x2))))
theorem t_km_likesBy {f D : Nat} {F : Nat → Nat → Int32} {A : Nat → List Int32} {L : Nat → List Int64} {Q : Option Value → sm_H → Prop} {x1 : Int32} {x2 : Int32} (K : Q (some (.int ((km_likesBy f (F 67 3) (F 67 17) (A 68) (A 78) (A 79) (A 80) (A 81) (A 82) (A 83) (A 84) x1 x2).1))) (hz F (uA (uA A 83 ((km_likesBy f (F 67 3) (F 67 17) (A 68) (A 78) (A 79) (A 80) (A 81) (A 82) (A 83) (A 84) x1 x2).2.1)) 84 ((km_likesBy f (F 67 3) (F 67 17) (A 68) (A 78) (A 79) (A 80) (A 81) (A 82) (A 83) (A 84) x1 x2).2.2)) L)) : wl_M f D 195 [.ref 67, .int x1, .int x2] (hz F A L) Q := by
  generalize hT : (km_likesBy f (F 67 3) (F 67 17) (A 68) (A 78) (A 79) (A 80) (A 81) (A 82) (A 83) (A 84) x1 x2) = T at K
  have hE : T = (if (km_holdsAny f (F 67 17) (A 78) (A 79) (A 81) (A 82) (A 83) (((((km_feelsOne (A 68) (A 84) x2).set 0 x1).set 1 x2).set 2 (km_leftOf (A 68) x1 x2)).set 3 (km_mindOf (F 67 3) (A 68) x1 x2)) 120).1 = 0 then ((km_byLaw f (F 67 17) (A 78) (A 79) (A 80) (A 81) (A 82) (km_holdsAny f (F 67 17) (A 78) (A 79) (A 81) (A 82) (A 83) (((((km_feelsOne (A 68) (A 84) x2).set 0 x1).set 1 x2).set 2 (km_leftOf (A 68) x1 x2)).set 3 (km_mindOf (F 67 3) (A 68) x1 x2)) 120).2 (((((km_feelsOne (A 68) (A 84) x2).set 0 x1).set 1 x2).set 2 (km_leftOf (A 68) x1 x2)).set 3 (km_mindOf (F 67 3) (A 68) x1 x2)) 101 9999).1, (km_byLaw f (F 67 17) (A 78) (A 79) (A 80) (A 81) (A 82) (km_holdsAny f (F 67 17) (A 78) (A 79) (A 81) (A 82) (A 83) (((((km_feelsOne (A 68) (A 84) x2).set 0 x1).set 1 x2).set 2 (km_leftOf (A 68) x1 x2)).set 3 (km_mindOf (F 67 3) (A 68) x1 x2)) 120).2 (((((km_feelsOne (A 68) (A 84) x2).set 0 x1).set 1 x2).set 2 (km_leftOf (A 68) x1 x2)).set 3 (km_mindOf (F 67 3) (A 68) x1 x2)) 101 9999).2, (((((km_feelsOne (A 68) (A 84) x2).set 0 x1).set 1 x2).set 2 (km_leftOf (A 68) x1 x2)).set 3 (km_mindOf (F 67 3) (A 68) x1 x2))) else (0, (km_holdsAny f (F 67 17) (A 78) (A 79) (A 81) (A 82) (A 83) (((((km_feelsOne (A 68) (A 84) x2).set 0 x1).set 1 x2).set 2 (km_leftOf (A 68) x1 x2)).set 3 (km_mindOf (F 67 3) (A 68) x1 x2)) 120).2, (((((km_feelsOne (A 68) (A 84) x2).set 0 x1).set 1 x2).set 2 (km_leftOf (A 68) x1 x2)).set 3 (km_mindOf (F 67 3) (A 68) x1 x2)))) := hT.symm
  clear hT
  refine w_m (E := mm195) rfl ?_
  show wl_E f f (D - 1) mm195.2.2.2.2.2.2.2.2 0 [some (.ref 67), some (.int x1), some (.int x2)] [] (hz F A L) Q
  refine w_n 2 (pc1 := 2) (ls1 := [some (.ref 67), some (.int x1), some (.int x2)]) (st1 := [.int x2, .ref 67]) (hp1 := (hz F A L)) rfl ?_
  refine w_c rfl rfl (t_km_feelsOne ?_)
  show wl_E f _ _ mm195.2.2.2.2.2.2.2.2 5 [some (.ref 67), some (.int x1), some (.int x2)] [] (hz F (uA A 84 (km_feelsOne (A 68) (A 84) x2)) L) _
  generalize hG227 : (km_feelsOne (A 68) (A 84) x2) = G227 at hE ⊢
  refine w_n 4 (pc1 := 11) (ls1 := [some (.ref 67), some (.int x1), some (.int x2)]) (st1 := [.int x1, .int 0, .ref 84]) (hp1 := (hz F (uA A 84 G227) L)) rfl ?_
  refine w_as (k := 84) (l := G227) (hp1 := (hz F (uA (uA A 84 G227) 84 (G227.set 0 x1)) L)) rfl rfl rfl (hz_s84 _) (fun _ => ?_)
  refine w_n 4 (pc1 := 18) (ls1 := [some (.ref 67), some (.int x1), some (.int x2)]) (st1 := [.int x2, .int 1, .ref 84]) (hp1 := (hz F (uA (uA A 84 G227) 84 (G227.set 0 x1)) L)) rfl ?_
  refine w_as (k := 84) (l := (G227.set 0 x1)) (hp1 := (hz F (uA (uA (uA A 84 G227) 84 (G227.set 0 x1)) 84 ((G227.set 0 x1).set 1 x2)) L)) rfl rfl rfl (hz_s84 _) (fun _ => ?_)
  refine w_n 6 (pc1 := 27) (ls1 := [some (.ref 67), some (.int x1), some (.int x2)]) (st1 := [.int x2, .int x1, .ref 67, .int 2, .ref 84]) (hp1 := (hz F (uA (uA (uA A 84 G227) 84 (G227.set 0 x1)) 84 ((G227.set 0 x1).set 1 x2)) L)) rfl ?_
  refine w_c rfl rfl (t_km_leftOf ?_)
  show wl_E f _ _ mm195.2.2.2.2.2.2.2.2 30 [some (.ref 67), some (.int x1), some (.int x2)] [.int (km_leftOf (A 68) x1 x2), .int 2, .ref 84] (hz F (uA (uA (uA A 84 G227) 84 (G227.set 0 x1)) 84 ((G227.set 0 x1).set 1 x2)) L) _
  generalize hG228 : (km_leftOf (A 68) x1 x2) = G228 at hE ⊢
  refine w_as (k := 84) (l := ((G227.set 0 x1).set 1 x2)) (hp1 := (hz F (uA (uA (uA (uA A 84 G227) 84 (G227.set 0 x1)) 84 ((G227.set 0 x1).set 1 x2)) 84 (((G227.set 0 x1).set 1 x2).set 2 G228)) L)) rfl rfl rfl (hz_s84 _) (fun _ => ?_)
  refine w_n 6 (pc1 := 39) (ls1 := [some (.ref 67), some (.int x1), some (.int x2)]) (st1 := [.int x2, .int x1, .ref 67, .int 3, .ref 84]) (hp1 := (hz F (uA (uA (uA (uA A 84 G227) 84 (G227.set 0 x1)) 84 ((G227.set 0 x1).set 1 x2)) 84 (((G227.set 0 x1).set 1 x2).set 2 G228)) L)) rfl ?_
  refine w_c rfl rfl (t_km_mindOf ?_)
  show wl_E f _ _ mm195.2.2.2.2.2.2.2.2 42 [some (.ref 67), some (.int x1), some (.int x2)] [.int (km_mindOf (F 67 3) (A 68) x1 x2), .int 3, .ref 84] (hz F (uA (uA (uA (uA A 84 G227) 84 (G227.set 0 x1)) 84 ((G227.set 0 x1).set 1 x2)) 84 (((G227.set 0 x1).set 1 x2).set 2 G228)) L) _
  generalize hG235 : (km_mindOf (F 67 3) (A 68) x1 x2) = G235 at hE ⊢
  refine w_as (k := 84) (l := (((G227.set 0 x1).set 1 x2).set 2 G228)) (hp1 := (hz F (uA (uA (uA (uA (uA A 84 G227) 84 (G227.set 0 x1)) 84 ((G227.set 0 x1).set 1 x2)) 84 (((G227.set 0 x1).set 1 x2).set 2 G228)) 84 ((((G227.set 0 x1).set 1 x2).set 2 G228).set 3 G235)) L)) rfl rfl rfl (hz_s84 _) (fun _ => ?_)
  refine w_n 2 (pc1 := 46) (ls1 := [some (.ref 67), some (.int x1), some (.int x2)]) (st1 := [.int 120, .ref 67]) (hp1 := (hz F (uA (uA (uA (uA (uA A 84 G227) 84 (G227.set 0 x1)) 84 ((G227.set 0 x1).set 1 x2)) 84 (((G227.set 0 x1).set 1 x2).set 2 G228)) 84 ((((G227.set 0 x1).set 1 x2).set 2 G228).set 3 G235)) L)) rfl ?_
  refine w_c rfl rfl (t_km_holdsAny ?_)
  show wl_E f _ _ mm195.2.2.2.2.2.2.2.2 49 [some (.ref 67), some (.int x1), some (.int x2)] [.int (km_holdsAny f (F 67 17) (A 78) (A 79) (A 81) (A 82) (A 83) ((((G227.set 0 x1).set 1 x2).set 2 G228).set 3 G235) 120).1] (hz F (uA (uA (uA (uA (uA (uA A 84 G227) 84 (G227.set 0 x1)) 84 ((G227.set 0 x1).set 1 x2)) 84 (((G227.set 0 x1).set 1 x2).set 2 G228)) 84 ((((G227.set 0 x1).set 1 x2).set 2 G228).set 3 G235)) 83 (km_holdsAny f (F 67 17) (A 78) (A 79) (A 81) (A 82) (A 83) ((((G227.set 0 x1).set 1 x2).set 2 G228).set 3 G235) 120).2) L) _
  generalize hG237 : (km_holdsAny f (F 67 17) (A 78) (A 79) (A 81) (A 82) (A 83) ((((G227.set 0 x1).set 1 x2).set 2 G228).set 3 G235) 120) = G237 at hE ⊢
  refine w_zeq (p3 := 52) rfl rfl (fun h => ?_) (fun h => ?_)
  · have h1 : G237.1 = 0 := h
    rw [if_pos h1] at hE
    refine w_n 3 (pc1 := 62) (ls1 := [some (.ref 67), some (.int x1), some (.int x2)]) (st1 := [.int 9999, .int 101, .ref 67]) (hp1 := (hz F (uA (uA (uA (uA (uA (uA A 84 G227) 84 (G227.set 0 x1)) 84 ((G227.set 0 x1).set 1 x2)) 84 (((G227.set 0 x1).set 1 x2).set 2 G228)) 84 ((((G227.set 0 x1).set 1 x2).set 2 G228).set 3 G235)) 83 G237.2) L)) rfl ?_
    refine w_c rfl rfl (t_km_byLaw ?_)
    show wl_E f _ _ mm195.2.2.2.2.2.2.2.2 65 [some (.ref 67), some (.int x1), some (.int x2)] [.int (km_byLaw f (F 67 17) (A 78) (A 79) (A 80) (A 81) (A 82) G237.2 ((((G227.set 0 x1).set 1 x2).set 2 G228).set 3 G235) 101 9999).1] (hz F (uA (uA (uA (uA (uA (uA (uA A 84 G227) 84 (G227.set 0 x1)) 84 ((G227.set 0 x1).set 1 x2)) 84 (((G227.set 0 x1).set 1 x2).set 2 G228)) 84 ((((G227.set 0 x1).set 1 x2).set 2 G228).set 3 G235)) 83 G237.2) 83 (km_byLaw f (F 67 17) (A 78) (A 79) (A 80) (A 81) (A 82) G237.2 ((((G227.set 0 x1).set 1 x2).set 2 G228).set 3 G235) 101 9999).2) L) _
    generalize hG238 : (km_byLaw f (F 67 17) (A 78) (A 79) (A 80) (A 81) (A 82) G237.2 ((((G227.set 0 x1).set 1 x2).set 2 G228).set 3 G235) 101 9999) = G238 at hE ⊢
    subst T
    exact w_ri rfl (cvQ rfl (funext fun q => if k0 : q = 83 then by subst k0; exact Eq.trans (b := G238.2) rfl rfl else if k1 : q = 84 then by subst k1; exact Eq.trans (b := ((((G227.set 0 x1).set 1 x2).set 2 G228).set 3 G235)) rfl rfl else by unfold uA; simp only [nb1 k0, nb1 k1, cond_false]) rfl K)
  · have h1 : ¬ G237.1 = 0 := h
    rw [if_neg h1] at hE
    refine w_n 2 (pc1 := 65) (ls1 := [some (.ref 67), some (.int x1), some (.int x2)]) (st1 := [.int 0]) (hp1 := (hz F (uA (uA (uA (uA (uA (uA A 84 G227) 84 (G227.set 0 x1)) 84 ((G227.set 0 x1).set 1 x2)) 84 (((G227.set 0 x1).set 1 x2).set 2 G228)) 84 ((((G227.set 0 x1).set 1 x2).set 2 G228).set 3 G235)) 83 G237.2) L)) rfl ?_
    subst T
    exact w_ri rfl (cvQ rfl (funext fun q => if k0 : q = 83 then by subst k0; exact Eq.trans (b := G237.2) rfl rfl else if k1 : q = 84 then by subst k1; exact Eq.trans (b := ((((G227.set 0 x1).set 1 x2).set 2 G228).set 3 G235)) rfl rfl else by unfold uA; simp only [nb1 k0, nb1 k1, cond_false]) rfl K)
noncomputable def km_asks_8 (f : Nat) (f67_3 : Int32) (f67_17 : Int32) (a68 : List Int32) (a78 : List Int32) (a79 : List Int32) (a80 : List Int32) (a81 : List Int32) (a82 : List Int32) (x1 : Int32) : Nat → Int32 → Int32 → Int32 → List Int32 → List Int32 → Int32 × List Int32 × List Int32
  | 0, y2, _, _, a83, a84 => (y2, a83, a84)
  | m + 1, y2, y3, y4, a83, a84 => (if (km_areTwo a68 x1 y4) = 0 then (km_asks_8 f f67_3 f67_17 a68 a78 a79 a80 a81 a82 x1 m y2 y3 (y4 + 1) a83 a84) else (if y3.toInt < (km_likesBy f f67_3 f67_17 a68 a78 a79 a80 a81 a82 a83 a84 x1 y4).1.toInt then (km_asks_8 f f67_3 f67_17 a68 a78 a79 a80 a81 a82 x1 m y4 (km_likesBy f f67_3 f67_17 a68 a78 a79 a80 a81 a82 a83 a84 x1 y4).1 (y4 + 1) (km_likesBy f f67_3 f67_17 a68 a78 a79 a80 a81 a82 a83 a84 x1 y4).2.1 (km_likesBy f f67_3 f67_17 a68 a78 a79 a80 a81 a82 a83 a84 x1 y4).2.2) else (km_asks_8 f f67_3 f67_17 a68 a78 a79 a80 a81 a82 x1 m y2 y3 (y4 + 1) (km_likesBy f f67_3 f67_17 a68 a78 a79 a80 a81 a82 a83 a84 x1 y4).2.1 (km_likesBy f f67_3 f67_17 a68 a78 a79 a80 a81 a82 a83 a84 x1 y4).2.2)))
theorem t_km_asks_8 {f : Nat} {Q : Option Value → sm_H → Prop} : ∀ (m : Nat) {B D : Nat} {F : Nat → Nat → Int32} {A : Nat → List Int32} {L : Nat → List Int64} {x1 : Int32} {y2 : Int32} {y3 : Int32} {y4 : Int32} {o5 : Option Value}, m = (12 - y4.toInt).toNat → (∀ q3 : Int32, ∀ q4 : Int32, ∀ q5 : Option Value, wl_E f B D mm194.2.2.2.2.2.2.2.2 58 [some (.ref 67), some (.int x1), some (.int ((km_asks_8 f (F 67 3) (F 67 17) (A 68) (A 78) (A 79) (A 80) (A 81) (A 82) x1 m y2 y3 y4 (A 83) (A 84)).1)), some (.int q3), some (.int q4), q5] [] (hz F (uA (uA A 83 ((km_asks_8 f (F 67 3) (F 67 17) (A 68) (A 78) (A 79) (A 80) (A 81) (A 82) x1 m y2 y3 y4 (A 83) (A 84)).2.1)) 84 ((km_asks_8 f (F 67 3) (F 67 17) (A 68) (A 78) (A 79) (A 80) (A 81) (A 82) x1 m y2 y3 y4 (A 83) (A 84)).2.2)) L) Q) → wl_E f B D mm194.2.2.2.2.2.2.2.2 8 [some (.ref 67), some (.int x1), some (.int y2), some (.int y3), some (.int y4), o5] [] (hz F A L) Q := by
  intro m
  induction m with
  | zero =>
    intro B D F A L x1 y2 y3 y4 o5 hm K
    generalize hT : (km_asks_8 f (F 67 3) (F 67 17) (A 68) (A 78) (A 79) (A 80) (A 81) (A 82) x1 0 y2 y3 y4 (A 83) (A 84)) = T at K
    have hE : T = (y2, (A 83), (A 84)) := hT.symm
    clear hT
    refine w_n 2 (pc1 := 12) (ls1 := [some (.ref 67), some (.int x1), some (.int y2), some (.int y3), some (.int y4), o5]) (st1 := [.int 12, .int y4]) (hp1 := (hz F A L)) rfl ?_
    refine w_ge (p3 := 15) rfl rfl (fun hb => ?_) (fun h => False.elim (by have h : y4.toInt < 12 := h; omega))
    subst T
    exact cvE rfl (funext fun q => if k0 : q = 83 then by subst k0; exact Eq.trans (b := (A 83)) rfl rfl else if k1 : q = 84 then by subst k1; exact Eq.trans (b := (A 84)) rfl rfl else by unfold uA; simp only [nb1 k0, nb1 k1, cond_false]) rfl (K _ _ _)
  | succ m ih =>
    intro B D F A L x1 y2 y3 y4 o5 hm K
    generalize hT : (km_asks_8 f (F 67 3) (F 67 17) (A 68) (A 78) (A 79) (A 80) (A 81) (A 82) x1 (m + 1) y2 y3 y4 (A 83) (A 84)) = T at K
    have hE : T = (if (km_areTwo (A 68) x1 y4) = 0 then (km_asks_8 f (F 67 3) (F 67 17) (A 68) (A 78) (A 79) (A 80) (A 81) (A 82) x1 m y2 y3 (y4 + 1) (A 83) (A 84)) else (if y3.toInt < (km_likesBy f (F 67 3) (F 67 17) (A 68) (A 78) (A 79) (A 80) (A 81) (A 82) (A 83) (A 84) x1 y4).1.toInt then (km_asks_8 f (F 67 3) (F 67 17) (A 68) (A 78) (A 79) (A 80) (A 81) (A 82) x1 m y4 (km_likesBy f (F 67 3) (F 67 17) (A 68) (A 78) (A 79) (A 80) (A 81) (A 82) (A 83) (A 84) x1 y4).1 (y4 + 1) (km_likesBy f (F 67 3) (F 67 17) (A 68) (A 78) (A 79) (A 80) (A 81) (A 82) (A 83) (A 84) x1 y4).2.1 (km_likesBy f (F 67 3) (F 67 17) (A 68) (A 78) (A 79) (A 80) (A 81) (A 82) (A 83) (A 84) x1 y4).2.2) else (km_asks_8 f (F 67 3) (F 67 17) (A 68) (A 78) (A 79) (A 80) (A 81) (A 82) x1 m y2 y3 (y4 + 1) (km_likesBy f (F 67 3) (F 67 17) (A 68) (A 78) (A 79) (A 80) (A 81) (A 82) (A 83) (A 84) x1 y4).2.1 (km_likesBy f (F 67 3) (F 67 17) (A 68) (A 78) (A 79) (A 80) (A 81) (A 82) (A 83) (A 84) x1 y4).2.2))) := hT.symm
    clear hT
    refine w_n 2 (pc1 := 12) (ls1 := [some (.ref 67), some (.int x1), some (.int y2), some (.int y3), some (.int y4), o5]) (st1 := [.int 12, .int y4]) (hp1 := (hz F A L)) rfl ?_
    refine w_ge (p3 := 15) rfl rfl (fun h => False.elim (by have h : 12 ≤ y4.toInt := h; omega)) (fun hb => ?_)
    refine w_n 3 (pc1 := 19) (ls1 := [some (.ref 67), some (.int x1), some (.int y2), some (.int y3), some (.int y4), o5]) (st1 := [.int y4, .int x1, .ref 67]) (hp1 := (hz F A L)) rfl ?_
    refine w_c rfl rfl (t_km_areTwo ?_)
    show wl_E f _ _ mm194.2.2.2.2.2.2.2.2 22 [some (.ref 67), some (.int x1), some (.int y2), some (.int y3), some (.int y4), o5] [.int (km_areTwo (A 68) x1 y4)] (hz F A L) _
    generalize hG226 : (km_areTwo (A 68) x1 y4) = G226 at hE ⊢
    refine w_zne (p3 := 25) rfl rfl (fun h => ?_) (fun h => ?_)
    · have h1 : ¬ G226 = 0 := h
      rw [if_neg h1] at hE
      refine w_n 3 (pc1 := 32) (ls1 := [some (.ref 67), some (.int x1), some (.int y2), some (.int y3), some (.int y4), o5]) (st1 := [.int y4, .int x1, .ref 67]) (hp1 := (hz F A L)) rfl ?_
      refine w_c rfl rfl (t_km_likesBy ?_)
      show wl_E f _ _ mm194.2.2.2.2.2.2.2.2 35 [some (.ref 67), some (.int x1), some (.int y2), some (.int y3), some (.int y4), o5] [.int (km_likesBy f (F 67 3) (F 67 17) (A 68) (A 78) (A 79) (A 80) (A 81) (A 82) (A 83) (A 84) x1 y4).1] (hz F (uA (uA A 83 (km_likesBy f (F 67 3) (F 67 17) (A 68) (A 78) (A 79) (A 80) (A 81) (A 82) (A 83) (A 84) x1 y4).2.1) 84 (km_likesBy f (F 67 3) (F 67 17) (A 68) (A 78) (A 79) (A 80) (A 81) (A 82) (A 83) (A 84) x1 y4).2.2) L) _
      generalize hG239 : (km_likesBy f (F 67 3) (F 67 17) (A 68) (A 78) (A 79) (A 80) (A 81) (A 82) (A 83) (A 84) x1 y4) = G239 at hE ⊢
      refine w_n 3 (pc1 := 40) (ls1 := [some (.ref 67), some (.int x1), some (.int y2), some (.int y3), some (.int y4), some (.int G239.1)]) (st1 := [.int y3, .int G239.1]) (hp1 := (hz F (uA (uA A 83 G239.2.1) 84 G239.2.2) L)) rfl ?_
      refine w_gt (p3 := 43) rfl rfl (fun h => ?_) (fun h => ?_)
      · have h2 : y3.toInt < G239.1.toInt := h
        rw [if_pos h2] at hE
        refine w_n 6 (pc1 := 8) (ls1 := [some (.ref 67), some (.int x1), some (.int y4), some (.int G239.1), some (.int (y4 + 1)), some (.int G239.1)]) (st1 := []) (hp1 := (hz F (uA (uA A 83 G239.2.1) 84 G239.2.2) L)) rfl ?_
        subst T
        have hb2 := i_up (B := (12 : Int32)) hb
        have hb3 : y4.toInt < 12 := hb
        exact ih (show m = (12 - (y4 + 1).toInt).toNat by rw [hb2]; omega) (fun q3 q4 q5 => cvE rfl (funext fun q => if k0 : q = 83 then by subst k0; exact Eq.trans (b := (km_asks_8 f (F 67 3) (F 67 17) (A 68) (A 78) (A 79) (A 80) (A 81) (A 82) x1 m y4 G239.1 (y4 + 1) G239.2.1 G239.2.2).2.1) rfl rfl else if k1 : q = 84 then by subst k1; exact Eq.trans (b := (km_asks_8 f (F 67 3) (F 67 17) (A 68) (A 78) (A 79) (A 80) (A 81) (A 82) x1 m y4 G239.1 (y4 + 1) G239.2.1 G239.2.2).2.2) rfl rfl else by unfold uA; simp only [nb1 k0, nb1 k1, cond_false]) rfl (K q3 q4 q5))
      · have h2 : G239.1.toInt ≤ y3.toInt := h
        rw [if_neg (Int.not_lt.mpr h2)] at hE
        refine w_n 3 (pc1 := 8) (ls1 := [some (.ref 67), some (.int x1), some (.int y2), some (.int y3), some (.int (y4 + 1)), some (.int G239.1)]) (st1 := []) (hp1 := (hz F (uA (uA A 83 G239.2.1) 84 G239.2.2) L)) rfl ?_
        subst T
        have hb2 := i_up (B := (12 : Int32)) hb
        have hb3 : y4.toInt < 12 := hb
        exact ih (show m = (12 - (y4 + 1).toInt).toNat by rw [hb2]; omega) (fun q3 q4 q5 => cvE rfl (funext fun q => if k0 : q = 83 then by subst k0; exact Eq.trans (b := (km_asks_8 f (F 67 3) (F 67 17) (A 68) (A 78) (A 79) (A 80) (A 81) (A 82) x1 m y2 y3 (y4 + 1) G239.2.1 G239.2.2).2.1) rfl rfl else if k1 : q = 84 then by subst k1; exact Eq.trans (b := (km_asks_8 f (F 67 3) (F 67 17) (A 68) (A 78) (A 79) (A 80) (A 81) (A 82) x1 m y2 y3 (y4 + 1) G239.2.1 G239.2.2).2.2) rfl rfl else by unfold uA; simp only [nb1 k0, nb1 k1, cond_false]) rfl (K q3 q4 q5))
    · have h1 : G226 = 0 := h
      rw [if_pos h1] at hE
      refine w_n 3 (pc1 := 8) (ls1 := [some (.ref 67), some (.int x1), some (.int y2), some (.int y3), some (.int (y4 + 1)), o5]) (st1 := []) (hp1 := (hz F A L)) rfl ?_
      subst T
      have hb2 := i_up (B := (12 : Int32)) hb
      have hb3 : y4.toInt < 12 := hb
      exact ih (show m = (12 - (y4 + 1).toInt).toNat by rw [hb2]; omega) (fun q3 q4 q5 => cvE rfl (funext fun q => if k0 : q = 83 then by subst k0; exact Eq.trans (b := (km_asks_8 f (F 67 3) (F 67 17) (A 68) (A 78) (A 79) (A 80) (A 81) (A 82) x1 m y2 y3 (y4 + 1) (A 83) (A 84)).2.1) rfl rfl else if k1 : q = 84 then by subst k1; exact Eq.trans (b := (km_asks_8 f (F 67 3) (F 67 17) (A 68) (A 78) (A 79) (A 80) (A 81) (A 82) x1 m y2 y3 (y4 + 1) (A 83) (A 84)).2.2) rfl rfl else by unfold uA; simp only [nb1 k0, nb1 k1, cond_false]) rfl (K q3 q4 q5))
