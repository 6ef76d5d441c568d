/-! lifts, printed by genlift.py: 9 -/
noncomputable def km_pours (f67_4 : Int32) (f67_5 : Int32) (f67_32 : Int32) (a68 : List Int32) (x1 : Int32) : Int32 × Int32 × List Int32 := ((km_pours_4 f67_4 f67_5 x1 12 0 0 f67_32 a68).1, (km_pours_4 f67_4 f67_5 x1 12 0 0 f67_32 a68).2.1, (km_pours_4 f67_4 f67_5 x1 12 0 0 f67_32 a68).2.2)
theorem t_km_pours {f D : Nat} {F : Nat → Nat → Int32} {A : Nat → List Int32} {L : Nat → List Int64} {Q : Option Value → sm_H → Prop} {x1 : Int32} (K : Q (some (.int ((km_pours (F 67 4) (F 67 5) (F 67 32) (A 68) x1).1))) (hz (uF F 67 32 ((km_pours (F 67 4) (F 67 5) (F 67 32) (A 68) x1).2.1)) (uA A 68 ((km_pours (F 67 4) (F 67 5) (F 67 32) (A 68) x1).2.2)) L)) : wl_M f D 184 [.ref 67, .int x1] (hz F A L) Q := by
  generalize hT : (km_pours (F 67 4) (F 67 5) (F 67 32) (A 68) x1) = T at K
  have hE : T = ((km_pours_4 (F 67 4) (F 67 5) x1 12 0 0 (F 67 32) (A 68)).1, (km_pours_4 (F 67 4) (F 67 5) x1 12 0 0 (F 67 32) (A 68)).2.1, (km_pours_4 (F 67 4) (F 67 5) x1 12 0 0 (F 67 32) (A 68)).2.2) := hT.symm
  clear hT
  refine w_m (E := mm184) rfl ?_
  show wl_E f f (D - 1) mm184.2.2.2.2.2.2.2.2 0 [some (.ref 67), some (.int x1), none, none] [] (hz F A L) Q
  refine w_n 4 (pc1 := 4) (ls1 := [some (.ref 67), some (.int x1), some (.int 0), some (.int 0)]) (st1 := []) (hp1 := (hz F A L)) rfl ?_
  refine t_km_pours_4 12 (show (12 : Nat) = (12 - (0 : Int32).toInt).toNat by have e0 : (0 : Int32).toInt = 0 := rfl; first | rfl | omega) ?_
  intro r1
  show wl_E f _ _ mm184.2.2.2.2.2.2.2.2 130 [some (.ref 67), some (.int x1), some (.int (km_pours_4 (F 67 4) (F 67 5) x1 12 0 0 (F 67 32) (A 68)).1), some (.int r1)] [] (hz (uF F 67 32 (km_pours_4 (F 67 4) (F 67 5) x1 12 0 0 (F 67 32) (A 68)).2.1) (uA A 68 (km_pours_4 (F 67 4) (F 67 5) x1 12 0 0 (F 67 32) (A 68)).2.2) L) _
  generalize hG258 : (km_pours_4 (F 67 4) (F 67 5) x1 12 0 0 (F 67 32) (A 68)) = G258 at hE ⊢
  refine w_n 1 (pc1 := 131) (ls1 := [some (.ref 67), some (.int x1), some (.int G258.1), some (.int r1)]) (st1 := [.int G258.1]) (hp1 := (hz (uF F 67 32 G258.2.1) (uA A 68 G258.2.2) L)) rfl ?_
  subst T
  exact w_ri rfl (cvQ rfl rfl rfl K)
noncomputable def km_decides (f67_3 : Int32) (a68 : List Int32) : List Int32 := (if ((((1 : Int32) <<< (f67_3 &&& 31)) - 1) &&& ((a68.getD 146 0) ^^^ (-1))) = 0 then (a68.set 146 0) else (a68.set 146 ((a68.getD 146 0) ||| ((1 : Int32) <<< ((km_highestOf f67_3 a68 (a68.getD 145 0) ((((1 : Int32) <<< (f67_3 &&& 31)) - 1) &&& ((a68.getD 146 0) ^^^ (-1)))) &&& 31)))))
theorem t_km_decides {f D : Nat} {F : Nat → Nat → Int32} {A : Nat → List Int32} {L : Nat → List Int64} {Q : Option Value → sm_H → Prop} (K : Q none (hz F (uA A 68 (km_decides (F 67 3) (A 68))) L)) : wl_M f D 190 [.ref 67] (hz F A L) Q := by
  generalize hT : (km_decides (F 67 3) (A 68)) = T at K
  have hE : T = (if ((((1 : Int32) <<< ((F 67 3) &&& 31)) - 1) &&& (((A 68).getD 146 0) ^^^ (-1))) = 0 then ((A 68).set 146 0) else ((A 68).set 146 (((A 68).getD 146 0) ||| ((1 : Int32) <<< ((km_highestOf (F 67 3) (A 68) ((A 68).getD 145 0) ((((1 : Int32) <<< ((F 67 3) &&& 31)) - 1) &&& (((A 68).getD 146 0) ^^^ (-1)))) &&& 31))))) := hT.symm
  clear hT
  refine w_m (E := mm190) rfl ?_
  show wl_E f f (D - 1) mm190.2.2.2.2.2.2.2.2 0 [some (.ref 67), none] [] (hz F A L) Q
  refine w_n 9 (pc1 := 15) (ls1 := [some (.ref 67), none]) (st1 := [.int 146, .ref 68, .int (((1 : Int32) <<< ((F 67 3) &&& 31)) - 1)]) (hp1 := (hz F A L)) rfl ?_
  refine w_al (k := 68) (l := (A 68)) rfl rfl rfl (fun _ => ?_)
  refine w_n 8 (pc1 := 28) (ls1 := [some (.ref 67), some (.int ((((1 : Int32) <<< ((F 67 3) &&& 31)) - 1) &&& (((A 68).getD 146 0) ^^^ (-1))))]) (st1 := [.int ((((1 : Int32) <<< ((F 67 3) &&& 31)) - 1) &&& (((A 68).getD 146 0) ^^^ (-1))), .int 146, .ref 68]) (hp1 := (hz F A L)) rfl ?_
  refine w_zne (p3 := 31) rfl rfl (fun h => ?_) (fun h => ?_)
  · have h1 : ¬ ((((1 : Int32) <<< ((F 67 3) &&& 31)) - 1) &&& (((A 68).getD 146 0) ^^^ (-1))) = 0 := h
    rw [if_neg h1] at hE
    refine w_n 3 (pc1 := 42) (ls1 := [some (.ref 67), some (.int ((((1 : Int32) <<< ((F 67 3) &&& 31)) - 1) &&& (((A 68).getD 146 0) ^^^ (-1))))]) (st1 := [.int 146, .ref 68, .int 146, .ref 68]) (hp1 := (hz F A L)) rfl ?_
    refine w_al (k := 68) (l := (A 68)) rfl rfl rfl (fun _ => ?_)
    refine w_n 5 (pc1 := 52) (ls1 := [some (.ref 67), some (.int ((((1 : Int32) <<< ((F 67 3) &&& 31)) - 1) &&& (((A 68).getD 146 0) ^^^ (-1))))]) (st1 := [.int 145, .ref 68, .ref 67, .int 1, .int ((A 68).getD 146 0), .int 146, .ref 68]) (hp1 := (hz F A L)) rfl ?_
    refine w_al (k := 68) (l := (A 68)) rfl rfl rfl (fun _ => ?_)
    refine w_n 1 (pc1 := 54) (ls1 := [some (.ref 67), some (.int ((((1 : Int32) <<< ((F 67 3) &&& 31)) - 1) &&& (((A 68).getD 146 0) ^^^ (-1))))]) (st1 := [.int ((((1 : Int32) <<< ((F 67 3) &&& 31)) - 1) &&& (((A 68).getD 146 0) ^^^ (-1))), .int ((A 68).getD 145 0), .ref 67, .int 1, .int ((A 68).getD 146 0), .int 146, .ref 68]) (hp1 := (hz F A L)) rfl ?_
    refine w_c rfl rfl (t_km_highestOf ?_)
    show wl_E f _ _ mm190.2.2.2.2.2.2.2.2 57 [some (.ref 67), some (.int ((((1 : Int32) <<< ((F 67 3) &&& 31)) - 1) &&& (((A 68).getD 146 0) ^^^ (-1))))] [.int (km_highestOf (F 67 3) (A 68) ((A 68).getD 145 0) ((((1 : Int32) <<< ((F 67 3) &&& 31)) - 1) &&& (((A 68).getD 146 0) ^^^ (-1)))), .int 1, .int ((A 68).getD 146 0), .int 146, .ref 68] (hz F A L) _
    generalize hG260 : (km_highestOf (F 67 3) (A 68) ((A 68).getD 145 0) ((((1 : Int32) <<< ((F 67 3) &&& 31)) - 1) &&& (((A 68).getD 146 0) ^^^ (-1)))) = G260 at hE ⊢
    refine w_n 2 (pc1 := 59) (ls1 := [some (.ref 67), some (.int ((((1 : Int32) <<< ((F 67 3) &&& 31)) - 1) &&& (((A 68).getD 146 0) ^^^ (-1))))]) (st1 := [.int (((A 68).getD 146 0) ||| ((1 : Int32) <<< (G260 &&& 31))), .int 146, .ref 68]) (hp1 := (hz F A L)) rfl ?_
    refine w_as (k := 68) (l := (A 68)) (hp1 := (hz F (uA A 68 ((A 68).set 146 (((A 68).getD 146 0) ||| ((1 : Int32) <<< (G260 &&& 31))))) L)) rfl rfl rfl (hz_s68 _) (fun _ => ?_)
    subst T
    exact w_r rfl rfl (cvQ rfl rfl rfl K)
  · have h1 : ((((1 : Int32) <<< ((F 67 3) &&& 31)) - 1) &&& (((A 68).getD 146 0) ^^^ (-1))) = 0 := h
    rw [if_pos h1] at hE
    refine w_n 2 (pc1 := 59) (ls1 := [some (.ref 67), some (.int ((((1 : Int32) <<< ((F 67 3) &&& 31)) - 1) &&& (((A 68).getD 146 0) ^^^ (-1))))]) (st1 := [.int 0, .int 146, .ref 68]) (hp1 := (hz F A L)) rfl ?_
    refine w_as (k := 68) (l := (A 68)) (hp1 := (hz F (uA A 68 ((A 68).set 146 0)) L)) rfl rfl rfl (hz_s68 _) (fun _ => ?_)
    subst T
    exact w_r rfl rfl (cvQ rfl rfl rfl K)
noncomputable def km_changesMother_2   : Nat → Int32 → List Int32 → List Int32
  | 0, _, a86 => a86
  | m + 1, y2, a86 => (km_changesMother_2 m (y2 + 1) (a86.set y2.toInt.toNat 0))
theorem t_km_changesMother_2 {f : Nat} {Q : Option Value → sm_H → Prop} : ∀ (m : Nat) {B D : Nat} {F : Nat → Nat → Int32} {A : Nat → List Int32} {L : Nat → List Int64} {x1 : Int32} {y2 : Int32} {o3 : Option Value} {o4 : Option Value} {o5 : Option Value} {o6 : Option Value}, m = (12 - y2.toInt).toNat → (∀ q2 : Int32, wl_E f B D mm193.2.2.2.2.2.2.2.2 21 [some (.ref 67), some (.int x1), some (.int q2), o3, o4, o5, o6] [] (hz F (uA A 86 (km_changesMother_2 m y2 (A 86))) L) Q) → wl_E f B D mm193.2.2.2.2.2.2.2.2 2 [some (.ref 67), some (.int x1), some (.int y2), o3, o4, o5, o6] [] (hz F A L) Q := by
  intro m
  induction m with
  | zero =>
    intro B D F A L x1 y2 o3 o4 o5 o6 hm K
    generalize hT : (km_changesMother_2 0 y2 (A 86)) = T at K
    have hE : T = (A 86) := hT.symm
    clear hT
    refine w_n 2 (pc1 := 5) (ls1 := [some (.ref 67), some (.int x1), some (.int y2), o3, o4, o5, o6]) (st1 := [.int 12, .int y2]) (hp1 := (hz F A L)) rfl ?_
    refine w_ge (p3 := 8) rfl rfl (fun hb => ?_) (fun h => False.elim (by have h : y2.toInt < 12 := h; omega))
    subst T
    exact cvE rfl (funext fun q => if k0 : q = 86 then by subst k0; exact Eq.trans (b := (A 86)) rfl rfl else by unfold uA; simp only [nb1 k0, cond_false]) rfl (K _)
  | succ m ih =>
    intro B D F A L x1 y2 o3 o4 o5 o6 hm K
    generalize hT : (km_changesMother_2 (m + 1) y2 (A 86)) = T at K
    have hE : T = (km_changesMother_2 m (y2 + 1) ((A 86).set y2.toInt.toNat 0)) := hT.symm
    clear hT
    refine w_n 2 (pc1 := 5) (ls1 := [some (.ref 67), some (.int x1), some (.int y2), o3, o4, o5, o6]) (st1 := [.int 12, .int y2]) (hp1 := (hz F A L)) rfl ?_
    refine w_ge (p3 := 8) rfl rfl (fun h => False.elim (by have h : 12 ≤ y2.toInt := h; omega)) (fun hb => ?_)
    refine w_n 4 (pc1 := 14) (ls1 := [some (.ref 67), some (.int x1), some (.int y2), o3, o4, o5, o6]) (st1 := [.int 0, .int y2, .ref 86]) (hp1 := (hz F A L)) rfl ?_
    refine w_as (k := 86) (l := (A 86)) (hp1 := (hz F (uA A 86 ((A 86).set y2.toInt.toNat 0)) L)) rfl rfl rfl (hz_s86 _) (fun ab => ?_)
    refine w_n 2 (pc1 := 2) (ls1 := [some (.ref 67), some (.int x1), some (.int (y2 + 1)), o3, o4, o5, o6]) (st1 := []) (hp1 := (hz F (uA A 86 ((A 86).set y2.toInt.toNat 0)) L)) rfl ?_
    subst T
    have hb2 := i_up (B := (12 : Int32)) hb
    have hb3 : y2.toInt < 12 := hb
    exact ih (show m = (12 - (y2 + 1).toInt).toNat by rw [hb2]; omega) (fun q2 => cvE rfl (funext fun q => if k0 : q = 86 then by subst k0; exact Eq.trans (b := (km_changesMother_2 m (y2 + 1) ((A 86).set y2.toInt.toNat 0))) rfl rfl else by unfold uA; simp only [nb1 k0, cond_false]) rfl (K q2))
noncomputable def km_areTwo (a68 : List Int32) (x1 : Int32) (x2 : Int32) : Int32 := (if (km_isGuest a68 x1) = 0 then 0 else (if (km_isGuest a68 x2) = 0 then 0 else (if x1 = x2 then 0 else 1)))
theorem t_km_areTwo {f D : Nat} {F : Nat → Nat → Int32} {A : Nat → List Int32} {L : Nat → List Int64} {Q : Option Value → sm_H → Prop} {x1 : Int32} {x2 : Int32} (K : Q (some (.int (km_areTwo (A 68) x1 x2))) (hz F A L)) : wl_M f D 189 [.ref 67, .int x1, .int x2] (hz F A L) Q := by
  generalize hT : (km_areTwo (A 68) x1 x2) = T at K
  have hE : T = (if (km_isGuest (A 68) x1) = 0 then 0 else (if (km_isGuest (A 68) x2) = 0 then 0 else (if x1 = x2 then 0 else 1))) := hT.symm
  clear hT
  refine w_m (E := mm189) rfl ?_
  show wl_E f f (D - 1) mm189.2.2.2.2.2.2.2.2 0 [some (.ref 67), some (.int x1), some (.int x2)] [] (hz F A L) Q
  refine w_n 2 (pc1 := 2) (ls1 := [some (.ref 67), some (.int x1), some (.int x2)]) (st1 := [.int x1, .ref 67]) (hp1 := (hz F A L)) rfl ?_
  refine w_c rfl rfl (t_km_isGuest ?_)
  show wl_E f _ _ mm189.2.2.2.2.2.2.2.2 5 [some (.ref 67), some (.int x1), some (.int x2)] [.int (km_isGuest (A 68) x1)] (hz F A L) _
  generalize hG264 : (km_isGuest (A 68) x1) = G264 at hE ⊢
  refine w_zeq (p3 := 8) rfl rfl (fun h => ?_) (fun h => ?_)
  · have h1 : G264 = 0 := h
    rw [if_pos h1] at hE
    refine w_n 1 (pc1 := 26) (ls1 := [some (.ref 67), some (.int x1), some (.int x2)]) (st1 := [.int 0]) (hp1 := (hz F A L)) rfl ?_
    subst T
    exact w_ri rfl (cvQ rfl rfl rfl K)
  · have h1 : ¬ G264 = 0 := h
    rw [if_neg h1] at hE
    refine w_n 2 (pc1 := 10) (ls1 := [some (.ref 67), some (.int x1), some (.int x2)]) (st1 := [.int x2, .ref 67]) (hp1 := (hz F A L)) rfl ?_
    refine w_c rfl rfl (t_km_isGuest ?_)
    show wl_E f _ _ mm189.2.2.2.2.2.2.2.2 13 [some (.ref 67), some (.int x1), some (.int x2)] [.int (km_isGuest (A 68) x2)] (hz F A L) _
    generalize hG265 : (km_isGuest (A 68) x2) = G265 at hE ⊢
    refine w_zeq (p3 := 16) rfl rfl (fun h => ?_) (fun h => ?_)
    · have h2 : G265 = 0 := h
      rw [if_pos h2] at hE
      refine w_n 1 (pc1 := 26) (ls1 := [some (.ref 67), some (.int x1), some (.int x2)]) (st1 := [.int 0]) (hp1 := (hz F A L)) rfl ?_
      subst T
      exact w_ri rfl (cvQ rfl rfl rfl K)
    · have h2 : ¬ G265 = 0 := h
      rw [if_neg h2] at hE
      refine w_n 2 (pc1 := 18) (ls1 := [some (.ref 67), some (.int x1), some (.int x2)]) (st1 := [.int x2, .int x1]) (hp1 := (hz F A L)) rfl ?_
      refine w_eq (p3 := 21) rfl rfl (fun h => ?_) (fun h => ?_)
      · have h3 : x1 = x2 := h
        rw [if_pos h3] at hE
        refine w_n 1 (pc1 := 26) (ls1 := [some (.ref 67), some (.int x1), some (.int x2)]) (st1 := [.int 0]) (hp1 := (hz F A L)) rfl ?_
        subst T
        exact w_ri rfl (cvQ rfl rfl rfl K)
      · have h3 : ¬ x1 = x2 := h
        rw [if_neg h3] at hE
        refine w_n 2 (pc1 := 26) (ls1 := [some (.ref 67), some (.int x1), some (.int x2)]) (st1 := [.int 1]) (hp1 := (hz F A L)) rfl ?_
        subst T
        exact w_ri rfl (cvQ rfl rfl rfl K)
noncomputable def km_mindOf_17 (a68 : List Int32) (x1 : Int32) (x2 : Int32) (x4 : Int32) : Nat → Int32 → Int32 → Int32
  | 0, y3, _ => y3
  | m + 1, y3, y5 => (if (km_placeOf a68 x1 x4).toInt < (km_placeOf a68 x1 y5).toInt then (if (km_placeOf a68 x2 x4).toInt < (km_placeOf a68 x2 y5).toInt then (km_mindOf_17 a68 x1 x2 x4 m (y3 + 1) (y5 + 1)) else (km_mindOf_17 a68 x1 x2 x4 m (y3 + 0) (y5 + 1))) else (km_mindOf_17 a68 x1 x2 x4 m (y3 + 0) (y5 + 1)))
theorem t_km_mindOf_17 {f : Nat} {Q : Option Value → sm_H → Prop} : ∀ (m : Nat) {B D : Nat} {F : Nat → Nat → Int32} {A : Nat → List Int32} {L : Nat → List Int64} {x1 : Int32} {x2 : Int32} {y3 : Int32} {x4 : Int32} {y5 : Int32} {o6 : Option Value}, m = ((F 67 3).toInt - y5.toInt).toNat → (∀ q5 : Int32, ∀ q6 : Option Value, wl_E f B D mm196.2.2.2.2.2.2.2.2 86 [some (.ref 67), some (.int x1), some (.int x2), some (.int (km_mindOf_17 (A 68) x1 x2 x4 m y3 y5)), some (.int x4), some (.int q5), q6] [] (hz F A L) Q) → wl_E f B D mm196.2.2.2.2.2.2.2.2 17 [some (.ref 67), some (.int x1), some (.int x2), some (.int y3), some (.int x4), some (.int y5), o6] [] (hz F A L) Q := by
  intro m
  induction m with
  | zero =>
    intro B D F A L x1 x2 y3 x4 y5 o6 hm K
    generalize hT : (km_mindOf_17 (A 68) x1 x2 x4 0 y3 y5) = T at K
    have hE : T = y3 := hT.symm
    clear hT
    refine w_n 3 (pc1 := 23) (ls1 := [some (.ref 67), some (.int x1), some (.int x2), some (.int y3), some (.int x4), some (.int y5), o6]) (st1 := [.int (F 67 3), .int y5]) (hp1 := (hz F A L)) rfl ?_
    refine w_ge (p3 := 26) rfl rfl (fun hb => ?_) (fun h => False.elim (by have h : y5.toInt < (F 67 3).toInt := h; omega))
    subst T
    exact cvE rfl rfl rfl (K _ _)
  | succ m ih =>
    intro B D F A L x1 x2 y3 x4 y5 o6 hm K
    generalize hT : (km_mindOf_17 (A 68) x1 x2 x4 (m + 1) y3 y5) = T at K
    have hE : T = (if (km_placeOf (A 68) x1 x4).toInt < (km_placeOf (A 68) x1 y5).toInt then (if (km_placeOf (A 68) x2 x4).toInt < (km_placeOf (A 68) x2 y5).toInt then (km_mindOf_17 (A 68) x1 x2 x4 m (y3 + 1) (y5 + 1)) else (km_mindOf_17 (A 68) x1 x2 x4 m (y3 + 0) (y5 + 1))) else (km_mindOf_17 (A 68) x1 x2 x4 m (y3 + 0) (y5 + 1))) := hT.symm
    clear hT
    refine w_n 3 (pc1 := 23) (ls1 := [some (.ref 67), some (.int x1), some (.int x2), some (.int y3), some (.int x4), some (.int y5), o6]) (st1 := [.int (F 67 3), .int y5]) (hp1 := (hz F A L)) rfl ?_
    refine w_ge (p3 := 26) rfl rfl (fun h => False.elim (by have h : (F 67 3).toInt ≤ y5.toInt := h; omega)) (fun hb => ?_)
    refine w_n 3 (pc1 := 30) (ls1 := [some (.ref 67), some (.int x1), some (.int x2), some (.int y3), some (.int x4), some (.int y5), o6]) (st1 := [.int x4, .int x1, .ref 67]) (hp1 := (hz F A L)) rfl ?_
    refine w_c rfl rfl (t_km_placeOf ?_)
    show wl_E f _ _ mm196.2.2.2.2.2.2.2.2 33 [some (.ref 67), some (.int x1), some (.int x2), some (.int y3), some (.int x4), some (.int y5), o6] [.int (km_placeOf (A 68) x1 x4)] (hz F A L) _
    generalize hG269 : (km_placeOf (A 68) x1 x4) = G269 at hE ⊢
    refine w_n 3 (pc1 := 37) (ls1 := [some (.ref 67), some (.int x1), some (.int x2), some (.int y3), some (.int x4), some (.int y5), o6]) (st1 := [.int y5, .int x1, .ref 67, .int G269]) (hp1 := (hz F A L)) rfl ?_
    refine w_c rfl rfl (t_km_placeOf ?_)
    show wl_E f _ _ mm196.2.2.2.2.2.2.2.2 40 [some (.ref 67), some (.int x1), some (.int x2), some (.int y3), some (.int x4), some (.int y5), o6] [.int (km_placeOf (A 68) x1 y5), .int G269] (hz F A L) _
    generalize hG270 : (km_placeOf (A 68) x1 y5) = G270 at hE ⊢
    refine w_ge (p3 := 43) rfl rfl (fun h => ?_) (fun h => ?_)
    · have h1 : G270.toInt ≤ G269.toInt := h
      rw [if_neg (Int.not_lt.mpr h1)] at hE
      refine w_n 4 (pc1 := 70) (ls1 := [some (.ref 67), some (.int x1), some (.int x2), some (.int y3), some (.int x4), some (.int y5), some (.int 0)]) (st1 := [.int 0, .int y3]) (hp1 := (hz F A L)) rfl ?_
      refine w_zeq (p3 := 73) rfl rfl (fun _ => ?_) (fun h => absurd h (by decide))
      refine w_n 5 (pc1 := 17) (ls1 := [some (.ref 67), some (.int x1), some (.int x2), some (.int (y3 + 0)), some (.int x4), some (.int (y5 + 1)), some (.int 0)]) (st1 := []) (hp1 := (hz F A L)) rfl ?_
      subst T
      have hb2 := i_up (B := (F 67 3)) hb
      have hb3 : y5.toInt < (F 67 3).toInt := hb
      exact ih (show m = ((F 67 3).toInt - (y5 + 1).toInt).toNat by rw [hb2]; omega) (fun q5 q6 => cvE rfl rfl rfl (K q5 q6))
    · have h1 : G269.toInt < G270.toInt := h
      rw [if_pos h1] at hE
      refine w_n 3 (pc1 := 47) (ls1 := [some (.ref 67), some (.int x1), some (.int x2), some (.int y3), some (.int x4), some (.int y5), o6]) (st1 := [.int x4, .int x2, .ref 67]) (hp1 := (hz F A L)) rfl ?_
      refine w_c rfl rfl (t_km_placeOf ?_)
      show wl_E f _ _ mm196.2.2.2.2.2.2.2.2 50 [some (.ref 67), some (.int x1), some (.int x2), some (.int y3), some (.int x4), some (.int y5), o6] [.int (km_placeOf (A 68) x2 x4)] (hz F A L) _
      generalize hG271 : (km_placeOf (A 68) x2 x4) = G271 at hE ⊢
      refine w_n 3 (pc1 := 54) (ls1 := [some (.ref 67), some (.int x1), some (.int x2), some (.int y3), some (.int x4), some (.int y5), o6]) (st1 := [.int y5, .int x2, .ref 67, .int G271]) (hp1 := (hz F A L)) rfl ?_
      refine w_c rfl rfl (t_km_placeOf ?_)
      show wl_E f _ _ mm196.2.2.2.2.2.2.2.2 57 [some (.ref 67), some (.int x1), some (.int x2), some (.int y3), some (.int x4), some (.int y5), o6] [.int (km_placeOf (A 68) x2 y5), .int G271] (hz F A L) _
      generalize hG272 : (km_placeOf (A 68) x2 y5) = G272 at hE ⊢
      refine w_ge (p3 := 60) rfl rfl (fun h => ?_) (fun h => ?_)
      · have h2 : G272.toInt ≤ G271.toInt := h
        rw [if_neg (Int.not_lt.mpr h2)] at hE
        refine w_n 4 (pc1 := 70) (ls1 := [some (.ref 67), some (.int x1), some (.int x2), some (.int y3), some (.int x4), some (.int y5), some (.int 0)]) (st1 := [.int 0, .int y3]) (hp1 := (hz F A L)) rfl ?_
        refine w_zeq (p3 := 73) rfl rfl (fun _ => ?_) (fun h => absurd h (by decide))
        refine w_n 5 (pc1 := 17) (ls1 := [some (.ref 67), some (.int x1), some (.int x2), some (.int (y3 + 0)), some (.int x4), some (.int (y5 + 1)), some (.int 0)]) (st1 := []) (hp1 := (hz F A L)) rfl ?_
        subst T
        have hb2 := i_up (B := (F 67 3)) hb
        have hb3 : y5.toInt < (F 67 3).toInt := hb
        exact ih (show m = ((F 67 3).toInt - (y5 + 1).toInt).toNat by rw [hb2]; omega) (fun q5 q6 => cvE rfl rfl rfl (K q5 q6))
      · have h2 : G271.toInt < G272.toInt := h
        rw [if_pos h2] at hE
        refine w_n 5 (pc1 := 70) (ls1 := [some (.ref 67), some (.int x1), some (.int x2), some (.int y3), some (.int x4), some (.int y5), some (.int 1)]) (st1 := [.int 1, .int y3]) (hp1 := (hz F A L)) rfl ?_
        refine w_zeq (p3 := 73) rfl rfl (fun h => absurd h (by decide)) (fun _ => ?_)
        refine w_n 6 (pc1 := 17) (ls1 := [some (.ref 67), some (.int x1), some (.int x2), some (.int (y3 + 1)), some (.int x4), some (.int (y5 + 1)), some (.int 1)]) (st1 := []) (hp1 := (hz F A L)) rfl ?_
        subst T
        have hb2 := i_up (B := (F 67 3)) hb
        have hb3 : y5.toInt < (F 67 3).toInt := hb
        exact ih (show m = ((F 67 3).toInt - (y5 + 1).toInt).toNat by rw [hb2]; omega) (fun q5 q6 => cvE rfl rfl rfl (K q5 q6))
noncomputable def km_mindOf_5 (f67_3 : Int32) (a68 : List Int32) (x1 : Int32) (x2 : Int32) : Nat → Int32 → Int32 → Int32
  | 0, y3, _ => y3
  | m + 1, y3, y4 => (km_mindOf_5 f67_3 a68 x1 x2 m (km_mindOf_17 a68 x1 x2 y4 f67_3.toInt.toNat y3 0) (y4 + 1))
theorem t_km_mindOf_5 {f : Nat} {Q : Option Value → sm_H → Prop} : ∀ (m : Nat) {B D : Nat} {F : Nat → Nat → Int32} {A : Nat → List Int32} {L : Nat → List Int64} {x1 : Int32} {x2 : Int32} {y3 : Int32} {y4 : Int32} {o5 : Option Value} {o6 : Option Value}, m = ((F 67 3).toInt - y4.toInt).toNat → (∀ q4 : Int32, ∀ q5 : Option Value, ∀ q6 : Option Value, wl_E f B D mm196.2.2.2.2.2.2.2.2 92 [some (.ref 67), some (.int x1), some (.int x2), some (.int (km_mindOf_5 (F 67 3) (A 68) x1 x2 m y3 y4)), some (.int q4), q5, q6] [] (hz F A L) Q) → wl_E f B D mm196.2.2.2.2.2.2.2.2 5 [some (.ref 67), some (.int x1), some (.int x2), some (.int y3), some (.int y4), o5, o6] [] (hz F A L) Q := by
  intro m
  induction m with
  | zero =>
    intro B D F A L x1 x2 y3 y4 o5 o6 hm K
    generalize hT : (km_mindOf_5 (F 67 3) (A 68) x1 x2 0 y3 y4) = T at K
    have hE : T = y3 := hT.symm
    clear hT
    refine w_n 3 (pc1 := 11) (ls1 := [some (.ref 67), some (.int x1), some (.int x2), some (.int y3), some (.int y4), o5, o6]) (st1 := [.int (F 67 3), .int y4]) (hp1 := (hz F A L)) rfl ?_
    refine w_ge (p3 := 14) rfl rfl (fun hb => ?_) (fun h => False.elim (by have h : y4.toInt < (F 67 3).toInt := h; omega))
    subst T
    exact cvE rfl rfl rfl (K _ _ _)
  | succ m ih =>
    intro B D F A L x1 x2 y3 y4 o5 o6 hm K
    generalize hT : (km_mindOf_5 (F 67 3) (A 68) x1 x2 (m + 1) y3 y4) = T at K
    have hE : T = (km_mindOf_5 (F 67 3) (A 68) x1 x2 m (km_mindOf_17 (A 68) x1 x2 y4 (F 67 3).toInt.toNat y3 0) (y4 + 1)) := hT.symm
    clear hT
    refine w_n 3 (pc1 := 11) (ls1 := [some (.ref 67), some (.int x1), some (.int x2), some (.int y3), some (.int y4), o5, o6]) (st1 := [.int (F 67 3), .int y4]) (hp1 := (hz F A L)) rfl ?_
    refine w_ge (p3 := 14) rfl rfl (fun h => False.elim (by have h : (F 67 3).toInt ≤ y4.toInt := h; omega)) (fun hb => ?_)
    refine w_n 2 (pc1 := 17) (ls1 := [some (.ref 67), some (.int x1), some (.int x2), some (.int y3), some (.int y4), some (.int 0), o6]) (st1 := []) (hp1 := (hz F A L)) rfl ?_
    refine t_km_mindOf_17 (F 67 3).toInt.toNat (show (F 67 3).toInt.toNat = ((F 67 3).toInt - (0 : Int32).toInt).toNat by have e0 : (0 : Int32).toInt = 0 := rfl; first | rfl | omega) ?_
    intro r1 r2
    show wl_E f _ _ mm196.2.2.2.2.2.2.2.2 86 [some (.ref 67), some (.int x1), some (.int x2), some (.int (km_mindOf_17 (A 68) x1 x2 y4 (F 67 3).toInt.toNat y3 0)), some (.int y4), some (.int r1), r2] [] (hz F A L) _
    generalize hG273 : (km_mindOf_17 (A 68) x1 x2 y4 (F 67 3).toInt.toNat y3 0) = G273 at hE ⊢
    refine w_n 2 (pc1 := 5) (ls1 := [some (.ref 67), some (.int x1), some (.int x2), some (.int G273), some (.int (y4 + 1)), some (.int r1), r2]) (st1 := []) (hp1 := (hz F A L)) rfl ?_
    subst T
    have hb2 := i_up (B := (F 67 3)) hb
    have hb3 : y4.toInt < (F 67 3).toInt := hb
    exact ih (show m = ((F 67 3).toInt - (y4 + 1).toInt).toNat by rw [hb2]; omega) (fun q4 q5 q6 => cvE rfl rfl rfl (K q4 q5 q6))
noncomputable def km_mindOf (f67_3 : Int32) (a68 : List Int32) (x1 : Int32) (x2 : Int32) : Int32 := (km_mindOf_5 f67_3 a68 x1 x2 f67_3.toInt.toNat 0 0)
theorem t_km_mindOf {f D : Nat} {F : Nat → Nat → Int32} {A : Nat → List Int32} {L : Nat → List Int64} {Q : Option Value → sm_H → Prop} {x1 : Int32} {x2 : Int32} (K : Q (some (.int (km_mindOf (F 67 3) (A 68) x1 x2))) (hz F A L)) : wl_M f D 196 [.ref 67, .int x1, .int x2] (hz F A L) Q := by
  generalize hT : (km_mindOf (F 67 3) (A 68) x1 x2) = T at K
  have hE : T = (km_mindOf_5 (F 67 3) (A 68) x1 x2 (F 67 3).toInt.toNat 0 0) := hT.symm
  clear hT
  refine w_m (E := mm196) rfl ?_
  show wl_E f f (D - 1) mm196.2.2.2.2.2.2.2.2 0 [some (.ref 67), some (.int x1), some (.int x2), none, none, none, none] [] (hz F A L) Q
  refine w_n 4 (pc1 := 5) (ls1 := [some (.ref 67), some (.int x1), some (.int x2), some (.int 0), some (.int 0), none, none]) (st1 := []) (hp1 := (hz F A L)) rfl ?_
  refine t_km_mindOf_5 (F 67 3).toInt.toNat (show (F 67 3).toInt.toNat = ((F 67 3).toInt - (0 : Int32).toInt).toNat by have e0 : (0 : Int32).toInt = 0 := rfl; first | rfl | omega) ?_
  intro r1 r2 r3
  show wl_E f _ _ mm196.2.2.2.2.2.2.2.2 92 [some (.ref 67), some (.int x1), some (.int x2), some (.int (km_mindOf_5 (F 67 3) (A 68) x1 x2 (F 67 3).toInt.toNat 0 0)), some (.int r1), r2, r3] [] (hz F A L) _
  generalize hG274 : (km_mindOf_5 (F 67 3) (A 68) x1 x2 (F 67 3).toInt.toNat 0 0) = G274 at hE ⊢
  refine w_n 1 (pc1 := 93) (ls1 := [some (.ref 67), some (.int x1), some (.int x2), some (.int G274), some (.int r1), r2, r3]) (st1 := [.int G274]) (hp1 := (hz F A L)) rfl ?_
  subst T
  exact w_ri rfl (cvQ rfl rfl rfl K)
noncomputable def km_holdsAny_2 (f : Nat) (a78 : List Int32) (a79 : List Int32) (a81 : List Int32) (a82 : List Int32) (a84 : List Int32) (x1 : Int32) : Nat → Int32 → List Int32 → Int32 × List Int32
  | 0, _, a83 => (0, a83)
  | m + 1, y2, a83 => (if (a79.getD y2.toInt.toNat 0) = x1 then (if (km_comesTo f a78 a83 a84 (a81.getD y2.toInt.toNat 0) (a82.getD y2.toInt.toNat 0)).1 = 1 then (1, (km_comesTo f a78 a83 a84 (a81.getD y2.toInt.toNat 0) (a82.getD y2.toInt.toNat 0)).2) else (km_holdsAny_2 f a78 a79 a81 a82 a84 x1 m (y2 + 1) (km_comesTo f a78 a83 a84 (a81.getD y2.toInt.toNat 0) (a82.getD y2.toInt.toNat 0)).2)) else (km_holdsAny_2 f a78 a79 a81 a82 a84 x1 m (y2 + 1) a83))
theorem t_km_holdsAny_2 {f : Nat} {Q : Option Value → sm_H → Prop} : ∀ (m : Nat) {B D : Nat} {F : Nat → Nat → Int32} {A : Nat → List Int32} {L : Nat → List Int64} {x1 : Int32} {y2 : Int32}, m = ((F 67 17).toInt - y2.toInt).toNat → (Q (some (.int ((km_holdsAny_2 f (A 78) (A 79) (A 81) (A 82) (A 84) x1 m y2 (A 83)).1))) (hz F (uA A 83 ((km_holdsAny_2 f (A 78) (A 79) (A 81) (A 82) (A 84) x1 m y2 (A 83)).2)) L)) → wl_E f B D mm197.2.2.2.2.2.2.2.2 2 [some (.ref 67), some (.int x1), some (.int y2)] [] (hz F A L) Q := by
  intro m
  induction m with
  | zero =>
    intro B D F A L x1 y2 hm K
    generalize hT : (km_holdsAny_2 f (A 78) (A 79) (A 81) (A 82) (A 84) x1 0 y2 (A 83)) = T at K
    have hE : T = (0, (A 83)) := hT.symm
    clear hT
    refine w_n 3 (pc1 := 7) (ls1 := [some (.ref 67), some (.int x1), some (.int y2)]) (st1 := [.int (F 67 17), .int y2]) (hp1 := (hz F A L)) rfl ?_
    refine w_ge (p3 := 10) rfl rfl (fun hb => ?_) (fun h => False.elim (by have h : y2.toInt < (F 67 17).toInt := h; omega))
    refine w_n 1 (pc1 := 49) (ls1 := [some (.ref 67), some (.int x1), some (.int y2)]) (st1 := [.int 0]) (hp1 := (hz F A L)) rfl ?_
    subst T
    exact w_ri rfl (cvQ rfl (funext fun q => if k0 : q = 83 then by subst k0; exact Eq.trans (b := (A 83)) rfl rfl else by unfold uA; simp only [nb1 k0, cond_false]) rfl K)
  | succ m ih =>
    intro B D F A L x1 y2 hm K
    generalize hT : (km_holdsAny_2 f (A 78) (A 79) (A 81) (A 82) (A 84) x1 (m + 1) y2 (A 83)) = T at K
    have hE : T = (if ((A 79).getD y2.toInt.toNat 0) = x1 then (if (km_comesTo f (A 78) (A 83) (A 84) ((A 81).getD y2.toInt.toNat 0) ((A 82).getD y2.toInt.toNat 0)).1 = 1 then (1, (km_comesTo f (A 78) (A 83) (A 84) ((A 81).getD y2.toInt.toNat 0) ((A 82).getD y2.toInt.toNat 0)).2) else (km_holdsAny_2 f (A 78) (A 79) (A 81) (A 82) (A 84) x1 m (y2 + 1) (km_comesTo f (A 78) (A 83) (A 84) ((A 81).getD y2.toInt.toNat 0) ((A 82).getD y2.toInt.toNat 0)).2)) else (km_holdsAny_2 f (A 78) (A 79) (A 81) (A 82) (A 84) x1 m (y2 + 1) (A 83))) := hT.symm
    clear hT
    refine w_n 3 (pc1 := 7) (ls1 := [some (.ref 67), some (.int x1), some (.int y2)]) (st1 := [.int (F 67 17), .int y2]) (hp1 := (hz F A L)) rfl ?_
    refine w_ge (p3 := 10) rfl rfl (fun h => False.elim (by have h : (F 67 17).toInt ≤ y2.toInt := h; omega)) (fun hb => ?_)
    refine w_n 3 (pc1 := 15) (ls1 := [some (.ref 67), some (.int x1), some (.int y2)]) (st1 := [.int y2, .ref 79]) (hp1 := (hz F A L)) rfl ?_
    refine w_al (k := 79) (l := (A 79)) rfl rfl rfl (fun ab => ?_)
    refine w_n 1 (pc1 := 17) (ls1 := [some (.ref 67), some (.int x1), some (.int y2)]) (st1 := [.int x1, .int ((A 79).getD y2.toInt.toNat 0)]) (hp1 := (hz F A L)) rfl ?_
    refine w_ne (p3 := 20) rfl rfl (fun h => ?_) (fun h => ?_)
    · have h1 : ¬ ((A 79).getD y2.toInt.toNat 0) = x1 := h
      rw [if_neg h1] at hE
      refine w_n 2 (pc1 := 2) (ls1 := [some (.ref 67), some (.int x1), some (.int (y2 + 1))]) (st1 := []) (hp1 := (hz F A L)) rfl ?_
      subst T
      have hb2 := i_up (B := (F 67 17)) hb
      have hb3 : y2.toInt < (F 67 17).toInt := hb
      exact ih (show m = ((F 67 17).toInt - (y2 + 1).toInt).toNat by rw [hb2]; omega) (cvQ rfl (funext fun q => if k0 : q = 83 then by subst k0; exact Eq.trans (b := (km_holdsAny_2 f (A 78) (A 79) (A 81) (A 82) (A 84) x1 m (y2 + 1) (A 83)).2) rfl rfl else by unfold uA; simp only [nb1 k0, cond_false]) rfl K)
    · have h1 : ((A 79).getD y2.toInt.toNat 0) = x1 := h
      rw [if_pos h1] at hE
      refine w_n 4 (pc1 := 26) (ls1 := [some (.ref 67), some (.int x1), some (.int y2)]) (st1 := [.int y2, .ref 81, .ref 67]) (hp1 := (hz F A L)) rfl ?_
      refine w_al (k := 81) (l := (A 81)) rfl rfl rfl (fun ab => ?_)
      refine w_n 3 (pc1 := 32) (ls1 := [some (.ref 67), some (.int x1), some (.int y2)]) (st1 := [.int y2, .ref 82, .int ((A 81).getD y2.toInt.toNat 0), .ref 67]) (hp1 := (hz F A L)) rfl ?_
      refine w_al (k := 82) (l := (A 82)) rfl rfl rfl (fun ab => ?_)
      refine w_c rfl rfl (t_km_comesTo ?_)
      show wl_E f _ _ mm197.2.2.2.2.2.2.2.2 36 [some (.ref 67), some (.int x1), some (.int y2)] [.int (km_comesTo f (A 78) (A 83) (A 84) ((A 81).getD y2.toInt.toNat 0) ((A 82).getD y2.toInt.toNat 0)).1] (hz F (uA A 83 (km_comesTo f (A 78) (A 83) (A 84) ((A 81).getD y2.toInt.toNat 0) ((A 82).getD y2.toInt.toNat 0)).2) L) _
      generalize hG276 : (km_comesTo f (A 78) (A 83) (A 84) ((A 81).getD y2.toInt.toNat 0) ((A 82).getD y2.toInt.toNat 0)) = G276 at hE ⊢
      refine w_n 1 (pc1 := 37) (ls1 := [some (.ref 67), some (.int x1), some (.int y2)]) (st1 := [.int 1, .int G276.1]) (hp1 := (hz F (uA A 83 G276.2) L)) rfl ?_
      refine w_ne (p3 := 40) rfl rfl (fun h => ?_) (fun h => ?_)
      · have h2 : ¬ G276.1 = 1 := h
        rw [if_neg h2] at hE
        refine w_n 2 (pc1 := 2) (ls1 := [some (.ref 67), some (.int x1), some (.int (y2 + 1))]) (st1 := []) (hp1 := (hz F (uA A 83 G276.2) L)) rfl ?_
        subst T
        have hb2 := i_up (B := (F 67 17)) hb
        have hb3 : y2.toInt < (F 67 17).toInt := hb
        exact ih (show m = ((F 67 17).toInt - (y2 + 1).toInt).toNat by rw [hb2]; omega) (cvQ rfl (funext fun q => if k0 : q = 83 then by subst k0; exact Eq.trans (b := (km_holdsAny_2 f (A 78) (A 79) (A 81) (A 82) (A 84) x1 m (y2 + 1) G276.2).2) rfl rfl else by unfold uA; simp only [nb1 k0, cond_false]) rfl K)
      · have h2 : G276.1 = 1 := h
        rw [if_pos h2] at hE
        refine w_n 1 (pc1 := 41) (ls1 := [some (.ref 67), some (.int x1), some (.int y2)]) (st1 := [.int 1]) (hp1 := (hz F (uA A 83 G276.2) L)) rfl ?_
        subst T
        exact w_ri rfl (cvQ rfl rfl rfl K)
noncomputable def km_holdsAny (f : Nat) (f67_17 : Int32) (a78 : List Int32) (a79 : List Int32) (a81 : List Int32) (a82 : List Int32) (a83 : List Int32) (a84 : List Int32) (x1 : Int32) : Int32 × List Int32 := (km_holdsAny_2 f a78 a79 a81 a82 a84 x1 f67_17.toInt.toNat 0 a83)
theorem t_km_holdsAny {f D : Nat} {F : Nat → Nat → Int32} {A : Nat → List Int32} {L : Nat → List Int64} {Q : Option Value → sm_H → Prop} {x1 : Int32} (K : Q (some (.int ((km_holdsAny f (F 67 17) (A 78) (A 79) (A 81) (A 82) (A 83) (A 84) x1).1))) (hz F (uA A 83 ((km_holdsAny f (F 67 17) (A 78) (A 79) (A 81) (A 82) (A 83) (A 84) x1).2)) L)) : wl_M f D 197 [.ref 67, .int x1] (hz F A L) Q := by
  generalize hT : (km_holdsAny f (F 67 17) (A 78) (A 79) (A 81) (A 82) (A 83) (A 84) x1) = T at K
  have hE : T = (km_holdsAny_2 f (A 78) (A 79) (A 81) (A 82) (A 84) x1 (F 67 17).toInt.toNat 0 (A 83)) := hT.symm
  clear hT
  refine w_m (E := mm197) rfl ?_
  show wl_E f f (D - 1) mm197.2.2.2.2.2.2.2.2 0 [some (.ref 67), some (.int x1), none] [] (hz F A L) Q
  refine w_n 2 (pc1 := 2) (ls1 := [some (.ref 67), some (.int x1), some (.int 0)]) (st1 := []) (hp1 := (hz F A L)) rfl ?_
  subst T
  exact t_km_holdsAny_2 _ (show (F 67 17).toInt.toNat = ((F 67 17).toInt - (0 : Int32).toInt).toNat by have e0 : (0 : Int32).toInt = 0 := rfl; first | rfl | omega) (cvQ rfl (funext fun q => if k0 : q = 83 then by subst k0; exact Eq.trans (b := (km_holdsAny_2 f (A 78) (A 79) (A 81) (A 82) (A 84) x1 (F 67 17).toInt.toNat 0 (A 83)).2) rfl rfl else by unfold uA; simp only [nb1 k0, cond_false]) rfl K)
noncomputable def km_likesBy (f : Nat) (f67_3 : Int32) (f67_17 : Int32) (a68 : List Int32) (a78 : List Int32) (a79 : List Int32) (a80 : List Int32) (a81 : List Int32) (a82 : List Int32) (a83 : List Int32) (a84 : List Int32) (x1 : Int32) (x2 : Int32) : Int32 × List Int32 × List Int32 := (if (km_holdsAny f f67_17 a78 a79 a81 a82 a83 (((((km_feelsOne a68 a84 x2).set 0 x1).set 1 x2).set 2 (km_leftOf a68 x1 x2)).set 3 (km_mindOf f67_3 a68 x1 x2)) 120).1 = 0 then ((km_byLaw f f67_17 a78 a79 a80 a81 a82 (km_holdsAny f f67_17 a78 a79 a81 a82 a83 (((((km_feelsOne a68 a84 x2).set 0 x1).set 1 x2).set 2 (km_leftOf a68 x1 x2)).set 3 (km_mindOf f67_3 a68 x1 x2)) 120).2 (((((km_feelsOne a68 a84 x2).set 0 x1).set 1 x2).set 2 (km_leftOf a68 x1 x2)).set 3 (km_mindOf f67_3 a68 x1 x2)) 101 9999).1, (km_byLaw f f67_17 a78 a79 a80 a81 a82 (km_holdsAny f f67_17 a78 a79 a81 a82 a83 (((((km_feelsOne a68 a84 x2).set 0 x1).set 1 x2).set 2 (km_leftOf a68 x1 x2)).set 3 (km_mindOf f67_3 a68 x1 x2)) 120).2 (((((km_feelsOne a68 a84 x2).set 0 x1).set 1 x2).set 2 (km_leftOf a68 x1 x2)).set 3 (km_mindOf f67_3 a68 x1 x2)) 101 9999).2, (((((km_feelsOne a68 a84 x2).set 0 x1).set 1 x2).set 2 (km_leftOf a68 x1 x2)).set 3 (km_mindOf f67_3 a68 x1 x2))) else (0, (km_holdsAny f f67_17 a78 a79 a81 a82 a83 (((((km_feelsOne a68 a84 x2).set 0 x1).set 1 x2).set 2 (km_leftOf a68 x1 x2)).set 3 (km_mindOf f67_3 a68 x1 x2)) 120).2, (((((km_feelsOne a68 a84 x2).set 0 x1).set 1 x2).set 2 (km_leftOf a68 x1 x2)).set 3 (km_mindOf f67_3 a68 x1 x2))))
theorem t_km_likesBy {f D : Nat} {F : Nat → Nat → Int32} {A : Nat → List Int32} {L : Nat → List Int64} {Q : Option Value → sm_H → Prop} {x1 : Int32} {x2 : Int32} (K : Q (some (.int ((km_likesBy f (F 67 3) (F 67 17) (A 68) (A 78) (A 79) (A 80) (A 81) (A 82) (A 83) (A 84) x1 x2).1))) (hz F (uA (uA A 83 ((km_likesBy f (F 67 3) (F 67 17) (A 68) (A 78) (A 79) (A 80) (A 81) (A 82) (A 83) (A 84) x1 x2).2.1)) 84 ((km_likesBy f (F 67 3) (F 67 17) (A 68) (A 78) (A 79) (A 80) (A 81) (A 82) (A 83) (A 84) x1 x2).2.2)) L)) : wl_M f D 195 [.ref 67, .int x1, .int x2] (hz F A L) Q := by
  generalize hT : (km_likesBy f (F 67 3) (F 67 17) (A 68) (A 78) (A 79) (A 80) (A 81) (A 82) (A 83) (A 84) x1 x2) = T at K
  have hE : T = (if (km_holdsAny f (F 67 17) (A 78) (A 79) (A 81) (A 82) (A 83) (((((km_feelsOne (A 68) (A 84) x2).set 0 x1).set 1 x2).set 2 (km_leftOf (A 68) x1 x2)).set 3 (km_mindOf (F 67 3) (A 68) x1 x2)) 120).1 = 0 then ((km_byLaw f (F 67 17) (A 78) (A 79) (A 80) (A 81) (A 82) (km_holdsAny f (F 67 17) (A 78) (A 79) (A 81) (A 82) (A 83) (((((km_feelsOne (A 68) (A 84) x2).set 0 x1).set 1 x2).set 2 (km_leftOf (A 68) x1 x2)).set 3 (km_mindOf (F 67 3) (A 68) x1 x2)) 120).2 (((((km_feelsOne (A 68) (A 84) x2).set 0 x1).set 1 x2).set 2 (km_leftOf (A 68) x1 x2)).set 3 (km_mindOf (F 67 3) (A 68) x1 x2)) 101 9999).1, (km_byLaw f (F 67 17) (A 78) (A 79) (A 80) (A 81) (A 82) (km_holdsAny f (F 67 17) (A 78) (A 79) (A 81) (A 82) (A 83) (((((km_feelsOne (A 68) (A 84) x2).set 0 x1).set 1 x2).set 2 (km_leftOf (A 68) x1 x2)).set 3 (km_mindOf (F 67 3) (A 68) x1 x2)) 120).2 (((((km_feelsOne (A 68) (A 84) x2).set 0 x1).set 1 x2).set 2 (km_leftOf (A 68) x1 x2)).set 3 (km_mindOf (F 67 3) (A 68) x1 x2)) 101 9999).2, (((((km_feelsOne (A 68) (A 84) x2).set 0 x1).set 1 x2).set 2 (km_leftOf (A 68) x1 x2)).set 3 (km_mindOf (F 67 3) (A 68) x1 x2))) else (0, (km_holdsAny f (F 67 17) (A 78) (A 79) (A 81) (A 82) (A 83) (((((km_feelsOne (A 68) (A 84) x2).set 0 x1).set 1 x2).set 2 (km_leftOf (A 68) x1 x2)).set 3 (km_mindOf (F 67 3) (A 68) x1 x2)) 120).2, (((((km_feelsOne (A 68) (A 84) x2).set 0 x1).set 1 x2).set 2 (km_leftOf (A 68) x1 x2)).set 3 (km_mindOf (F 67 3) (A 68) x1 x2)))) := hT.symm
  clear hT
  refine w_m (E := mm195) rfl ?_
  show wl_E f f (D - 1) mm195.2.2.2.2.2.2.2.2 0 [some (.ref 67), some (.int x1), some (.int x2)] [] (hz F A L) Q
  refine w_n 2 (pc1 := 2) (ls1 := [some (.ref 67), some (.int x1), some (.int x2)]) (st1 := [.int x2, .ref 67]) (hp1 := (hz F A L)) rfl ?_
  refine w_c rfl rfl (t_km_feelsOne ?_)
  show wl_E f _ _ mm195.2.2.2.2.2.2.2.2 5 [some (.ref 67), some (.int x1), some (.int x2)] [] (hz F (uA A 84 (km_feelsOne (A 68) (A 84) x2)) L) _
  generalize hG267 : (km_feelsOne (A 68) (A 84) x2) = G267 at hE ⊢
  refine w_n 4 (pc1 := 11) (ls1 := [some (.ref 67), some (.int x1), some (.int x2)]) (st1 := [.int x1, .int 0, .ref 84]) (hp1 := (hz F (uA A 84 G267) L)) rfl ?_
  refine w_as (k := 84) (l := G267) (hp1 := (hz F (uA (uA A 84 G267) 84 (G267.set 0 x1)) L)) rfl rfl rfl (hz_s84 _) (fun _ => ?_)
  refine w_n 4 (pc1 := 18) (ls1 := [some (.ref 67), some (.int x1), some (.int x2)]) (st1 := [.int x2, .int 1, .ref 84]) (hp1 := (hz F (uA (uA A 84 G267) 84 (G267.set 0 x1)) L)) rfl ?_
  refine w_as (k := 84) (l := (G267.set 0 x1)) (hp1 := (hz F (uA (uA (uA A 84 G267) 84 (G267.set 0 x1)) 84 ((G267.set 0 x1).set 1 x2)) L)) rfl rfl rfl (hz_s84 _) (fun _ => ?_)
  refine w_n 6 (pc1 := 27) (ls1 := [some (.ref 67), some (.int x1), some (.int x2)]) (st1 := [.int x2, .int x1, .ref 67, .int 2, .ref 84]) (hp1 := (hz F (uA (uA (uA A 84 G267) 84 (G267.set 0 x1)) 84 ((G267.set 0 x1).set 1 x2)) L)) rfl ?_
  refine w_c rfl rfl (t_km_leftOf ?_)
  show wl_E f _ _ mm195.2.2.2.2.2.2.2.2 30 [some (.ref 67), some (.int x1), some (.int x2)] [.int (km_leftOf (A 68) x1 x2), .int 2, .ref 84] (hz F (uA (uA (uA A 84 G267) 84 (G267.set 0 x1)) 84 ((G267.set 0 x1).set 1 x2)) L) _
  generalize hG268 : (km_leftOf (A 68) x1 x2) = G268 at hE ⊢
  refine w_as (k := 84) (l := ((G267.set 0 x1).set 1 x2)) (hp1 := (hz F (uA (uA (uA (uA A 84 G267) 84 (G267.set 0 x1)) 84 ((G267.set 0 x1).set 1 x2)) 84 (((G267.set 0 x1).set 1 x2).set 2 G268)) L)) rfl rfl rfl (hz_s84 _) (fun _ => ?_)
  refine w_n 6 (pc1 := 39) (ls1 := [some (.ref 67), some (.int x1), some (.int x2)]) (st1 := [.int x2, .int x1, .ref 67, .int 3, .ref 84]) (hp1 := (hz F (uA (uA (uA (uA A 84 G267) 84 (G267.set 0 x1)) 84 ((G267.set 0 x1).set 1 x2)) 84 (((G267.set 0 x1).set 1 x2).set 2 G268)) L)) rfl ?_
  refine w_c rfl rfl (t_km_mindOf ?_)
  show wl_E f _ _ mm195.2.2.2.2.2.2.2.2 42 [some (.ref 67), some (.int x1), some (.int x2)] [.int (km_mindOf (F 67 3) (A 68) x1 x2), .int 3, .ref 84] (hz F (uA (uA (uA (uA A 84 G267) 84 (G267.set 0 x1)) 84 ((G267.set 0 x1).set 1 x2)) 84 (((G267.set 0 x1).set 1 x2).set 2 G268)) L) _
  generalize hG275 : (km_mindOf (F 67 3) (A 68) x1 x2) = G275 at hE ⊢
  refine w_as (k := 84) (l := (((G267.set 0 x1).set 1 x2).set 2 G268)) (hp1 := (hz F (uA (uA (uA (uA (uA A 84 G267) 84 (G267.set 0 x1)) 84 ((G267.set 0 x1).set 1 x2)) 84 (((G267.set 0 x1).set 1 x2).set 2 G268)) 84 ((((G267.set 0 x1).set 1 x2).set 2 G268).set 3 G275)) L)) rfl rfl rfl (hz_s84 _) (fun _ => ?_)
  refine w_n 2 (pc1 := 46) (ls1 := [some (.ref 67), some (.int x1), some (.int x2)]) (st1 := [.int 120, .ref 67]) (hp1 := (hz F (uA (uA (uA (uA (uA A 84 G267) 84 (G267.set 0 x1)) 84 ((G267.set 0 x1).set 1 x2)) 84 (((G267.set 0 x1).set 1 x2).set 2 G268)) 84 ((((G267.set 0 x1).set 1 x2).set 2 G268).set 3 G275)) L)) rfl ?_
  refine w_c rfl rfl (t_km_holdsAny ?_)
  show wl_E f _ _ mm195.2.2.2.2.2.2.2.2 49 [some (.ref 67), some (.int x1), some (.int x2)] [.int (km_holdsAny f (F 67 17) (A 78) (A 79) (A 81) (A 82) (A 83) ((((G267.set 0 x1).set 1 x2).set 2 G268).set 3 G275) 120).1] (hz F (uA (uA (uA (uA (uA (uA A 84 G267) 84 (G267.set 0 x1)) 84 ((G267.set 0 x1).set 1 x2)) 84 (((G267.set 0 x1).set 1 x2).set 2 G268)) 84 ((((G267.set 0 x1).set 1 x2).set 2 G268).set 3 G275)) 83 (km_holdsAny f (F 67 17) (A 78) (A 79) (A 81) (A 82) (A 83) ((((G267.set 0 x1).set 1 x2).set 2 G268).set 3 G275) 120).2) L) _
  generalize hG277 : (km_holdsAny f (F 67 17) (A 78) (A 79) (A 81) (A 82) (A 83) ((((G267.set 0 x1).set 1 x2).set 2 G268).set 3 G275) 120) = G277 at hE ⊢
  refine w_zeq (p3 := 52) rfl rfl (fun h => ?_) (fun h => ?_)
  · have h1 : G277.1 = 0 := h
    rw [if_pos h1] at hE
    refine w_n 3 (pc1 := 62) (ls1 := [some (.ref 67), some (.int x1), some (.int x2)]) (st1 := [.int 9999, .int 101, .ref 67]) (hp1 := (hz F (uA (uA (uA (uA (uA (uA A 84 G267) 84 (G267.set 0 x1)) 84 ((G267.set 0 x1).set 1 x2)) 84 (((G267.set 0 x1).set 1 x2).set 2 G268)) 84 ((((G267.set 0 x1).set 1 x2).set 2 G268).set 3 G275)) 83 G277.2) L)) rfl ?_
    refine w_c rfl rfl (t_km_byLaw ?_)
    show wl_E f _ _ mm195.2.2.2.2.2.2.2.2 65 [some (.ref 67), some (.int x1), some (.int x2)] [.int (km_byLaw f (F 67 17) (A 78) (A 79) (A 80) (A 81) (A 82) G277.2 ((((G267.set 0 x1).set 1 x2).set 2 G268).set 3 G275) 101 9999).1] (hz F (uA (uA (uA (uA (uA (uA (uA A 84 G267) 84 (G267.set 0 x1)) 84 ((G267.set 0 x1).set 1 x2)) 84 (((G267.set 0 x1).set 1 x2).set 2 G268)) 84 ((((G267.set 0 x1).set 1 x2).set 2 G268).set 3 G275)) 83 G277.2) 83 (km_byLaw f (F 67 17) (A 78) (A 79) (A 80) (A 81) (A 82) G277.2 ((((G267.set 0 x1).set 1 x2).set 2 G268).set 3 G275) 101 9999).2) L) _
    generalize hG278 : (km_byLaw f (F 67 17) (A 78) (A 79) (A 80) (A 81) (A 82) G277.2 ((((G267.set 0 x1).set 1 x2).set 2 G268).set 3 G275) 101 9999) = G278 at hE ⊢
    subst T
    exact w_ri rfl (cvQ rfl (funext fun q => if k0 : q = 83 then by subst k0; exact Eq.trans (b := G278.2) rfl rfl else if k1 : q = 84 then by subst k1; exact Eq.trans (b := ((((G267.set 0 x1).set 1 x2).set 2 G268).set 3 G275)) rfl rfl else by unfold uA; simp only [nb1 k0, nb1 k1, cond_false]) rfl K)
  · have h1 : ¬ G277.1 = 0 := h
    rw [if_neg h1] at hE
    refine w_n 2 (pc1 := 65) (ls1 := [some (.ref 67), some (.int x1), some (.int x2)]) (st1 := [.int 0]) (hp1 := (hz F (uA (uA (uA (uA (uA (uA A 84 G267) 84 (G267.set 0 x1)) 84 ((G267.set 0 x1).set 1 x2)) 84 (((G267.set 0 x1).set 1 x2).set 2 G268)) 84 ((((G267.set 0 x1).set 1 x2).set 2 G268).set 3 G275)) 83 G277.2) L)) rfl ?_
    subst T
    exact w_ri rfl (cvQ rfl (funext fun q => if k0 : q = 83 then by subst k0; exact Eq.trans (b := G277.2) rfl rfl else if k1 : q = 84 then by subst k1; exact Eq.trans (b := ((((G267.set 0 x1).set 1 x2).set 2 G268).set 3 G275)) rfl rfl else by unfold uA; simp only [nb1 k0, nb1 k1, cond_false]) rfl K)
noncomputable def km_asks_8 (f : Nat) (f67_3 : Int32) (f67_17 : Int32) (a68 : List Int32) (a78 : List Int32) (a79 : List Int32) (a80 : List Int32) (a81 : List Int32) (a82 : List Int32) (x1 : Int32) : Nat → Int32 → Int32 → Int32 → List Int32 → List Int32 → Int32 × List Int32 × List Int32
  | 0, y2, _, _, a83, a84 => (y2, a83, a84)
  | m + 1, y2, y3, y4, a83, a84 => (if (km_areTwo a68 x1 y4) = 0 then (km_asks_8 f f67_3 f67_17 a68 a78 a79 a80 a81 a82 x1 m y2 y3 (y4 + 1) a83 a84) else (if y3.toInt < (km_likesBy f f67_3 f67_17 a68 a78 a79 a80 a81 a82 a83 a84 x1 y4).1.toInt then (km_asks_8 f f67_3 f67_17 a68 a78 a79 a80 a81 a82 x1 m y4 (km_likesBy f f67_3 f67_17 a68 a78 a79 a80 a81 a82 a83 a84 x1 y4).1 (y4 + 1) (km_likesBy f f67_3 f67_17 a68 a78 a79 a80 a81 a82 a83 a84 x1 y4).2.1 (km_likesBy f f67_3 f67_17 a68 a78 a79 a80 a81 a82 a83 a84 x1 y4).2.2) else (km_asks_8 f f67_3 f67_17 a68 a78 a79 a80 a81 a82 x1 m y2 y3 (y4 + 1) (km_likesBy f f67_3 f67_17 a68 a78 a79 a80 a81 a82 a83 a84 x1 y4).2.1 (km_likesBy f f67_3 f67_17 a68 a78 a79 a80 a81 a82 a83 a84 x1 y4).2.2)))
theorem t_km_asks_8 {f : Nat} {Q : Option Value → sm_H → Prop} : ∀ (m : Nat) {B D : Nat} {F : Nat → Nat → Int32} {A : Nat → List Int32} {L : Nat → List Int64} {x1 : Int32} {y2 : Int32} {y3 : Int32} {y4 : Int32} {o5 : Option Value}, m = (12 - y4.toInt).toNat → (∀ q3 : Int32, ∀ q4 : Int32, ∀ q5 : Option Value, wl_E f B D mm194.2.2.2.2.2.2.2.2 58 [some (.ref 67), some (.int x1), some (.int ((km_asks_8 f (F 67 3) (F 67 17) (A 68) (A 78) (A 79) (A 80) (A 81) (A 82) x1 m y2 y3 y4 (A 83) (A 84)).1)), some (.int q3), some (.int q4), q5] [] (hz F (uA (uA A 83 ((km_asks_8 f (F 67 3) (F 67 17) (A 68) (A 78) (A 79) (A 80) (A 81) (A 82) x1 m y2 y3 y4 (A 83) (A 84)).2.1)) 84 ((km_asks_8 f (F 67 3) (F 67 17) (A 68) (A 78) (A 79) (A 80) (A 81) (A 82) x1 m y2 y3 y4 (A 83) (A 84)).2.2)) L) Q) → wl_E f B D mm194.2.2.2.2.2.2.2.2 8 [some (.ref 67), some (.int x1), some (.int y2), some (.int y3), some (.int y4), o5] [] (hz F A L) Q := by
  intro m
  induction m with
  | zero =>
    intro B D F A L x1 y2 y3 y4 o5 hm K
    generalize hT : (km_asks_8 f (F 67 3) (F 67 17) (A 68) (A 78) (A 79) (A 80) (A 81) (A 82) x1 0 y2 y3 y4 (A 83) (A 84)) = T at K
    have hE : T = (y2, (A 83), (A 84)) := hT.symm
    clear hT
    refine w_n 2 (pc1 := 12) (ls1 := [some (.ref 67), some (.int x1), some (.int y2), some (.int y3), some (.int y4), o5]) (st1 := [.int 12, .int y4]) (hp1 := (hz F A L)) rfl ?_
    refine w_ge (p3 := 15) rfl rfl (fun hb => ?_) (fun h => False.elim (by have h : y4.toInt < 12 := h; omega))
    subst T
    exact cvE rfl (funext fun q => if k0 : q = 83 then by subst k0; exact Eq.trans (b := (A 83)) rfl rfl else if k1 : q = 84 then by subst k1; exact Eq.trans (b := (A 84)) rfl rfl else by unfold uA; simp only [nb1 k0, nb1 k1, cond_false]) rfl (K _ _ _)
  | succ m ih =>
    intro B D F A L x1 y2 y3 y4 o5 hm K
    generalize hT : (km_asks_8 f (F 67 3) (F 67 17) (A 68) (A 78) (A 79) (A 80) (A 81) (A 82) x1 (m + 1) y2 y3 y4 (A 83) (A 84)) = T at K
    have hE : T = (if (km_areTwo (A 68) x1 y4) = 0 then (km_asks_8 f (F 67 3) (F 67 17) (A 68) (A 78) (A 79) (A 80) (A 81) (A 82) x1 m y2 y3 (y4 + 1) (A 83) (A 84)) else (if y3.toInt < (km_likesBy f (F 67 3) (F 67 17) (A 68) (A 78) (A 79) (A 80) (A 81) (A 82) (A 83) (A 84) x1 y4).1.toInt then (km_asks_8 f (F 67 3) (F 67 17) (A 68) (A 78) (A 79) (A 80) (A 81) (A 82) x1 m y4 (km_likesBy f (F 67 3) (F 67 17) (A 68) (A 78) (A 79) (A 80) (A 81) (A 82) (A 83) (A 84) x1 y4).1 (y4 + 1) (km_likesBy f (F 67 3) (F 67 17) (A 68) (A 78) (A 79) (A 80) (A 81) (A 82) (A 83) (A 84) x1 y4).2.1 (km_likesBy f (F 67 3) (F 67 17) (A 68) (A 78) (A 79) (A 80) (A 81) (A 82) (A 83) (A 84) x1 y4).2.2) else (km_asks_8 f (F 67 3) (F 67 17) (A 68) (A 78) (A 79) (A 80) (A 81) (A 82) x1 m y2 y3 (y4 + 1) (km_likesBy f (F 67 3) (F 67 17) (A 68) (A 78) (A 79) (A 80) (A 81) (A 82) (A 83) (A 84) x1 y4).2.1 (km_likesBy f (F 67 3) (F 67 17) (A 68) (A 78) (A 79) (A 80) (A 81) (A 82) (A 83) (A 84) x1 y4).2.2))) := hT.symm
    clear hT
    refine w_n 2 (pc1 := 12) (ls1 := [some (.ref 67), some (.int x1), some (.int y2), some (.int y3), some (.int y4), o5]) (st1 := [.int 12, .int y4]) (hp1 := (hz F A L)) rfl ?_
    refine w_ge (p3 := 15) rfl rfl (fun h => False.elim (by have h : 12 ≤ y4.toInt := h; omega)) (fun hb => ?_)
    refine w_n 3 (pc1 := 19) (ls1 := [some (.ref 67), some (.int x1), some (.int y2), some (.int y3), some (.int y4), o5]) (st1 := [.int y4, .int x1, .ref 67]) (hp1 := (hz F A L)) rfl ?_
    refine w_c rfl rfl (t_km_areTwo ?_)
    show wl_E f _ _ mm194.2.2.2.2.2.2.2.2 22 [some (.ref 67), some (.int x1), some (.int y2), some (.int y3), some (.int y4), o5] [.int (km_areTwo (A 68) x1 y4)] (hz F A L) _
    generalize hG266 : (km_areTwo (A 68) x1 y4) = G266 at hE ⊢
    refine w_zne (p3 := 25) rfl rfl (fun h => ?_) (fun h => ?_)
    · have h1 : ¬ G266 = 0 := h
      rw [if_neg h1] at hE
      refine w_n 3 (pc1 := 32) (ls1 := [some (.ref 67), some (.int x1), some (.int y2), some (.int y3), some (.int y4), o5]) (st1 := [.int y4, .int x1, .ref 67]) (hp1 := (hz F A L)) rfl ?_
      refine w_c rfl rfl (t_km_likesBy ?_)
      show wl_E f _ _ mm194.2.2.2.2.2.2.2.2 35 [some (.ref 67), some (.int x1), some (.int y2), some (.int y3), some (.int y4), o5] [.int (km_likesBy f (F 67 3) (F 67 17) (A 68) (A 78) (A 79) (A 80) (A 81) (A 82) (A 83) (A 84) x1 y4).1] (hz F (uA (uA A 83 (km_likesBy f (F 67 3) (F 67 17) (A 68) (A 78) (A 79) (A 80) (A 81) (A 82) (A 83) (A 84) x1 y4).2.1) 84 (km_likesBy f (F 67 3) (F 67 17) (A 68) (A 78) (A 79) (A 80) (A 81) (A 82) (A 83) (A 84) x1 y4).2.2) L) _
      generalize hG279 : (km_likesBy f (F 67 3) (F 67 17) (A 68) (A 78) (A 79) (A 80) (A 81) (A 82) (A 83) (A 84) x1 y4) = G279 at hE ⊢
      refine w_n 3 (pc1 := 40) (ls1 := [some (.ref 67), some (.int x1), some (.int y2), some (.int y3), some (.int y4), some (.int G279.1)]) (st1 := [.int y3, .int G279.1]) (hp1 := (hz F (uA (uA A 83 G279.2.1) 84 G279.2.2) L)) rfl ?_
      refine w_gt (p3 := 43) rfl rfl (fun h => ?_) (fun h => ?_)
      · have h2 : y3.toInt < G279.1.toInt := h
        rw [if_pos h2] at hE
        refine w_n 6 (pc1 := 8) (ls1 := [some (.ref 67), some (.int x1), some (.int y4), some (.int G279.1), some (.int (y4 + 1)), some (.int G279.1)]) (st1 := []) (hp1 := (hz F (uA (uA A 83 G279.2.1) 84 G279.2.2) L)) rfl ?_
        subst T
        have hb2 := i_up (B := (12 : Int32)) hb
        have hb3 : y4.toInt < 12 := hb
        exact ih (show m = (12 - (y4 + 1).toInt).toNat by rw [hb2]; omega) (fun q3 q4 q5 => cvE rfl (funext fun q => if k0 : q = 83 then by subst k0; exact Eq.trans (b := (km_asks_8 f (F 67 3) (F 67 17) (A 68) (A 78) (A 79) (A 80) (A 81) (A 82) x1 m y4 G279.1 (y4 + 1) G279.2.1 G279.2.2).2.1) rfl rfl else if k1 : q = 84 then by subst k1; exact Eq.trans (b := (km_asks_8 f (F 67 3) (F 67 17) (A 68) (A 78) (A 79) (A 80) (A 81) (A 82) x1 m y4 G279.1 (y4 + 1) G279.2.1 G279.2.2).2.2) rfl rfl else by unfold uA; simp only [nb1 k0, nb1 k1, cond_false]) rfl (K q3 q4 q5))
      · have h2 : G279.1.toInt ≤ y3.toInt := h
        rw [if_neg (Int.not_lt.mpr h2)] at hE
        refine w_n 3 (pc1 := 8) (ls1 := [some (.ref 67), some (.int x1), some (.int y2), some (.int y3), some (.int (y4 + 1)), some (.int G279.1)]) (st1 := []) (hp1 := (hz F (uA (uA A 83 G279.2.1) 84 G279.2.2) L)) rfl ?_
        subst T
        have hb2 := i_up (B := (12 : Int32)) hb
        have hb3 : y4.toInt < 12 := hb
        exact ih (show m = (12 - (y4 + 1).toInt).toNat by rw [hb2]; omega) (fun q3 q4 q5 => cvE rfl (funext fun q => if k0 : q = 83 then by subst k0; exact Eq.trans (b := (km_asks_8 f (F 67 3) (F 67 17) (A 68) (A 78) (A 79) (A 80) (A 81) (A 82) x1 m y2 y3 (y4 + 1) G279.2.1 G279.2.2).2.1) rfl rfl else if k1 : q = 84 then by subst k1; exact Eq.trans (b := (km_asks_8 f (F 67 3) (F 67 17) (A 68) (A 78) (A 79) (A 80) (A 81) (A 82) x1 m y2 y3 (y4 + 1) G279.2.1 G279.2.2).2.2) rfl rfl else by unfold uA; simp only [nb1 k0, nb1 k1, cond_false]) rfl (K q3 q4 q5))
    · have h1 : G266 = 0 := h
      rw [if_pos h1] at hE
      refine w_n 3 (pc1 := 8) (ls1 := [some (.ref 67), some (.int x1), some (.int y2), some (.int y3), some (.int (y4 + 1)), o5]) (st1 := []) (hp1 := (hz F A L)) rfl ?_
      subst T
      have hb2 := i_up (B := (12 : Int32)) hb
      have hb3 : y4.toInt < 12 := hb
      exact ih (show m = (12 - (y4 + 1).toInt).toNat by rw [hb2]; omega) (fun q3 q4 q5 => cvE rfl (funext fun q => if k0 : q = 83 then by subst k0; exact Eq.trans (b := (km_asks_8 f (F 67 3) (F 67 17) (A 68) (A 78) (A 79) (A 80) (A 81) (A 82) x1 m y2 y3 (y4 + 1) (A 83) (A 84)).2.1) rfl rfl else if k1 : q = 84 then by subst k1; exact Eq.trans (b := (km_asks_8 f (F 67 3) (F 67 17) (A 68) (A 78) (A 79) (A 80) (A 81) (A 82) x1 m y2 y3 (y4 + 1) (A 83) (A 84)).2.2) rfl rfl else by unfold uA; simp only [nb1 k0, nb1 k1, cond_false]) rfl (K q3 q4 q5))
noncomputable def km_asks (f : Nat) (f67_3 : Int32) (f67_17 : Int32) (a68 : List Int32) (a78 : List Int32) (a79 : List Int32) (a80 : List Int32) (a81 : List Int32) (a82 : List Int32) (a83 : List Int32) (a84 : List Int32) (x1 : Int32) : Int32 × List Int32 × List Int32 := ((km_asks_8 f f67_3 f67_17 a68 a78 a79 a80 a81 a82 x1 12 (-2) 0 0 a83 a84).1, (km_asks_8 f f67_3 f67_17 a68 a78 a79 a80 a81 a82 x1 12 (-2) 0 0 a83 a84).2.1, (km_asks_8 f f67_3 f67_17 a68 a78 a79 a80 a81 a82 x1 12 (-2) 0 0 a83 a84).2.2)
theorem t_km_asks {f D : Nat} {F : Nat → Nat → Int32} {A : Nat → List Int32} {L : Nat → List Int64} {Q : Option Value → sm_H → Prop} {x1 : Int32} (K : Q (some (.int ((km_asks f (F 67 3) (F 67 17) (A 68) (A 78) (A 79) (A 80) (A 81) (A 82) (A 83) (A 84) x1).1))) (hz F (uA (uA A 83 ((km_asks f (F 67 3) (F 67 17) (A 68) (A 78) (A 79) (A 80) (A 81) (A 82) (A 83) (A 84) x1).2.1)) 84 ((km_asks f (F 67 3) (F 67 17) (A 68) (A 78) (A 79) (A 80) (A 81) (A 82) (A 83) (A 84) x1).2.2)) L)) : wl_M f D 194 [.ref 67, .int x1] (hz F A L) Q := by
  generalize hT : (km_asks f (F 67 3) (F 67 17) (A 68) (A 78) (A 79) (A 80) (A 81) (A 82) (A 83) (A 84) x1) = T at K
  have hE : T = ((km_asks_8 f (F 67 3) (F 67 17) (A 68) (A 78) (A 79) (A 80) (A 81) (A 82) x1 12 (-2) 0 0 (A 83) (A 84)).1, (km_asks_8 f (F 67 3) (F 67 17) (A 68) (A 78) (A 79) (A 80) (A 81) (A 82) x1 12 (-2) 0 0 (A 83) (A 84)).2.1, (km_asks_8 f (F 67 3) (F 67 17) (A 68) (A 78) (A 79) (A 80) (A 81) (A 82) x1 12 (-2) 0 0 (A 83) (A 84)).2.2) := hT.symm
  clear hT
  refine w_m (E := mm194) rfl ?_
  show wl_E f f (D - 1) mm194.2.2.2.2.2.2.2.2 0 [some (.ref 67), some (.int x1), none, none, none, none] [] (hz F A L) Q
  refine w_n 6 (pc1 := 8) (ls1 := [some (.ref 67), some (.int x1), some (.int (-2)), some (.int 0), some (.int 0), none]) (st1 := []) (hp1 := (hz F A L)) rfl ?_
  refine t_km_asks_8 12 (show (12 : Nat) = (12 - (0 : Int32).toInt).toNat by have e0 : (0 : Int32).toInt = 0 := rfl; first | rfl | omega) ?_
  intro r1 r2 r3
  show wl_E f _ _ mm194.2.2.2.2.2.2.2.2 58 [some (.ref 67), some (.int x1), some (.int (km_asks_8 f (F 67 3) (F 67 17) (A 68) (A 78) (A 79) (A 80) (A 81) (A 82) x1 12 (-2) 0 0 (A 83) (A 84)).1), some (.int r1), some (.int r2), r3] [] (hz F (uA (uA A 83 (km_asks_8 f (F 67 3) (F 67 17) (A 68) (A 78) (A 79) (A 80) (A 81) (A 82) x1 12 (-2) 0 0 (A 83) (A 84)).2.1) 84 (km_asks_8 f (F 67 3) (F 67 17) (A 68) (A 78) (A 79) (A 80) (A 81) (A 82) x1 12 (-2) 0 0 (A 83) (A 84)).2.2) L) _
  generalize hG280 : (km_asks_8 f (F 67 3) (F 67 17) (A 68) (A 78) (A 79) (A 80) (A 81) (A 82) x1 12 (-2) 0 0 (A 83) (A 84)) = G280 at hE ⊢
  refine w_n 1 (pc1 := 59) (ls1 := [some (.ref 67), some (.int x1), some (.int G280.1), some (.int r1), some (.int r2), r3]) (st1 := [.int G280.1]) (hp1 := (hz F (uA (uA A 83 G280.2.1) 84 G280.2.2) L)) rfl ?_
  subst T
  exact w_ri rfl (cvQ rfl rfl rfl K)
noncomputable def km_changesMother_23 (f : Nat) (f67_3 : Int32) (f67_17 : Int32) (a68 : List Int32) (a78 : List Int32) (a79 : List Int32) (a80 : List Int32) (a81 : List Int32) (a82 : List Int32) (x1 : Int32) : Nat → Int32 → List Int32 → List Int32 → List Int32 → List Int32 × List Int32 × List Int32
  | 0, _, a83, a84, a86 => (a83, a84, a86)
  | m + 1, y2, a83, a84, a86 => (if (km_has x1 y2) = 0 then (km_changesMother_23 f f67_3 f67_17 a68 a78 a79 a80 a81 a82 x1 m (y2 + 1) a83 a84 a86) else (if (km_asks f f67_3 f67_17 a68 a78 a79 a80 a81 a82 a83 a84 y2).1.toInt < 0 then (km_changesMother_23 f f67_3 f67_17 a68 a78 a79 a80 a81 a82 x1 m (y2 + 1) (km_asks f f67_3 f67_17 a68 a78 a79 a80 a81 a82 a83 a84 y2).2.1 (km_asks f f67_3 f67_17 a68 a78 a79 a80 a81 a82 a83 a84 y2).2.2 a86) else (km_changesMother_23 f f67_3 f67_17 a68 a78 a79 a80 a81 a82 x1 m (y2 + 1) (km_asks f f67_3 f67_17 a68 a78 a79 a80 a81 a82 a83 a84 y2).2.1 (km_asks f f67_3 f67_17 a68 a78 a79 a80 a81 a82 a83 a84 y2).2.2 (a86.set (km_asks f f67_3 f67_17 a68 a78 a79 a80 a81 a82 a83 a84 y2).1.toInt.toNat ((a86.getD (km_asks f f67_3 f67_17 a68 a78 a79 a80 a81 a82 a83 a84 y2).1.toInt.toNat 0) + (a68.getD (12 + y2).toInt.toNat 0))))))
theorem t_km_changesMother_23 {f : Nat} {Q : Option Value → sm_H → Prop} : ∀ (m : Nat) {B D : Nat} {F : Nat → Nat → Int32} {A : Nat → List Int32} {L : Nat → List Int64} {x1 : Int32} {y2 : Int32} {o3 : Option Value} {o4 : Option Value} {o5 : Option Value} {o6 : Option Value}, m = (12 - y2.toInt).toNat → (∀ q2 : Int32, ∀ q3 : Option Value, wl_E f B D mm193.2.2.2.2.2.2.2.2 78 [some (.ref 67), some (.int x1), some (.int q2), q3, o4, o5, o6] [] (hz F (uA (uA (uA A 83 ((km_changesMother_23 f (F 67 3) (F 67 17) (A 68) (A 78) (A 79) (A 80) (A 81) (A 82) x1 m y2 (A 83) (A 84) (A 86)).1)) 84 ((km_changesMother_23 f (F 67 3) (F 67 17) (A 68) (A 78) (A 79) (A 80) (A 81) (A 82) x1 m y2 (A 83) (A 84) (A 86)).2.1)) 86 ((km_changesMother_23 f (F 67 3) (F 67 17) (A 68) (A 78) (A 79) (A 80) (A 81) (A 82) x1 m y2 (A 83) (A 84) (A 86)).2.2)) L) Q) → wl_E f B D mm193.2.2.2.2.2.2.2.2 23 [some (.ref 67), some (.int x1), some (.int y2), o3, o4, o5, o6] [] (hz F A L) Q := by
  intro m
  induction m with
  | zero =>
    intro B D F A L x1 y2 o3 o4 o5 o6 hm K
    generalize hT : (km_changesMother_23 f (F 67 3) (F 67 17) (A 68) (A 78) (A 79) (A 80) (A 81) (A 82) x1 0 y2 (A 83) (A 84) (A 86)) = T at K
    have hE : T = ((A 83), (A 84), (A 86)) := hT.symm
    clear hT
    refine w_n 2 (pc1 := 26) (ls1 := [some (.ref 67), some (.int x1), some (.int y2), o3, o4, o5, o6]) (st1 := [.int 12, .int y2]) (hp1 := (hz F A L)) rfl ?_
    refine w_ge (p3 := 29) rfl rfl (fun hb => ?_) (fun h => False.elim (by have h : y2.toInt < 12 := h; omega))
    subst T
    exact cvE rfl (funext fun q => if k0 : q = 83 then by subst k0; exact Eq.trans (b := (A 83)) rfl rfl else if k1 : q = 84 then by subst k1; exact Eq.trans (b := (A 84)) rfl rfl else if k2 : q = 86 then by subst k2; exact Eq.trans (b := (A 86)) rfl rfl else by unfold uA; simp only [nb1 k0, nb1 k1, nb1 k2, cond_false]) rfl (K _ _)
  | succ m ih =>
    intro B D F A L x1 y2 o3 o4 o5 o6 hm K
    generalize hT : (km_changesMother_23 f (F 67 3) (F 67 17) (A 68) (A 78) (A 79) (A 80) (A 81) (A 82) x1 (m + 1) y2 (A 83) (A 84) (A 86)) = T at K
    have hE : T = (if (km_has x1 y2) = 0 then (km_changesMother_23 f (F 67 3) (F 67 17) (A 68) (A 78) (A 79) (A 80) (A 81) (A 82) x1 m (y2 + 1) (A 83) (A 84) (A 86)) else (if (km_asks f (F 67 3) (F 67 17) (A 68) (A 78) (A 79) (A 80) (A 81) (A 82) (A 83) (A 84) y2).1.toInt < 0 then (km_changesMother_23 f (F 67 3) (F 67 17) (A 68) (A 78) (A 79) (A 80) (A 81) (A 82) x1 m (y2 + 1) (km_asks f (F 67 3) (F 67 17) (A 68) (A 78) (A 79) (A 80) (A 81) (A 82) (A 83) (A 84) y2).2.1 (km_asks f (F 67 3) (F 67 17) (A 68) (A 78) (A 79) (A 80) (A 81) (A 82) (A 83) (A 84) y2).2.2 (A 86)) else (km_changesMother_23 f (F 67 3) (F 67 17) (A 68) (A 78) (A 79) (A 80) (A 81) (A 82) x1 m (y2 + 1) (km_asks f (F 67 3) (F 67 17) (A 68) (A 78) (A 79) (A 80) (A 81) (A 82) (A 83) (A 84) y2).2.1 (km_asks f (F 67 3) (F 67 17) (A 68) (A 78) (A 79) (A 80) (A 81) (A 82) (A 83) (A 84) y2).2.2 ((A 86).set (km_asks f (F 67 3) (F 67 17) (A 68) (A 78) (A 79) (A 80) (A 81) (A 82) (A 83) (A 84) y2).1.toInt.toNat (((A 86).getD (km_asks f (F 67 3) (F 67 17) (A 68) (A 78) (A 79) (A 80) (A 81) (A 82) (A 83) (A 84) y2).1.toInt.toNat 0) + ((A 68).getD (12 + y2).toInt.toNat 0)))))) := hT.symm
    clear hT
    refine w_n 2 (pc1 := 26) (ls1 := [some (.ref 67), some (.int x1), some (.int y2), o3, o4, o5, o6]) (st1 := [.int 12, .int y2]) (hp1 := (hz F A L)) rfl ?_
    refine w_ge (p3 := 29) rfl rfl (fun h => False.elim (by have h : 12 ≤ y2.toInt := h; omega)) (fun hb => ?_)
    refine w_n 2 (pc1 := 31) (ls1 := [some (.ref 67), some (.int x1), some (.int y2), o3, o4, o5, o6]) (st1 := [.int y2, .int x1]) (hp1 := (hz F A L)) rfl ?_
    refine w_c rfl rfl (t_km_has ?_)
    show wl_E f _ _ mm193.2.2.2.2.2.2.2.2 34 [some (.ref 67), some (.int x1), some (.int y2), o3, o4, o5, o6] [.int (km_has x1 y2)] (hz F A L) _
    generalize hG263 : (km_has x1 y2) = G263 at hE ⊢
    refine w_zne (p3 := 37) rfl rfl (fun h => ?_) (fun h => ?_)
    · have h1 : ¬ G263 = 0 := h
      rw [if_neg h1] at hE
      refine w_n 2 (pc1 := 42) (ls1 := [some (.ref 67), some (.int x1), some (.int y2), o3, o4, o5, o6]) (st1 := [.int y2, .ref 67]) (hp1 := (hz F A L)) rfl ?_
      refine w_c rfl rfl (t_km_asks ?_)
      show wl_E f _ _ mm193.2.2.2.2.2.2.2.2 45 [some (.ref 67), some (.int x1), some (.int y2), o3, o4, o5, o6] [.int (km_asks f (F 67 3) (F 67 17) (A 68) (A 78) (A 79) (A 80) (A 81) (A 82) (A 83) (A 84) y2).1] (hz F (uA (uA A 83 (km_asks f (F 67 3) (F 67 17) (A 68) (A 78) (A 79) (A 80) (A 81) (A 82) (A 83) (A 84) y2).2.1) 84 (km_asks f (F 67 3) (F 67 17) (A 68) (A 78) (A 79) (A 80) (A 81) (A 82) (A 83) (A 84) y2).2.2) L) _
      generalize hG281 : (km_asks f (F 67 3) (F 67 17) (A 68) (A 78) (A 79) (A 80) (A 81) (A 82) (A 83) (A 84) y2) = G281 at hE ⊢
      refine w_n 2 (pc1 := 47) (ls1 := [some (.ref 67), some (.int x1), some (.int y2), some (.int G281.1), o4, o5, o6]) (st1 := [.int G281.1]) (hp1 := (hz F (uA (uA A 83 G281.2.1) 84 G281.2.2) L)) rfl ?_
      refine w_zlt (p3 := 50) rfl rfl (fun h => ?_) (fun h => ?_)
      · have h2 : G281.1.toInt < 0 := h
        rw [if_pos h2] at hE
        refine w_n 2 (pc1 := 23) (ls1 := [some (.ref 67), some (.int x1), some (.int (y2 + 1)), some (.int G281.1), o4, o5, o6]) (st1 := []) (hp1 := (hz F (uA (uA A 83 G281.2.1) 84 G281.2.2) L)) rfl ?_
        subst T
        have hb2 := i_up (B := (12 : Int32)) hb
        have hb3 : y2.toInt < 12 := hb
        exact ih (show m = (12 - (y2 + 1).toInt).toNat by rw [hb2]; omega) (fun q2 q3 => cvE rfl (funext fun q => if k0 : q = 83 then by subst k0; exact Eq.trans (b := (km_changesMother_23 f (F 67 3) (F 67 17) (A 68) (A 78) (A 79) (A 80) (A 81) (A 82) x1 m (y2 + 1) G281.2.1 G281.2.2 (A 86)).1) rfl rfl else if k1 : q = 84 then by subst k1; exact Eq.trans (b := (km_changesMother_23 f (F 67 3) (F 67 17) (A 68) (A 78) (A 79) (A 80) (A 81) (A 82) x1 m (y2 + 1) G281.2.1 G281.2.2 (A 86)).2.1) rfl rfl else if k2 : q = 86 then by subst k2; exact Eq.trans (b := (km_changesMother_23 f (F 67 3) (F 67 17) (A 68) (A 78) (A 79) (A 80) (A 81) (A 82) x1 m (y2 + 1) G281.2.1 G281.2.2 (A 86)).2.2) rfl rfl else by unfold uA; simp only [nb1 k0, nb1 k1, nb1 k2, cond_false]) rfl (K q2 q3))
      · have h2 : 0 ≤ G281.1.toInt := h
        rw [if_neg (Int.not_lt.mpr h2)] at hE
        refine w_n 6 (pc1 := 60) (ls1 := [some (.ref 67), some (.int x1), some (.int y2), some (.int G281.1), o4, o5, o6]) (st1 := [.int G281.1, .ref 86, .int G281.1, .ref 86]) (hp1 := (hz F (uA (uA A 83 G281.2.1) 84 G281.2.2) L)) rfl ?_
        refine w_al (k := 86) (l := (A 86)) rfl rfl rfl (fun _ => ?_)
        refine w_n 5 (pc1 := 69) (ls1 := [some (.ref 67), some (.int x1), some (.int y2), some (.int G281.1), o4, o5, o6]) (st1 := [.int (12 + y2), .ref 68, .int ((A 86).getD G281.1.toInt.toNat 0), .int G281.1, .ref 86]) (hp1 := (hz F (uA (uA A 83 G281.2.1) 84 G281.2.2) L)) rfl ?_
        refine w_al (k := 68) (l := (A 68)) rfl rfl rfl (fun _ => ?_)
        refine w_n 1 (pc1 := 71) (ls1 := [some (.ref 67), some (.int x1), some (.int y2), some (.int G281.1), o4, o5, o6]) (st1 := [.int (((A 86).getD G281.1.toInt.toNat 0) + ((A 68).getD (12 + y2).toInt.toNat 0)), .int G281.1, .ref 86]) (hp1 := (hz F (uA (uA A 83 G281.2.1) 84 G281.2.2) L)) rfl ?_
        refine w_as (k := 86) (l := (A 86)) (hp1 := (hz F (uA (uA (uA A 83 G281.2.1) 84 G281.2.2) 86 ((A 86).set G281.1.toInt.toNat (((A 86).getD G281.1.toInt.toNat 0) + ((A 68).getD (12 + y2).toInt.toNat 0)))) L)) rfl rfl rfl (hz_s86 _) (fun _ => ?_)
        refine w_n 2 (pc1 := 23) (ls1 := [some (.ref 67), some (.int x1), some (.int (y2 + 1)), some (.int G281.1), o4, o5, o6]) (st1 := []) (hp1 := (hz F (uA (uA (uA A 83 G281.2.1) 84 G281.2.2) 86 ((A 86).set G281.1.toInt.toNat (((A 86).getD G281.1.toInt.toNat 0) + ((A 68).getD (12 + y2).toInt.toNat 0)))) L)) rfl ?_
        subst T
        have hb2 := i_up (B := (12 : Int32)) hb
        have hb3 : y2.toInt < 12 := hb
        exact ih (show m = (12 - (y2 + 1).toInt).toNat by rw [hb2]; omega) (fun q2 q3 => cvE rfl (funext fun q => if k0 : q = 83 then by subst k0; exact Eq.trans (b := (km_changesMother_23 f (F 67 3) (F 67 17) (A 68) (A 78) (A 79) (A 80) (A 81) (A 82) x1 m (y2 + 1) G281.2.1 G281.2.2 ((A 86).set G281.1.toInt.toNat (((A 86).getD G281.1.toInt.toNat 0) + ((A 68).getD (12 + y2).toInt.toNat 0)))).1) rfl rfl else if k1 : q = 84 then by subst k1; exact Eq.trans (b := (km_changesMother_23 f (F 67 3) (F 67 17) (A 68) (A 78) (A 79) (A 80) (A 81) (A 82) x1 m (y2 + 1) G281.2.1 G281.2.2 ((A 86).set G281.1.toInt.toNat (((A 86).getD G281.1.toInt.toNat 0) + ((A 68).getD (12 + y2).toInt.toNat 0)))).2.1) rfl rfl else if k2 : q = 86 then by subst k2; exact Eq.trans (b := (km_changesMother_23 f (F 67 3) (F 67 17) (A 68) (A 78) (A 79) (A 80) (A 81) (A 82) x1 m (y2 + 1) G281.2.1 G281.2.2 ((A 86).set G281.1.toInt.toNat (((A 86).getD G281.1.toInt.toNat 0) + ((A 68).getD (12 + y2).toInt.toNat 0)))).2.2) rfl rfl else by unfold uA; simp only [nb1 k0, nb1 k1, nb1 k2, cond_false]) rfl (K q2 q3))
    · have h1 : G263 = 0 := h
      rw [if_pos h1] at hE
      refine w_n 3 (pc1 := 23) (ls1 := [some (.ref 67), some (.int x1), some (.int (y2 + 1)), o3, o4, o5, o6]) (st1 := []) (hp1 := (hz F A L)) rfl ?_
      subst T
      have hb2 := i_up (B := (12 : Int32)) hb
      have hb3 : y2.toInt < 12 := hb
      exact ih (show m = (12 - (y2 + 1).toInt).toNat by rw [hb2]; omega) (fun q2 q3 => cvE rfl (funext fun q => if k0 : q = 83 then by subst k0; exact Eq.trans (b := (km_changesMother_23 f (F 67 3) (F 67 17) (A 68) (A 78) (A 79) (A 80) (A 81) (A 82) x1 m (y2 + 1) (A 83) (A 84) (A 86)).1) rfl rfl else if k1 : q = 84 then by subst k1; exact Eq.trans (b := (km_changesMother_23 f (F 67 3) (F 67 17) (A 68) (A 78) (A 79) (A 80) (A 81) (A 82) x1 m (y2 + 1) (A 83) (A 84) (A 86)).2.1) rfl rfl else if k2 : q = 86 then by subst k2; exact Eq.trans (b := (km_changesMother_23 f (F 67 3) (F 67 17) (A 68) (A 78) (A 79) (A 80) (A 81) (A 82) x1 m (y2 + 1) (A 83) (A 84) (A 86)).2.2) rfl rfl else by unfold uA; simp only [nb1 k0, nb1 k1, nb1 k2, cond_false]) rfl (K q2 q3))
noncomputable def km_changesMother_95 (a68 : List Int32) (a86 : List Int32)  : Nat → Int32 → Int32 → Int32 → Int32 → Int32
  | 0, y2, _, _, _ => y2
  | m + 1, y2, y3, y4, y5 => (if y5 = (a68.getD 145 0) then (if (a86.getD y5.toInt.toNat 0).toInt < y3.toInt then (km_changesMother_95 a68 a86 m y2 y3 y4 (y5 + 1)) else (if (a86.getD y5.toInt.toNat 0) = 0 then (km_changesMother_95 a68 a86 m y2 y3 y4 (y5 + 1)) else (if (a86.getD y5.toInt.toNat 0) = y3 then (if y4.toInt < 12 then (km_changesMother_95 a68 a86 m y2 y3 y4 (y5 + 1)) else (km_changesMother_95 a68 a86 m y5 (a86.getD y5.toInt.toNat 0) 12 (y5 + 1))) else (km_changesMother_95 a68 a86 m y5 (a86.getD y5.toInt.toNat 0) 12 (y5 + 1))))) else (if (a86.getD y5.toInt.toNat 0).toInt < y3.toInt then (km_changesMother_95 a68 a86 m y2 y3 y4 (y5 + 1)) else (if (a86.getD y5.toInt.toNat 0) = 0 then (km_changesMother_95 a68 a86 m y2 y3 y4 (y5 + 1)) else (if (a86.getD y5.toInt.toNat 0) = y3 then (if y4.toInt < (km_leftOf a68 (a68.getD 145 0) y5).toInt then (km_changesMother_95 a68 a86 m y2 y3 y4 (y5 + 1)) else (km_changesMother_95 a68 a86 m y5 (a86.getD y5.toInt.toNat 0) (km_leftOf a68 (a68.getD 145 0) y5) (y5 + 1))) else (km_changesMother_95 a68 a86 m y5 (a86.getD y5.toInt.toNat 0) (km_leftOf a68 (a68.getD 145 0) y5) (y5 + 1))))))
theorem t_km_changesMother_95 {f : Nat} {Q : Option Value → sm_H → Prop} : ∀ (m : Nat) {B D : Nat} {F : Nat → Nat → Int32} {A : Nat → List Int32} {L : Nat → List Int64} {x1 : Int32} {y2 : Int32} {y3 : Int32} {y4 : Int32} {y5 : Int32} {o6 : Option Value}, m = (12 - y5.toInt).toNat → (∀ q3 : Int32, ∀ q4 : Int32, ∀ q5 : Int32, ∀ q6 : Option Value, wl_E f B D mm193.2.2.2.2.2.2.2.2 199 [some (.ref 67), some (.int x1), some (.int (km_changesMother_95 (A 68) (A 86) m y2 y3 y4 y5)), some (.int q3), some (.int q4), some (.int q5), q6] [] (hz F A L) Q) → wl_E f B D mm193.2.2.2.2.2.2.2.2 95 [some (.ref 67), some (.int x1), some (.int y2), some (.int y3), some (.int y4), some (.int y5), o6] [] (hz F A L) Q := by
  intro m
  induction m with
  | zero =>
    intro B D F A L x1 y2 y3 y4 y5 o6 hm K
    generalize hT : (km_changesMother_95 (A 68) (A 86) 0 y2 y3 y4 y5) = T at K
    have hE : T = y2 := hT.symm
    clear hT
    refine w_n 2 (pc1 := 99) (ls1 := [some (.ref 67), some (.int x1), some (.int y2), some (.int y3), some (.int y4), some (.int y5), o6]) (st1 := [.int 12, .int y5]) (hp1 := (hz F A L)) rfl ?_
    refine w_ge (p3 := 102) rfl rfl (fun hb => ?_) (fun h => False.elim (by have h : y5.toInt < 12 := h; omega))
    subst T
    exact cvE rfl rfl rfl (K _ _ _ _)
  | succ m ih =>
    intro B D F A L x1 y2 y3 y4 y5 o6 hm K
    generalize hT : (km_changesMother_95 (A 68) (A 86) (m + 1) y2 y3 y4 y5) = T at K
    have hE : T = (if y5 = ((A 68).getD 145 0) then (if ((A 86).getD y5.toInt.toNat 0).toInt < y3.toInt then (km_changesMother_95 (A 68) (A 86) m y2 y3 y4 (y5 + 1)) else (if ((A 86).getD y5.toInt.toNat 0) = 0 then (km_changesMother_95 (A 68) (A 86) m y2 y3 y4 (y5 + 1)) else (if ((A 86).getD y5.toInt.toNat 0) = y3 then (if y4.toInt < 12 then (km_changesMother_95 (A 68) (A 86) m y2 y3 y4 (y5 + 1)) else (km_changesMother_95 (A 68) (A 86) m y5 ((A 86).getD y5.toInt.toNat 0) 12 (y5 + 1))) else (km_changesMother_95 (A 68) (A 86) m y5 ((A 86).getD y5.toInt.toNat 0) 12 (y5 + 1))))) else (if ((A 86).getD y5.toInt.toNat 0).toInt < y3.toInt then (km_changesMother_95 (A 68) (A 86) m y2 y3 y4 (y5 + 1)) else (if ((A 86).getD y5.toInt.toNat 0) = 0 then (km_changesMother_95 (A 68) (A 86) m y2 y3 y4 (y5 + 1)) else (if ((A 86).getD y5.toInt.toNat 0) = y3 then (if y4.toInt < (km_leftOf (A 68) ((A 68).getD 145 0) y5).toInt then (km_changesMother_95 (A 68) (A 86) m y2 y3 y4 (y5 + 1)) else (km_changesMother_95 (A 68) (A 86) m y5 ((A 86).getD y5.toInt.toNat 0) (km_leftOf (A 68) ((A 68).getD 145 0) y5) (y5 + 1))) else (km_changesMother_95 (A 68) (A 86) m y5 ((A 86).getD y5.toInt.toNat 0) (km_leftOf (A 68) ((A 68).getD 145 0) y5) (y5 + 1)))))) := hT.symm
    clear hT
    refine w_n 2 (pc1 := 99) (ls1 := [some (.ref 67), some (.int x1), some (.int y2), some (.int y3), some (.int y4), some (.int y5), o6]) (st1 := [.int 12, .int y5]) (hp1 := (hz F A L)) rfl ?_
    refine w_ge (p3 := 102) rfl rfl (fun h => False.elim (by have h : 12 ≤ y5.toInt := h; omega)) (fun hb => ?_)
    refine w_n 4 (pc1 := 111) (ls1 := [some (.ref 67), some (.int x1), some (.int y2), some (.int y3), some (.int y4), some (.int y5), o6]) (st1 := [.int 145, .ref 68, .int y5]) (hp1 := (hz F A L)) rfl ?_
    refine w_al (k := 68) (l := (A 68)) rfl rfl rfl (fun _ => ?_)
    refine w_ne (p3 := 115) rfl rfl (fun h => ?_) (fun h => ?_)
    · have h1 : ¬ y5 = ((A 68).getD 145 0) := h
      rw [if_neg h1] at hE
      refine w_n 4 (pc1 := 128) (ls1 := [some (.ref 67), some (.int x1), some (.int y2), some (.int y3), some (.int y4), some (.int y5), o6]) (st1 := [.int 145, .ref 68, .ref 67]) (hp1 := (hz F A L)) rfl ?_
      refine w_al (k := 68) (l := (A 68)) rfl rfl rfl (fun _ => ?_)
      refine w_n 1 (pc1 := 131) (ls1 := [some (.ref 67), some (.int x1), some (.int y2), some (.int y3), some (.int y4), some (.int y5), o6]) (st1 := [.int y5, .int ((A 68).getD 145 0), .ref 67]) (hp1 := (hz F A L)) rfl ?_
      refine w_c rfl rfl (t_km_leftOf ?_)
      show wl_E f _ _ mm193.2.2.2.2.2.2.2.2 134 [some (.ref 67), some (.int x1), some (.int y2), some (.int y3), some (.int y4), some (.int y5), o6] [.int (km_leftOf (A 68) ((A 68).getD 145 0) y5)] (hz F A L) _
      generalize hG283 : (km_leftOf (A 68) ((A 68).getD 145 0) y5) = G283 at hE ⊢
      refine w_n 4 (pc1 := 142) (ls1 := [some (.ref 67), some (.int x1), some (.int y2), some (.int y3), some (.int y4), some (.int y5), some (.int G283)]) (st1 := [.int y5, .ref 86]) (hp1 := (hz F A L)) rfl ?_
      refine w_al (k := 86) (l := (A 86)) rfl rfl rfl (fun ab => ?_)
      refine w_n 1 (pc1 := 144) (ls1 := [some (.ref 67), some (.int x1), some (.int y2), some (.int y3), some (.int y4), some (.int y5), some (.int G283)]) (st1 := [.int y3, .int ((A 86).getD y5.toInt.toNat 0)]) (hp1 := (hz F A L)) rfl ?_
      refine w_lt (p3 := 147) rfl rfl (fun h => ?_) (fun h => ?_)
      · have h2 : ((A 86).getD y5.toInt.toNat 0).toInt < y3.toInt := h
        rw [if_pos h2] at hE
        refine w_n 2 (pc1 := 95) (ls1 := [some (.ref 67), some (.int x1), some (.int y2), some (.int y3), some (.int y4), some (.int (y5 + 1)), some (.int G283)]) (st1 := []) (hp1 := (hz F A L)) rfl ?_
        subst T
        have hb2 := i_up (B := (12 : Int32)) hb
        have hb3 : y5.toInt < 12 := hb
        exact ih (show m = (12 - (y5 + 1).toInt).toNat by rw [hb2]; omega) (fun q3 q4 q5 q6 => cvE rfl rfl rfl (K q3 q4 q5 q6))
      · have h2 : y3.toInt ≤ ((A 86).getD y5.toInt.toNat 0).toInt := h
        rw [if_neg (Int.not_lt.mpr h2)] at hE
        refine w_n 3 (pc1 := 153) (ls1 := [some (.ref 67), some (.int x1), some (.int y2), some (.int y3), some (.int y4), some (.int y5), some (.int G283)]) (st1 := [.int y5, .ref 86]) (hp1 := (hz F A L)) rfl ?_
        refine w_al (k := 86) (l := (A 86)) rfl rfl rfl (fun ab => ?_)
        refine w_zeq (p3 := 157) rfl rfl (fun h => ?_) (fun h => ?_)
        · have h3 : ((A 86).getD y5.toInt.toNat 0) = 0 := h
          rw [if_pos h3] at hE
          refine w_n 2 (pc1 := 95) (ls1 := [some (.ref 67), some (.int x1), some (.int y2), some (.int y3), some (.int y4), some (.int (y5 + 1)), some (.int G283)]) (st1 := []) (hp1 := (hz F A L)) rfl ?_
          subst T
          have hb2 := i_up (B := (12 : Int32)) hb
          have hb3 : y5.toInt < 12 := hb
          exact ih (show m = (12 - (y5 + 1).toInt).toNat by rw [hb2]; omega) (fun q3 q4 q5 q6 => cvE rfl rfl rfl (K q3 q4 q5 q6))
        · have h3 : ¬ ((A 86).getD y5.toInt.toNat 0) = 0 := h
          rw [if_neg h3] at hE
          refine w_n 3 (pc1 := 163) (ls1 := [some (.ref 67), some (.int x1), some (.int y2), some (.int y3), some (.int y4), some (.int y5), some (.int G283)]) (st1 := [.int y5, .ref 86]) (hp1 := (hz F A L)) rfl ?_
          refine w_al (k := 86) (l := (A 86)) rfl rfl rfl (fun ab => ?_)
          refine w_n 1 (pc1 := 165) (ls1 := [some (.ref 67), some (.int x1), some (.int y2), some (.int y3), some (.int y4), some (.int y5), some (.int G283)]) (st1 := [.int y3, .int ((A 86).getD y5.toInt.toNat 0)]) (hp1 := (hz F A L)) rfl ?_
          refine w_ne (p3 := 168) rfl rfl (fun h => ?_) (fun h => ?_)
          · have h4 : ¬ ((A 86).getD y5.toInt.toNat 0) = y3 := h
            rw [if_neg h4] at hE
            refine w_n 3 (pc1 := 184) (ls1 := [some (.ref 67), some (.int x1), some (.int y2), some (.int y3), some (.int y4), some (.int y5), some (.int G283)]) (st1 := [.int y5, .ref 86]) (hp1 := (hz F A L)) rfl ?_
            refine w_al (k := 86) (l := (A 86)) rfl rfl rfl (fun ab => ?_)
            refine w_n 7 (pc1 := 95) (ls1 := [some (.ref 67), some (.int x1), some (.int y5), some (.int ((A 86).getD y5.toInt.toNat 0)), some (.int G283), some (.int (y5 + 1)), some (.int G283)]) (st1 := []) (hp1 := (hz F A L)) rfl ?_
            subst T
            have hb2 := i_up (B := (12 : Int32)) hb
            have hb3 : y5.toInt < 12 := hb
            exact ih (show m = (12 - (y5 + 1).toInt).toNat by rw [hb2]; omega) (fun q3 q4 q5 q6 => cvE rfl rfl rfl (K q3 q4 q5 q6))
          · have h4 : ((A 86).getD y5.toInt.toNat 0) = y3 := h
            rw [if_pos h4] at hE
            refine w_n 2 (pc1 := 172) (ls1 := [some (.ref 67), some (.int x1), some (.int y2), some (.int y3), some (.int y4), some (.int y5), some (.int G283)]) (st1 := [.int y4, .int G283]) (hp1 := (hz F A L)) rfl ?_
            refine w_le (p3 := 175) rfl rfl (fun h => ?_) (fun h => ?_)
            · have h5 : G283.toInt ≤ y4.toInt := h
              rw [if_neg (Int.not_lt.mpr h5)] at hE
              refine w_n 3 (pc1 := 184) (ls1 := [some (.ref 67), some (.int x1), some (.int y2), some (.int y3), some (.int y4), some (.int y5), some (.int G283)]) (st1 := [.int y5, .ref 86]) (hp1 := (hz F A L)) rfl ?_
              refine w_al (k := 86) (l := (A 86)) rfl rfl rfl (fun ab => ?_)
              refine w_n 7 (pc1 := 95) (ls1 := [some (.ref 67), some (.int x1), some (.int y5), some (.int ((A 86).getD y5.toInt.toNat 0)), some (.int G283), some (.int (y5 + 1)), some (.int G283)]) (st1 := []) (hp1 := (hz F A L)) rfl ?_
              subst T
              have hb2 := i_up (B := (12 : Int32)) hb
              have hb3 : y5.toInt < 12 := hb
              exact ih (show m = (12 - (y5 + 1).toInt).toNat by rw [hb2]; omega) (fun q3 q4 q5 q6 => cvE rfl rfl rfl (K q3 q4 q5 q6))
            · have h5 : y4.toInt < G283.toInt := h
              rw [if_pos h5] at hE
              refine w_n 3 (pc1 := 95) (ls1 := [some (.ref 67), some (.int x1), some (.int y2), some (.int y3), some (.int y4), some (.int (y5 + 1)), some (.int G283)]) (st1 := []) (hp1 := (hz F A L)) rfl ?_
              subst T
              have hb2 := i_up (B := (12 : Int32)) hb
              have hb3 : y5.toInt < 12 := hb
              exact ih (show m = (12 - (y5 + 1).toInt).toNat by rw [hb2]; omega) (fun q3 q4 q5 q6 => cvE rfl rfl rfl (K q3 q4 q5 q6))
    · have h1 : y5 = ((A 68).getD 145 0) := h
      rw [if_pos h1] at hE
      refine w_n 6 (pc1 := 142) (ls1 := [some (.ref 67), some (.int x1), some (.int y2), some (.int y3), some (.int y4), some (.int y5), some (.int 12)]) (st1 := [.int y5, .ref 86]) (hp1 := (hz F A L)) rfl ?_
      refine w_al (k := 86) (l := (A 86)) rfl rfl rfl (fun ab => ?_)
      refine w_n 1 (pc1 := 144) (ls1 := [some (.ref 67), some (.int x1), some (.int y2), some (.int y3), some (.int y4), some (.int y5), some (.int 12)]) (st1 := [.int y3, .int ((A 86).getD y5.toInt.toNat 0)]) (hp1 := (hz F A L)) rfl ?_
      refine w_lt (p3 := 147) rfl rfl (fun h => ?_) (fun h => ?_)
      · have h6 : ((A 86).getD y5.toInt.toNat 0).toInt < y3.toInt := h
        rw [if_pos h6] at hE
        refine w_n 2 (pc1 := 95) (ls1 := [some (.ref 67), some (.int x1), some (.int y2), some (.int y3), some (.int y4), some (.int (y5 + 1)), some (.int 12)]) (st1 := []) (hp1 := (hz F A L)) rfl ?_
        subst T
        have hb2 := i_up (B := (12 : Int32)) hb
        have hb3 : y5.toInt < 12 := hb
        exact ih (show m = (12 - (y5 + 1).toInt).toNat by rw [hb2]; omega) (fun q3 q4 q5 q6 => cvE rfl rfl rfl (K q3 q4 q5 q6))
      · have h6 : y3.toInt ≤ ((A 86).getD y5.toInt.toNat 0).toInt := h
        rw [if_neg (Int.not_lt.mpr h6)] at hE
        refine w_n 3 (pc1 := 153) (ls1 := [some (.ref 67), some (.int x1), some (.int y2), some (.int y3), some (.int y4), some (.int y5), some (.int 12)]) (st1 := [.int y5, .ref 86]) (hp1 := (hz F A L)) rfl ?_
        refine w_al (k := 86) (l := (A 86)) rfl rfl rfl (fun ab => ?_)
        refine w_zeq (p3 := 157) rfl rfl (fun h => ?_) (fun h => ?_)
        · have h7 : ((A 86).getD y5.toInt.toNat 0) = 0 := h
          rw [if_pos h7] at hE
          refine w_n 2 (pc1 := 95) (ls1 := [some (.ref 67), some (.int x1), some (.int y2), some (.int y3), some (.int y4), some (.int (y5 + 1)), some (.int 12)]) (st1 := []) (hp1 := (hz F A L)) rfl ?_
          subst T
          have hb2 := i_up (B := (12 : Int32)) hb
          have hb3 : y5.toInt < 12 := hb
          exact ih (show m = (12 - (y5 + 1).toInt).toNat by rw [hb2]; omega) (fun q3 q4 q5 q6 => cvE rfl rfl rfl (K q3 q4 q5 q6))
        · have h7 : ¬ ((A 86).getD y5.toInt.toNat 0) = 0 := h
          rw [if_neg h7] at hE
          refine w_n 3 (pc1 := 163) (ls1 := [some (.ref 67), some (.int x1), some (.int y2), some (.int y3), some (.int y4), some (.int y5), some (.int 12)]) (st1 := [.int y5, .ref 86]) (hp1 := (hz F A L)) rfl ?_
          refine w_al (k := 86) (l := (A 86)) rfl rfl rfl (fun ab => ?_)
          refine w_n 1 (pc1 := 165) (ls1 := [some (.ref 67), some (.int x1), some (.int y2), some (.int y3), some (.int y4), some (.int y5), some (.int 12)]) (st1 := [.int y3, .int ((A 86).getD y5.toInt.toNat 0)]) (hp1 := (hz F A L)) rfl ?_
          refine w_ne (p3 := 168) rfl rfl (fun h => ?_) (fun h => ?_)
          · have h8 : ¬ ((A 86).getD y5.toInt.toNat 0) = y3 := h
            rw [if_neg h8] at hE
            refine w_n 3 (pc1 := 184) (ls1 := [some (.ref 67), some (.int x1), some (.int y2), some (.int y3), some (.int y4), some (.int y5), some (.int 12)]) (st1 := [.int y5, .ref 86]) (hp1 := (hz F A L)) rfl ?_
            refine w_al (k := 86) (l := (A 86)) rfl rfl rfl (fun ab => ?_)
            refine w_n 7 (pc1 := 95) (ls1 := [some (.ref 67), some (.int x1), some (.int y5), some (.int ((A 86).getD y5.toInt.toNat 0)), some (.int 12), some (.int (y5 + 1)), some (.int 12)]) (st1 := []) (hp1 := (hz F A L)) rfl ?_
            subst T
            have hb2 := i_up (B := (12 : Int32)) hb
            have hb3 : y5.toInt < 12 := hb
            exact ih (show m = (12 - (y5 + 1).toInt).toNat by rw [hb2]; omega) (fun q3 q4 q5 q6 => cvE rfl rfl rfl (K q3 q4 q5 q6))
          · have h8 : ((A 86).getD y5.toInt.toNat 0) = y3 := h
            rw [if_pos h8] at hE
            refine w_n 2 (pc1 := 172) (ls1 := [some (.ref 67), some (.int x1), some (.int y2), some (.int y3), some (.int y4), some (.int y5), some (.int 12)]) (st1 := [.int y4, .int 12]) (hp1 := (hz F A L)) rfl ?_
            refine w_le (p3 := 175) rfl rfl (fun h => ?_) (fun h => ?_)
            · have h9 : 12 ≤ y4.toInt := h
              rw [if_neg (Int.not_lt.mpr h9)] at hE
              refine w_n 3 (pc1 := 184) (ls1 := [some (.ref 67), some (.int x1), some (.int y2), some (.int y3), some (.int y4), some (.int y5), some (.int 12)]) (st1 := [.int y5, .ref 86]) (hp1 := (hz F A L)) rfl ?_
              refine w_al (k := 86) (l := (A 86)) rfl rfl rfl (fun ab => ?_)
              refine w_n 7 (pc1 := 95) (ls1 := [some (.ref 67), some (.int x1), some (.int y5), some (.int ((A 86).getD y5.toInt.toNat 0)), some (.int 12), some (.int (y5 + 1)), some (.int 12)]) (st1 := []) (hp1 := (hz F A L)) rfl ?_
              subst T
              have hb2 := i_up (B := (12 : Int32)) hb
              have hb3 : y5.toInt < 12 := hb
              exact ih (show m = (12 - (y5 + 1).toInt).toNat by rw [hb2]; omega) (fun q3 q4 q5 q6 => cvE rfl rfl rfl (K q3 q4 q5 q6))
            · have h9 : y4.toInt < 12 := h
              rw [if_pos h9] at hE
              refine w_n 3 (pc1 := 95) (ls1 := [some (.ref 67), some (.int x1), some (.int y2), some (.int y3), some (.int y4), some (.int (y5 + 1)), some (.int 12)]) (st1 := []) (hp1 := (hz F A L)) rfl ?_
              subst T
              have hb2 := i_up (B := (12 : Int32)) hb
              have hb3 : y5.toInt < 12 := hb
              exact ih (show m = (12 - (y5 + 1).toInt).toNat by rw [hb2]; omega) (fun q3 q4 q5 q6 => cvE rfl rfl rfl (K q3 q4 q5 q6))
noncomputable def km_changesMother (f : Nat) (f67_3 : Int32) (f67_17 : Int32) (a68 : List Int32) (a78 : List Int32) (a79 : List Int32) (a80 : List Int32) (a81 : List Int32) (a82 : List Int32) (a83 : List Int32) (a84 : List Int32) (a86 : List Int32) (x1 : Int32) : List Int32 × List Int32 × List Int32 × List Int32 := ((a68.set 145 (km_changesMother_95 a68 (km_changesMother_23 f f67_3 f67_17 a68 a78 a79 a80 a81 a82 x1 12 0 a83 a84 (km_changesMother_2 12 0 a86)).2.2 12 (a68.getD 145 0) 0 0 0)), (km_changesMother_23 f f67_3 f67_17 a68 a78 a79 a80 a81 a82 x1 12 0 a83 a84 (km_changesMother_2 12 0 a86)).1, (km_changesMother_23 f f67_3 f67_17 a68 a78 a79 a80 a81 a82 x1 12 0 a83 a84 (km_changesMother_2 12 0 a86)).2.1, (km_changesMother_23 f f67_3 f67_17 a68 a78 a79 a80 a81 a82 x1 12 0 a83 a84 (km_changesMother_2 12 0 a86)).2.2)
theorem t_km_changesMother {f D : Nat} {F : Nat → Nat → Int32} {A : Nat → List Int32} {L : Nat → List Int64} {Q : Option Value → sm_H → Prop} {x1 : Int32} (K : Q none (hz F (uA (uA (uA (uA A 68 ((km_changesMother f (F 67 3) (F 67 17) (A 68) (A 78) (A 79) (A 80) (A 81) (A 82) (A 83) (A 84) (A 86) x1).1)) 83 ((km_changesMother f (F 67 3) (F 67 17) (A 68) (A 78) (A 79) (A 80) (A 81) (A 82) (A 83) (A 84) (A 86) x1).2.1)) 84 ((km_changesMother f (F 67 3) (F 67 17) (A 68) (A 78) (A 79) (A 80) (A 81) (A 82) (A 83) (A 84) (A 86) x1).2.2.1)) 86 ((km_changesMother f (F 67 3) (F 67 17) (A 68) (A 78) (A 79) (A 80) (A 81) (A 82) (A 83) (A 84) (A 86) x1).2.2.2)) L)) : wl_M f D 193 [.ref 67, .int x1] (hz F A L) Q := by
  generalize hT : (km_changesMother f (F 67 3) (F 67 17) (A 68) (A 78) (A 79) (A 80) (A 81) (A 82) (A 83) (A 84) (A 86) x1) = T at K
  have hE : T = (((A 68).set 145 (km_changesMother_95 (A 68) (km_changesMother_23 f (F 67 3) (F 67 17) (A 68) (A 78) (A 79) (A 80) (A 81) (A 82) x1 12 0 (A 83) (A 84) (km_changesMother_2 12 0 (A 86))).2.2 12 ((A 68).getD 145 0) 0 0 0)), (km_changesMother_23 f (F 67 3) (F 67 17) (A 68) (A 78) (A 79) (A 80) (A 81) (A 82) x1 12 0 (A 83) (A 84) (km_changesMother_2 12 0 (A 86))).1, (km_changesMother_23 f (F 67 3) (F 67 17) (A 68) (A 78) (A 79) (A 80) (A 81) (A 82) x1 12 0 (A 83) (A 84) (km_changesMother_2 12 0 (A 86))).2.1, (km_changesMother_23 f (F 67 3) (F 67 17) (A 68) (A 78) (A 79) (A 80) (A 81) (A 82) x1 12 0 (A 83) (A 84) (km_changesMother_2 12 0 (A 86))).2.2) := hT.symm
  clear hT
  refine w_m (E := mm193) rfl ?_
  show wl_E f f (D - 1) mm193.2.2.2.2.2.2.2.2 0 [some (.ref 67), some (.int x1), none, none, none, none, none] [] (hz F A L) Q
  refine w_n 2 (pc1 := 2) (ls1 := [some (.ref 67), some (.int x1), some (.int 0), none, none, none, none]) (st1 := []) (hp1 := (hz F A L)) rfl ?_
  refine t_km_changesMother_2 12 (show (12 : Nat) = (12 - (0 : Int32).toInt).toNat by have e0 : (0 : Int32).toInt = 0 := rfl; first | rfl | omega) ?_
  intro r1
  show wl_E f _ _ mm193.2.2.2.2.2.2.2.2 21 [some (.ref 67), some (.int x1), some (.int r1), none, none, none, none] [] (hz F (uA A 86 (km_changesMother_2 12 0 (A 86))) L) _
  generalize hG262 : (km_changesMother_2 12 0 (A 86)) = G262 at hE ⊢
  refine w_n 2 (pc1 := 23) (ls1 := [some (.ref 67), some (.int x1), some (.int 0), none, none, none, none]) (st1 := []) (hp1 := (hz F (uA A 86 G262) L)) rfl ?_
  refine t_km_changesMother_23 12 (show (12 : Nat) = (12 - (0 : Int32).toInt).toNat by have e0 : (0 : Int32).toInt = 0 := rfl; first | rfl | omega) ?_
  intro r2 r3
  show wl_E f _ _ mm193.2.2.2.2.2.2.2.2 78 [some (.ref 67), some (.int x1), some (.int r2), r3, none, none, none] [] (hz F (uA (uA (uA (uA A 86 G262) 83 (km_changesMother_23 f (F 67 3) (F 67 17) (A 68) (A 78) (A 79) (A 80) (A 81) (A 82) x1 12 0 (A 83) (A 84) G262).1) 84 (km_changesMother_23 f (F 67 3) (F 67 17) (A 68) (A 78) (A 79) (A 80) (A 81) (A 82) x1 12 0 (A 83) (A 84) G262).2.1) 86 (km_changesMother_23 f (F 67 3) (F 67 17) (A 68) (A 78) (A 79) (A 80) (A 81) (A 82) x1 12 0 (A 83) (A 84) G262).2.2) L) _
  generalize hG282 : (km_changesMother_23 f (F 67 3) (F 67 17) (A 68) (A 78) (A 79) (A 80) (A 81) (A 82) x1 12 0 (A 83) (A 84) G262) = G282 at hE ⊢
  refine w_n 3 (pc1 := 85) (ls1 := [some (.ref 67), some (.int x1), some (.int r2), r3, none, none, none]) (st1 := [.int 145, .ref 68]) (hp1 := (hz F (uA (uA (uA (uA A 86 G262) 83 G282.1) 84 G282.2.1) 86 G282.2.2) L)) rfl ?_
  refine w_al (k := 68) (l := (A 68)) rfl rfl rfl (fun _ => ?_)
  refine w_n 7 (pc1 := 95) (ls1 := [some (.ref 67), some (.int x1), some (.int ((A 68).getD 145 0)), some (.int 0), some (.int 0), some (.int 0), none]) (st1 := []) (hp1 := (hz F (uA (uA (uA (uA A 86 G262) 83 G282.1) 84 G282.2.1) 86 G282.2.2) L)) rfl ?_
  refine t_km_changesMother_95 12 (show (12 : Nat) = (12 - (0 : Int32).toInt).toNat by have e0 : (0 : Int32).toInt = 0 := rfl; first | rfl | omega) ?_
  intro r4 r5 r6 r7
  show wl_E f _ _ mm193.2.2.2.2.2.2.2.2 199 [some (.ref 67), some (.int x1), some (.int (km_changesMother_95 (A 68) G282.2.2 12 ((A 68).getD 145 0) 0 0 0)), some (.int r4), some (.int r5), some (.int r6), r7] [] (hz F (uA (uA (uA (uA A 86 G262) 83 G282.1) 84 G282.2.1) 86 G282.2.2) L) _
  generalize hG284 : (km_changesMother_95 (A 68) G282.2.2 12 ((A 68).getD 145 0) 0 0 0) = G284 at hE ⊢
  refine w_n 4 (pc1 := 207) (ls1 := [some (.ref 67), some (.int x1), some (.int G284), some (.int r4), some (.int r5), some (.int r6), r7]) (st1 := [.int G284, .int 145, .ref 68]) (hp1 := (hz F (uA (uA (uA (uA A 86 G262) 83 G282.1) 84 G282.2.1) 86 G282.2.2) L)) rfl ?_
  refine w_as (k := 68) (l := (A 68)) (hp1 := (hz F (uA (uA (uA (uA (uA A 86 G262) 83 G282.1) 84 G282.2.1) 86 G282.2.2) 68 ((A 68).set 145 G284)) L)) rfl rfl rfl (hz_s68 _) (fun _ => ?_)
  subst T
  exact w_r rfl rfl (cvQ rfl (funext fun q => if k0 : q = 68 then by subst k0; exact Eq.trans (b := ((A 68).set 145 G284)) rfl rfl else if k1 : q = 83 then by subst k1; exact Eq.trans (b := G282.1) rfl rfl else if k2 : q = 84 then by subst k2; exact Eq.trans (b := G282.2.1) rfl rfl else if k3 : q = 86 then by subst k3; exact Eq.trans (b := G282.2.2) rfl rfl else by unfold uA; simp only [nb1 k0, nb1 k1, nb1 k2, nb1 k3, cond_false]) rfl K)
noncomputable def km_nextLeft_8 (a68 : List Int32) (x1 : Int32) : Nat → Int32 → Int32 → Int32 → Int32
  | 0, y2, _, _ => y2
  | m + 1, y2, y3, y4 => (if (km_areTwo a68 x1 y4) = 0 then (km_nextLeft_8 a68 x1 m y2 y3 (y4 + 1)) else (if (km_leftOf a68 x1 y4).toInt < y3.toInt then (km_nextLeft_8 a68 x1 m y4 (km_leftOf a68 x1 y4) (y4 + 1)) else (km_nextLeft_8 a68 x1 m y2 y3 (y4 + 1))))
theorem t_km_nextLeft_8 {f : Nat} {Q : Option Value → sm_H → Prop} : ∀ (m : Nat) {B D : Nat} {F : Nat → Nat → Int32} {A : Nat → List Int32} {L : Nat → List Int64} {x1 : Int32} {y2 : Int32} {y3 : Int32} {y4 : Int32}, m = (12 - y4.toInt).toNat → (∀ q3 : Int32, ∀ q4 : Int32, wl_E f B D mm188.2.2.2.2.2.2.2.2 56 [some (.ref 67), some (.int x1), some (.int (km_nextLeft_8 (A 68) x1 m y2 y3 y4)), some (.int q3), some (.int q4)] [] (hz F A L) Q) → wl_E f B D mm188.2.2.2.2.2.2.2.2 8 [some (.ref 67), some (.int x1), some (.int y2), some (.int y3), some (.int y4)] [] (hz F A L) Q := by
  intro m
  induction m with
  | zero =>
    intro B D F A L x1 y2 y3 y4 hm K
    generalize hT : (km_nextLeft_8 (A 68) x1 0 y2 y3 y4) = T at K
    have hE : T = y2 := hT.symm
    clear hT
    refine w_n 2 (pc1 := 12) (ls1 := [some (.ref 67), some (.int x1), some (.int y2), some (.int y3), some (.int y4)]) (st1 := [.int 12, .int y4]) (hp1 := (hz F A L)) rfl ?_
    refine w_ge (p3 := 15) rfl rfl (fun hb => ?_) (fun h => False.elim (by have h : y4.toInt < 12 := h; omega))
    subst T
    exact cvE rfl rfl rfl (K _ _)
  | succ m ih =>
    intro B D F A L x1 y2 y3 y4 hm K
    generalize hT : (km_nextLeft_8 (A 68) x1 (m + 1) y2 y3 y4) = T at K
    have hE : T = (if (km_areTwo (A 68) x1 y4) = 0 then (km_nextLeft_8 (A 68) x1 m y2 y3 (y4 + 1)) else (if (km_leftOf (A 68) x1 y4).toInt < y3.toInt then (km_nextLeft_8 (A 68) x1 m y4 (km_leftOf (A 68) x1 y4) (y4 + 1)) else (km_nextLeft_8 (A 68) x1 m y2 y3 (y4 + 1)))) := hT.symm
    clear hT
    refine w_n 2 (pc1 := 12) (ls1 := [some (.ref 67), some (.int x1), some (.int y2), some (.int y3), some (.int y4)]) (st1 := [.int 12, .int y4]) (hp1 := (hz F A L)) rfl ?_
    refine w_ge (p3 := 15) rfl rfl (fun h => False.elim (by have h : 12 ≤ y4.toInt := h; omega)) (fun hb => ?_)
    refine w_n 3 (pc1 := 19) (ls1 := [some (.ref 67), some (.int x1), some (.int y2), some (.int y3), some (.int y4)]) (st1 := [.int y4, .int x1, .ref 67]) (hp1 := (hz F A L)) rfl ?_
    refine w_c rfl rfl (t_km_areTwo ?_)
    show wl_E f _ _ mm188.2.2.2.2.2.2.2.2 22 [some (.ref 67), some (.int x1), some (.int y2), some (.int y3), some (.int y4)] [.int (km_areTwo (A 68) x1 y4)] (hz F A L) _
    generalize hG286 : (km_areTwo (A 68) x1 y4) = G286 at hE ⊢
    refine w_zeq (p3 := 25) rfl rfl (fun h => ?_) (fun h => ?_)
    · have h1 : G286 = 0 := h
      rw [if_pos h1] at hE
      refine w_n 2 (pc1 := 8) (ls1 := [some (.ref 67), some (.int x1), some (.int y2), some (.int y3), some (.int (y4 + 1))]) (st1 := []) (hp1 := (hz F A L)) rfl ?_
      subst T
      have hb2 := i_up (B := (12 : Int32)) hb
      have hb3 : y4.toInt < 12 := hb
      exact ih (show m = (12 - (y4 + 1).toInt).toNat by rw [hb2]; omega) (fun q3 q4 => cvE rfl rfl rfl (K q3 q4))
    · have h1 : ¬ G286 = 0 := h
      rw [if_neg h1] at hE
      refine w_n 3 (pc1 := 29) (ls1 := [some (.ref 67), some (.int x1), some (.int y2), some (.int y3), some (.int y4)]) (st1 := [.int y4, .int x1, .ref 67]) (hp1 := (hz F A L)) rfl ?_
      refine w_c rfl rfl (t_km_leftOf ?_)
      show wl_E f _ _ mm188.2.2.2.2.2.2.2.2 32 [some (.ref 67), some (.int x1), some (.int y2), some (.int y3), some (.int y4)] [.int (km_leftOf (A 68) x1 y4)] (hz F A L) _
      generalize hG287 : (km_leftOf (A 68) x1 y4) = G287 at hE ⊢
      refine w_n 1 (pc1 := 33) (ls1 := [some (.ref 67), some (.int x1), some (.int y2), some (.int y3), some (.int y4)]) (st1 := [.int y3, .int G287]) (hp1 := (hz F A L)) rfl ?_
      refine w_lt (p3 := 36) rfl rfl (fun h => ?_) (fun h => ?_)
      · have h2 : G287.toInt < y3.toInt := h
        rw [if_pos h2] at hE
        refine w_n 3 (pc1 := 43) (ls1 := [some (.ref 67), some (.int x1), some (.int y2), some (.int y3), some (.int y4)]) (st1 := [.int y4, .int x1, .ref 67]) (hp1 := (hz F A L)) rfl ?_
        refine w_c rfl rfl (t_km_leftOf ?_)
        show wl_E f _ _ mm188.2.2.2.2.2.2.2.2 46 [some (.ref 67), some (.int x1), some (.int y2), some (.int y3), some (.int y4)] [.int (km_leftOf (A 68) x1 y4)] (hz F A L) _
        rw [hG287]
        refine w_n 5 (pc1 := 8) (ls1 := [some (.ref 67), some (.int x1), some (.int y4), some (.int G287), some (.int (y4 + 1))]) (st1 := []) (hp1 := (hz F A L)) rfl ?_
        subst T
        have hb2 := i_up (B := (12 : Int32)) hb
        have hb3 : y4.toInt < 12 := hb
        exact ih (show m = (12 - (y4 + 1).toInt).toNat by rw [hb2]; omega) (fun q3 q4 => cvE rfl rfl rfl (K q3 q4))
      · have h2 : y3.toInt ≤ G287.toInt := h
        rw [if_neg (Int.not_lt.mpr h2)] at hE
        refine w_n 3 (pc1 := 8) (ls1 := [some (.ref 67), some (.int x1), some (.int y2), some (.int y3), some (.int (y4 + 1))]) (st1 := []) (hp1 := (hz F A L)) rfl ?_
        subst T
        have hb2 := i_up (B := (12 : Int32)) hb
        have hb3 : y4.toInt < 12 := hb
        exact ih (show m = (12 - (y4 + 1).toInt).toNat by rw [hb2]; omega) (fun q3 q4 => cvE rfl rfl rfl (K q3 q4))
