/-! lifts, printed by genlift.py: 12 -/
noncomputable def km_changesMother_2   : Nat → Int32 → List Int32 → List Int32
  | 0, _, a86 => a86
  | m + 1, y2, a86 => (km_changesMother_2 m (y2 + 1) (a86.set y2.toInt.toNat 0))
theorem t_km_changesMother_2 {f : Nat} {Q : Option Value → sm_H → Prop} : ∀ (m : Nat) {B D : Nat} {F : Nat → Nat → Int32} {A : Nat → List Int32} {L : Nat → List Int64} {x1 : Int32} {y2 : Int32} {o3 : Option Value} {o4 : Option Value} {o5 : Option Value} {o6 : Option Value}, m = (12 - y2.toInt).toNat → (∀ q2 : Int32, wl_E f B D mm193.2.2.2.2.2.2.2.2 21 [some (.ref 67), some (.int x1), some (.int q2), o3, o4, o5, o6] [] (hz F (uA A 86 (km_changesMother_2 m y2 (A 86))) L) Q) → wl_E f B D mm193.2.2.2.2.2.2.2.2 2 [some (.ref 67), some (.int x1), some (.int y2), o3, o4, o5, o6] [] (hz F A L) Q := by
  intro m
  induction m with
  | zero =>
    intro B D F A L x1 y2 o3 o4 o5 o6 hm K
    generalize hT : (km_changesMother_2 0 y2 (A 86)) = T at K
    have hE : T = (A 86) := hT.symm
    clear hT
    refine w_n 2 (pc1 := 5) (ls1 := [some (.ref 67), some (.int x1), some (.int y2), o3, o4, o5, o6]) (st1 := [.int 12, .int y2]) (hp1 := (hz F A L)) rfl ?_
    refine w_ge (p3 := 8) rfl rfl (fun hb => ?_) (fun h => False.elim (by have h : y2.toInt < 12 := h; omega))
    subst T
    exact cvE rfl (funext fun q => if k0 : q = 86 then by subst k0; exact Eq.trans (b := (A 86)) rfl rfl else by unfold uA; simp only [nb1 k0, cond_false]) rfl (K _)
  | succ m ih =>
    intro B D F A L x1 y2 o3 o4 o5 o6 hm K
    generalize hT : (km_changesMother_2 (m + 1) y2 (A 86)) = T at K
    have hE : T = (km_changesMother_2 m (y2 + 1) ((A 86).set y2.toInt.toNat 0)) := hT.symm
    clear hT
    refine w_n 2 (pc1 := 5) (ls1 := [some (.ref 67), some (.int x1), some (.int y2), o3, o4, o5, o6]) (st1 := [.int 12, .int y2]) (hp1 := (hz F A L)) rfl ?_
    refine w_ge (p3 := 8) rfl rfl (fun h => False.elim (by have h : 12 ≤ y2.toInt := h; omega)) (fun hb => ?_)
    refine w_n 4 (pc1 := 14) (ls1 := [some (.ref 67), some (.int x1), some (.int y2), o3, o4, o5, o6]) (st1 := [.int 0, .int y2, .ref 86]) (hp1 := (hz F A L)) rfl ?_
    refine w_as (k := 86) (l := (A 86)) (hp1 := (hz F (uA A 86 ((A 86).set y2.toInt.toNat 0)) L)) rfl rfl rfl (hz_s86 _) (fun ab => ?_)
    refine w_n 2 (pc1 := 2) (ls1 := [some (.ref 67), some (.int x1), some (.int (y2 + 1)), o3, o4, o5, o6]) (st1 := []) (hp1 := (hz F (uA A 86 ((A 86).set y2.toInt.toNat 0)) L)) rfl ?_
    subst T
    have hb2 := i_up (B := (12 : Int32)) hb
    have hb3 : y2.toInt < 12 := hb
    exact ih (show m = (12 - (y2 + 1).toInt).toNat by rw [hb2]; omega) (fun q2 => cvE rfl (funext fun q => if k0 : q = 86 then by subst k0; exact Eq.trans (b := (km_changesMother_2 m (y2 + 1) ((A 86).set y2.toInt.toNat 0))) rfl rfl else by unfold uA; simp only [nb1 k0, cond_false]) rfl (K q2))
noncomputable def km_areTwo (a68 : List Int32) (x1 : Int32) (x2 : Int32) : Int32 := (if (km_isGuest a68 x1) = 0 then 0 else (if (km_isGuest a68 x2) = 0 then 0 else (if x1 = x2 then 0 else 1)))
theorem t_km_areTwo {f D : Nat} {F : Nat → Nat → Int32} {A : Nat → List Int32} {L : Nat → List Int64} {Q : Option Value → sm_H → Prop} {x1 : Int32} {x2 : Int32} (K : Q (some (.int (km_areTwo (A 68) x1 x2))) (hz F A L)) : wl_M f D 189 [.ref 67, .int x1, .int x2] (hz F A L) Q := by
  generalize hT : (km_areTwo (A 68) x1 x2) = T at K
  have hE : T = (if (km_isGuest (A 68) x1) = 0 then 0 else (if (km_isGuest (A 68) x2) = 0 then 0 else (if x1 = x2 then 0 else 1))) := hT.symm
  clear hT
  refine w_m (E := mm189) rfl ?_
  show wl_E f f (D - 1) mm189.2.2.2.2.2.2.2.2 0 [some (.ref 67), some (.int x1), some (.int x2)] [] (hz F A L) Q
  refine w_n 2 (pc1 := 2) (ls1 := [some (.ref 67), some (.int x1), some (.int x2)]) (st1 := [.int x1, .ref 67]) (hp1 := (hz F A L)) rfl ?_
  refine w_c rfl rfl (t_km_isGuest ?_)
  show wl_E f _ _ mm189.2.2.2.2.2.2.2.2 5 [some (.ref 67), some (.int x1), some (.int x2)] [.int (km_isGuest (A 68) x1)] (hz F A L) _
  generalize hG376 : (km_isGuest (A 68) x1) = G376 at hE ⊢
  refine w_zeq (p3 := 8) rfl rfl (fun h => ?_) (fun h => ?_)
  · have h1 : G376 = 0 := h
    rw [if_pos h1] at hE
    refine w_n 1 (pc1 := 26) (ls1 := [some (.ref 67), some (.int x1), some (.int x2)]) (st1 := [.int 0]) (hp1 := (hz F A L)) rfl ?_
    subst T
    exact w_ri rfl (cvQ rfl rfl rfl K)
  · have h1 : ¬ G376 = 0 := h
    rw [if_neg h1] at hE
    refine w_n 2 (pc1 := 10) (ls1 := [some (.ref 67), some (.int x1), some (.int x2)]) (st1 := [.int x2, .ref 67]) (hp1 := (hz F A L)) rfl ?_
    refine w_c rfl rfl (t_km_isGuest ?_)
    show wl_E f _ _ mm189.2.2.2.2.2.2.2.2 13 [some (.ref 67), some (.int x1), some (.int x2)] [.int (km_isGuest (A 68) x2)] (hz F A L) _
    generalize hG377 : (km_isGuest (A 68) x2) = G377 at hE ⊢
    refine w_zeq (p3 := 16) rfl rfl (fun h => ?_) (fun h => ?_)
    · have h2 : G377 = 0 := h
      rw [if_pos h2] at hE
      refine w_n 1 (pc1 := 26) (ls1 := [some (.ref 67), some (.int x1), some (.int x2)]) (st1 := [.int 0]) (hp1 := (hz F A L)) rfl ?_
      subst T
      exact w_ri rfl (cvQ rfl rfl rfl K)
    · have h2 : ¬ G377 = 0 := h
      rw [if_neg h2] at hE
      refine w_n 2 (pc1 := 18) (ls1 := [some (.ref 67), some (.int x1), some (.int x2)]) (st1 := [.int x2, .int x1]) (hp1 := (hz F A L)) rfl ?_
      refine w_eq (p3 := 21) rfl rfl (fun h => ?_) (fun h => ?_)
      · have h3 : x1 = x2 := h
        rw [if_pos h3] at hE
        refine w_n 1 (pc1 := 26) (ls1 := [some (.ref 67), some (.int x1), some (.int x2)]) (st1 := [.int 0]) (hp1 := (hz F A L)) rfl ?_
        subst T
        exact w_ri rfl (cvQ rfl rfl rfl K)
      · have h3 : ¬ x1 = x2 := h
        rw [if_neg h3] at hE
        refine w_n 2 (pc1 := 26) (ls1 := [some (.ref 67), some (.int x1), some (.int x2)]) (st1 := [.int 1]) (hp1 := (hz F A L)) rfl ?_
        subst T
        exact w_ri rfl (cvQ rfl rfl rfl K)
noncomputable def km_mindOf_17 (a68 : List Int32) (x1 : Int32) (x2 : Int32) (x4 : Int32) : Nat → Int32 → Int32 → Int32
  | 0, y3, _ => y3
  | m + 1, y3, y5 => (if (km_placeOf a68 x1 x4).toInt < (km_placeOf a68 x1 y5).toInt then (if (km_placeOf a68 x2 x4).toInt < (km_placeOf a68 x2 y5).toInt then (km_mindOf_17 a68 x1 x2 x4 m (y3 + 1) (y5 + 1)) else (km_mindOf_17 a68 x1 x2 x4 m (y3 + 0) (y5 + 1))) else (km_mindOf_17 a68 x1 x2 x4 m (y3 + 0) (y5 + 1)))
theorem t_km_mindOf_17 {f : Nat} {Q : Option Value → sm_H → Prop} : ∀ (m : Nat) {B D : Nat} {F : Nat → Nat → Int32} {A : Nat → List Int32} {L : Nat → List Int64} {x1 : Int32} {x2 : Int32} {y3 : Int32} {x4 : Int32} {y5 : Int32} {o6 : Option Value}, m = ((F 67 3).toInt - y5.toInt).toNat → (∀ q5 : Int32, ∀ q6 : Option Value, wl_E f B D mm196.2.2.2.2.2.2.2.2 86 [some (.ref 67), some (.int x1), some (.int x2), some (.int (km_mindOf_17 (A 68) x1 x2 x4 m y3 y5)), some (.int x4), some (.int q5), q6] [] (hz F A L) Q) → wl_E f B D mm196.2.2.2.2.2.2.2.2 17 [some (.ref 67), some (.int x1), some (.int x2), some (.int y3), some (.int x4), some (.int y5), o6] [] (hz F A L) Q := by
  intro m
  induction m with
  | zero =>
    intro B D F A L x1 x2 y3 x4 y5 o6 hm K
    generalize hT : (km_mindOf_17 (A 68) x1 x2 x4 0 y3 y5) = T at K
    have hE : T = y3 := hT.symm
    clear hT
    refine w_n 3 (pc1 := 23) (ls1 := [some (.ref 67), some (.int x1), some (.int x2), some (.int y3), some (.int x4), some (.int y5), o6]) (st1 := [.int (F 67 3), .int y5]) (hp1 := (hz F A L)) rfl ?_
    refine w_ge (p3 := 26) rfl rfl (fun hb => ?_) (fun h => False.elim (by have h : y5.toInt < (F 67 3).toInt := h; omega))
    subst T
    exact cvE rfl rfl rfl (K _ _)
  | succ m ih =>
    intro B D F A L x1 x2 y3 x4 y5 o6 hm K
    generalize hT : (km_mindOf_17 (A 68) x1 x2 x4 (m + 1) y3 y5) = T at K
    have hE : T = (if (km_placeOf (A 68) x1 x4).toInt < (km_placeOf (A 68) x1 y5).toInt then (if (km_placeOf (A 68) x2 x4).toInt < (km_placeOf (A 68) x2 y5).toInt then (km_mindOf_17 (A 68) x1 x2 x4 m (y3 + 1) (y5 + 1)) else (km_mindOf_17 (A 68) x1 x2 x4 m (y3 + 0) (y5 + 1))) else (km_mindOf_17 (A 68) x1 x2 x4 m (y3 + 0) (y5 + 1))) := hT.symm
    clear hT
    refine w_n 3 (pc1 := 23) (ls1 := [some (.ref 67), some (.int x1), some (.int x2), some (.int y3), some (.int x4), some (.int y5), o6]) (st1 := [.int (F 67 3), .int y5]) (hp1 := (hz F A L)) rfl ?_
    refine w_ge (p3 := 26) rfl rfl (fun h => False.elim (by have h : (F 67 3).toInt ≤ y5.toInt := h; omega)) (fun hb => ?_)
    refine w_n 3 (pc1 := 30) (ls1 := [some (.ref 67), some (.int x1), some (.int x2), some (.int y3), some (.int x4), some (.int y5), o6]) (st1 := [.int x4, .int x1, .ref 67]) (hp1 := (hz F A L)) rfl ?_
    refine w_c rfl rfl (t_km_placeOf ?_)
    show wl_E f _ _ mm196.2.2.2.2.2.2.2.2 33 [some (.ref 67), some (.int x1), some (.int x2), some (.int y3), some (.int x4), some (.int y5), o6] [.int (km_placeOf (A 68) x1 x4)] (hz F A L) _
    generalize hG381 : (km_placeOf (A 68) x1 x4) = G381 at hE ⊢
    refine w_n 3 (pc1 := 37) (ls1 := [some (.ref 67), some (.int x1), some (.int x2), some (.int y3), some (.int x4), some (.int y5), o6]) (st1 := [.int y5, .int x1, .ref 67, .int G381]) (hp1 := (hz F A L)) rfl ?_
    refine w_c rfl rfl (t_km_placeOf ?_)
    show wl_E f _ _ mm196.2.2.2.2.2.2.2.2 40 [some (.ref 67), some (.int x1), some (.int x2), some (.int y3), some (.int x4), some (.int y5), o6] [.int (km_placeOf (A 68) x1 y5), .int G381] (hz F A L) _
    generalize hG382 : (km_placeOf (A 68) x1 y5) = G382 at hE ⊢
    refine w_ge (p3 := 43) rfl rfl (fun h => ?_) (fun h => ?_)
    · have h1 : G382.toInt ≤ G381.toInt := h
      rw [if_neg (Int.not_lt.mpr h1)] at hE
      refine w_n 4 (pc1 := 70) (ls1 := [some (.ref 67), some (.int x1), some (.int x2), some (.int y3), some (.int x4), some (.int y5), some (.int 0)]) (st1 := [.int 0, .int y3]) (hp1 := (hz F A L)) rfl ?_
      refine w_zeq (p3 := 73) rfl rfl (fun _ => ?_) (fun h => absurd h (by decide))
      refine w_n 5 (pc1 := 17) (ls1 := [some (.ref 67), some (.int x1), some (.int x2), some (.int (y3 + 0)), some (.int x4), some (.int (y5 + 1)), some (.int 0)]) (st1 := []) (hp1 := (hz F A L)) rfl ?_
      subst T
      have hb2 := i_up (B := (F 67 3)) hb
      have hb3 : y5.toInt < (F 67 3).toInt := hb
      exact ih (show m = ((F 67 3).toInt - (y5 + 1).toInt).toNat by rw [hb2]; omega) (fun q5 q6 => cvE rfl rfl rfl (K q5 q6))
    · have h1 : G381.toInt < G382.toInt := h
      rw [if_pos h1] at hE
      refine w_n 3 (pc1 := 47) (ls1 := [some (.ref 67), some (.int x1), some (.int x2), some (.int y3), some (.int x4), some (.int y5), o6]) (st1 := [.int x4, .int x2, .ref 67]) (hp1 := (hz F A L)) rfl ?_
      refine w_c rfl rfl (t_km_placeOf ?_)
      show wl_E f _ _ mm196.2.2.2.2.2.2.2.2 50 [some (.ref 67), some (.int x1), some (.int x2), some (.int y3), some (.int x4), some (.int y5), o6] [.int (km_placeOf (A 68) x2 x4)] (hz F A L) _
      generalize hG383 : (km_placeOf (A 68) x2 x4) = G383 at hE ⊢
      refine w_n 3 (pc1 := 54) (ls1 := [some (.ref 67), some (.int x1), some (.int x2), some (.int y3), some (.int x4), some (.int y5), o6]) (st1 := [.int y5, .int x2, .ref 67, .int G383]) (hp1 := (hz F A L)) rfl ?_
      refine w_c rfl rfl (t_km_placeOf ?_)
      show wl_E f _ _ mm196.2.2.2.2.2.2.2.2 57 [some (.ref 67), some (.int x1), some (.int x2), some (.int y3), some (.int x4), some (.int y5), o6] [.int (km_placeOf (A 68) x2 y5), .int G383] (hz F A L) _
      generalize hG384 : (km_placeOf (A 68) x2 y5) = G384 at hE ⊢
      refine w_ge (p3 := 60) rfl rfl (fun h => ?_) (fun h => ?_)
      · have h2 : G384.toInt ≤ G383.toInt := h
        rw [if_neg (Int.not_lt.mpr h2)] at hE
        refine w_n 4 (pc1 := 70) (ls1 := [some (.ref 67), some (.int x1), some (.int x2), some (.int y3), some (.int x4), some (.int y5), some (.int 0)]) (st1 := [.int 0, .int y3]) (hp1 := (hz F A L)) rfl ?_
        refine w_zeq (p3 := 73) rfl rfl (fun _ => ?_) (fun h => absurd h (by decide))
        refine w_n 5 (pc1 := 17) (ls1 := [some (.ref 67), some (.int x1), some (.int x2), some (.int (y3 + 0)), some (.int x4), some (.int (y5 + 1)), some (.int 0)]) (st1 := []) (hp1 := (hz F A L)) rfl ?_
        subst T
        have hb2 := i_up (B := (F 67 3)) hb
        have hb3 : y5.toInt < (F 67 3).toInt := hb
        exact ih (show m = ((F 67 3).toInt - (y5 + 1).toInt).toNat by rw [hb2]; omega) (fun q5 q6 => cvE rfl rfl rfl (K q5 q6))
      · have h2 : G383.toInt < G384.toInt := h
        rw [if_pos h2] at hE
        refine w_n 5 (pc1 := 70) (ls1 := [some (.ref 67), some (.int x1), some (.int x2), some (.int y3), some (.int x4), some (.int y5), some (.int 1)]) (st1 := [.int 1, .int y3]) (hp1 := (hz F A L)) rfl ?_
        refine w_zeq (p3 := 73) rfl rfl (fun h => absurd h (by decide)) (fun _ => ?_)
        refine w_n 6 (pc1 := 17) (ls1 := [some (.ref 67), some (.int x1), some (.int x2), some (.int (y3 + 1)), some (.int x4), some (.int (y5 + 1)), some (.int 1)]) (st1 := []) (hp1 := (hz F A L)) rfl ?_
        subst T
        have hb2 := i_up (B := (F 67 3)) hb
        have hb3 : y5.toInt < (F 67 3).toInt := hb
        exact ih (show m = ((F 67 3).toInt - (y5 + 1).toInt).toNat by rw [hb2]; omega) (fun q5 q6 => cvE rfl rfl rfl (K q5 q6))
noncomputable def km_mindOf_5 (f67_3 : Int32) (a68 : List Int32) (x1 : Int32) (x2 : Int32) : Nat → Int32 → Int32 → Int32
  | 0, y3, _ => y3
  | m + 1, y3, y4 => (km_mindOf_5 f67_3 a68 x1 x2 m (km_mindOf_17 a68 x1 x2 y4 f67_3.toInt.toNat y3 0) (y4 + 1))
theorem t_km_mindOf_5 {f : Nat} {Q : Option Value → sm_H → Prop} : ∀ (m : Nat) {B D : Nat} {F : Nat → Nat → Int32} {A : Nat → List Int32} {L : Nat → List Int64} {x1 : Int32} {x2 : Int32} {y3 : Int32} {y4 : Int32} {o5 : Option Value} {o6 : Option Value}, m = ((F 67 3).toInt - y4.toInt).toNat → (∀ q4 : Int32, ∀ q5 : Option Value, ∀ q6 : Option Value, wl_E f B D mm196.2.2.2.2.2.2.2.2 92 [some (.ref 67), some (.int x1), some (.int x2), some (.int (km_mindOf_5 (F 67 3) (A 68) x1 x2 m y3 y4)), some (.int q4), q5, q6] [] (hz F A L) Q) → wl_E f B D mm196.2.2.2.2.2.2.2.2 5 [some (.ref 67), some (.int x1), some (.int x2), some (.int y3), some (.int y4), o5, o6] [] (hz F A L) Q := by
  intro m
  induction m with
  | zero =>
    intro B D F A L x1 x2 y3 y4 o5 o6 hm K
    generalize hT : (km_mindOf_5 (F 67 3) (A 68) x1 x2 0 y3 y4) = T at K
    have hE : T = y3 := hT.symm
    clear hT
    refine w_n 3 (pc1 := 11) (ls1 := [some (.ref 67), some (.int x1), some (.int x2), some (.int y3), some (.int y4), o5, o6]) (st1 := [.int (F 67 3), .int y4]) (hp1 := (hz F A L)) rfl ?_
    refine w_ge (p3 := 14) rfl rfl (fun hb => ?_) (fun h => False.elim (by have h : y4.toInt < (F 67 3).toInt := h; omega))
    subst T
    exact cvE rfl rfl rfl (K _ _ _)
  | succ m ih =>
    intro B D F A L x1 x2 y3 y4 o5 o6 hm K
    generalize hT : (km_mindOf_5 (F 67 3) (A 68) x1 x2 (m + 1) y3 y4) = T at K
    have hE : T = (km_mindOf_5 (F 67 3) (A 68) x1 x2 m (km_mindOf_17 (A 68) x1 x2 y4 (F 67 3).toInt.toNat y3 0) (y4 + 1)) := hT.symm
    clear hT
    refine w_n 3 (pc1 := 11) (ls1 := [some (.ref 67), some (.int x1), some (.int x2), some (.int y3), some (.int y4), o5, o6]) (st1 := [.int (F 67 3), .int y4]) (hp1 := (hz F A L)) rfl ?_
    refine w_ge (p3 := 14) rfl rfl (fun h => False.elim (by have h : (F 67 3).toInt ≤ y4.toInt := h; omega)) (fun hb => ?_)
    refine w_n 2 (pc1 := 17) (ls1 := [some (.ref 67), some (.int x1), some (.int x2), some (.int y3), some (.int y4), some (.int 0), o6]) (st1 := []) (hp1 := (hz F A L)) rfl ?_
    refine t_km_mindOf_17 (F 67 3).toInt.toNat (show (F 67 3).toInt.toNat = ((F 67 3).toInt - (0 : Int32).toInt).toNat by have e0 : (0 : Int32).toInt = 0 := rfl; first | rfl | omega) ?_
    intro r1 r2
    show wl_E f _ _ mm196.2.2.2.2.2.2.2.2 86 [some (.ref 67), some (.int x1), some (.int x2), some (.int (km_mindOf_17 (A 68) x1 x2 y4 (F 67 3).toInt.toNat y3 0)), some (.int y4), some (.int r1), r2] [] (hz F A L) _
    generalize hG385 : (km_mindOf_17 (A 68) x1 x2 y4 (F 67 3).toInt.toNat y3 0) = G385 at hE ⊢
    refine w_n 2 (pc1 := 5) (ls1 := [some (.ref 67), some (.int x1), some (.int x2), some (.int G385), some (.int (y4 + 1)), some (.int r1), r2]) (st1 := []) (hp1 := (hz F A L)) rfl ?_
    subst T
    have hb2 := i_up (B := (F 67 3)) hb
    have hb3 : y4.toInt < (F 67 3).toInt := hb
    exact ih (show m = ((F 67 3).toInt - (y4 + 1).toInt).toNat by rw [hb2]; omega) (fun q4 q5 q6 => cvE rfl rfl rfl (K q4 q5 q6))
noncomputable def km_mindOf (f67_3 : Int32) (a68 : List Int32) (x1 : Int32) (x2 : Int32) : Int32 := (km_mindOf_5 f67_3 a68 x1 x2 f67_3.toInt.toNat 0 0)
theorem t_km_mindOf {f D : Nat} {F : Nat → Nat → Int32} {A : Nat → List Int32} {L : Nat → List Int64} {Q : Option Value → sm_H → Prop} {x1 : Int32} {x2 : Int32} (K : Q (some (.int (km_mindOf (F 67 3) (A 68) x1 x2))) (hz F A L)) : wl_M f D 196 [.ref 67, .int x1, .int x2] (hz F A L) Q := by
  generalize hT : (km_mindOf (F 67 3) (A 68) x1 x2) = T at K
  have hE : T = (km_mindOf_5 (F 67 3) (A 68) x1 x2 (F 67 3).toInt.toNat 0 0) := hT.symm
  clear hT
  refine w_m (E := mm196) rfl ?_
  show wl_E f f (D - 1) mm196.2.2.2.2.2.2.2.2 0 [some (.ref 67), some (.int x1), some (.int x2), none, none, none, none] [] (hz F A L) Q
  refine w_n 4 (pc1 := 5) (ls1 := [some (.ref 67), some (.int x1), some (.int x2), some (.int 0), some (.int 0), none, none]) (st1 := []) (hp1 := (hz F A L)) rfl ?_
  refine t_km_mindOf_5 (F 67 3).toInt.toNat (show (F 67 3).toInt.toNat = ((F 67 3).toInt - (0 : Int32).toInt).toNat by have e0 : (0 : Int32).toInt = 0 := rfl; first | rfl | omega) ?_
  intro r1 r2 r3
  show wl_E f _ _ mm196.2.2.2.2.2.2.2.2 92 [some (.ref 67), some (.int x1), some (.int x2), some (.int (km_mindOf_5 (F 67 3) (A 68) x1 x2 (F 67 3).toInt.toNat 0 0)), some (.int r1), r2, r3] [] (hz F A L) _
  generalize hG386 : (km_mindOf_5 (F 67 3) (A 68) x1 x2 (F 67 3).toInt.toNat 0 0) = G386 at hE ⊢
  refine w_n 1 (pc1 := 93) (ls1 := [some (.ref 67), some (.int x1), some (.int x2), some (.int G386), some (.int r1), r2, r3]) (st1 := [.int G386]) (hp1 := (hz F A L)) rfl ?_
  subst T
  exact w_ri rfl (cvQ rfl rfl rfl K)
noncomputable def km_holdsAny_2 (f : Nat) (a78 : List Int32) (a79 : List Int32) (a81 : List Int32) (a82 : List Int32) (a84 : List Int32) (x1 : Int32) : Nat → Int32 → List Int32 → Int32 × List Int32
  | 0, _, a83 => (0, a83)
  | m + 1, y2, a83 => (if (a79.getD y2.toInt.toNat 0) = x1 then (if (km_comesTo f a78 a83 a84 (a81.getD y2.toInt.toNat 0) (a82.getD y2.toInt.toNat 0)).1 = 1 then (1, (km_comesTo f a78 a83 a84 (a81.getD y2.toInt.toNat 0) (a82.getD y2.toInt.toNat 0)).2) else (km_holdsAny_2 f a78 a79 a81 a82 a84 x1 m (y2 + 1) (km_comesTo f a78 a83 a84 (a81.getD y2.toInt.toNat 0) (a82.getD y2.toInt.toNat 0)).2)) else (km_holdsAny_2 f a78 a79 a81 a82 a84 x1 m (y2 + 1) a83))
theorem t_km_holdsAny_2 {f : Nat} {Q : Option Value → sm_H → Prop} : ∀ (m : Nat) {B D : Nat} {F : Nat → Nat → Int32} {A : Nat → List Int32} {L : Nat → List Int64} {x1 : Int32} {y2 : Int32}, m = ((F 67 17).toInt - y2.toInt).toNat → (Q (some (.int ((km_holdsAny_2 f (A 78) (A 79) (A 81) (A 82) (A 84) x1 m y2 (A 83)).1))) (hz F (uA A 83 ((km_holdsAny_2 f (A 78) (A 79) (A 81) (A 82) (A 84) x1 m y2 (A 83)).2)) L)) → wl_E f B D mm197.2.2.2.2.2.2.2.2 2 [some (.ref 67), some (.int x1), some (.int y2)] [] (hz F A L) Q := by
  intro m
  induction m with
  | zero =>
    intro B D F A L x1 y2 hm K
    generalize hT : (km_holdsAny_2 f (A 78) (A 79) (A 81) (A 82) (A 84) x1 0 y2 (A 83)) = T at K
    have hE : T = (0, (A 83)) := hT.symm
    clear hT
    refine w_n 3 (pc1 := 7) (ls1 := [some (.ref 67), some (.int x1), some (.int y2)]) (st1 := [.int (F 67 17), .int y2]) (hp1 := (hz F A L)) rfl ?_
    refine w_ge (p3 := 10) rfl rfl (fun hb => ?_) (fun h => False.elim (by have h : y2.toInt < (F 67 17).toInt := h; omega))
    refine w_n 1 (pc1 := 49) (ls1 := [some (.ref 67), some (.int x1), some (.int y2)]) (st1 := [.int 0]) (hp1 := (hz F A L)) rfl ?_
    subst T
    exact w_ri rfl (cvQ rfl (funext fun q => if k0 : q = 83 then by subst k0; exact Eq.trans (b := (A 83)) rfl rfl else by unfold uA; simp only [nb1 k0, cond_false]) rfl K)
  | succ m ih =>
    intro B D F A L x1 y2 hm K
    generalize hT : (km_holdsAny_2 f (A 78) (A 79) (A 81) (A 82) (A 84) x1 (m + 1) y2 (A 83)) = T at K
    have hE : T = (if ((A 79).getD y2.toInt.toNat 0) = x1 then (if (km_comesTo f (A 78) (A 83) (A 84) ((A 81).getD y2.toInt.toNat 0) ((A 82).getD y2.toInt.toNat 0)).1 = 1 then (1, (km_comesTo f (A 78) (A 83) (A 84) ((A 81).getD y2.toInt.toNat 0) ((A 82).getD y2.toInt.toNat 0)).2) else (km_holdsAny_2 f (A 78) (A 79) (A 81) (A 82) (A 84) x1 m (y2 + 1) (km_comesTo f (A 78) (A 83) (A 84) ((A 81).getD y2.toInt.toNat 0) ((A 82).getD y2.toInt.toNat 0)).2)) else (km_holdsAny_2 f (A 78) (A 79) (A 81) (A 82) (A 84) x1 m (y2 + 1) (A 83))) := hT.symm
    clear hT
    refine w_n 3 (pc1 := 7) (ls1 := [some (.ref 67), some (.int x1), some (.int y2)]) (st1 := [.int (F 67 17), .int y2]) (hp1 := (hz F A L)) rfl ?_
    refine w_ge (p3 := 10) rfl rfl (fun h => False.elim (by have h : (F 67 17).toInt ≤ y2.toInt := h; omega)) (fun hb => ?_)
    refine w_n 3 (pc1 := 15) (ls1 := [some (.ref 67), some (.int x1), some (.int y2)]) (st1 := [.int y2, .ref 79]) (hp1 := (hz F A L)) rfl ?_
    refine w_al (k := 79) (l := (A 79)) rfl rfl rfl (fun ab => ?_)
    refine w_n 1 (pc1 := 17) (ls1 := [some (.ref 67), some (.int x1), some (.int y2)]) (st1 := [.int x1, .int ((A 79).getD y2.toInt.toNat 0)]) (hp1 := (hz F A L)) rfl ?_
    refine w_ne (p3 := 20) rfl rfl (fun h => ?_) (fun h => ?_)
    · have h1 : ¬ ((A 79).getD y2.toInt.toNat 0) = x1 := h
      rw [if_neg h1] at hE
      refine w_n 2 (pc1 := 2) (ls1 := [some (.ref 67), some (.int x1), some (.int (y2 + 1))]) (st1 := []) (hp1 := (hz F A L)) rfl ?_
      subst T
      have hb2 := i_up (B := (F 67 17)) hb
      have hb3 : y2.toInt < (F 67 17).toInt := hb
      exact ih (show m = ((F 67 17).toInt - (y2 + 1).toInt).toNat by rw [hb2]; omega) (cvQ rfl (funext fun q => if k0 : q = 83 then by subst k0; exact Eq.trans (b := (km_holdsAny_2 f (A 78) (A 79) (A 81) (A 82) (A 84) x1 m (y2 + 1) (A 83)).2) rfl rfl else by unfold uA; simp only [nb1 k0, cond_false]) rfl K)
    · have h1 : ((A 79).getD y2.toInt.toNat 0) = x1 := h
      rw [if_pos h1] at hE
      refine w_n 4 (pc1 := 26) (ls1 := [some (.ref 67), some (.int x1), some (.int y2)]) (st1 := [.int y2, .ref 81, .ref 67]) (hp1 := (hz F A L)) rfl ?_
      refine w_al (k := 81) (l := (A 81)) rfl rfl rfl (fun ab => ?_)
      refine w_n 3 (pc1 := 32) (ls1 := [some (.ref 67), some (.int x1), some (.int y2)]) (st1 := [.int y2, .ref 82, .int ((A 81).getD y2.toInt.toNat 0), .ref 67]) (hp1 := (hz F A L)) rfl ?_
      refine w_al (k := 82) (l := (A 82)) rfl rfl rfl (fun ab => ?_)
      refine w_c rfl rfl (t_km_comesTo ?_)
      show wl_E f _ _ mm197.2.2.2.2.2.2.2.2 36 [some (.ref 67), some (.int x1), some (.int y2)] [.int (km_comesTo f (A 78) (A 83) (A 84) ((A 81).getD y2.toInt.toNat 0) ((A 82).getD y2.toInt.toNat 0)).1] (hz F (uA A 83 (km_comesTo f (A 78) (A 83) (A 84) ((A 81).getD y2.toInt.toNat 0) ((A 82).getD y2.toInt.toNat 0)).2) L) _
      generalize hG388 : (km_comesTo f (A 78) (A 83) (A 84) ((A 81).getD y2.toInt.toNat 0) ((A 82).getD y2.toInt.toNat 0)) = G388 at hE ⊢
      refine w_n 1 (pc1 := 37) (ls1 := [some (.ref 67), some (.int x1), some (.int y2)]) (st1 := [.int 1, .int G388.1]) (hp1 := (hz F (uA A 83 G388.2) L)) rfl ?_
      refine w_ne (p3 := 40) rfl rfl (fun h => ?_) (fun h => ?_)
      · have h2 : ¬ G388.1 = 1 := h
        rw [if_neg h2] at hE
        refine w_n 2 (pc1 := 2) (ls1 := [some (.ref 67), some (.int x1), some (.int (y2 + 1))]) (st1 := []) (hp1 := (hz F (uA A 83 G388.2) L)) rfl ?_
        subst T
        have hb2 := i_up (B := (F 67 17)) hb
        have hb3 : y2.toInt < (F 67 17).toInt := hb
        exact ih (show m = ((F 67 17).toInt - (y2 + 1).toInt).toNat by rw [hb2]; omega) (cvQ rfl (funext fun q => if k0 : q = 83 then by subst k0; exact Eq.trans (b := (km_holdsAny_2 f (A 78) (A 79) (A 81) (A 82) (A 84) x1 m (y2 + 1) G388.2).2) rfl rfl else by unfold uA; simp only [nb1 k0, cond_false]) rfl K)
      · have h2 : G388.1 = 1 := h
        rw [if_pos h2] at hE
        refine w_n 1 (pc1 := 41) (ls1 := [some (.ref 67), some (.int x1), some (.int y2)]) (st1 := [.int 1]) (hp1 := (hz F (uA A 83 G388.2) L)) rfl ?_
        subst T
        exact w_ri rfl (cvQ rfl rfl rfl K)
noncomputable def km_holdsAny (f : Nat) (f67_17 : Int32) (a78 : List Int32) (a79 : List Int32) (a81 : List Int32) (a82 : List Int32) (a83 : List Int32) (a84 : List Int32) (x1 : Int32) : Int32 × List Int32 := (km_holdsAny_2 f a78 a79 a81 a82 a84 x1 f67_17.toInt.toNat 0 a83)
theorem t_km_holdsAny {f D : Nat} {F : Nat → Nat → Int32} {A : Nat → List Int32} {L : Nat → List Int64} {Q : Option Value → sm_H → Prop} {x1 : Int32} (K : Q (some (.int ((km_holdsAny f (F 67 17) (A 78) (A 79) (A 81) (A 82) (A 83) (A 84) x1).1))) (hz F (uA A 83 ((km_holdsAny f (F 67 17) (A 78) (A 79) (A 81) (A 82) (A 83) (A 84) x1).2)) L)) : wl_M f D 197 [.ref 67, .int x1] (hz F A L) Q := by
  generalize hT : (km_holdsAny f (F 67 17) (A 78) (A 79) (A 81) (A 82) (A 83) (A 84) x1) = T at K
  have hE : T = (km_holdsAny_2 f (A 78) (A 79) (A 81) (A 82) (A 84) x1 (F 67 17).toInt.toNat 0 (A 83)) := hT.symm
  clear hT
  refine w_m (E := mm197) rfl ?_
  show wl_E f f (D - 1) mm197.2.2.2.2.2.2.2.2 0 [some (.ref 67), some (.int x1), none] [] (hz F A L) Q
  refine w_n 2 (pc1 := 2) (ls1 := [some (.ref 67), some (.int x1), some (.int 0)]) (st1 := []) (hp1 := (hz F A L)) rfl ?_
  subst T
  exact t_km_holdsAny_2 _ (show (F 67 17).toInt.toNat = ((F 67 17).toInt - (0 : Int32).toInt).toNat by have e0 : (0 : Int32).toInt = 0 := rfl; first | rfl | omega) (cvQ rfl (funext fun q => if k0 : q = 83 then by subst k0; exact Eq.trans (b := (km_holdsAny_2 f (A 78) (A 79) (A 81) (A 82) (A 84) x1 (F 67 17).toInt.toNat 0 (A 83)).2) rfl rfl else by unfold uA; simp only [nb1 k0, cond_false]) rfl K)
noncomputable def km_likesBy (f : Nat) (f67_3 : Int32) (f67_17 : Int32) (a68 : List Int32) (a78 : List Int32) (a79 : List Int32) (a80 : List Int32) (a81 : List Int32) (a82 : List Int32) (a83 : List Int32) (a84 : List Int32) (x1 : Int32) (x2 : Int32) : Int32 × List Int32 × List Int32 := (if (km_holdsAny f f67_17 a78 a79 a81 a82 a83 (((((km_feelsOne a68 a84 x2).set 0 x1).set 1 x2).set 2 (km_leftOf a68 x1 x2)).set 3 (km_mindOf f67_3 a68 x1 x2)) 120).1 = 0 then ((km_byLaw f f67_17 a78 a79 a80 a81 a82 (km_holdsAny f f67_17 a78 a79 a81 a82 a83 (((((km_feelsOne a68 a84 x2).set 0 x1).set 1 x2).set 2 (km_leftOf a68 x1 x2)).set 3 (km_mindOf f67_3 a68 x1 x2)) 120).2 (((((km_feelsOne a68 a84 x2).set 0 x1).set 1 x2).set 2 (km_leftOf a68 x1 x2)).set 3 (km_mindOf f67_3 a68 x1 x2)) 101 9999).1, (km_byLaw f f67_17 a78 a79 a80 a81 a82 (km_holdsAny f f67_17 a78 a79 a81 a82 a83 (((((km_feelsOne a68 a84 x2).set 0 x1).set 1 x2).set 2 (km_leftOf a68 x1 x2)).set 3 (km_mindOf f67_3 a68 x1 x2)) 120).2 (((((km_feelsOne a68 a84 x2).set 0 x1).set 1 x2).set 2 (km_leftOf a68 x1 x2)).set 3 (km_mindOf f67_3 a68 x1 x2)) 101 9999).2, (((((km_feelsOne a68 a84 x2).set 0 x1).set 1 x2).set 2 (km_leftOf a68 x1 x2)).set 3 (km_mindOf f67_3 a68 x1 x2))) else (0, (km_holdsAny f f67_17 a78 a79 a81 a82 a83 (((((km_feelsOne a68 a84 x2).set 0 x1).set 1 x2).set 2 (km_leftOf a68 x1 x2)).set 3 (km_mindOf f67_3 a68 x1 x2)) 120).2, (((((km_feelsOne a68 a84 x2).set 0 x1).set 1 x2).set 2 (km_leftOf a68 x1 x2)).set 3 (km_mindOf f67_3 a68 x1 x2))))
theorem t_km_likesBy {f D : Nat} {F : Nat → Nat → Int32} {A : Nat → List Int32} {L : Nat → List Int64} {Q : Option Value → sm_H → Prop} {x1 : Int32} {x2 : Int32} (K : Q (some (.int ((km_likesBy f (F 67 3) (F 67 17) (A 68) (A 78) (A 79) (A 80) (A 81) (A 82) (A 83) (A 84) x1 x2).1))) (hz F (uA (uA A 83 ((km_likesBy f (F 67 3) (F 67 17) (A 68) (A 78) (A 79) (A 80) (A 81) (A 82) (A 83) (A 84) x1 x2).2.1)) 84 ((km_likesBy f (F 67 3) (F 67 17) (A 68) (A 78) (A 79) (A 80) (A 81) (A 82) (A 83) (A 84) x1 x2).2.2)) L)) : wl_M f D 195 [.ref 67, .int x1, .int x2] (hz F A L) Q := by
  generalize hT : (km_likesBy f (F 67 3) (F 67 17) (A 68) (A 78) (A 79) (A 80) (A 81) (A 82) (A 83) (A 84) x1 x2) = T at K
  have hE : T = (if (km_holdsAny f (F 67 17) (A 78) (A 79) (A 81) (A 82) (A 83) (((((km_feelsOne (A 68) (A 84) x2).set 0 x1).set 1 x2).set 2 (km_leftOf (A 68) x1 x2)).set 3 (km_mindOf (F 67 3) (A 68) x1 x2)) 120).1 = 0 then ((km_byLaw f (F 67 17) (A 78) (A 79) (A 80) (A 81) (A 82) (km_holdsAny f (F 67 17) (A 78) (A 79) (A 81) (A 82) (A 83) (((((km_feelsOne (A 68) (A 84) x2).set 0 x1).set 1 x2).set 2 (km_leftOf (A 68) x1 x2)).set 3 (km_mindOf (F 67 3) (A 68) x1 x2)) 120).2 (((((km_feelsOne (A 68) (A 84) x2).set 0 x1).set 1 x2).set 2 (km_leftOf (A 68) x1 x2)).set 3 (km_mindOf (F 67 3) (A 68) x1 x2)) 101 9999).1, (km_byLaw f (F 67 17) (A 78) (A 79) (A 80) (A 81) (A 82) (km_holdsAny f (F 67 17) (A 78) (A 79) (A 81) (A 82) (A 83) (((((km_feelsOne (A 68) (A 84) x2).set 0 x1).set 1 x2).set 2 (km_leftOf (A 68) x1 x2)).set 3 (km_mindOf (F 67 3) (A 68) x1 x2)) 120).2 (((((km_feelsOne (A 68) (A 84) x2).set 0 x1).set 1 x2).set 2 (km_leftOf (A 68) x1 x2)).set 3 (km_mindOf (F 67 3) (A 68) x1 x2)) 101 9999).2, (((((km_feelsOne (A 68) (A 84) x2).set 0 x1).set 1 x2).set 2 (km_leftOf (A 68) x1 x2)).set 3 (km_mindOf (F 67 3) (A 68) x1 x2))) else (0, (km_holdsAny f (F 67 17) (A 78) (A 79) (A 81) (A 82) (A 83) (((((km_feelsOne (A 68) (A 84) x2).set 0 x1).set 1 x2).set 2 (km_leftOf (A 68) x1 x2)).set 3 (km_mindOf (F 67 3) (A 68) x1 x2)) 120).2, (((((km_feelsOne (A 68) (A 84) x2).set 0 x1).set 1 x2).set 2 (km_leftOf (A 68) x1 x2)).set 3 (km_mindOf (F 67 3) (A 68) x1 x2)))) := hT.symm
  clear hT
  refine w_m (E := mm195) rfl ?_
  show wl_E f f (D - 1) mm195.2.2.2.2.2.2.2.2 0 [some (.ref 67), some (.int x1), some (.int x2)] [] (hz F A L) Q
  refine w_n 2 (pc1 := 2) (ls1 := [some (.ref 67), some (.int x1), some (.int x2)]) (st1 := [.int x2, .ref 67]) (hp1 := (hz F A L)) rfl ?_
  refine w_c rfl rfl (t_km_feelsOne ?_)
  show wl_E f _ _ mm195.2.2.2.2.2.2.2.2 5 [some (.ref 67), some (.int x1), some (.int x2)] [] (hz F (uA A 84 (km_feelsOne (A 68) (A 84) x2)) L) _
  generalize hG379 : (km_feelsOne (A 68) (A 84) x2) = G379 at hE ⊢
  refine w_n 4 (pc1 := 11) (ls1 := [some (.ref 67), some (.int x1), some (.int x2)]) (st1 := [.int x1, .int 0, .ref 84]) (hp1 := (hz F (uA A 84 G379) L)) rfl ?_
  refine w_as (k := 84) (l := G379) (hp1 := (hz F (uA (uA A 84 G379) 84 (G379.set 0 x1)) L)) rfl rfl rfl (hz_s84 _) (fun _ => ?_)
  refine w_n 4 (pc1 := 18) (ls1 := [some (.ref 67), some (.int x1), some (.int x2)]) (st1 := [.int x2, .int 1, .ref 84]) (hp1 := (hz F (uA (uA A 84 G379) 84 (G379.set 0 x1)) L)) rfl ?_
  refine w_as (k := 84) (l := (G379.set 0 x1)) (hp1 := (hz F (uA (uA (uA A 84 G379) 84 (G379.set 0 x1)) 84 ((G379.set 0 x1).set 1 x2)) L)) rfl rfl rfl (hz_s84 _) (fun _ => ?_)
  refine w_n 6 (pc1 := 27) (ls1 := [some (.ref 67), some (.int x1), some (.int x2)]) (st1 := [.int x2, .int x1, .ref 67, .int 2, .ref 84]) (hp1 := (hz F (uA (uA (uA A 84 G379) 84 (G379.set 0 x1)) 84 ((G379.set 0 x1).set 1 x2)) L)) rfl ?_
  refine w_c rfl rfl (t_km_leftOf ?_)
  show wl_E f _ _ mm195.2.2.2.2.2.2.2.2 30 [some (.ref 67), some (.int x1), some (.int x2)] [.int (km_leftOf (A 68) x1 x2), .int 2, .ref 84] (hz F (uA (uA (uA A 84 G379) 84 (G379.set 0 x1)) 84 ((G379.set 0 x1).set 1 x2)) L) _
  generalize hG380 : (km_leftOf (A 68) x1 x2) = G380 at hE ⊢
  refine w_as (k := 84) (l := ((G379.set 0 x1).set 1 x2)) (hp1 := (hz F (uA (uA (uA (uA A 84 G379) 84 (G379.set 0 x1)) 84 ((G379.set 0 x1).set 1 x2)) 84 (((G379.set 0 x1).set 1 x2).set 2 G380)) L)) rfl rfl rfl (hz_s84 _) (fun _ => ?_)
  refine w_n 6 (pc1 := 39) (ls1 := [some (.ref 67), some (.int x1), some (.int x2)]) (st1 := [.int x2, .int x1, .ref 67, .int 3, .ref 84]) (hp1 := (hz F (uA (uA (uA (uA A 84 G379) 84 (G379.set 0 x1)) 84 ((G379.set 0 x1).set 1 x2)) 84 (((G379.set 0 x1).set 1 x2).set 2 G380)) L)) rfl ?_
  refine w_c rfl rfl (t_km_mindOf ?_)
  show wl_E f _ _ mm195.2.2.2.2.2.2.2.2 42 [some (.ref 67), some (.int x1), some (.int x2)] [.int (km_mindOf (F 67 3) (A 68) x1 x2), .int 3, .ref 84] (hz F (uA (uA (uA (uA A 84 G379) 84 (G379.set 0 x1)) 84 ((G379.set 0 x1).set 1 x2)) 84 (((G379.set 0 x1).set 1 x2).set 2 G380)) L) _
  generalize hG387 : (km_mindOf (F 67 3) (A 68) x1 x2) = G387 at hE ⊢
  refine w_as (k := 84) (l := (((G379.set 0 x1).set 1 x2).set 2 G380)) (hp1 := (hz F (uA (uA (uA (uA (uA A 84 G379) 84 (G379.set 0 x1)) 84 ((G379.set 0 x1).set 1 x2)) 84 (((G379.set 0 x1).set 1 x2).set 2 G380)) 84 ((((G379.set 0 x1).set 1 x2).set 2 G380).set 3 G387)) L)) rfl rfl rfl (hz_s84 _) (fun _ => ?_)
  refine w_n 2 (pc1 := 46) (ls1 := [some (.ref 67), some (.int x1), some (.int x2)]) (st1 := [.int 120, .ref 67]) (hp1 := (hz F (uA (uA (uA (uA (uA A 84 G379) 84 (G379.set 0 x1)) 84 ((G379.set 0 x1).set 1 x2)) 84 (((G379.set 0 x1).set 1 x2).set 2 G380)) 84 ((((G379.set 0 x1).set 1 x2).set 2 G380).set 3 G387)) L)) rfl ?_
  refine w_c rfl rfl (t_km_holdsAny ?_)
  show wl_E f _ _ mm195.2.2.2.2.2.2.2.2 49 [some (.ref 67), some (.int x1), some (.int x2)] [.int (km_holdsAny f (F 67 17) (A 78) (A 79) (A 81) (A 82) (A 83) ((((G379.set 0 x1).set 1 x2).set 2 G380).set 3 G387) 120).1] (hz F (uA (uA (uA (uA (uA (uA A 84 G379) 84 (G379.set 0 x1)) 84 ((G379.set 0 x1).set 1 x2)) 84 (((G379.set 0 x1).set 1 x2).set 2 G380)) 84 ((((G379.set 0 x1).set 1 x2).set 2 G380).set 3 G387)) 83 (km_holdsAny f (F 67 17) (A 78) (A 79) (A 81) (A 82) (A 83) ((((G379.set 0 x1).set 1 x2).set 2 G380).set 3 G387) 120).2) L) _
  generalize hG389 : (km_holdsAny f (F 67 17) (A 78) (A 79) (A 81) (A 82) (A 83) ((((G379.set 0 x1).set 1 x2).set 2 G380).set 3 G387) 120) = G389 at hE ⊢
  refine w_zeq (p3 := 52) rfl rfl (fun h => ?_) (fun h => ?_)
  · have h1 : G389.1 = 0 := h
    rw [if_pos h1] at hE
    refine w_n 3 (pc1 := 62) (ls1 := [some (.ref 67), some (.int x1), some (.int x2)]) (st1 := [.int 9999, .int 101, .ref 67]) (hp1 := (hz F (uA (uA (uA (uA (uA (uA A 84 G379) 84 (G379.set 0 x1)) 84 ((G379.set 0 x1).set 1 x2)) 84 (((G379.set 0 x1).set 1 x2).set 2 G380)) 84 ((((G379.set 0 x1).set 1 x2).set 2 G380).set 3 G387)) 83 G389.2) L)) rfl ?_
    refine w_c rfl rfl (t_km_byLaw ?_)
    show wl_E f _ _ mm195.2.2.2.2.2.2.2.2 65 [some (.ref 67), some (.int x1), some (.int x2)] [.int (km_byLaw f (F 67 17) (A 78) (A 79) (A 80) (A 81) (A 82) G389.2 ((((G379.set 0 x1).set 1 x2).set 2 G380).set 3 G387) 101 9999).1] (hz F (uA (uA (uA (uA (uA (uA (uA A 84 G379) 84 (G379.set 0 x1)) 84 ((G379.set 0 x1).set 1 x2)) 84 (((G379.set 0 x1).set 1 x2).set 2 G380)) 84 ((((G379.set 0 x1).set 1 x2).set 2 G380).set 3 G387)) 83 G389.2) 83 (km_byLaw f (F 67 17) (A 78) (A 79) (A 80) (A 81) (A 82) G389.2 ((((G379.set 0 x1).set 1 x2).set 2 G380).set 3 G387) 101 9999).2) L) _
    generalize hG390 : (km_byLaw f (F 67 17) (A 78) (A 79) (A 80) (A 81) (A 82) G389.2 ((((G379.set 0 x1).set 1 x2).set 2 G380).set 3 G387) 101 9999) = G390 at hE ⊢
    subst T
    exact w_ri rfl (cvQ rfl (funext fun q => if k0 : q = 83 then by subst k0; exact Eq.trans (b := G390.2) rfl rfl else if k1 : q = 84 then by subst k1; exact Eq.trans (b := ((((G379.set 0 x1).set 1 x2).set 2 G380).set 3 G387)) rfl rfl else by unfold uA; simp only [nb1 k0, nb1 k1, cond_false]) rfl K)
  · have h1 : ¬ G389.1 = 0 := h
    rw [if_neg h1] at hE
    refine w_n 2 (pc1 := 65) (ls1 := [some (.ref 67), some (.int x1), some (.int x2)]) (st1 := [.int 0]) (hp1 := (hz F (uA (uA (uA (uA (uA (uA A 84 G379) 84 (G379.set 0 x1)) 84 ((G379.set 0 x1).set 1 x2)) 84 (((G379.set 0 x1).set 1 x2).set 2 G380)) 84 ((((G379.set 0 x1).set 1 x2).set 2 G380).set 3 G387)) 83 G389.2) L)) rfl ?_
    subst T
    exact w_ri rfl (cvQ rfl (funext fun q => if k0 : q = 83 then by subst k0; exact Eq.trans (b := G389.2) rfl rfl else if k1 : q = 84 then by subst k1; exact Eq.trans (b := ((((G379.set 0 x1).set 1 x2).set 2 G380).set 3 G387)) rfl rfl else by unfold uA; simp only [nb1 k0, nb1 k1, cond_false]) rfl K)
noncomputable def km_asks_8 (f : Nat) (f67_3 : Int32) (f67_17 : Int32) (a68 : List Int32) (a78 : List Int32) (a79 : List Int32) (a80 : List Int32) (a81 : List Int32) (a82 : List Int32) (x1 : Int32) : Nat → Int32 → Int32 → Int32 → List Int32 → List Int32 → Int32 × List Int32 × List Int32
  | 0, y2, _, _, a83, a84 => (y2, a83, a84)
  | m + 1, y2, y3, y4, a83, a84 => (if (km_areTwo a68 x1 y4) = 0 then (km_asks_8 f f67_3 f67_17 a68 a78 a79 a80 a81 a82 x1 m y2 y3 (y4 + 1) a83 a84) else (if y3.toInt < (km_likesBy f f67_3 f67_17 a68 a78 a79 a80 a81 a82 a83 a84 x1 y4).1.toInt then (km_asks_8 f f67_3 f67_17 a68 a78 a79 a80 a81 a82 x1 m y4 (km_likesBy f f67_3 f67_17 a68 a78 a79 a80 a81 a82 a83 a84 x1 y4).1 (y4 + 1) (km_likesBy f f67_3 f67_17 a68 a78 a79 a80 a81 a82 a83 a84 x1 y4).2.1 (km_likesBy f f67_3 f67_17 a68 a78 a79 a80 a81 a82 a83 a84 x1 y4).2.2) else (km_asks_8 f f67_3 f67_17 a68 a78 a79 a80 a81 a82 x1 m y2 y3 (y4 + 1) (km_likesBy f f67_3 f67_17 a68 a78 a79 a80 a81 a82 a83 a84 x1 y4).2.1 (km_likesBy f f67_3 f67_17 a68 a78 a79 a80 a81 a82 a83 a84 x1 y4).2.2)))
theorem t_km_asks_8 {f : Nat} {Q : Option Value → sm_H → Prop} : ∀ (m : Nat) {B D : Nat} {F : Nat → Nat → Int32} {A : Nat → List Int32} {L : Nat → List Int64} {x1 : Int32} {y2 : Int32} {y3 : Int32} {y4 : Int32} {o5 : Option Value}, m = (12 - y4.toInt).toNat → (∀ q3 : Int32, ∀ q4 : Int32, ∀ q5 : Option Value, wl_E f B D mm194.2.2.2.2.2.2.2.2 58 [some (.ref 67), some (.int x1), some (.int ((km_asks_8 f (F 67 3) (F 67 17) (A 68) (A 78) (A 79) (A 80) (A 81) (A 82) x1 m y2 y3 y4 (A 83) (A 84)).1)), some (.int q3), some (.int q4), q5] [] (hz F (uA (uA A 83 ((km_asks_8 f (F 67 3) (F 67 17) (A 68) (A 78) (A 79) (A 80) (A 81) (A 82) x1 m y2 y3 y4 (A 83) (A 84)).2.1)) 84 ((km_asks_8 f (F 67 3) (F 67 17) (A 68) (A 78) (A 79) (A 80) (A 81) (A 82) x1 m y2 y3 y4 (A 83) (A 84)).2.2)) L) Q) → wl_E f B D mm194.2.2.2.2.2.2.2.2 8 [some (.ref 67), some (.int x1), some (.int y2), some (.int y3), some (.int y4), o5] [] (hz F A L) Q := by
  intro m
  induction m with
  | zero =>
    intro B D F A L x1 y2 y3 y4 o5 hm K
    generalize hT : (km_asks_8 f (F 67 3) (F 67 17) (A 68) (A 78) (A 79) (A 80) (A 81) (A 82) x1 0 y2 y3 y4 (A 83) (A 84)) = T at K
    have hE : T = (y2, (A 83), (A 84)) := hT.symm
    clear hT
    refine w_n 2 (pc1 := 12) (ls1 := [some (.ref 67), some (.int x1), some (.int y2), some (.int y3), some (.int y4), o5]) (st1 := [.int 12, .int y4]) (hp1 := (hz F A L)) rfl ?_
    refine w_ge (p3 := 15) rfl rfl (fun hb => ?_) (fun h => False.elim (by have h : y4.toInt < 12 := h; omega))
    subst T
    exact cvE rfl (funext fun q => if k0 : q = 83 then by subst k0; exact Eq.trans (b := (A 83)) rfl rfl else if k1 : q = 84 then by subst k1; exact Eq.trans (b := (A 84)) rfl rfl else by unfold uA; simp only [nb1 k0, nb1 k1, cond_false]) rfl (K _ _ _)
  | succ m ih =>
    intro B D F A L x1 y2 y3 y4 o5 hm K
    generalize hT : (km_asks_8 f (F 67 3) (F 67 17) (A 68) (A 78) (A 79) (A 80) (A 81) (A 82) x1 (m + 1) y2 y3 y4 (A 83) (A 84)) = T at K
    have hE : T = (if (km_areTwo (A 68) x1 y4) = 0 then (km_asks_8 f (F 67 3) (F 67 17) (A 68) (A 78) (A 79) (A 80) (A 81) (A 82) x1 m y2 y3 (y4 + 1) (A 83) (A 84)) else (if y3.toInt < (km_likesBy f (F 67 3) (F 67 17) (A 68) (A 78) (A 79) (A 80) (A 81) (A 82) (A 83) (A 84) x1 y4).1.toInt then (km_asks_8 f (F 67 3) (F 67 17) (A 68) (A 78) (A 79) (A 80) (A 81) (A 82) x1 m y4 (km_likesBy f (F 67 3) (F 67 17) (A 68) (A 78) (A 79) (A 80) (A 81) (A 82) (A 83) (A 84) x1 y4).1 (y4 + 1) (km_likesBy f (F 67 3) (F 67 17) (A 68) (A 78) (A 79) (A 80) (A 81) (A 82) (A 83) (A 84) x1 y4).2.1 (km_likesBy f (F 67 3) (F 67 17) (A 68) (A 78) (A 79) (A 80) (A 81) (A 82) (A 83) (A 84) x1 y4).2.2) else (km_asks_8 f (F 67 3) (F 67 17) (A 68) (A 78) (A 79) (A 80) (A 81) (A 82) x1 m y2 y3 (y4 + 1) (km_likesBy f (F 67 3) (F 67 17) (A 68) (A 78) (A 79) (A 80) (A 81) (A 82) (A 83) (A 84) x1 y4).2.1 (km_likesBy f (F 67 3) (F 67 17) (A 68) (A 78) (A 79) (A 80) (A 81) (A 82) (A 83) (A 84) x1 y4).2.2))) := hT.symm
    clear hT
    refine w_n 2 (pc1 := 12) (ls1 := [some (.ref 67), some (.int x1), some (.int y2), some (.int y3), some (.int y4), o5]) (st1 := [.int 12, .int y4]) (hp1 := (hz F A L)) rfl ?_
    refine w_ge (p3 := 15) rfl rfl (fun h => False.elim (by have h : 12 ≤ y4.toInt := h; omega)) (fun hb => ?_)
    refine w_n 3 (pc1 := 19) (ls1 := [some (.ref 67), some (.int x1), some (.int y2), some (.int y3), some (.int y4), o5]) (st1 := [.int y4, .int x1, .ref 67]) (hp1 := (hz F A L)) rfl ?_
    refine w_c rfl rfl (t_km_areTwo ?_)
    show wl_E f _ _ mm194.2.2.2.2.2.2.2.2 22 [some (.ref 67), some (.int x1), some (.int y2), some (.int y3), some (.int y4), o5] [.int (km_areTwo (A 68) x1 y4)] (hz F A L) _
    generalize hG378 : (km_areTwo (A 68) x1 y4) = G378 at hE ⊢
    refine w_zne (p3 := 25) rfl rfl (fun h => ?_) (fun h => ?_)
    · have h1 : ¬ G378 = 0 := h
      rw [if_neg h1] at hE
      refine w_n 3 (pc1 := 32) (ls1 := [some (.ref 67), some (.int x1), some (.int y2), some (.int y3), some (.int y4), o5]) (st1 := [.int y4, .int x1, .ref 67]) (hp1 := (hz F A L)) rfl ?_
      refine w_c rfl rfl (t_km_likesBy ?_)
      show wl_E f _ _ mm194.2.2.2.2.2.2.2.2 35 [some (.ref 67), some (.int x1), some (.int y2), some (.int y3), some (.int y4), o5] [.int (km_likesBy f (F 67 3) (F 67 17) (A 68) (A 78) (A 79) (A 80) (A 81) (A 82) (A 83) (A 84) x1 y4).1] (hz F (uA (uA A 83 (km_likesBy f (F 67 3) (F 67 17) (A 68) (A 78) (A 79) (A 80) (A 81) (A 82) (A 83) (A 84) x1 y4).2.1) 84 (km_likesBy f (F 67 3) (F 67 17) (A 68) (A 78) (A 79) (A 80) (A 81) (A 82) (A 83) (A 84) x1 y4).2.2) L) _
      generalize hG391 : (km_likesBy f (F 67 3) (F 67 17) (A 68) (A 78) (A 79) (A 80) (A 81) (A 82) (A 83) (A 84) x1 y4) = G391 at hE ⊢
      refine w_n 3 (pc1 := 40) (ls1 := [some (.ref 67), some (.int x1), some (.int y2), some (.int y3), some (.int y4), some (.int G391.1)]) (st1 := [.int y3, .int G391.1]) (hp1 := (hz F (uA (uA A 83 G391.2.1) 84 G391.2.2) L)) rfl ?_
      refine w_gt (p3 := 43) rfl rfl (fun h => ?_) (fun h => ?_)
      · have h2 : y3.toInt < G391.1.toInt := h
        rw [if_pos h2] at hE
        refine w_n 6 (pc1 := 8) (ls1 := [some (.ref 67), some (.int x1), some (.int y4), some (.int G391.1), some (.int (y4 + 1)), some (.int G391.1)]) (st1 := []) (hp1 := (hz F (uA (uA A 83 G391.2.1) 84 G391.2.2) L)) rfl ?_
        subst T
        have hb2 := i_up (B := (12 : Int32)) hb
        have hb3 : y4.toInt < 12 := hb
        exact ih (show m = (12 - (y4 + 1).toInt).toNat by rw [hb2]; omega) (fun q3 q4 q5 => cvE rfl (funext fun q => if k0 : q = 83 then by subst k0; exact Eq.trans (b := (km_asks_8 f (F 67 3) (F 67 17) (A 68) (A 78) (A 79) (A 80) (A 81) (A 82) x1 m y4 G391.1 (y4 + 1) G391.2.1 G391.2.2).2.1) rfl rfl else if k1 : q = 84 then by subst k1; exact Eq.trans (b := (km_asks_8 f (F 67 3) (F 67 17) (A 68) (A 78) (A 79) (A 80) (A 81) (A 82) x1 m y4 G391.1 (y4 + 1) G391.2.1 G391.2.2).2.2) rfl rfl else by unfold uA; simp only [nb1 k0, nb1 k1, cond_false]) rfl (K q3 q4 q5))
      · have h2 : G391.1.toInt ≤ y3.toInt := h
        rw [if_neg (Int.not_lt.mpr h2)] at hE
        refine w_n 3 (pc1 := 8) (ls1 := [some (.ref 67), some (.int x1), some (.int y2), some (.int y3), some (.int (y4 + 1)), some (.int G391.1)]) (st1 := []) (hp1 := (hz F (uA (uA A 83 G391.2.1) 84 G391.2.2) L)) rfl ?_
        subst T
        have hb2 := i_up (B := (12 : Int32)) hb
        have hb3 : y4.toInt < 12 := hb
        exact ih (show m = (12 - (y4 + 1).toInt).toNat by rw [hb2]; omega) (fun q3 q4 q5 => cvE rfl (funext fun q => if k0 : q = 83 then by subst k0; exact Eq.trans (b := (km_asks_8 f (F 67 3) (F 67 17) (A 68) (A 78) (A 79) (A 80) (A 81) (A 82) x1 m y2 y3 (y4 + 1) G391.2.1 G391.2.2).2.1) rfl rfl else if k1 : q = 84 then by subst k1; exact Eq.trans (b := (km_asks_8 f (F 67 3) (F 67 17) (A 68) (A 78) (A 79) (A 80) (A 81) (A 82) x1 m y2 y3 (y4 + 1) G391.2.1 G391.2.2).2.2) rfl rfl else by unfold uA; simp only [nb1 k0, nb1 k1, cond_false]) rfl (K q3 q4 q5))
    · have h1 : G378 = 0 := h
      rw [if_pos h1] at hE
      refine w_n 3 (pc1 := 8) (ls1 := [some (.ref 67), some (.int x1), some (.int y2), some (.int y3), some (.int (y4 + 1)), o5]) (st1 := []) (hp1 := (hz F A L)) rfl ?_
      subst T
      have hb2 := i_up (B := (12 : Int32)) hb
      have hb3 : y4.toInt < 12 := hb
      exact ih (show m = (12 - (y4 + 1).toInt).toNat by rw [hb2]; omega) (fun q3 q4 q5 => cvE rfl (funext fun q => if k0 : q = 83 then by subst k0; exact Eq.trans (b := (km_asks_8 f (F 67 3) (F 67 17) (A 68) (A 78) (A 79) (A 80) (A 81) (A 82) x1 m y2 y3 (y4 + 1) (A 83) (A 84)).2.1) rfl rfl else if k1 : q = 84 then by subst k1; exact Eq.trans (b := (km_asks_8 f (F 67 3) (F 67 17) (A 68) (A 78) (A 79) (A 80) (A 81) (A 82) x1 m y2 y3 (y4 + 1) (A 83) (A 84)).2.2) rfl rfl else by unfold uA; simp only [nb1 k0, nb1 k1, cond_false]) rfl (K q3 q4 q5))
noncomputable def km_asks (f : Nat) (f67_3 : Int32) (f67_17 : Int32) (a68 : List Int32) (a78 : List Int32) (a79 : List Int32) (a80 : List Int32) (a81 : List Int32) (a82 : List Int32) (a83 : List Int32) (a84 : List Int32) (x1 : Int32) : Int32 × List Int32 × List Int32 := ((km_asks_8 f f67_3 f67_17 a68 a78 a79 a80 a81 a82 x1 12 (-2) 0 0 a83 a84).1, (km_asks_8 f f67_3 f67_17 a68 a78 a79 a80 a81 a82 x1 12 (-2) 0 0 a83 a84).2.1, (km_asks_8 f f67_3 f67_17 a68 a78 a79 a80 a81 a82 x1 12 (-2) 0 0 a83 a84).2.2)
theorem t_km_asks {f D : Nat} {F : Nat → Nat → Int32} {A : Nat → List Int32} {L : Nat → List Int64} {Q : Option Value → sm_H → Prop} {x1 : Int32} (K : Q (some (.int ((km_asks f (F 67 3) (F 67 17) (A 68) (A 78) (A 79) (A 80) (A 81) (A 82) (A 83) (A 84) x1).1))) (hz F (uA (uA A 83 ((km_asks f (F 67 3) (F 67 17) (A 68) (A 78) (A 79) (A 80) (A 81) (A 82) (A 83) (A 84) x1).2.1)) 84 ((km_asks f (F 67 3) (F 67 17) (A 68) (A 78) (A 79) (A 80) (A 81) (A 82) (A 83) (A 84) x1).2.2)) L)) : wl_M f D 194 [.ref 67, .int x1] (hz F A L) Q := by
  generalize hT : (km_asks f (F 67 3) (F 67 17) (A 68) (A 78) (A 79) (A 80) (A 81) (A 82) (A 83) (A 84) x1) = T at K
  have hE : T = ((km_asks_8 f (F 67 3) (F 67 17) (A 68) (A 78) (A 79) (A 80) (A 81) (A 82) x1 12 (-2) 0 0 (A 83) (A 84)).1, (km_asks_8 f (F 67 3) (F 67 17) (A 68) (A 78) (A 79) (A 80) (A 81) (A 82) x1 12 (-2) 0 0 (A 83) (A 84)).2.1, (km_asks_8 f (F 67 3) (F 67 17) (A 68) (A 78) (A 79) (A 80) (A 81) (A 82) x1 12 (-2) 0 0 (A 83) (A 84)).2.2) := hT.symm
  clear hT
  refine w_m (E := mm194) rfl ?_
  show wl_E f f (D - 1) mm194.2.2.2.2.2.2.2.2 0 [some (.ref 67), some (.int x1), none, none, none, none] [] (hz F A L) Q
  refine w_n 6 (pc1 := 8) (ls1 := [some (.ref 67), some (.int x1), some (.int (-2)), some (.int 0), some (.int 0), none]) (st1 := []) (hp1 := (hz F A L)) rfl ?_
  refine t_km_asks_8 12 (show (12 : Nat) = (12 - (0 : Int32).toInt).toNat by have e0 : (0 : Int32).toInt = 0 := rfl; first | rfl | omega) ?_
  intro r1 r2 r3
  show wl_E f _ _ mm194.2.2.2.2.2.2.2.2 58 [some (.ref 67), some (.int x1), some (.int (km_asks_8 f (F 67 3) (F 67 17) (A 68) (A 78) (A 79) (A 80) (A 81) (A 82) x1 12 (-2) 0 0 (A 83) (A 84)).1), some (.int r1), some (.int r2), r3] [] (hz F (uA (uA A 83 (km_asks_8 f (F 67 3) (F 67 17) (A 68) (A 78) (A 79) (A 80) (A 81) (A 82) x1 12 (-2) 0 0 (A 83) (A 84)).2.1) 84 (km_asks_8 f (F 67 3) (F 67 17) (A 68) (A 78) (A 79) (A 80) (A 81) (A 82) x1 12 (-2) 0 0 (A 83) (A 84)).2.2) L) _
  generalize hG392 : (km_asks_8 f (F 67 3) (F 67 17) (A 68) (A 78) (A 79) (A 80) (A 81) (A 82) x1 12 (-2) 0 0 (A 83) (A 84)) = G392 at hE ⊢
  refine w_n 1 (pc1 := 59) (ls1 := [some (.ref 67), some (.int x1), some (.int G392.1), some (.int r1), some (.int r2), r3]) (st1 := [.int G392.1]) (hp1 := (hz F (uA (uA A 83 G392.2.1) 84 G392.2.2) L)) rfl ?_
  subst T
  exact w_ri rfl (cvQ rfl rfl rfl K)
noncomputable def km_changesMother_23 (f : Nat) (f67_3 : Int32) (f67_17 : Int32) (a68 : List Int32) (a78 : List Int32) (a79 : List Int32) (a80 : List Int32) (a81 : List Int32) (a82 : List Int32) (x1 : Int32) : Nat → Int32 → List Int32 → List Int32 → List Int32 → List Int32 × List Int32 × List Int32
  | 0, _, a83, a84, a86 => (a83, a84, a86)
  | m + 1, y2, a83, a84, a86 => (if (km_has x1 y2) = 0 then (km_changesMother_23 f f67_3 f67_17 a68 a78 a79 a80 a81 a82 x1 m (y2 + 1) a83 a84 a86) else (if (km_asks f f67_3 f67_17 a68 a78 a79 a80 a81 a82 a83 a84 y2).1.toInt < 0 then (km_changesMother_23 f f67_3 f67_17 a68 a78 a79 a80 a81 a82 x1 m (y2 + 1) (km_asks f f67_3 f67_17 a68 a78 a79 a80 a81 a82 a83 a84 y2).2.1 (km_asks f f67_3 f67_17 a68 a78 a79 a80 a81 a82 a83 a84 y2).2.2 a86) else (km_changesMother_23 f f67_3 f67_17 a68 a78 a79 a80 a81 a82 x1 m (y2 + 1) (km_asks f f67_3 f67_17 a68 a78 a79 a80 a81 a82 a83 a84 y2).2.1 (km_asks f f67_3 f67_17 a68 a78 a79 a80 a81 a82 a83 a84 y2).2.2 (a86.set (km_asks f f67_3 f67_17 a68 a78 a79 a80 a81 a82 a83 a84 y2).1.toInt.toNat ((a86.getD (km_asks f f67_3 f67_17 a68 a78 a79 a80 a81 a82 a83 a84 y2).1.toInt.toNat 0) + (a68.getD (12 + y2).toInt.toNat 0))))))
theorem t_km_changesMother_23 {f : Nat} {Q : Option Value → sm_H → Prop} : ∀ (m : Nat) {B D : Nat} {F : Nat → Nat → Int32} {A : Nat → List Int32} {L : Nat → List Int64} {x1 : Int32} {y2 : Int32} {o3 : Option Value} {o4 : Option Value} {o5 : Option Value} {o6 : Option Value}, m = (12 - y2.toInt).toNat → (∀ q2 : Int32, ∀ q3 : Option Value, wl_E f B D mm193.2.2.2.2.2.2.2.2 78 [some (.ref 67), some (.int x1), some (.int q2), q3, o4, o5, o6] [] (hz F (uA (uA (uA A 83 ((km_changesMother_23 f (F 67 3) (F 67 17) (A 68) (A 78) (A 79) (A 80) (A 81) (A 82) x1 m y2 (A 83) (A 84) (A 86)).1)) 84 ((km_changesMother_23 f (F 67 3) (F 67 17) (A 68) (A 78) (A 79) (A 80) (A 81) (A 82) x1 m y2 (A 83) (A 84) (A 86)).2.1)) 86 ((km_changesMother_23 f (F 67 3) (F 67 17) (A 68) (A 78) (A 79) (A 80) (A 81) (A 82) x1 m y2 (A 83) (A 84) (A 86)).2.2)) L) Q) → wl_E f B D mm193.2.2.2.2.2.2.2.2 23 [some (.ref 67), some (.int x1), some (.int y2), o3, o4, o5, o6] [] (hz F A L) Q := by
  intro m
  induction m with
  | zero =>
    intro B D F A L x1 y2 o3 o4 o5 o6 hm K
    generalize hT : (km_changesMother_23 f (F 67 3) (F 67 17) (A 68) (A 78) (A 79) (A 80) (A 81) (A 82) x1 0 y2 (A 83) (A 84) (A 86)) = T at K
    have hE : T = ((A 83), (A 84), (A 86)) := hT.symm
    clear hT
    refine w_n 2 (pc1 := 26) (ls1 := [some (.ref 67), some (.int x1), some (.int y2), o3, o4, o5, o6]) (st1 := [.int 12, .int y2]) (hp1 := (hz F A L)) rfl ?_
    refine w_ge (p3 := 29) rfl rfl (fun hb => ?_) (fun h => False.elim (by have h : y2.toInt < 12 := h; omega))
    subst T
    exact cvE rfl (funext fun q => if k0 : q = 83 then by subst k0; exact Eq.trans (b := (A 83)) rfl rfl else if k1 : q = 84 then by subst k1; exact Eq.trans (b := (A 84)) rfl rfl else if k2 : q = 86 then by subst k2; exact Eq.trans (b := (A 86)) rfl rfl else by unfold uA; simp only [nb1 k0, nb1 k1, nb1 k2, cond_false]) rfl (K _ _)
  | succ m ih =>
    intro B D F A L x1 y2 o3 o4 o5 o6 hm K
    generalize hT : (km_changesMother_23 f (F 67 3) (F 67 17) (A 68) (A 78) (A 79) (A 80) (A 81) (A 82) x1 (m + 1) y2 (A 83) (A 84) (A 86)) = T at K
    have hE : T = (if (km_has x1 y2) = 0 then (km_changesMother_23 f (F 67 3) (F 67 17) (A 68) (A 78) (A 79) (A 80) (A 81) (A 82) x1 m (y2 + 1) (A 83) (A 84) (A 86)) else (if (km_asks f (F 67 3) (F 67 17) (A 68) (A 78) (A 79) (A 80) (A 81) (A 82) (A 83) (A 84) y2).1.toInt < 0 then (km_changesMother_23 f (F 67 3) (F 67 17) (A 68) (A 78) (A 79) (A 80) (A 81) (A 82) x1 m (y2 + 1) (km_asks f (F 67 3) (F 67 17) (A 68) (A 78) (A 79) (A 80) (A 81) (A 82) (A 83) (A 84) y2).2.1 (km_asks f (F 67 3) (F 67 17) (A 68) (A 78) (A 79) (A 80) (A 81) (A 82) (A 83) (A 84) y2).2.2 (A 86)) else (km_changesMother_23 f (F 67 3) (F 67 17) (A 68) (A 78) (A 79) (A 80) (A 81) (A 82) x1 m (y2 + 1) (km_asks f (F 67 3) (F 67 17) (A 68) (A 78) (A 79) (A 80) (A 81) (A 82) (A 83) (A 84) y2).2.1 (km_asks f (F 67 3) (F 67 17) (A 68) (A 78) (A 79) (A 80) (A 81) (A 82) (A 83) (A 84) y2).2.2 ((A 86).set (km_asks f (F 67 3) (F 67 17) (A 68) (A 78) (A 79) (A 80) (A 81) (A 82) (A 83) (A 84) y2).1.toInt.toNat (((A 86).getD (km_asks f (F 67 3) (F 67 17) (A 68) (A 78) (A 79) (A 80) (A 81) (A 82) (A 83) (A 84) y2).1.toInt.toNat 0) + ((A 68).getD (12 + y2).toInt.toNat 0)))))) := hT.symm
    clear hT
    refine w_n 2 (pc1 := 26) (ls1 := [some (.ref 67), some (.int x1), some (.int y2), o3, o4, o5, o6]) (st1 := [.int 12, .int y2]) (hp1 := (hz F A L)) rfl ?_
    refine w_ge (p3 := 29) rfl rfl (fun h => False.elim (by have h : 12 ≤ y2.toInt := h; omega)) (fun hb => ?_)
    refine w_n 2 (pc1 := 31) (ls1 := [some (.ref 67), some (.int x1), some (.int y2), o3, o4, o5, o6]) (st1 := [.int y2, .int x1]) (hp1 := (hz F A L)) rfl ?_
    refine w_c rfl rfl (t_km_has ?_)
    show wl_E f _ _ mm193.2.2.2.2.2.2.2.2 34 [some (.ref 67), some (.int x1), some (.int y2), o3, o4, o5, o6] [.int (km_has x1 y2)] (hz F A L) _
    generalize hG375 : (km_has x1 y2) = G375 at hE ⊢
    refine w_zne (p3 := 37) rfl rfl (fun h => ?_) (fun h => ?_)
    · have h1 : ¬ G375 = 0 := h
      rw [if_neg h1] at hE
      refine w_n 2 (pc1 := 42) (ls1 := [some (.ref 67), some (.int x1), some (.int y2), o3, o4, o5, o6]) (st1 := [.int y2, .ref 67]) (hp1 := (hz F A L)) rfl ?_
      refine w_c rfl rfl (t_km_asks ?_)
      show wl_E f _ _ mm193.2.2.2.2.2.2.2.2 45 [some (.ref 67), some (.int x1), some (.int y2), o3, o4, o5, o6] [.int (km_asks f (F 67 3) (F 67 17) (A 68) (A 78) (A 79) (A 80) (A 81) (A 82) (A 83) (A 84) y2).1] (hz F (uA (uA A 83 (km_asks f (F 67 3) (F 67 17) (A 68) (A 78) (A 79) (A 80) (A 81) (A 82) (A 83) (A 84) y2).2.1) 84 (km_asks f (F 67 3) (F 67 17) (A 68) (A 78) (A 79) (A 80) (A 81) (A 82) (A 83) (A 84) y2).2.2) L) _
      generalize hG393 : (km_asks f (F 67 3) (F 67 17) (A 68) (A 78) (A 79) (A 80) (A 81) (A 82) (A 83) (A 84) y2) = G393 at hE ⊢
      refine w_n 2 (pc1 := 47) (ls1 := [some (.ref 67), some (.int x1), some (.int y2), some (.int G393.1), o4, o5, o6]) (st1 := [.int G393.1]) (hp1 := (hz F (uA (uA A 83 G393.2.1) 84 G393.2.2) L)) rfl ?_
      refine w_zlt (p3 := 50) rfl rfl (fun h => ?_) (fun h => ?_)
      · have h2 : G393.1.toInt < 0 := h
        rw [if_pos h2] at hE
        refine w_n 2 (pc1 := 23) (ls1 := [some (.ref 67), some (.int x1), some (.int (y2 + 1)), some (.int G393.1), o4, o5, o6]) (st1 := []) (hp1 := (hz F (uA (uA A 83 G393.2.1) 84 G393.2.2) L)) rfl ?_
        subst T
        have hb2 := i_up (B := (12 : Int32)) hb
        have hb3 : y2.toInt < 12 := hb
        exact ih (show m = (12 - (y2 + 1).toInt).toNat by rw [hb2]; omega) (fun q2 q3 => cvE rfl (funext fun q => if k0 : q = 83 then by subst k0; exact Eq.trans (b := (km_changesMother_23 f (F 67 3) (F 67 17) (A 68) (A 78) (A 79) (A 80) (A 81) (A 82) x1 m (y2 + 1) G393.2.1 G393.2.2 (A 86)).1) rfl rfl else if k1 : q = 84 then by subst k1; exact Eq.trans (b := (km_changesMother_23 f (F 67 3) (F 67 17) (A 68) (A 78) (A 79) (A 80) (A 81) (A 82) x1 m (y2 + 1) G393.2.1 G393.2.2 (A 86)).2.1) rfl rfl else if k2 : q = 86 then by subst k2; exact Eq.trans (b := (km_changesMother_23 f (F 67 3) (F 67 17) (A 68) (A 78) (A 79) (A 80) (A 81) (A 82) x1 m (y2 + 1) G393.2.1 G393.2.2 (A 86)).2.2) rfl rfl else by unfold uA; simp only [nb1 k0, nb1 k1, nb1 k2, cond_false]) rfl (K q2 q3))
      · have h2 : 0 ≤ G393.1.toInt := h
        rw [if_neg (Int.not_lt.mpr h2)] at hE
        refine w_n 6 (pc1 := 60) (ls1 := [some (.ref 67), some (.int x1), some (.int y2), some (.int G393.1), o4, o5, o6]) (st1 := [.int G393.1, .ref 86, .int G393.1, .ref 86]) (hp1 := (hz F (uA (uA A 83 G393.2.1) 84 G393.2.2) L)) rfl ?_
        refine w_al (k := 86) (l := (A 86)) rfl rfl rfl (fun _ => ?_)
        refine w_n 5 (pc1 := 69) (ls1 := [some (.ref 67), some (.int x1), some (.int y2), some (.int G393.1), o4, o5, o6]) (st1 := [.int (12 + y2), .ref 68, .int ((A 86).getD G393.1.toInt.toNat 0), .int G393.1, .ref 86]) (hp1 := (hz F (uA (uA A 83 G393.2.1) 84 G393.2.2) L)) rfl ?_
        refine w_al (k := 68) (l := (A 68)) rfl rfl rfl (fun _ => ?_)
        refine w_n 1 (pc1 := 71) (ls1 := [some (.ref 67), some (.int x1), some (.int y2), some (.int G393.1), o4, o5, o6]) (st1 := [.int (((A 86).getD G393.1.toInt.toNat 0) + ((A 68).getD (12 + y2).toInt.toNat 0)), .int G393.1, .ref 86]) (hp1 := (hz F (uA (uA A 83 G393.2.1) 84 G393.2.2) L)) rfl ?_
        refine w_as (k := 86) (l := (A 86)) (hp1 := (hz F (uA (uA (uA A 83 G393.2.1) 84 G393.2.2) 86 ((A 86).set G393.1.toInt.toNat (((A 86).getD G393.1.toInt.toNat 0) + ((A 68).getD (12 + y2).toInt.toNat 0)))) L)) rfl rfl rfl (hz_s86 _) (fun _ => ?_)
        refine w_n 2 (pc1 := 23) (ls1 := [some (.ref 67), some (.int x1), some (.int (y2 + 1)), some (.int G393.1), o4, o5, o6]) (st1 := []) (hp1 := (hz F (uA (uA (uA A 83 G393.2.1) 84 G393.2.2) 86 ((A 86).set G393.1.toInt.toNat (((A 86).getD G393.1.toInt.toNat 0) + ((A 68).getD (12 + y2).toInt.toNat 0)))) L)) rfl ?_
        subst T
        have hb2 := i_up (B := (12 : Int32)) hb
        have hb3 : y2.toInt < 12 := hb
        exact ih (show m = (12 - (y2 + 1).toInt).toNat by rw [hb2]; omega) (fun q2 q3 => cvE rfl (funext fun q => if k0 : q = 83 then by subst k0; exact Eq.trans (b := (km_changesMother_23 f (F 67 3) (F 67 17) (A 68) (A 78) (A 79) (A 80) (A 81) (A 82) x1 m (y2 + 1) G393.2.1 G393.2.2 ((A 86).set G393.1.toInt.toNat (((A 86).getD G393.1.toInt.toNat 0) + ((A 68).getD (12 + y2).toInt.toNat 0)))).1) rfl rfl else if k1 : q = 84 then by subst k1; exact Eq.trans (b := (km_changesMother_23 f (F 67 3) (F 67 17) (A 68) (A 78) (A 79) (A 80) (A 81) (A 82) x1 m (y2 + 1) G393.2.1 G393.2.2 ((A 86).set G393.1.toInt.toNat (((A 86).getD G393.1.toInt.toNat 0) + ((A 68).getD (12 + y2).toInt.toNat 0)))).2.1) rfl rfl else if k2 : q = 86 then by subst k2; exact Eq.trans (b := (km_changesMother_23 f (F 67 3) (F 67 17) (A 68) (A 78) (A 79) (A 80) (A 81) (A 82) x1 m (y2 + 1) G393.2.1 G393.2.2 ((A 86).set G393.1.toInt.toNat (((A 86).getD G393.1.toInt.toNat 0) + ((A 68).getD (12 + y2).toInt.toNat 0)))).2.2) rfl rfl else by unfold uA; simp only [nb1 k0, nb1 k1, nb1 k2, cond_false]) rfl (K q2 q3))
    · have h1 : G375 = 0 := h
      rw [if_pos h1] at hE
      refine w_n 3 (pc1 := 23) (ls1 := [some (.ref 67), some (.int x1), some (.int (y2 + 1)), o3, o4, o5, o6]) (st1 := []) (hp1 := (hz F A L)) rfl ?_
      subst T
      have hb2 := i_up (B := (12 : Int32)) hb
      have hb3 : y2.toInt < 12 := hb
      exact ih (show m = (12 - (y2 + 1).toInt).toNat by rw [hb2]; omega) (fun q2 q3 => cvE rfl (funext fun q => if k0 : q = 83 then by subst k0; exact Eq.trans (b := (km_changesMother_23 f (F 67 3) (F 67 17) (A 68) (A 78) (A 79) (A 80) (A 81) (A 82) x1 m (y2 + 1) (A 83) (A 84) (A 86)).1) rfl rfl else if k1 : q = 84 then by subst k1; exact Eq.trans (b := (km_changesMother_23 f (F 67 3) (F 67 17) (A 68) (A 78) (A 79) (A 80) (A 81) (A 82) x1 m (y2 + 1) (A 83) (A 84) (A 86)).2.1) rfl rfl else if k2 : q = 86 then by subst k2; exact Eq.trans (b := (km_changesMother_23 f (F 67 3) (F 67 17) (A 68) (A 78) (A 79) (A 80) (A 81) (A 82) x1 m (y2 + 1) (A 83) (A 84) (A 86)).2.2) rfl rfl else by unfold uA; simp only [nb1 k0, nb1 k1, nb1 k2, cond_false]) rfl (K q2 q3))
noncomputable def km_changesMother_95 (a68 : List Int32) (a86 : List Int32)  : Nat → Int32 → Int32 → Int32 → Int32 → Int32
  | 0, y2, _, _, _ => y2
  | m + 1, y2, y3, y4, y5 => (if y5 = (a68.getD 145 0) then (if (a86.getD y5.toInt.toNat 0).toInt < y3.toInt then (km_changesMother_95 a68 a86 m y2 y3 y4 (y5 + 1)) else (if (a86.getD y5.toInt.toNat 0) = 0 then (km_changesMother_95 a68 a86 m y2 y3 y4 (y5 + 1)) else (if (a86.getD y5.toInt.toNat 0) = y3 then (if y4.toInt < 12 then (km_changesMother_95 a68 a86 m y2 y3 y4 (y5 + 1)) else (km_changesMother_95 a68 a86 m y5 (a86.getD y5.toInt.toNat 0) 12 (y5 + 1))) else (km_changesMother_95 a68 a86 m y5 (a86.getD y5.toInt.toNat 0) 12 (y5 + 1))))) else (if (a86.getD y5.toInt.toNat 0).toInt < y3.toInt then (km_changesMother_95 a68 a86 m y2 y3 y4 (y5 + 1)) else (if (a86.getD y5.toInt.toNat 0) = 0 then (km_changesMother_95 a68 a86 m y2 y3 y4 (y5 + 1)) else (if (a86.getD y5.toInt.toNat 0) = y3 then (if y4.toInt < (km_leftOf a68 (a68.getD 145 0) y5).toInt then (km_changesMother_95 a68 a86 m y2 y3 y4 (y5 + 1)) else (km_changesMother_95 a68 a86 m y5 (a86.getD y5.toInt.toNat 0) (km_leftOf a68 (a68.getD 145 0) y5) (y5 + 1))) else (km_changesMother_95 a68 a86 m y5 (a86.getD y5.toInt.toNat 0) (km_leftOf a68 (a68.getD 145 0) y5) (y5 + 1))))))
theorem t_km_changesMother_95 {f : Nat} {Q : Option Value → sm_H → Prop} : ∀ (m : Nat) {B D : Nat} {F : Nat → Nat → Int32} {A : Nat → List Int32} {L : Nat → List Int64} {x1 : Int32} {y2 : Int32} {y3 : Int32} {y4 : Int32} {y5 : Int32} {o6 : Option Value}, m = (12 - y5.toInt).toNat → (∀ q3 : Int32, ∀ q4 : Int32, ∀ q5 : Int32, ∀ q6 : Option Value, wl_E f B D mm193.2.2.2.2.2.2.2.2 199 [some (.ref 67), some (.int x1), some (.int (km_changesMother_95 (A 68) (A 86) m y2 y3 y4 y5)), some (.int q3), some (.int q4), some (.int q5), q6] [] (hz F A L) Q) → wl_E f B D mm193.2.2.2.2.2.2.2.2 95 [some (.ref 67), some (.int x1), some (.int y2), some (.int y3), some (.int y4), some (.int y5), o6] [] (hz F A L) Q := by
  intro m
  induction m with
  | zero =>
    intro B D F A L x1 y2 y3 y4 y5 o6 hm K
    generalize hT : (km_changesMother_95 (A 68) (A 86) 0 y2 y3 y4 y5) = T at K
    have hE : T = y2 := hT.symm
    clear hT
    refine w_n 2 (pc1 := 99) (ls1 := [some (.ref 67), some (.int x1), some (.int y2), some (.int y3), some (.int y4), some (.int y5), o6]) (st1 := [.int 12, .int y5]) (hp1 := (hz F A L)) rfl ?_
    refine w_ge (p3 := 102) rfl rfl (fun hb => ?_) (fun h => False.elim (by have h : y5.toInt < 12 := h; omega))
    subst T
    exact cvE rfl rfl rfl (K _ _ _ _)
  | succ m ih =>
    intro B D F A L x1 y2 y3 y4 y5 o6 hm K
    generalize hT : (km_changesMother_95 (A 68) (A 86) (m + 1) y2 y3 y4 y5) = T at K
    have hE : T = (if y5 = ((A 68).getD 145 0) then (if ((A 86).getD y5.toInt.toNat 0).toInt < y3.toInt then (km_changesMother_95 (A 68) (A 86) m y2 y3 y4 (y5 + 1)) else (if ((A 86).getD y5.toInt.toNat 0) = 0 then (km_changesMother_95 (A 68) (A 86) m y2 y3 y4 (y5 + 1)) else (if ((A 86).getD y5.toInt.toNat 0) = y3 then (if y4.toInt < 12 then (km_changesMother_95 (A 68) (A 86) m y2 y3 y4 (y5 + 1)) else (km_changesMother_95 (A 68) (A 86) m y5 ((A 86).getD y5.toInt.toNat 0) 12 (y5 + 1))) else (km_changesMother_95 (A 68) (A 86) m y5 ((A 86).getD y5.toInt.toNat 0) 12 (y5 + 1))))) else (if ((A 86).getD y5.toInt.toNat 0).toInt < y3.toInt then (km_changesMother_95 (A 68) (A 86) m y2 y3 y4 (y5 + 1)) else (if ((A 86).getD y5.toInt.toNat 0) = 0 then (km_changesMother_95 (A 68) (A 86) m y2 y3 y4 (y5 + 1)) else (if ((A 86).getD y5.toInt.toNat 0) = y3 then (if y4.toInt < (km_leftOf (A 68) ((A 68).getD 145 0) y5).toInt then (km_changesMother_95 (A 68) (A 86) m y2 y3 y4 (y5 + 1)) else (km_changesMother_95 (A 68) (A 86) m y5 ((A 86).getD y5.toInt.toNat 0) (km_leftOf (A 68) ((A 68).getD 145 0) y5) (y5 + 1))) else (km_changesMother_95 (A 68) (A 86) m y5 ((A 86).getD y5.toInt.toNat 0) (km_leftOf (A 68) ((A 68).getD 145 0) y5) (y5 + 1)))))) := hT.symm
    clear hT
    refine w_n 2 (pc1 := 99) (ls1 := [some (.ref 67), some (.int x1), some (.int y2), some (.int y3), some (.int y4), some (.int y5), o6]) (st1 := [.int 12, .int y5]) (hp1 := (hz F A L)) rfl ?_
    refine w_ge (p3 := 102) rfl rfl (fun h => False.elim (by have h : 12 ≤ y5.toInt := h; omega)) (fun hb => ?_)
    refine w_n 4 (pc1 := 111) (ls1 := [some (.ref 67), some (.int x1), some (.int y2), some (.int y3), some (.int y4), some (.int y5), o6]) (st1 := [.int 145, .ref 68, .int y5]) (hp1 := (hz F A L)) rfl ?_
    refine w_al (k := 68) (l := (A 68)) rfl rfl rfl (fun _ => ?_)
    refine w_ne (p3 := 115) rfl rfl (fun h => ?_) (fun h => ?_)
    · have h1 : ¬ y5 = ((A 68).getD 145 0) := h
      rw [if_neg h1] at hE
      refine w_n 4 (pc1 := 128) (ls1 := [some (.ref 67), some (.int x1), some (.int y2), some (.int y3), some (.int y4), some (.int y5), o6]) (st1 := [.int 145, .ref 68, .ref 67]) (hp1 := (hz F A L)) rfl ?_
      refine w_al (k := 68) (l := (A 68)) rfl rfl rfl (fun _ => ?_)
      refine w_n 1 (pc1 := 131) (ls1 := [some (.ref 67), some (.int x1), some (.int y2), some (.int y3), some (.int y4), some (.int y5), o6]) (st1 := [.int y5, .int ((A 68).getD 145 0), .ref 67]) (hp1 := (hz F A L)) rfl ?_
      refine w_c rfl rfl (t_km_leftOf ?_)
      show wl_E f _ _ mm193.2.2.2.2.2.2.2.2 134 [some (.ref 67), some (.int x1), some (.int y2), some (.int y3), some (.int y4), some (.int y5), o6] [.int (km_leftOf (A 68) ((A 68).getD 145 0) y5)] (hz F A L) _
      generalize hG395 : (km_leftOf (A 68) ((A 68).getD 145 0) y5) = G395 at hE ⊢
      refine w_n 4 (pc1 := 142) (ls1 := [some (.ref 67), some (.int x1), some (.int y2), some (.int y3), some (.int y4), some (.int y5), some (.int G395)]) (st1 := [.int y5, .ref 86]) (hp1 := (hz F A L)) rfl ?_
      refine w_al (k := 86) (l := (A 86)) rfl rfl rfl (fun ab => ?_)
      refine w_n 1 (pc1 := 144) (ls1 := [some (.ref 67), some (.int x1), some (.int y2), some (.int y3), some (.int y4), some (.int y5), some (.int G395)]) (st1 := [.int y3, .int ((A 86).getD y5.toInt.toNat 0)]) (hp1 := (hz F A L)) rfl ?_
      refine w_lt (p3 := 147) rfl rfl (fun h => ?_) (fun h => ?_)
      · have h2 : ((A 86).getD y5.toInt.toNat 0).toInt < y3.toInt := h
        rw [if_pos h2] at hE
        refine w_n 2 (pc1 := 95) (ls1 := [some (.ref 67), some (.int x1), some (.int y2), some (.int y3), some (.int y4), some (.int (y5 + 1)), some (.int G395)]) (st1 := []) (hp1 := (hz F A L)) rfl ?_
        subst T
        have hb2 := i_up (B := (12 : Int32)) hb
        have hb3 : y5.toInt < 12 := hb
        exact ih (show m = (12 - (y5 + 1).toInt).toNat by rw [hb2]; omega) (fun q3 q4 q5 q6 => cvE rfl rfl rfl (K q3 q4 q5 q6))
      · have h2 : y3.toInt ≤ ((A 86).getD y5.toInt.toNat 0).toInt := h
        rw [if_neg (Int.not_lt.mpr h2)] at hE
        refine w_n 3 (pc1 := 153) (ls1 := [some (.ref 67), some (.int x1), some (.int y2), some (.int y3), some (.int y4), some (.int y5), some (.int G395)]) (st1 := [.int y5, .ref 86]) (hp1 := (hz F A L)) rfl ?_
        refine w_al (k := 86) (l := (A 86)) rfl rfl rfl (fun ab => ?_)
        refine w_zeq (p3 := 157) rfl rfl (fun h => ?_) (fun h => ?_)
        · have h3 : ((A 86).getD y5.toInt.toNat 0) = 0 := h
          rw [if_pos h3] at hE
          refine w_n 2 (pc1 := 95) (ls1 := [some (.ref 67), some (.int x1), some (.int y2), some (.int y3), some (.int y4), some (.int (y5 + 1)), some (.int G395)]) (st1 := []) (hp1 := (hz F A L)) rfl ?_
          subst T
          have hb2 := i_up (B := (12 : Int32)) hb
          have hb3 : y5.toInt < 12 := hb
          exact ih (show m = (12 - (y5 + 1).toInt).toNat by rw [hb2]; omega) (fun q3 q4 q5 q6 => cvE rfl rfl rfl (K q3 q4 q5 q6))
        · have h3 : ¬ ((A 86).getD y5.toInt.toNat 0) = 0 := h
          rw [if_neg h3] at hE
          refine w_n 3 (pc1 := 163) (ls1 := [some (.ref 67), some (.int x1), some (.int y2), some (.int y3), some (.int y4), some (.int y5), some (.int G395)]) (st1 := [.int y5, .ref 86]) (hp1 := (hz F A L)) rfl ?_
          refine w_al (k := 86) (l := (A 86)) rfl rfl rfl (fun ab => ?_)
          refine w_n 1 (pc1 := 165) (ls1 := [some (.ref 67), some (.int x1), some (.int y2), some (.int y3), some (.int y4), some (.int y5), some (.int G395)]) (st1 := [.int y3, .int ((A 86).getD y5.toInt.toNat 0)]) (hp1 := (hz F A L)) rfl ?_
          refine w_ne (p3 := 168) rfl rfl (fun h => ?_) (fun h => ?_)
          · have h4 : ¬ ((A 86).getD y5.toInt.toNat 0) = y3 := h
            rw [if_neg h4] at hE
            refine w_n 3 (pc1 := 184) (ls1 := [some (.ref 67), some (.int x1), some (.int y2), some (.int y3), some (.int y4), some (.int y5), some (.int G395)]) (st1 := [.int y5, .ref 86]) (hp1 := (hz F A L)) rfl ?_
            refine w_al (k := 86) (l := (A 86)) rfl rfl rfl (fun ab => ?_)
            refine w_n 7 (pc1 := 95) (ls1 := [some (.ref 67), some (.int x1), some (.int y5), some (.int ((A 86).getD y5.toInt.toNat 0)), some (.int G395), some (.int (y5 + 1)), some (.int G395)]) (st1 := []) (hp1 := (hz F A L)) rfl ?_
            subst T
            have hb2 := i_up (B := (12 : Int32)) hb
            have hb3 : y5.toInt < 12 := hb
            exact ih (show m = (12 - (y5 + 1).toInt).toNat by rw [hb2]; omega) (fun q3 q4 q5 q6 => cvE rfl rfl rfl (K q3 q4 q5 q6))
          · have h4 : ((A 86).getD y5.toInt.toNat 0) = y3 := h
            rw [if_pos h4] at hE
            refine w_n 2 (pc1 := 172) (ls1 := [some (.ref 67), some (.int x1), some (.int y2), some (.int y3), some (.int y4), some (.int y5), some (.int G395)]) (st1 := [.int y4, .int G395]) (hp1 := (hz F A L)) rfl ?_
            refine w_le (p3 := 175) rfl rfl (fun h => ?_) (fun h => ?_)
            · have h5 : G395.toInt ≤ y4.toInt := h
              rw [if_neg (Int.not_lt.mpr h5)] at hE
              refine w_n 3 (pc1 := 184) (ls1 := [some (.ref 67), some (.int x1), some (.int y2), some (.int y3), some (.int y4), some (.int y5), some (.int G395)]) (st1 := [.int y5, .ref 86]) (hp1 := (hz F A L)) rfl ?_
              refine w_al (k := 86) (l := (A 86)) rfl rfl rfl (fun ab => ?_)
              refine w_n 7 (pc1 := 95) (ls1 := [some (.ref 67), some (.int x1), some (.int y5), some (.int ((A 86).getD y5.toInt.toNat 0)), some (.int G395), some (.int (y5 + 1)), some (.int G395)]) (st1 := []) (hp1 := (hz F A L)) rfl ?_
              subst T
              have hb2 := i_up (B := (12 : Int32)) hb
              have hb3 : y5.toInt < 12 := hb
              exact ih (show m = (12 - (y5 + 1).toInt).toNat by rw [hb2]; omega) (fun q3 q4 q5 q6 => cvE rfl rfl rfl (K q3 q4 q5 q6))
            · have h5 : y4.toInt < G395.toInt := h
              rw [if_pos h5] at hE
              refine w_n 3 (pc1 := 95) (ls1 := [some (.ref 67), some (.int x1), some (.int y2), some (.int y3), some (.int y4), some (.int (y5 + 1)), some (.int G395)]) (st1 := []) (hp1 := (hz F A L)) rfl ?_
              subst T
              have hb2 := i_up (B := (12 : Int32)) hb
              have hb3 : y5.toInt < 12 := hb
              exact ih (show m = (12 - (y5 + 1).toInt).toNat by rw [hb2]; omega) (fun q3 q4 q5 q6 => cvE rfl rfl rfl (K q3 q4 q5 q6))
    · have h1 : y5 = ((A 68).getD 145 0) := h
      rw [if_pos h1] at hE
      refine w_n 6 (pc1 := 142) (ls1 := [some (.ref 67), some (.int x1), some (.int y2), some (.int y3), some (.int y4), some (.int y5), some (.int 12)]) (st1 := [.int y5, .ref 86]) (hp1 := (hz F A L)) rfl ?_
      refine w_al (k := 86) (l := (A 86)) rfl rfl rfl (fun ab => ?_)
      refine w_n 1 (pc1 := 144) (ls1 := [some (.ref 67), some (.int x1), some (.int y2), some (.int y3), some (.int y4), some (.int y5), some (.int 12)]) (st1 := [.int y3, .int ((A 86).getD y5.toInt.toNat 0)]) (hp1 := (hz F A L)) rfl ?_
      refine w_lt (p3 := 147) rfl rfl (fun h => ?_) (fun h => ?_)
      · have h6 : ((A 86).getD y5.toInt.toNat 0).toInt < y3.toInt := h
        rw [if_pos h6] at hE
        refine w_n 2 (pc1 := 95) (ls1 := [some (.ref 67), some (.int x1), some (.int y2), some (.int y3), some (.int y4), some (.int (y5 + 1)), some (.int 12)]) (st1 := []) (hp1 := (hz F A L)) rfl ?_
        subst T
        have hb2 := i_up (B := (12 : Int32)) hb
        have hb3 : y5.toInt < 12 := hb
        exact ih (show m = (12 - (y5 + 1).toInt).toNat by rw [hb2]; omega) (fun q3 q4 q5 q6 => cvE rfl rfl rfl (K q3 q4 q5 q6))
      · have h6 : y3.toInt ≤ ((A 86).getD y5.toInt.toNat 0).toInt := h
        rw [if_neg (Int.not_lt.mpr h6)] at hE
        refine w_n 3 (pc1 := 153) (ls1 := [some (.ref 67), some (.int x1), some (.int y2), some (.int y3), some (.int y4), some (.int y5), some (.int 12)]) (st1 := [.int y5, .ref 86]) (hp1 := (hz F A L)) rfl ?_
        refine w_al (k := 86) (l := (A 86)) rfl rfl rfl (fun ab => ?_)
        refine w_zeq (p3 := 157) rfl rfl (fun h => ?_) (fun h => ?_)
        · have h7 : ((A 86).getD y5.toInt.toNat 0) = 0 := h
          rw [if_pos h7] at hE
          refine w_n 2 (pc1 := 95) (ls1 := [some (.ref 67), some (.int x1), some (.int y2), some (.int y3), some (.int y4), some (.int (y5 + 1)), some (.int 12)]) (st1 := []) (hp1 := (hz F A L)) rfl ?_
          subst T
          have hb2 := i_up (B := (12 : Int32)) hb
          have hb3 : y5.toInt < 12 := hb
          exact ih (show m = (12 - (y5 + 1).toInt).toNat by rw [hb2]; omega) (fun q3 q4 q5 q6 => cvE rfl rfl rfl (K q3 q4 q5 q6))
        · have h7 : ¬ ((A 86).getD y5.toInt.toNat 0) = 0 := h
          rw [if_neg h7] at hE
          refine w_n 3 (pc1 := 163) (ls1 := [some (.ref 67), some (.int x1), some (.int y2), some (.int y3), some (.int y4), some (.int y5), some (.int 12)]) (st1 := [.int y5, .ref 86]) (hp1 := (hz F A L)) rfl ?_
          refine w_al (k := 86) (l := (A 86)) rfl rfl rfl (fun ab => ?_)
          refine w_n 1 (pc1 := 165) (ls1 := [some (.ref 67), some (.int x1), some (.int y2), some (.int y3), some (.int y4), some (.int y5), some (.int 12)]) (st1 := [.int y3, .int ((A 86).getD y5.toInt.toNat 0)]) (hp1 := (hz F A L)) rfl ?_
          refine w_ne (p3 := 168) rfl rfl (fun h => ?_) (fun h => ?_)
          · have h8 : ¬ ((A 86).getD y5.toInt.toNat 0) = y3 := h
            rw [if_neg h8] at hE
            refine w_n 3 (pc1 := 184) (ls1 := [some (.ref 67), some (.int x1), some (.int y2), some (.int y3), some (.int y4), some (.int y5), some (.int 12)]) (st1 := [.int y5, .ref 86]) (hp1 := (hz F A L)) rfl ?_
            refine w_al (k := 86) (l := (A 86)) rfl rfl rfl (fun ab => ?_)
            refine w_n 7 (pc1 := 95) (ls1 := [some (.ref 67), some (.int x1), some (.int y5), some (.int ((A 86).getD y5.toInt.toNat 0)), some (.int 12), some (.int (y5 + 1)), some (.int 12)]) (st1 := []) (hp1 := (hz F A L)) rfl ?_
            subst T
            have hb2 := i_up (B := (12 : Int32)) hb
            have hb3 : y5.toInt < 12 := hb
            exact ih (show m = (12 - (y5 + 1).toInt).toNat by rw [hb2]; omega) (fun q3 q4 q5 q6 => cvE rfl rfl rfl (K q3 q4 q5 q6))
          · have h8 : ((A 86).getD y5.toInt.toNat 0) = y3 := h
            rw [if_pos h8] at hE
            refine w_n 2 (pc1 := 172) (ls1 := [some (.ref 67), some (.int x1), some (.int y2), some (.int y3), some (.int y4), some (.int y5), some (.int 12)]) (st1 := [.int y4, .int 12]) (hp1 := (hz F A L)) rfl ?_
            refine w_le (p3 := 175) rfl rfl (fun h => ?_) (fun h => ?_)
            · have h9 : 12 ≤ y4.toInt := h
              rw [if_neg (Int.not_lt.mpr h9)] at hE
              refine w_n 3 (pc1 := 184) (ls1 := [some (.ref 67), some (.int x1), some (.int y2), some (.int y3), some (.int y4), some (.int y5), some (.int 12)]) (st1 := [.int y5, .ref 86]) (hp1 := (hz F A L)) rfl ?_
              refine w_al (k := 86) (l := (A 86)) rfl rfl rfl (fun ab => ?_)
              refine w_n 7 (pc1 := 95) (ls1 := [some (.ref 67), some (.int x1), some (.int y5), some (.int ((A 86).getD y5.toInt.toNat 0)), some (.int 12), some (.int (y5 + 1)), some (.int 12)]) (st1 := []) (hp1 := (hz F A L)) rfl ?_
              subst T
              have hb2 := i_up (B := (12 : Int32)) hb
              have hb3 : y5.toInt < 12 := hb
              exact ih (show m = (12 - (y5 + 1).toInt).toNat by rw [hb2]; omega) (fun q3 q4 q5 q6 => cvE rfl rfl rfl (K q3 q4 q5 q6))
            · have h9 : y4.toInt < 12 := h
              rw [if_pos h9] at hE
              refine w_n 3 (pc1 := 95) (ls1 := [some (.ref 67), some (.int x1), some (.int y2), some (.int y3), some (.int y4), some (.int (y5 + 1)), some (.int 12)]) (st1 := []) (hp1 := (hz F A L)) rfl ?_
              subst T
              have hb2 := i_up (B := (12 : Int32)) hb
              have hb3 : y5.toInt < 12 := hb
              exact ih (show m = (12 - (y5 + 1).toInt).toNat by rw [hb2]; omega) (fun q3 q4 q5 q6 => cvE rfl rfl rfl (K q3 q4 q5 q6))
noncomputable def km_changesMother (f : Nat) (f67_3 : Int32) (f67_17 : Int32) (a68 : List Int32) (a78 : List Int32) (a79 : List Int32) (a80 : List Int32) (a81 : List Int32) (a82 : List Int32) (a83 : List Int32) (a84 : List Int32) (a86 : List Int32) (x1 : Int32) : List Int32 × List Int32 × List Int32 × List Int32 := ((a68.set 145 (km_changesMother_95 a68 (km_changesMother_23 f f67_3 f67_17 a68 a78 a79 a80 a81 a82 x1 12 0 a83 a84 (km_changesMother_2 12 0 a86)).2.2 12 (a68.getD 145 0) 0 0 0)), (km_changesMother_23 f f67_3 f67_17 a68 a78 a79 a80 a81 a82 x1 12 0 a83 a84 (km_changesMother_2 12 0 a86)).1, (km_changesMother_23 f f67_3 f67_17 a68 a78 a79 a80 a81 a82 x1 12 0 a83 a84 (km_changesMother_2 12 0 a86)).2.1, (km_changesMother_23 f f67_3 f67_17 a68 a78 a79 a80 a81 a82 x1 12 0 a83 a84 (km_changesMother_2 12 0 a86)).2.2)
theorem t_km_changesMother {f D : Nat} {F : Nat → Nat → Int32} {A : Nat → List Int32} {L : Nat → List Int64} {Q : Option Value → sm_H → Prop} {x1 : Int32} (K : Q none (hz F (uA (uA (uA (uA A 68 ((km_changesMother f (F 67 3) (F 67 17) (A 68) (A 78) (A 79) (A 80) (A 81) (A 82) (A 83) (A 84) (A 86) x1).1)) 83 ((km_changesMother f (F 67 3) (F 67 17) (A 68) (A 78) (A 79) (A 80) (A 81) (A 82) (A 83) (A 84) (A 86) x1).2.1)) 84 ((km_changesMother f (F 67 3) (F 67 17) (A 68) (A 78) (A 79) (A 80) (A 81) (A 82) (A 83) (A 84) (A 86) x1).2.2.1)) 86 ((km_changesMother f (F 67 3) (F 67 17) (A 68) (A 78) (A 79) (A 80) (A 81) (A 82) (A 83) (A 84) (A 86) x1).2.2.2)) L)) : wl_M f D 193 [.ref 67, .int x1] (hz F A L) Q := by
  generalize hT : (km_changesMother f (F 67 3) (F 67 17) (A 68) (A 78) (A 79) (A 80) (A 81) (A 82) (A 83) (A 84) (A 86) x1) = T at K
  have hE : T = (((A 68).set 145 (km_changesMother_95 (A 68) (km_changesMother_23 f (F 67 3) (F 67 17) (A 68) (A 78) (A 79) (A 80) (A 81) (A 82) x1 12 0 (A 83) (A 84) (km_changesMother_2 12 0 (A 86))).2.2 12 ((A 68).getD 145 0) 0 0 0)), (km_changesMother_23 f (F 67 3) (F 67 17) (A 68) (A 78) (A 79) (A 80) (A 81) (A 82) x1 12 0 (A 83) (A 84) (km_changesMother_2 12 0 (A 86))).1, (km_changesMother_23 f (F 67 3) (F 67 17) (A 68) (A 78) (A 79) (A 80) (A 81) (A 82) x1 12 0 (A 83) (A 84) (km_changesMother_2 12 0 (A 86))).2.1, (km_changesMother_23 f (F 67 3) (F 67 17) (A 68) (A 78) (A 79) (A 80) (A 81) (A 82) x1 12 0 (A 83) (A 84) (km_changesMother_2 12 0 (A 86))).2.2) := hT.symm
  clear hT
  refine w_m (E := mm193) rfl ?_
  show wl_E f f (D - 1) mm193.2.2.2.2.2.2.2.2 0 [some (.ref 67), some (.int x1), none, none, none, none, none] [] (hz F A L) Q
  refine w_n 2 (pc1 := 2) (ls1 := [some (.ref 67), some (.int x1), some (.int 0), none, none, none, none]) (st1 := []) (hp1 := (hz F A L)) rfl ?_
  refine t_km_changesMother_2 12 (show (12 : Nat) = (12 - (0 : Int32).toInt).toNat by have e0 : (0 : Int32).toInt = 0 := rfl; first | rfl | omega) ?_
  intro r1
  show wl_E f _ _ mm193.2.2.2.2.2.2.2.2 21 [some (.ref 67), some (.int x1), some (.int r1), none, none, none, none] [] (hz F (uA A 86 (km_changesMother_2 12 0 (A 86))) L) _
  generalize hG374 : (km_changesMother_2 12 0 (A 86)) = G374 at hE ⊢
  refine w_n 2 (pc1 := 23) (ls1 := [some (.ref 67), some (.int x1), some (.int 0), none, none, none, none]) (st1 := []) (hp1 := (hz F (uA A 86 G374) L)) rfl ?_
  refine t_km_changesMother_23 12 (show (12 : Nat) = (12 - (0 : Int32).toInt).toNat by have e0 : (0 : Int32).toInt = 0 := rfl; first | rfl | omega) ?_
  intro r2 r3
  show wl_E f _ _ mm193.2.2.2.2.2.2.2.2 78 [some (.ref 67), some (.int x1), some (.int r2), r3, none, none, none] [] (hz F (uA (uA (uA (uA A 86 G374) 83 (km_changesMother_23 f (F 67 3) (F 67 17) (A 68) (A 78) (A 79) (A 80) (A 81) (A 82) x1 12 0 (A 83) (A 84) G374).1) 84 (km_changesMother_23 f (F 67 3) (F 67 17) (A 68) (A 78) (A 79) (A 80) (A 81) (A 82) x1 12 0 (A 83) (A 84) G374).2.1) 86 (km_changesMother_23 f (F 67 3) (F 67 17) (A 68) (A 78) (A 79) (A 80) (A 81) (A 82) x1 12 0 (A 83) (A 84) G374).2.2) L) _
  generalize hG394 : (km_changesMother_23 f (F 67 3) (F 67 17) (A 68) (A 78) (A 79) (A 80) (A 81) (A 82) x1 12 0 (A 83) (A 84) G374) = G394 at hE ⊢
  refine w_n 3 (pc1 := 85) (ls1 := [some (.ref 67), some (.int x1), some (.int r2), r3, none, none, none]) (st1 := [.int 145, .ref 68]) (hp1 := (hz F (uA (uA (uA (uA A 86 G374) 83 G394.1) 84 G394.2.1) 86 G394.2.2) L)) rfl ?_
  refine w_al (k := 68) (l := (A 68)) rfl rfl rfl (fun _ => ?_)
  refine w_n 7 (pc1 := 95) (ls1 := [some (.ref 67), some (.int x1), some (.int ((A 68).getD 145 0)), some (.int 0), some (.int 0), some (.int 0), none]) (st1 := []) (hp1 := (hz F (uA (uA (uA (uA A 86 G374) 83 G394.1) 84 G394.2.1) 86 G394.2.2) L)) rfl ?_
  refine t_km_changesMother_95 12 (show (12 : Nat) = (12 - (0 : Int32).toInt).toNat by have e0 : (0 : Int32).toInt = 0 := rfl; first | rfl | omega) ?_
  intro r4 r5 r6 r7
  show wl_E f _ _ mm193.2.2.2.2.2.2.2.2 199 [some (.ref 67), some (.int x1), some (.int (km_changesMother_95 (A 68) G394.2.2 12 ((A 68).getD 145 0) 0 0 0)), some (.int r4), some (.int r5), some (.int r6), r7] [] (hz F (uA (uA (uA (uA A 86 G374) 83 G394.1) 84 G394.2.1) 86 G394.2.2) L) _
  generalize hG396 : (km_changesMother_95 (A 68) G394.2.2 12 ((A 68).getD 145 0) 0 0 0) = G396 at hE ⊢
  refine w_n 4 (pc1 := 207) (ls1 := [some (.ref 67), some (.int x1), some (.int G396), some (.int r4), some (.int r5), some (.int r6), r7]) (st1 := [.int G396, .int 145, .ref 68]) (hp1 := (hz F (uA (uA (uA (uA A 86 G374) 83 G394.1) 84 G394.2.1) 86 G394.2.2) L)) rfl ?_
  refine w_as (k := 68) (l := (A 68)) (hp1 := (hz F (uA (uA (uA (uA (uA A 86 G374) 83 G394.1) 84 G394.2.1) 86 G394.2.2) 68 ((A 68).set 145 G396)) L)) rfl rfl rfl (hz_s68 _) (fun _ => ?_)
  subst T
  exact w_r rfl rfl (cvQ rfl (funext fun q => if k0 : q = 68 then by subst k0; exact Eq.trans (b := ((A 68).set 145 G396)) rfl rfl else if k1 : q = 83 then by subst k1; exact Eq.trans (b := G394.1) rfl rfl else if k2 : q = 84 then by subst k2; exact Eq.trans (b := G394.2.1) rfl rfl else if k3 : q = 86 then by subst k3; exact Eq.trans (b := G394.2.2) rfl rfl else by unfold uA; simp only [nb1 k0, nb1 k1, nb1 k2, nb1 k3, cond_false]) rfl K)
noncomputable def km_nextLeft_8 (a68 : List Int32) (x1 : Int32) : Nat → Int32 → Int32 → Int32 → Int32
  | 0, y2, _, _ => y2
  | m + 1, y2, y3, y4 => (if (km_areTwo a68 x1 y4) = 0 then (km_nextLeft_8 a68 x1 m y2 y3 (y4 + 1)) else (if (km_leftOf a68 x1 y4).toInt < y3.toInt then (km_nextLeft_8 a68 x1 m y4 (km_leftOf a68 x1 y4) (y4 + 1)) else (km_nextLeft_8 a68 x1 m y2 y3 (y4 + 1))))
theorem t_km_nextLeft_8 {f : Nat} {Q : Option Value → sm_H → Prop} : ∀ (m : Nat) {B D : Nat} {F : Nat → Nat → Int32} {A : Nat → List Int32} {L : Nat → List Int64} {x1 : Int32} {y2 : Int32} {y3 : Int32} {y4 : Int32}, m = (12 - y4.toInt).toNat → (∀ q3 : Int32, ∀ q4 : Int32, wl_E f B D mm188.2.2.2.2.2.2.2.2 56 [some (.ref 67), some (.int x1), some (.int (km_nextLeft_8 (A 68) x1 m y2 y3 y4)), some (.int q3), some (.int q4)] [] (hz F A L) Q) → wl_E f B D mm188.2.2.2.2.2.2.2.2 8 [some (.ref 67), some (.int x1), some (.int y2), some (.int y3), some (.int y4)] [] (hz F A L) Q := by
  intro m
  induction m with
  | zero =>
    intro B D F A L x1 y2 y3 y4 hm K
    generalize hT : (km_nextLeft_8 (A 68) x1 0 y2 y3 y4) = T at K
    have hE : T = y2 := hT.symm
    clear hT
    refine w_n 2 (pc1 := 12) (ls1 := [some (.ref 67), some (.int x1), some (.int y2), some (.int y3), some (.int y4)]) (st1 := [.int 12, .int y4]) (hp1 := (hz F A L)) rfl ?_
    refine w_ge (p3 := 15) rfl rfl (fun hb => ?_) (fun h => False.elim (by have h : y4.toInt < 12 := h; omega))
    subst T
    exact cvE rfl rfl rfl (K _ _)
  | succ m ih =>
    intro B D F A L x1 y2 y3 y4 hm K
    generalize hT : (km_nextLeft_8 (A 68) x1 (m + 1) y2 y3 y4) = T at K
    have hE : T = (if (km_areTwo (A 68) x1 y4) = 0 then (km_nextLeft_8 (A 68) x1 m y2 y3 (y4 + 1)) else (if (km_leftOf (A 68) x1 y4).toInt < y3.toInt then (km_nextLeft_8 (A 68) x1 m y4 (km_leftOf (A 68) x1 y4) (y4 + 1)) else (km_nextLeft_8 (A 68) x1 m y2 y3 (y4 + 1)))) := hT.symm
    clear hT
    refine w_n 2 (pc1 := 12) (ls1 := [some (.ref 67), some (.int x1), some (.int y2), some (.int y3), some (.int y4)]) (st1 := [.int 12, .int y4]) (hp1 := (hz F A L)) rfl ?_
    refine w_ge (p3 := 15) rfl rfl (fun h => False.elim (by have h : 12 ≤ y4.toInt := h; omega)) (fun hb => ?_)
    refine w_n 3 (pc1 := 19) (ls1 := [some (.ref 67), some (.int x1), some (.int y2), some (.int y3), some (.int y4)]) (st1 := [.int y4, .int x1, .ref 67]) (hp1 := (hz F A L)) rfl ?_
    refine w_c rfl rfl (t_km_areTwo ?_)
    show wl_E f _ _ mm188.2.2.2.2.2.2.2.2 22 [some (.ref 67), some (.int x1), some (.int y2), some (.int y3), some (.int y4)] [.int (km_areTwo (A 68) x1 y4)] (hz F A L) _
    generalize hG398 : (km_areTwo (A 68) x1 y4) = G398 at hE ⊢
    refine w_zeq (p3 := 25) rfl rfl (fun h => ?_) (fun h => ?_)
    · have h1 : G398 = 0 := h
      rw [if_pos h1] at hE
      refine w_n 2 (pc1 := 8) (ls1 := [some (.ref 67), some (.int x1), some (.int y2), some (.int y3), some (.int (y4 + 1))]) (st1 := []) (hp1 := (hz F A L)) rfl ?_
      subst T
      have hb2 := i_up (B := (12 : Int32)) hb
      have hb3 : y4.toInt < 12 := hb
      exact ih (show m = (12 - (y4 + 1).toInt).toNat by rw [hb2]; omega) (fun q3 q4 => cvE rfl rfl rfl (K q3 q4))
    · have h1 : ¬ G398 = 0 := h
      rw [if_neg h1] at hE
      refine w_n 3 (pc1 := 29) (ls1 := [some (.ref 67), some (.int x1), some (.int y2), some (.int y3), some (.int y4)]) (st1 := [.int y4, .int x1, .ref 67]) (hp1 := (hz F A L)) rfl ?_
      refine w_c rfl rfl (t_km_leftOf ?_)
      show wl_E f _ _ mm188.2.2.2.2.2.2.2.2 32 [some (.ref 67), some (.int x1), some (.int y2), some (.int y3), some (.int y4)] [.int (km_leftOf (A 68) x1 y4)] (hz F A L) _
      generalize hG399 : (km_leftOf (A 68) x1 y4) = G399 at hE ⊢
      refine w_n 1 (pc1 := 33) (ls1 := [some (.ref 67), some (.int x1), some (.int y2), some (.int y3), some (.int y4)]) (st1 := [.int y3, .int G399]) (hp1 := (hz F A L)) rfl ?_
      refine w_lt (p3 := 36) rfl rfl (fun h => ?_) (fun h => ?_)
      · have h2 : G399.toInt < y3.toInt := h
        rw [if_pos h2] at hE
        refine w_n 3 (pc1 := 43) (ls1 := [some (.ref 67), some (.int x1), some (.int y2), some (.int y3), some (.int y4)]) (st1 := [.int y4, .int x1, .ref 67]) (hp1 := (hz F A L)) rfl ?_
        refine w_c rfl rfl (t_km_leftOf ?_)
        show wl_E f _ _ mm188.2.2.2.2.2.2.2.2 46 [some (.ref 67), some (.int x1), some (.int y2), some (.int y3), some (.int y4)] [.int (km_leftOf (A 68) x1 y4)] (hz F A L) _
        rw [hG399]
        refine w_n 5 (pc1 := 8) (ls1 := [some (.ref 67), some (.int x1), some (.int y4), some (.int G399), some (.int (y4 + 1))]) (st1 := []) (hp1 := (hz F A L)) rfl ?_
        subst T
        have hb2 := i_up (B := (12 : Int32)) hb
        have hb3 : y4.toInt < 12 := hb
        exact ih (show m = (12 - (y4 + 1).toInt).toNat by rw [hb2]; omega) (fun q3 q4 => cvE rfl rfl rfl (K q3 q4))
      · have h2 : y3.toInt ≤ G399.toInt := h
        rw [if_neg (Int.not_lt.mpr h2)] at hE
        refine w_n 3 (pc1 := 8) (ls1 := [some (.ref 67), some (.int x1), some (.int y2), some (.int y3), some (.int (y4 + 1))]) (st1 := []) (hp1 := (hz F A L)) rfl ?_
        subst T
        have hb2 := i_up (B := (12 : Int32)) hb
        have hb3 : y4.toInt < 12 := hb
        exact ih (show m = (12 - (y4 + 1).toInt).toNat by rw [hb2]; omega) (fun q3 q4 => cvE rfl rfl rfl (K q3 q4))
noncomputable def km_nextLeft (a68 : List Int32) (x1 : Int32) : Int32 := (km_nextLeft_8 a68 x1 12 x1 12 0)
theorem t_km_nextLeft {f D : Nat} {F : Nat → Nat → Int32} {A : Nat → List Int32} {L : Nat → List Int64} {Q : Option Value → sm_H → Prop} {x1 : Int32} (K : Q (some (.int (km_nextLeft (A 68) x1))) (hz F A L)) : wl_M f D 188 [.ref 67, .int x1] (hz F A L) Q := by
  generalize hT : (km_nextLeft (A 68) x1) = T at K
  have hE : T = (km_nextLeft_8 (A 68) x1 12 x1 12 0) := hT.symm
  clear hT
  refine w_m (E := mm188) rfl ?_
  show wl_E f f (D - 1) mm188.2.2.2.2.2.2.2.2 0 [some (.ref 67), some (.int x1), none, none, none] [] (hz F A L) Q
  refine w_n 6 (pc1 := 8) (ls1 := [some (.ref 67), some (.int x1), some (.int x1), some (.int 12), some (.int 0)]) (st1 := []) (hp1 := (hz F A L)) rfl ?_
  refine t_km_nextLeft_8 12 (show (12 : Nat) = (12 - (0 : Int32).toInt).toNat by have e0 : (0 : Int32).toInt = 0 := rfl; first | rfl | omega) ?_
  intro r1 r2
  show wl_E f _ _ mm188.2.2.2.2.2.2.2.2 56 [some (.ref 67), some (.int x1), some (.int (km_nextLeft_8 (A 68) x1 12 x1 12 0)), some (.int r1), some (.int r2)] [] (hz F A L) _
  generalize hG400 : (km_nextLeft_8 (A 68) x1 12 x1 12 0) = G400 at hE ⊢
  refine w_n 1 (pc1 := 57) (ls1 := [some (.ref 67), some (.int x1), some (.int G400), some (.int r1), some (.int r2)]) (st1 := [.int G400]) (hp1 := (hz F A L)) rfl ?_
  subst T
  exact w_ri rfl (cvQ rfl rfl rfl K)
noncomputable def km_teaGoes (f : Nat) (f67_3 : Int32) (f67_4 : Int32) (f67_5 : Int32) (f67_17 : Int32) (f67_32 : Int32) (f67_33 : Int32) (a68 : List Int32) (a78 : List Int32) (a79 : List Int32) (a80 : List Int32) (a81 : List Int32) (a82 : List Int32) (a83 : List Int32) (a84 : List Int32) (a86 : List Int32) : Int32 × Int32 × Int32 × List Int32 × List Int32 × List Int32 × List Int32 := (if ((((km_pours f67_4 f67_5 f67_32 a68 (km_coolsBy f f67_17 a68 a78 a79 a80 a81 a82 (km_spillsBy f f67_17 a68 a78 a79 a80 a81 a82 a83 a84).2.1 (km_spillsBy f f67_17 a68 a78 a79 a80 a81 a82 a83 a84).2.2).1).2.2.set 149 (((25173 * ((km_pours f67_4 f67_5 f67_32 a68 (km_coolsBy f f67_17 a68 a78 a79 a80 a81 a82 (km_spillsBy f f67_17 a68 a78 a79 a80 a81 a82 a83 a84).2.1 (km_spillsBy f f67_17 a68 a78 a79 a80 a81 a82 a83 a84).2.2).1).2.2.getD 149 0)) + 13849) - ((25173 * ((km_pours f67_4 f67_5 f67_32 a68 (km_coolsBy f f67_17 a68 a78 a79 a80 a81 a82 (km_spillsBy f f67_17 a68 a78 a79 a80 a81 a82 a83 a84).2.1 (km_spillsBy f f67_17 a68 a78 a79 a80 a81 a82 a83 a84).2.2).1).2.2.getD 149 0)) + 13849) / 65536 * 65536)).getD 149 0) - (((km_pours f67_4 f67_5 f67_32 a68 (km_coolsBy f f67_17 a68 a78 a79 a80 a81 a82 (km_spillsBy f f67_17 a68 a78 a79 a80 a81 a82 a83 a84).2.1 (km_spillsBy f f67_17 a68 a78 a79 a80 a81 a82 a83 a84).2.2).1).2.2.set 149 (((25173 * ((km_pours f67_4 f67_5 f67_32 a68 (km_coolsBy f f67_17 a68 a78 a79 a80 a81 a82 (km_spillsBy f f67_17 a68 a78 a79 a80 a81 a82 a83 a84).2.1 (km_spillsBy f f67_17 a68 a78 a79 a80 a81 a82 a83 a84).2.2).1).2.2.getD 149 0)) + 13849) - ((25173 * ((km_pours f67_4 f67_5 f67_32 a68 (km_coolsBy f f67_17 a68 a78 a79 a80 a81 a82 (km_spillsBy f f67_17 a68 a78 a79 a80 a81 a82 a83 a84).2.1 (km_spillsBy f f67_17 a68 a78 a79 a80 a81 a82 a83 a84).2.2).1).2.2.getD 149 0)) + 13849) / 65536 * 65536)).getD 149 0) / 10 * 10).toInt < (km_spillsBy f f67_17 a68 a78 a79 a80 a81 a82 a83 a84).1.toInt then (1, (km_pours f67_4 f67_5 f67_32 a68 (km_coolsBy f f67_17 a68 a78 a79 a80 a81 a82 (km_spillsBy f f67_17 a68 a78 a79 a80 a81 a82 a83 a84).2.1 (km_spillsBy f f67_17 a68 a78 a79 a80 a81 a82 a83 a84).2.2).1).2.1, (f67_33 + 1), ((((((km_pours f67_4 f67_5 f67_32 a68 (km_coolsBy f f67_17 a68 a78 a79 a80 a81 a82 (km_spillsBy f f67_17 a68 a78 a79 a80 a81 a82 a83 a84).2.1 (km_spillsBy f f67_17 a68 a78 a79 a80 a81 a82 a83 a84).2.2).1).2.2.set 149 (((25173 * ((km_pours f67_4 f67_5 f67_32 a68 (km_coolsBy f f67_17 a68 a78 a79 a80 a81 a82 (km_spillsBy f f67_17 a68 a78 a79 a80 a81 a82 a83 a84).2.1 (km_spillsBy f f67_17 a68 a78 a79 a80 a81 a82 a83 a84).2.2).1).2.2.getD 149 0)) + 13849) - ((25173 * ((km_pours f67_4 f67_5 f67_32 a68 (km_coolsBy f f67_17 a68 a78 a79 a80 a81 a82 (km_spillsBy f f67_17 a68 a78 a79 a80 a81 a82 a83 a84).2.1 (km_spillsBy f f67_17 a68 a78 a79 a80 a81 a82 a83 a84).2.2).1).2.2.getD 149 0)) + 13849) / 65536 * 65536)).set 148 ((((km_pours f67_4 f67_5 f67_32 a68 (km_coolsBy f f67_17 a68 a78 a79 a80 a81 a82 (km_spillsBy f f67_17 a68 a78 a79 a80 a81 a82 a83 a84).2.1 (km_spillsBy f f67_17 a68 a78 a79 a80 a81 a82 a83 a84).2.2).1).2.2.set 149 (((25173 * ((km_pours f67_4 f67_5 f67_32 a68 (km_coolsBy f f67_17 a68 a78 a79 a80 a81 a82 (km_spillsBy f f67_17 a68 a78 a79 a80 a81 a82 a83 a84).2.1 (km_spillsBy f f67_17 a68 a78 a79 a80 a81 a82 a83 a84).2.2).1).2.2.getD 149 0)) + 13849) - ((25173 * ((km_pours f67_4 f67_5 f67_32 a68 (km_coolsBy f f67_17 a68 a78 a79 a80 a81 a82 (km_spillsBy f f67_17 a68 a78 a79 a80 a81 a82 a83 a84).2.1 (km_spillsBy f f67_17 a68 a78 a79 a80 a81 a82 a83 a84).2.2).1).2.2.getD 149 0)) + 13849) / 65536 * 65536)).getD 148 0) + 1)).set 145 (km_nextLeft (((km_pours f67_4 f67_5 f67_32 a68 (km_coolsBy f f67_17 a68 a78 a79 a80 a81 a82 (km_spillsBy f f67_17 a68 a78 a79 a80 a81 a82 a83 a84).2.1 (km_spillsBy f f67_17 a68 a78 a79 a80 a81 a82 a83 a84).2.2).1).2.2.set 149 (((25173 * ((km_pours f67_4 f67_5 f67_32 a68 (km_coolsBy f f67_17 a68 a78 a79 a80 a81 a82 (km_spillsBy f f67_17 a68 a78 a79 a80 a81 a82 a83 a84).2.1 (km_spillsBy f f67_17 a68 a78 a79 a80 a81 a82 a83 a84).2.2).1).2.2.getD 149 0)) + 13849) - ((25173 * ((km_pours f67_4 f67_5 f67_32 a68 (km_coolsBy f f67_17 a68 a78 a79 a80 a81 a82 (km_spillsBy f f67_17 a68 a78 a79 a80 a81 a82 a83 a84).2.1 (km_spillsBy f f67_17 a68 a78 a79 a80 a81 a82 a83 a84).2.2).1).2.2.getD 149 0)) + 13849) / 65536 * 65536)).set 148 ((((km_pours f67_4 f67_5 f67_32 a68 (km_coolsBy f f67_17 a68 a78 a79 a80 a81 a82 (km_spillsBy f f67_17 a68 a78 a79 a80 a81 a82 a83 a84).2.1 (km_spillsBy f f67_17 a68 a78 a79 a80 a81 a82 a83 a84).2.2).1).2.2.set 149 (((25173 * ((km_pours f67_4 f67_5 f67_32 a68 (km_coolsBy f f67_17 a68 a78 a79 a80 a81 a82 (km_spillsBy f f67_17 a68 a78 a79 a80 a81 a82 a83 a84).2.1 (km_spillsBy f f67_17 a68 a78 a79 a80 a81 a82 a83 a84).2.2).1).2.2.getD 149 0)) + 13849) - ((25173 * ((km_pours f67_4 f67_5 f67_32 a68 (km_coolsBy f f67_17 a68 a78 a79 a80 a81 a82 (km_spillsBy f f67_17 a68 a78 a79 a80 a81 a82 a83 a84).2.1 (km_spillsBy f f67_17 a68 a78 a79 a80 a81 a82 a83 a84).2.2).1).2.2.getD 149 0)) + 13849) / 65536 * 65536)).getD 148 0) + 1)) (a68.getD 145 0))).set (60 + (a68.getD 145 0)).toInt.toNat ((((((km_pours f67_4 f67_5 f67_32 a68 (km_coolsBy f f67_17 a68 a78 a79 a80 a81 a82 (km_spillsBy f f67_17 a68 a78 a79 a80 a81 a82 a83 a84).2.1 (km_spillsBy f f67_17 a68 a78 a79 a80 a81 a82 a83 a84).2.2).1).2.2.set 149 (((25173 * ((km_pours f67_4 f67_5 f67_32 a68 (km_coolsBy f f67_17 a68 a78 a79 a80 a81 a82 (km_spillsBy f f67_17 a68 a78 a79 a80 a81 a82 a83 a84).2.1 (km_spillsBy f f67_17 a68 a78 a79 a80 a81 a82 a83 a84).2.2).1).2.2.getD 149 0)) + 13849) - ((25173 * ((km_pours f67_4 f67_5 f67_32 a68 (km_coolsBy f f67_17 a68 a78 a79 a80 a81 a82 (km_spillsBy f f67_17 a68 a78 a79 a80 a81 a82 a83 a84).2.1 (km_spillsBy f f67_17 a68 a78 a79 a80 a81 a82 a83 a84).2.2).1).2.2.getD 149 0)) + 13849) / 65536 * 65536)).set 148 ((((km_pours f67_4 f67_5 f67_32 a68 (km_coolsBy f f67_17 a68 a78 a79 a80 a81 a82 (km_spillsBy f f67_17 a68 a78 a79 a80 a81 a82 a83 a84).2.1 (km_spillsBy f f67_17 a68 a78 a79 a80 a81 a82 a83 a84).2.2).1).2.2.set 149 (((25173 * ((km_pours f67_4 f67_5 f67_32 a68 (km_coolsBy f f67_17 a68 a78 a79 a80 a81 a82 (km_spillsBy f f67_17 a68 a78 a79 a80 a81 a82 a83 a84).2.1 (km_spillsBy f f67_17 a68 a78 a79 a80 a81 a82 a83 a84).2.2).1).2.2.getD 149 0)) + 13849) - ((25173 * ((km_pours f67_4 f67_5 f67_32 a68 (km_coolsBy f f67_17 a68 a78 a79 a80 a81 a82 (km_spillsBy f f67_17 a68 a78 a79 a80 a81 a82 a83 a84).2.1 (km_spillsBy f f67_17 a68 a78 a79 a80 a81 a82 a83 a84).2.2).1).2.2.getD 149 0)) + 13849) / 65536 * 65536)).getD 148 0) + 1)).set 145 (km_nextLeft (((km_pours f67_4 f67_5 f67_32 a68 (km_coolsBy f f67_17 a68 a78 a79 a80 a81 a82 (km_spillsBy f f67_17 a68 a78 a79 a80 a81 a82 a83 a84).2.1 (km_spillsBy f f67_17 a68 a78 a79 a80 a81 a82 a83 a84).2.2).1).2.2.set 149 (((25173 * ((km_pours f67_4 f67_5 f67_32 a68 (km_coolsBy f f67_17 a68 a78 a79 a80 a81 a82 (km_spillsBy f f67_17 a68 a78 a79 a80 a81 a82 a83 a84).2.1 (km_spillsBy f f67_17 a68 a78 a79 a80 a81 a82 a83 a84).2.2).1).2.2.getD 149 0)) + 13849) - ((25173 * ((km_pours f67_4 f67_5 f67_32 a68 (km_coolsBy f f67_17 a68 a78 a79 a80 a81 a82 (km_spillsBy f f67_17 a68 a78 a79 a80 a81 a82 a83 a84).2.1 (km_spillsBy f f67_17 a68 a78 a79 a80 a81 a82 a83 a84).2.2).1).2.2.getD 149 0)) + 13849) / 65536 * 65536)).set 148 ((((km_pours f67_4 f67_5 f67_32 a68 (km_coolsBy f f67_17 a68 a78 a79 a80 a81 a82 (km_spillsBy f f67_17 a68 a78 a79 a80 a81 a82 a83 a84).2.1 (km_spillsBy f f67_17 a68 a78 a79 a80 a81 a82 a83 a84).2.2).1).2.2.set 149 (((25173 * ((km_pours f67_4 f67_5 f67_32 a68 (km_coolsBy f f67_17 a68 a78 a79 a80 a81 a82 (km_spillsBy f f67_17 a68 a78 a79 a80 a81 a82 a83 a84).2.1 (km_spillsBy f f67_17 a68 a78 a79 a80 a81 a82 a83 a84).2.2).1).2.2.getD 149 0)) + 13849) - ((25173 * ((km_pours f67_4 f67_5 f67_32 a68 (km_coolsBy f f67_17 a68 a78 a79 a80 a81 a82 (km_spillsBy f f67_17 a68 a78 a79 a80 a81 a82 a83 a84).2.1 (km_spillsBy f f67_17 a68 a78 a79 a80 a81 a82 a83 a84).2.2).1).2.2.getD 149 0)) + 13849) / 65536 * 65536)).getD 148 0) + 1)) (a68.getD 145 0))).getD (60 + (a68.getD 145 0)).toInt.toNat 0) + 1)).set 147 (((((((km_pours f67_4 f67_5 f67_32 a68 (km_coolsBy f f67_17 a68 a78 a79 a80 a81 a82 (km_spillsBy f f67_17 a68 a78 a79 a80 a81 a82 a83 a84).2.1 (km_spillsBy f f67_17 a68 a78 a79 a80 a81 a82 a83 a84).2.2).1).2.2.set 149 (((25173 * ((km_pours f67_4 f67_5 f67_32 a68 (km_coolsBy f f67_17 a68 a78 a79 a80 a81 a82 (km_spillsBy f f67_17 a68 a78 a79 a80 a81 a82 a83 a84).2.1 (km_spillsBy f f67_17 a68 a78 a79 a80 a81 a82 a83 a84).2.2).1).2.2.getD 149 0)) + 13849) - ((25173 * ((km_pours f67_4 f67_5 f67_32 a68 (km_coolsBy f f67_17 a68 a78 a79 a80 a81 a82 (km_spillsBy f f67_17 a68 a78 a79 a80 a81 a82 a83 a84).2.1 (km_spillsBy f f67_17 a68 a78 a79 a80 a81 a82 a83 a84).2.2).1).2.2.getD 149 0)) + 13849) / 65536 * 65536)).set 148 ((((km_pours f67_4 f67_5 f67_32 a68 (km_coolsBy f f67_17 a68 a78 a79 a80 a81 a82 (km_spillsBy f f67_17 a68 a78 a79 a80 a81 a82 a83 a84).2.1 (km_spillsBy f f67_17 a68 a78 a79 a80 a81 a82 a83 a84).2.2).1).2.2.set 149 (((25173 * ((km_pours f67_4 f67_5 f67_32 a68 (km_coolsBy f f67_17 a68 a78 a79 a80 a81 a82 (km_spillsBy f f67_17 a68 a78 a79 a80 a81 a82 a83 a84).2.1 (km_spillsBy f f67_17 a68 a78 a79 a80 a81 a82 a83 a84).2.2).1).2.2.getD 149 0)) + 13849) - ((25173 * ((km_pours f67_4 f67_5 f67_32 a68 (km_coolsBy f f67_17 a68 a78 a79 a80 a81 a82 (km_spillsBy f f67_17 a68 a78 a79 a80 a81 a82 a83 a84).2.1 (km_spillsBy f f67_17 a68 a78 a79 a80 a81 a82 a83 a84).2.2).1).2.2.getD 149 0)) + 13849) / 65536 * 65536)).getD 148 0) + 1)).set 145 (km_nextLeft (((km_pours f67_4 f67_5 f67_32 a68 (km_coolsBy f f67_17 a68 a78 a79 a80 a81 a82 (km_spillsBy f f67_17 a68 a78 a79 a80 a81 a82 a83 a84).2.1 (km_spillsBy f f67_17 a68 a78 a79 a80 a81 a82 a83 a84).2.2).1).2.2.set 149 (((25173 * ((km_pours f67_4 f67_5 f67_32 a68 (km_coolsBy f f67_17 a68 a78 a79 a80 a81 a82 (km_spillsBy f f67_17 a68 a78 a79 a80 a81 a82 a83 a84).2.1 (km_spillsBy f f67_17 a68 a78 a79 a80 a81 a82 a83 a84).2.2).1).2.2.getD 149 0)) + 13849) - ((25173 * ((km_pours f67_4 f67_5 f67_32 a68 (km_coolsBy f f67_17 a68 a78 a79 a80 a81 a82 (km_spillsBy f f67_17 a68 a78 a79 a80 a81 a82 a83 a84).2.1 (km_spillsBy f f67_17 a68 a78 a79 a80 a81 a82 a83 a84).2.2).1).2.2.getD 149 0)) + 13849) / 65536 * 65536)).set 148 ((((km_pours f67_4 f67_5 f67_32 a68 (km_coolsBy f f67_17 a68 a78 a79 a80 a81 a82 (km_spillsBy f f67_17 a68 a78 a79 a80 a81 a82 a83 a84).2.1 (km_spillsBy f f67_17 a68 a78 a79 a80 a81 a82 a83 a84).2.2).1).2.2.set 149 (((25173 * ((km_pours f67_4 f67_5 f67_32 a68 (km_coolsBy f f67_17 a68 a78 a79 a80 a81 a82 (km_spillsBy f f67_17 a68 a78 a79 a80 a81 a82 a83 a84).2.1 (km_spillsBy f f67_17 a68 a78 a79 a80 a81 a82 a83 a84).2.2).1).2.2.getD 149 0)) + 13849) - ((25173 * ((km_pours f67_4 f67_5 f67_32 a68 (km_coolsBy f f67_17 a68 a78 a79 a80 a81 a82 (km_spillsBy f f67_17 a68 a78 a79 a80 a81 a82 a83 a84).2.1 (km_spillsBy f f67_17 a68 a78 a79 a80 a81 a82 a83 a84).2.2).1).2.2.getD 149 0)) + 13849) / 65536 * 65536)).getD 148 0) + 1)) (a68.getD 145 0))).set (60 + (a68.getD 145 0)).toInt.toNat ((((((km_pours f67_4 f67_5 f67_32 a68 (km_coolsBy f f67_17 a68 a78 a79 a80 a81 a82 (km_spillsBy f f67_17 a68 a78 a79 a80 a81 a82 a83 a84).2.1 (km_spillsBy f f67_17 a68 a78 a79 a80 a81 a82 a83 a84).2.2).1).2.2.set 149 (((25173 * ((km_pours f67_4 f67_5 f67_32 a68 (km_coolsBy f f67_17 a68 a78 a79 a80 a81 a82 (km_spillsBy f f67_17 a68 a78 a79 a80 a81 a82 a83 a84).2.1 (km_spillsBy f f67_17 a68 a78 a79 a80 a81 a82 a83 a84).2.2).1).2.2.getD 149 0)) + 13849) - ((25173 * ((km_pours f67_4 f67_5 f67_32 a68 (km_coolsBy f f67_17 a68 a78 a79 a80 a81 a82 (km_spillsBy f f67_17 a68 a78 a79 a80 a81 a82 a83 a84).2.1 (km_spillsBy f f67_17 a68 a78 a79 a80 a81 a82 a83 a84).2.2).1).2.2.getD 149 0)) + 13849) / 65536 * 65536)).set 148 ((((km_pours f67_4 f67_5 f67_32 a68 (km_coolsBy f f67_17 a68 a78 a79 a80 a81 a82 (km_spillsBy f f67_17 a68 a78 a79 a80 a81 a82 a83 a84).2.1 (km_spillsBy f f67_17 a68 a78 a79 a80 a81 a82 a83 a84).2.2).1).2.2.set 149 (((25173 * ((km_pours f67_4 f67_5 f67_32 a68 (km_coolsBy f f67_17 a68 a78 a79 a80 a81 a82 (km_spillsBy f f67_17 a68 a78 a79 a80 a81 a82 a83 a84).2.1 (km_spillsBy f f67_17 a68 a78 a79 a80 a81 a82 a83 a84).2.2).1).2.2.getD 149 0)) + 13849) - ((25173 * ((km_pours f67_4 f67_5 f67_32 a68 (km_coolsBy f f67_17 a68 a78 a79 a80 a81 a82 (km_spillsBy f f67_17 a68 a78 a79 a80 a81 a82 a83 a84).2.1 (km_spillsBy f f67_17 a68 a78 a79 a80 a81 a82 a83 a84).2.2).1).2.2.getD 149 0)) + 13849) / 65536 * 65536)).getD 148 0) + 1)).set 145 (km_nextLeft (((km_pours f67_4 f67_5 f67_32 a68 (km_coolsBy f f67_17 a68 a78 a79 a80 a81 a82 (km_spillsBy f f67_17 a68 a78 a79 a80 a81 a82 a83 a84).2.1 (km_spillsBy f f67_17 a68 a78 a79 a80 a81 a82 a83 a84).2.2).1).2.2.set 149 (((25173 * ((km_pours f67_4 f67_5 f67_32 a68 (km_coolsBy f f67_17 a68 a78 a79 a80 a81 a82 (km_spillsBy f f67_17 a68 a78 a79 a80 a81 a82 a83 a84).2.1 (km_spillsBy f f67_17 a68 a78 a79 a80 a81 a82 a83 a84).2.2).1).2.2.getD 149 0)) + 13849) - ((25173 * ((km_pours f67_4 f67_5 f67_32 a68 (km_coolsBy f f67_17 a68 a78 a79 a80 a81 a82 (km_spillsBy f f67_17 a68 a78 a79 a80 a81 a82 a83 a84).2.1 (km_spillsBy f f67_17 a68 a78 a79 a80 a81 a82 a83 a84).2.2).1).2.2.getD 149 0)) + 13849) / 65536 * 65536)).set 148 ((((km_pours f67_4 f67_5 f67_32 a68 (km_coolsBy f f67_17 a68 a78 a79 a80 a81 a82 (km_spillsBy f f67_17 a68 a78 a79 a80 a81 a82 a83 a84).2.1 (km_spillsBy f f67_17 a68 a78 a79 a80 a81 a82 a83 a84).2.2).1).2.2.set 149 (((25173 * ((km_pours f67_4 f67_5 f67_32 a68 (km_coolsBy f f67_17 a68 a78 a79 a80 a81 a82 (km_spillsBy f f67_17 a68 a78 a79 a80 a81 a82 a83 a84).2.1 (km_spillsBy f f67_17 a68 a78 a79 a80 a81 a82 a83 a84).2.2).1).2.2.getD 149 0)) + 13849) - ((25173 * ((km_pours f67_4 f67_5 f67_32 a68 (km_coolsBy f f67_17 a68 a78 a79 a80 a81 a82 (km_spillsBy f f67_17 a68 a78 a79 a80 a81 a82 a83 a84).2.1 (km_spillsBy f f67_17 a68 a78 a79 a80 a81 a82 a83 a84).2.2).1).2.2.getD 149 0)) + 13849) / 65536 * 65536)).getD 148 0) + 1)) (a68.getD 145 0))).getD (60 + (a68.getD 145 0)).toInt.toNat 0) + 1)).getD 147 0) + 1)), (km_coolsBy f f67_17 a68 a78 a79 a80 a81 a82 (km_spillsBy f f67_17 a68 a78 a79 a80 a81 a82 a83 a84).2.1 (km_spillsBy f f67_17 a68 a78 a79 a80 a81 a82 a83 a84).2.2).2.1, (km_coolsBy f f67_17 a68 a78 a79 a80 a81 a82 (km_spillsBy f f67_17 a68 a78 a79 a80 a81 a82 a83 a84).2.1 (km_spillsBy f f67_17 a68 a78 a79 a80 a81 a82 a83 a84).2.2).2.2, a86) else (0, (km_pours f67_4 f67_5 f67_32 a68 (km_coolsBy f f67_17 a68 a78 a79 a80 a81 a82 (km_spillsBy f f67_17 a68 a78 a79 a80 a81 a82 a83 a84).2.1 (km_spillsBy f f67_17 a68 a78 a79 a80 a81 a82 a83 a84).2.2).1).2.1, f67_33, (((km_changesMother f f67_3 f67_17 (km_decides f67_3 ((km_pours f67_4 f67_5 f67_32 a68 (km_coolsBy f f67_17 a68 a78 a79 a80 a81 a82 (km_spillsBy f f67_17 a68 a78 a79 a80 a81 a82 a83 a84).2.1 (km_spillsBy f f67_17 a68 a78 a79 a80 a81 a82 a83 a84).2.2).1).2.2.set 149 (((25173 * ((km_pours f67_4 f67_5 f67_32 a68 (km_coolsBy f f67_17 a68 a78 a79 a80 a81 a82 (km_spillsBy f f67_17 a68 a78 a79 a80 a81 a82 a83 a84).2.1 (km_spillsBy f f67_17 a68 a78 a79 a80 a81 a82 a83 a84).2.2).1).2.2.getD 149 0)) + 13849) - ((25173 * ((km_pours f67_4 f67_5 f67_32 a68 (km_coolsBy f f67_17 a68 a78 a79 a80 a81 a82 (km_spillsBy f f67_17 a68 a78 a79 a80 a81 a82 a83 a84).2.1 (km_spillsBy f f67_17 a68 a78 a79 a80 a81 a82 a83 a84).2.2).1).2.2.getD 149 0)) + 13849) / 65536 * 65536))) a78 a79 a80 a81 a82 (km_coolsBy f f67_17 a68 a78 a79 a80 a81 a82 (km_spillsBy f f67_17 a68 a78 a79 a80 a81 a82 a83 a84).2.1 (km_spillsBy f f67_17 a68 a78 a79 a80 a81 a82 a83 a84).2.2).2.1 (km_coolsBy f f67_17 a68 a78 a79 a80 a81 a82 (km_spillsBy f f67_17 a68 a78 a79 a80 a81 a82 a83 a84).2.1 (km_spillsBy f f67_17 a68 a78 a79 a80 a81 a82 a83 a84).2.2).2.2 a86 (km_pours f67_4 f67_5 f67_32 a68 (km_coolsBy f f67_17 a68 a78 a79 a80 a81 a82 (km_spillsBy f f67_17 a68 a78 a79 a80 a81 a82 a83 a84).2.1 (km_spillsBy f f67_17 a68 a78 a79 a80 a81 a82 a83 a84).2.2).1).1).1.set (60 + (a68.getD 145 0)).toInt.toNat (((km_changesMother f f67_3 f67_17 (km_decides f67_3 ((km_pours f67_4 f67_5 f67_32 a68 (km_coolsBy f f67_17 a68 a78 a79 a80 a81 a82 (km_spillsBy f f67_17 a68 a78 a79 a80 a81 a82 a83 a84).2.1 (km_spillsBy f f67_17 a68 a78 a79 a80 a81 a82 a83 a84).2.2).1).2.2.set 149 (((25173 * ((km_pours f67_4 f67_5 f67_32 a68 (km_coolsBy f f67_17 a68 a78 a79 a80 a81 a82 (km_spillsBy f f67_17 a68 a78 a79 a80 a81 a82 a83 a84).2.1 (km_spillsBy f f67_17 a68 a78 a79 a80 a81 a82 a83 a84).2.2).1).2.2.getD 149 0)) + 13849) - ((25173 * ((km_pours f67_4 f67_5 f67_32 a68 (km_coolsBy f f67_17 a68 a78 a79 a80 a81 a82 (km_spillsBy f f67_17 a68 a78 a79 a80 a81 a82 a83 a84).2.1 (km_spillsBy f f67_17 a68 a78 a79 a80 a81 a82 a83 a84).2.2).1).2.2.getD 149 0)) + 13849) / 65536 * 65536))) a78 a79 a80 a81 a82 (km_coolsBy f f67_17 a68 a78 a79 a80 a81 a82 (km_spillsBy f f67_17 a68 a78 a79 a80 a81 a82 a83 a84).2.1 (km_spillsBy f f67_17 a68 a78 a79 a80 a81 a82 a83 a84).2.2).2.1 (km_coolsBy f f67_17 a68 a78 a79 a80 a81 a82 (km_spillsBy f f67_17 a68 a78 a79 a80 a81 a82 a83 a84).2.1 (km_spillsBy f f67_17 a68 a78 a79 a80 a81 a82 a83 a84).2.2).2.2 a86 (km_pours f67_4 f67_5 f67_32 a68 (km_coolsBy f f67_17 a68 a78 a79 a80 a81 a82 (km_spillsBy f f67_17 a68 a78 a79 a80 a81 a82 a83 a84).2.1 (km_spillsBy f f67_17 a68 a78 a79 a80 a81 a82 a83 a84).2.2).1).1).1.getD (60 + (a68.getD 145 0)).toInt.toNat 0) + 1)).set 147 ((((km_changesMother f f67_3 f67_17 (km_decides f67_3 ((km_pours f67_4 f67_5 f67_32 a68 (km_coolsBy f f67_17 a68 a78 a79 a80 a81 a82 (km_spillsBy f f67_17 a68 a78 a79 a80 a81 a82 a83 a84).2.1 (km_spillsBy f f67_17 a68 a78 a79 a80 a81 a82 a83 a84).2.2).1).2.2.set 149 (((25173 * ((km_pours f67_4 f67_5 f67_32 a68 (km_coolsBy f f67_17 a68 a78 a79 a80 a81 a82 (km_spillsBy f f67_17 a68 a78 a79 a80 a81 a82 a83 a84).2.1 (km_spillsBy f f67_17 a68 a78 a79 a80 a81 a82 a83 a84).2.2).1).2.2.getD 149 0)) + 13849) - ((25173 * ((km_pours f67_4 f67_5 f67_32 a68 (km_coolsBy f f67_17 a68 a78 a79 a80 a81 a82 (km_spillsBy f f67_17 a68 a78 a79 a80 a81 a82 a83 a84).2.1 (km_spillsBy f f67_17 a68 a78 a79 a80 a81 a82 a83 a84).2.2).1).2.2.getD 149 0)) + 13849) / 65536 * 65536))) a78 a79 a80 a81 a82 (km_coolsBy f f67_17 a68 a78 a79 a80 a81 a82 (km_spillsBy f f67_17 a68 a78 a79 a80 a81 a82 a83 a84).2.1 (km_spillsBy f f67_17 a68 a78 a79 a80 a81 a82 a83 a84).2.2).2.1 (km_coolsBy f f67_17 a68 a78 a79 a80 a81 a82 (km_spillsBy f f67_17 a68 a78 a79 a80 a81 a82 a83 a84).2.1 (km_spillsBy f f67_17 a68 a78 a79 a80 a81 a82 a83 a84).2.2).2.2 a86 (km_pours f67_4 f67_5 f67_32 a68 (km_coolsBy f f67_17 a68 a78 a79 a80 a81 a82 (km_spillsBy f f67_17 a68 a78 a79 a80 a81 a82 a83 a84).2.1 (km_spillsBy f f67_17 a68 a78 a79 a80 a81 a82 a83 a84).2.2).1).1).1.set (60 + (a68.getD 145 0)).toInt.toNat (((km_changesMother f f67_3 f67_17 (km_decides f67_3 ((km_pours f67_4 f67_5 f67_32 a68 (km_coolsBy f f67_17 a68 a78 a79 a80 a81 a82 (km_spillsBy f f67_17 a68 a78 a79 a80 a81 a82 a83 a84).2.1 (km_spillsBy f f67_17 a68 a78 a79 a80 a81 a82 a83 a84).2.2).1).2.2.set 149 (((25173 * ((km_pours f67_4 f67_5 f67_32 a68 (km_coolsBy f f67_17 a68 a78 a79 a80 a81 a82 (km_spillsBy f f67_17 a68 a78 a79 a80 a81 a82 a83 a84).2.1 (km_spillsBy f f67_17 a68 a78 a79 a80 a81 a82 a83 a84).2.2).1).2.2.getD 149 0)) + 13849) - ((25173 * ((km_pours f67_4 f67_5 f67_32 a68 (km_coolsBy f f67_17 a68 a78 a79 a80 a81 a82 (km_spillsBy f f67_17 a68 a78 a79 a80 a81 a82 a83 a84).2.1 (km_spillsBy f f67_17 a68 a78 a79 a80 a81 a82 a83 a84).2.2).1).2.2.getD 149 0)) + 13849) / 65536 * 65536))) a78 a79 a80 a81 a82 (km_coolsBy f f67_17 a68 a78 a79 a80 a81 a82 (km_spillsBy f f67_17 a68 a78 a79 a80 a81 a82 a83 a84).2.1 (km_spillsBy f f67_17 a68 a78 a79 a80 a81 a82 a83 a84).2.2).2.1 (km_coolsBy f f67_17 a68 a78 a79 a80 a81 a82 (km_spillsBy f f67_17 a68 a78 a79 a80 a81 a82 a83 a84).2.1 (km_spillsBy f f67_17 a68 a78 a79 a80 a81 a82 a83 a84).2.2).2.2 a86 (km_pours f67_4 f67_5 f67_32 a68 (km_coolsBy f f67_17 a68 a78 a79 a80 a81 a82 (km_spillsBy f f67_17 a68 a78 a79 a80 a81 a82 a83 a84).2.1 (km_spillsBy f f67_17 a68 a78 a79 a80 a81 a82 a83 a84).2.2).1).1).1.getD (60 + (a68.getD 145 0)).toInt.toNat 0) + 1)).getD 147 0) + 1)), (km_changesMother f f67_3 f67_17 (km_decides f67_3 ((km_pours f67_4 f67_5 f67_32 a68 (km_coolsBy f f67_17 a68 a78 a79 a80 a81 a82 (km_spillsBy f f67_17 a68 a78 a79 a80 a81 a82 a83 a84).2.1 (km_spillsBy f f67_17 a68 a78 a79 a80 a81 a82 a83 a84).2.2).1).2.2.set 149 (((25173 * ((km_pours f67_4 f67_5 f67_32 a68 (km_coolsBy f f67_17 a68 a78 a79 a80 a81 a82 (km_spillsBy f f67_17 a68 a78 a79 a80 a81 a82 a83 a84).2.1 (km_spillsBy f f67_17 a68 a78 a79 a80 a81 a82 a83 a84).2.2).1).2.2.getD 149 0)) + 13849) - ((25173 * ((km_pours f67_4 f67_5 f67_32 a68 (km_coolsBy f f67_17 a68 a78 a79 a80 a81 a82 (km_spillsBy f f67_17 a68 a78 a79 a80 a81 a82 a83 a84).2.1 (km_spillsBy f f67_17 a68 a78 a79 a80 a81 a82 a83 a84).2.2).1).2.2.getD 149 0)) + 13849) / 65536 * 65536))) a78 a79 a80 a81 a82 (km_coolsBy f f67_17 a68 a78 a79 a80 a81 a82 (km_spillsBy f f67_17 a68 a78 a79 a80 a81 a82 a83 a84).2.1 (km_spillsBy f f67_17 a68 a78 a79 a80 a81 a82 a83 a84).2.2).2.1 (km_coolsBy f f67_17 a68 a78 a79 a80 a81 a82 (km_spillsBy f f67_17 a68 a78 a79 a80 a81 a82 a83 a84).2.1 (km_spillsBy f f67_17 a68 a78 a79 a80 a81 a82 a83 a84).2.2).2.2 a86 (km_pours f67_4 f67_5 f67_32 a68 (km_coolsBy f f67_17 a68 a78 a79 a80 a81 a82 (km_spillsBy f f67_17 a68 a78 a79 a80 a81 a82 a83 a84).2.1 (km_spillsBy f f67_17 a68 a78 a79 a80 a81 a82 a83 a84).2.2).1).1).2.1, (km_changesMother f f67_3 f67_17 (km_decides f67_3 ((km_pours f67_4 f67_5 f67_32 a68 (km_coolsBy f f67_17 a68 a78 a79 a80 a81 a82 (km_spillsBy f f67_17 a68 a78 a79 a80 a81 a82 a83 a84).2.1 (km_spillsBy f f67_17 a68 a78 a79 a80 a81 a82 a83 a84).2.2).1).2.2.set 149 (((25173 * ((km_pours f67_4 f67_5 f67_32 a68 (km_coolsBy f f67_17 a68 a78 a79 a80 a81 a82 (km_spillsBy f f67_17 a68 a78 a79 a80 a81 a82 a83 a84).2.1 (km_spillsBy f f67_17 a68 a78 a79 a80 a81 a82 a83 a84).2.2).1).2.2.getD 149 0)) + 13849) - ((25173 * ((km_pours f67_4 f67_5 f67_32 a68 (km_coolsBy f f67_17 a68 a78 a79 a80 a81 a82 (km_spillsBy f f67_17 a68 a78 a79 a80 a81 a82 a83 a84).2.1 (km_spillsBy f f67_17 a68 a78 a79 a80 a81 a82 a83 a84).2.2).1).2.2.getD 149 0)) + 13849) / 65536 * 65536))) a78 a79 a80 a81 a82 (km_coolsBy f f67_17 a68 a78 a79 a80 a81 a82 (km_spillsBy f f67_17 a68 a78 a79 a80 a81 a82 a83 a84).2.1 (km_spillsBy f f67_17 a68 a78 a79 a80 a81 a82 a83 a84).2.2).2.1 (km_coolsBy f f67_17 a68 a78 a79 a80 a81 a82 (km_spillsBy f f67_17 a68 a78 a79 a80 a81 a82 a83 a84).2.1 (km_spillsBy f f67_17 a68 a78 a79 a80 a81 a82 a83 a84).2.2).2.2 a86 (km_pours f67_4 f67_5 f67_32 a68 (km_coolsBy f f67_17 a68 a78 a79 a80 a81 a82 (km_spillsBy f f67_17 a68 a78 a79 a80 a81 a82 a83 a84).2.1 (km_spillsBy f f67_17 a68 a78 a79 a80 a81 a82 a83 a84).2.2).1).1).2.2.1, (km_changesMother f f67_3 f67_17 (km_decides f67_3 ((km_pours f67_4 f67_5 f67_32 a68 (km_coolsBy f f67_17 a68 a78 a79 a80 a81 a82 (km_spillsBy f f67_17 a68 a78 a79 a80 a81 a82 a83 a84).2.1 (km_spillsBy f f67_17 a68 a78 a79 a80 a81 a82 a83 a84).2.2).1).2.2.set 149 (((25173 * ((km_pours f67_4 f67_5 f67_32 a68 (km_coolsBy f f67_17 a68 a78 a79 a80 a81 a82 (km_spillsBy f f67_17 a68 a78 a79 a80 a81 a82 a83 a84).2.1 (km_spillsBy f f67_17 a68 a78 a79 a80 a81 a82 a83 a84).2.2).1).2.2.getD 149 0)) + 13849) - ((25173 * ((km_pours f67_4 f67_5 f67_32 a68 (km_coolsBy f f67_17 a68 a78 a79 a80 a81 a82 (km_spillsBy f f67_17 a68 a78 a79 a80 a81 a82 a83 a84).2.1 (km_spillsBy f f67_17 a68 a78 a79 a80 a81 a82 a83 a84).2.2).1).2.2.getD 149 0)) + 13849) / 65536 * 65536))) a78 a79 a80 a81 a82 (km_coolsBy f f67_17 a68 a78 a79 a80 a81 a82 (km_spillsBy f f67_17 a68 a78 a79 a80 a81 a82 a83 a84).2.1 (km_spillsBy f f67_17 a68 a78 a79 a80 a81 a82 a83 a84).2.2).2.1 (km_coolsBy f f67_17 a68 a78 a79 a80 a81 a82 (km_spillsBy f f67_17 a68 a78 a79 a80 a81 a82 a83 a84).2.1 (km_spillsBy f f67_17 a68 a78 a79 a80 a81 a82 a83 a84).2.2).2.2 a86 (km_pours f67_4 f67_5 f67_32 a68 (km_coolsBy f f67_17 a68 a78 a79 a80 a81 a82 (km_spillsBy f f67_17 a68 a78 a79 a80 a81 a82 a83 a84).2.1 (km_spillsBy f f67_17 a68 a78 a79 a80 a81 a82 a83 a84).2.2).1).1).2.2.2))
