/-! lifts, printed by genlift.py: 10 -/
def km_beginsRows_2   : Nat → Int32 → List Int32 → List Int32
  | 0, _, a92 => a92
  | m + 1, y1, a92 => (km_beginsRows_2 m (y1 + 1) (a92.set y1.toInt.toNat y1))
theorem t_km_beginsRows_2 {f : Nat} {Q : Option Value → sm_H → Prop} : ∀ (m : Nat) {B D : Nat} {F : Nat → Nat → Int32} {A : Nat → List Int32} {L : Nat → List Int64} {y1 : Int32}, m = ((F 67 3).toInt - y1.toInt).toNat → (∀ q1 : Int32, wl_E f B D mm224.2.2.2.2.2.2.2.2 23 [some (.ref 67), some (.int q1)] [] (hz F (uA A 92 (km_beginsRows_2 m y1 (A 92))) L) Q) → wl_E f B D mm224.2.2.2.2.2.2.2.2 2 [some (.ref 67), some (.int y1)] [] (hz F A L) Q := by
  intro m
  induction m with
  | zero =>
    intro B D F A L y1 hm K
    generalize hT : (km_beginsRows_2 0 y1 (A 92)) = T at K
    have hE : T = (A 92) := hT.symm
    clear hT
    refine w_n 3 (pc1 := 7) (ls1 := [some (.ref 67), some (.int y1)]) (st1 := [.int (F 67 3), .int y1]) (hp1 := (hz F A L)) rfl ?_
    refine w_ge (p3 := 10) rfl rfl (fun hb => ?_) (fun h => False.elim (by have h : y1.toInt < (F 67 3).toInt := h; omega))
    subst T
    exact cvE rfl (funext fun q => if k0 : q = 92 then by subst k0; exact Eq.trans (b := (A 92)) rfl rfl else by unfold uA; simp only [nb1 k0, cond_false]) rfl (K _)
  | succ m ih =>
    intro B D F A L y1 hm K
    generalize hT : (km_beginsRows_2 (m + 1) y1 (A 92)) = T at K
    have hE : T = (km_beginsRows_2 m (y1 + 1) ((A 92).set y1.toInt.toNat y1)) := hT.symm
    clear hT
    refine w_n 3 (pc1 := 7) (ls1 := [some (.ref 67), some (.int y1)]) (st1 := [.int (F 67 3), .int y1]) (hp1 := (hz F A L)) rfl ?_
    refine w_ge (p3 := 10) rfl rfl (fun h => False.elim (by have h : (F 67 3).toInt ≤ y1.toInt := h; omega)) (fun hb => ?_)
    refine w_n 4 (pc1 := 16) (ls1 := [some (.ref 67), some (.int y1)]) (st1 := [.int y1, .int y1, .ref 92]) (hp1 := (hz F A L)) rfl ?_
    refine w_as (k := 92) (l := (A 92)) (hp1 := (hz F (uA A 92 ((A 92).set y1.toInt.toNat y1)) L)) rfl rfl rfl (hz_s92 _) (fun ab => ?_)
    refine w_n 2 (pc1 := 2) (ls1 := [some (.ref 67), some (.int (y1 + 1))]) (st1 := []) (hp1 := (hz F (uA A 92 ((A 92).set y1.toInt.toNat y1)) L)) rfl ?_
    subst T
    have hb2 := i_up (B := (F 67 3)) hb
    have hb3 : y1.toInt < (F 67 3).toInt := hb
    exact ih (show m = ((F 67 3).toInt - (y1 + 1).toInt).toNat by rw [hb2]; omega) (fun q1 => cvE rfl (funext fun q => if k0 : q = 92 then by subst k0; exact Eq.trans (b := (km_beginsRows_2 m (y1 + 1) ((A 92).set y1.toInt.toNat y1))) rfl rfl else by unfold uA; simp only [nb1 k0, cond_false]) rfl (K q1))
def km_beginsRows (f67_3 : Int32) (a92 : List Int32) : List Int32 := (km_beginsRows_2 f67_3.toInt.toNat 0 a92)
theorem t_km_beginsRows {f D : Nat} {F : Nat → Nat → Int32} {A : Nat → List Int32} {L : Nat → List Int64} {Q : Option Value → sm_H → Prop} (K : Q none (hz F (uA A 92 (km_beginsRows (F 67 3) (A 92))) L)) : wl_M f D 224 [.ref 67] (hz F A L) Q := by
  generalize hT : (km_beginsRows (F 67 3) (A 92)) = T at K
  have hE : T = (km_beginsRows_2 (F 67 3).toInt.toNat 0 (A 92)) := hT.symm
  clear hT
  refine w_m (E := mm224) rfl ?_
  show wl_E f f (D - 1) mm224.2.2.2.2.2.2.2.2 0 [some (.ref 67), none] [] (hz F A L) Q
  refine w_n 2 (pc1 := 2) (ls1 := [some (.ref 67), some (.int 0)]) (st1 := []) (hp1 := (hz F A L)) rfl ?_
  refine t_km_beginsRows_2 (F 67 3).toInt.toNat (show (F 67 3).toInt.toNat = ((F 67 3).toInt - (0 : Int32).toInt).toNat by have e0 : (0 : Int32).toInt = 0 := rfl; first | rfl | omega) ?_
  intro r1
  show wl_E f _ _ mm224.2.2.2.2.2.2.2.2 23 [some (.ref 67), some (.int r1)] [] (hz F (uA A 92 (km_beginsRows_2 (F 67 3).toInt.toNat 0 (A 92))) L) _
  generalize hG337 : (km_beginsRows_2 (F 67 3).toInt.toNat 0 (A 92)) = G337 at hE ⊢
  subst T
  exact w_r rfl rfl (cvQ rfl rfl rfl K)
def km_winsOf (a68 : List Int32) (x1 : Int32) (x2 : Int32) : Int32 := (if (km_beats a68 x2 x1) = 0 then x1 else x2)
theorem t_km_winsOf {f D : Nat} {F : Nat → Nat → Int32} {A : Nat → List Int32} {L : Nat → List Int64} {Q : Option Value → sm_H → Prop} {x1 : Int32} {x2 : Int32} (K : Q (some (.int (km_winsOf (A 68) x1 x2))) (hz F A L)) : wl_M f D 222 [.ref 67, .int x1, .int x2] (hz F A L) Q := by
  generalize hT : (km_winsOf (A 68) x1 x2) = T at K
  have hE : T = (if (km_beats (A 68) x2 x1) = 0 then x1 else x2) := hT.symm
  clear hT
  refine w_m (E := mm222) rfl ?_
  show wl_E f f (D - 1) mm222.2.2.2.2.2.2.2.2 0 [some (.ref 67), some (.int x1), some (.int x2)] [] (hz F A L) Q
  refine w_n 3 (pc1 := 3) (ls1 := [some (.ref 67), some (.int x1), some (.int x2)]) (st1 := [.int x1, .int x2, .ref 67]) (hp1 := (hz F A L)) rfl ?_
  refine w_c rfl rfl (t_km_beats ?_)
  show wl_E f _ _ mm222.2.2.2.2.2.2.2.2 6 [some (.ref 67), some (.int x1), some (.int x2)] [.int (km_beats (A 68) x2 x1)] (hz F A L) _
  generalize hG339 : (km_beats (A 68) x2 x1) = G339 at hE ⊢
  refine w_zeq (p3 := 9) rfl rfl (fun h => ?_) (fun h => ?_)
  · have h1 : G339 = 0 := h
    rw [if_pos h1] at hE
    refine w_n 1 (pc1 := 14) (ls1 := [some (.ref 67), some (.int x1), some (.int x2)]) (st1 := [.int x1]) (hp1 := (hz F A L)) rfl ?_
    subst T
    exact w_ri rfl (cvQ rfl rfl rfl K)
  · have h1 : ¬ G339 = 0 := h
    rw [if_neg h1] at hE
    refine w_n 2 (pc1 := 14) (ls1 := [some (.ref 67), some (.int x1), some (.int x2)]) (st1 := [.int x2]) (hp1 := (hz F A L)) rfl ?_
    subst T
    exact w_ri rfl (cvQ rfl rfl rfl K)
def km_orders_49 (a68 : List Int32) (a92 : List Int32)  : Nat → Int32 → Int32 → Int32
  | 0, y5, _ => y5
  | m + 1, y5, y6 => (km_orders_49 a68 a92 m (km_winsOf a68 y5 (a92.getD y6.toInt.toNat 0)) (y6 + 1))
theorem t_km_orders_49 {f : Nat} {Q : Option Value → sm_H → Prop} : ∀ (m : Nat) {B D : Nat} {F : Nat → Nat → Int32} {A : Nat → List Int32} {L : Nat → List Int64} {x1 : Int32} {x2 : Int32} {x3 : Int32} {x4 : Int32} {y5 : Int32} {y6 : Int32}, m = ((F 67 3).toInt - y6.toInt).toNat → (∀ q6 : Int32, wl_E f B D mm223.2.2.2.2.2.2.2.2 79 [some (.ref 67), some (.int x1), some (.int x2), some (.int x3), some (.int x4), some (.int (km_orders_49 (A 68) (A 92) m y5 y6)), some (.int q6)] [] (hz F A L) Q) → wl_E f B D mm223.2.2.2.2.2.2.2.2 49 [some (.ref 67), some (.int x1), some (.int x2), some (.int x3), some (.int x4), some (.int y5), some (.int y6)] [] (hz F A L) Q := by
  intro m
  induction m with
  | zero =>
    intro B D F A L x1 x2 x3 x4 y5 y6 hm K
    generalize hT : (km_orders_49 (A 68) (A 92) 0 y5 y6) = T at K
    have hE : T = y5 := hT.symm
    clear hT
    refine w_n 3 (pc1 := 55) (ls1 := [some (.ref 67), some (.int x1), some (.int x2), some (.int x3), some (.int x4), some (.int y5), some (.int y6)]) (st1 := [.int (F 67 3), .int y6]) (hp1 := (hz F A L)) rfl ?_
    refine w_ge (p3 := 58) rfl rfl (fun hb => ?_) (fun h => False.elim (by have h : y6.toInt < (F 67 3).toInt := h; omega))
    subst T
    exact cvE rfl rfl rfl (K _)
  | succ m ih =>
    intro B D F A L x1 x2 x3 x4 y5 y6 hm K
    generalize hT : (km_orders_49 (A 68) (A 92) (m + 1) y5 y6) = T at K
    have hE : T = (km_orders_49 (A 68) (A 92) m (km_winsOf (A 68) y5 ((A 92).getD y6.toInt.toNat 0)) (y6 + 1)) := hT.symm
    clear hT
    refine w_n 3 (pc1 := 55) (ls1 := [some (.ref 67), some (.int x1), some (.int x2), some (.int x3), some (.int x4), some (.int y5), some (.int y6)]) (st1 := [.int (F 67 3), .int y6]) (hp1 := (hz F A L)) rfl ?_
    refine w_ge (p3 := 58) rfl rfl (fun h => False.elim (by have h : (F 67 3).toInt ≤ y6.toInt := h; omega)) (fun hb => ?_)
    refine w_n 5 (pc1 := 67) (ls1 := [some (.ref 67), some (.int x1), some (.int x2), some (.int x3), some (.int x4), some (.int y5), some (.int y6)]) (st1 := [.int y6, .ref 92, .int y5, .ref 67]) (hp1 := (hz F A L)) rfl ?_
    refine w_al (k := 92) (l := (A 92)) rfl rfl rfl (fun ab => ?_)
    refine w_c rfl rfl (t_km_winsOf ?_)
    show wl_E f _ _ mm223.2.2.2.2.2.2.2.2 71 [some (.ref 67), some (.int x1), some (.int x2), some (.int x3), some (.int x4), some (.int y5), some (.int y6)] [.int (km_winsOf (A 68) y5 ((A 92).getD y6.toInt.toNat 0))] (hz F A L) _
    generalize hG340 : (km_winsOf (A 68) y5 ((A 92).getD y6.toInt.toNat 0)) = G340 at hE ⊢
    refine w_n 3 (pc1 := 49) (ls1 := [some (.ref 67), some (.int x1), some (.int x2), some (.int x3), some (.int x4), some (.int G340), some (.int (y6 + 1))]) (st1 := []) (hp1 := (hz F A L)) rfl ?_
    subst T
    have hb2 := i_up (B := (F 67 3)) hb
    have hb3 : y6.toInt < (F 67 3).toInt := hb
    exact ih (show m = ((F 67 3).toInt - (y6 + 1).toInt).toNat by rw [hb2]; omega) (fun q6 => cvE rfl rfl rfl (K q6))
def km_goesNext_4 (a92 : List Int32)  : Nat → Int32 → Int32
  | 0, y2 => y2
  | m + 1, y2 => (if (a92.getD (y2 + 1).toInt.toNat 0).toInt < (a92.getD y2.toInt.toNat 0).toInt then (km_goesNext_4 a92 m (y2 - 1)) else y2)
theorem t_km_goesNext_4 {f : Nat} {Q : Option Value → sm_H → Prop} : ∀ (m : Nat) {B D : Nat} {F : Nat → Nat → Int32} {A : Nat → List Int32} {L : Nat → List Int64} {x1 : Int32} {y2 : Int32} {o3 : Option Value} {o4 : Option Value} {o5 : Option Value}, m = (y2.toInt + 1 - 0).toNat → (wl_E f B D mm226.2.2.2.2.2.2.2.2 32 [some (.ref 67), some (.int x1), some (.int (km_goesNext_4 (A 92) m y2)), o3, o4, o5] [] (hz F A L) Q) → wl_E f B D mm226.2.2.2.2.2.2.2.2 4 [some (.ref 67), some (.int x1), some (.int y2), o3, o4, o5] [] (hz F A L) Q := by
  intro m
  induction m with
  | zero =>
    intro B D F A L x1 y2 o3 o4 o5 hm K
    generalize hT : (km_goesNext_4 (A 92) 0 y2) = T at K
    have hE : T = y2 := hT.symm
    clear hT
    refine w_n 1 (pc1 := 5) (ls1 := [some (.ref 67), some (.int x1), some (.int y2), o3, o4, o5]) (st1 := [.int y2]) (hp1 := (hz F A L)) rfl ?_
    refine w_zlt (p3 := 8) rfl rfl (fun hb => ?_) (fun h => False.elim (by have h : 0 ≤ y2.toInt := h; omega))
    subst T
    exact cvE rfl rfl rfl (K)
  | succ m ih =>
    intro B D F A L x1 y2 o3 o4 o5 hm K
    generalize hT : (km_goesNext_4 (A 92) (m + 1) y2) = T at K
    have hE : T = (if ((A 92).getD (y2 + 1).toInt.toNat 0).toInt < ((A 92).getD y2.toInt.toNat 0).toInt then (km_goesNext_4 (A 92) m (y2 - 1)) else y2) := hT.symm
    clear hT
    refine w_n 1 (pc1 := 5) (ls1 := [some (.ref 67), some (.int x1), some (.int y2), o3, o4, o5]) (st1 := [.int y2]) (hp1 := (hz F A L)) rfl ?_
    refine w_zlt (p3 := 8) rfl rfl (fun h => False.elim (by have h : y2.toInt < 0 := h; omega)) (fun hb => ?_)
    refine w_n 3 (pc1 := 13) (ls1 := [some (.ref 67), some (.int x1), some (.int y2), o3, o4, o5]) (st1 := [.int y2, .ref 92]) (hp1 := (hz F A L)) rfl ?_
    refine w_al (k := 92) (l := (A 92)) rfl rfl rfl (fun ab => ?_)
    refine w_n 5 (pc1 := 21) (ls1 := [some (.ref 67), some (.int x1), some (.int y2), o3, o4, o5]) (st1 := [.int (y2 + 1), .ref 92, .int ((A 92).getD y2.toInt.toNat 0)]) (hp1 := (hz F A L)) rfl ?_
    refine w_al (k := 92) (l := (A 92)) rfl rfl rfl (fun _ => ?_)
    refine w_le (p3 := 25) rfl rfl (fun h => ?_) (fun h => ?_)
    · have h1 : ((A 92).getD y2.toInt.toNat 0).toInt ≤ ((A 92).getD (y2 + 1).toInt.toNat 0).toInt := h
      rw [if_neg (Int.not_lt.mpr h1)] at hE
      subst T
      exact cvE rfl rfl rfl (K)
    · have h1 : ((A 92).getD (y2 + 1).toInt.toNat 0).toInt < ((A 92).getD y2.toInt.toNat 0).toInt := h
      rw [if_pos h1] at hE
      refine w_n 5 (pc1 := 4) (ls1 := [some (.ref 67), some (.int x1), some (.int (y2 - 1)), o3, o4, o5]) (st1 := []) (hp1 := (hz F A L)) rfl ?_
      subst T
      have hb2 := i_dn3 (B := (0 : Int32)) hb (by first | decide | exact hB | assumption)
      have hb3 : 0 ≤ y2.toInt := hb
      exact ih (show m = ((y2 - 1).toInt + 1 - 0).toNat by rw [hb2]; omega) (cvE rfl rfl rfl (K))
def km_goesNext_42 (a92 : List Int32) (x2 : Int32) : Nat → Int32 → Int32
  | 0, y3 => y3
  | m + 1, y3 => (if (a92.getD y3.toInt.toNat 0).toInt < (a92.getD x2.toInt.toNat 0).toInt then (km_goesNext_42 a92 x2 m (y3 - 1)) else y3)
theorem t_km_goesNext_42 {f : Nat} {Q : Option Value → sm_H → Prop} : ∀ (m : Nat) (B : Nat) {D : Nat} {F : Nat → Nat → Int32} {A : Nat → List Int32} {L : Nat → List Int64} {x1 : Int32} {x2 : Int32} {y3 : Int32} {o4 : Option Value} {o5 : Option Value}, B ≤ m → (wl_E f B D mm226.2.2.2.2.2.2.2.2 64 [some (.ref 67), some (.int x1), some (.int x2), some (.int (km_goesNext_42 (A 92) x2 m y3)), o4, o5] [] (hz F A L) Q) → wl_E f B D mm226.2.2.2.2.2.2.2.2 42 [some (.ref 67), some (.int x1), some (.int x2), some (.int y3), o4, o5] [] (hz F A L) Q := by
  intro m
  induction m with
  | zero =>
    intro B D F A L x1 x2 y3 o4 o5 hm K
    rw [show B = 0 by omega]
    exact w_0
  | succ m ih =>
    intro B D F A L x1 x2 y3 o4 o5 hm K
    cases B with
    | zero => exact w_0
    | succ B =>
      generalize hT : (km_goesNext_42 (A 92) x2 (m + 1) y3) = T at K
      have hE : T = (if ((A 92).getD y3.toInt.toNat 0).toInt < ((A 92).getD x2.toInt.toNat 0).toInt then (km_goesNext_42 (A 92) x2 m (y3 - 1)) else y3) := hT.symm
      clear hT
      refine w_n1 (pc1 := 43) (ls1 := [some (.ref 67), some (.int x1), some (.int x2), some (.int y3), o4, o5]) (st1 := [.ref 67]) (hp1 := (hz F A L)) rfl ?_
      refine w_n 2 (pc1 := 47) (ls1 := [some (.ref 67), some (.int x1), some (.int x2), some (.int y3), o4, o5]) (st1 := [.int y3, .ref 92]) (hp1 := (hz F A L)) rfl ?_
      refine w_al (k := 92) (l := (A 92)) rfl rfl rfl (fun _ => ?_)
      refine w_n 3 (pc1 := 53) (ls1 := [some (.ref 67), some (.int x1), some (.int x2), some (.int y3), o4, o5]) (st1 := [.int x2, .ref 92, .int ((A 92).getD y3.toInt.toNat 0)]) (hp1 := (hz F A L)) rfl ?_
      refine w_al (k := 92) (l := (A 92)) rfl rfl rfl (fun _ => ?_)
      refine w_ge (p3 := 57) rfl rfl (fun h => ?_) (fun h => ?_)
      · have h1 : ((A 92).getD x2.toInt.toNat 0).toInt ≤ ((A 92).getD y3.toInt.toNat 0).toInt := h
        rw [if_neg (Int.not_lt.mpr h1)] at hE
        subst T
        exact cvE rfl rfl rfl (wl_le (Nat.le_succ _) (K))
      · have h1 : ((A 92).getD y3.toInt.toNat 0).toInt < ((A 92).getD x2.toInt.toNat 0).toInt := h
        rw [if_pos h1] at hE
        refine w_n 5 (pc1 := 42) (ls1 := [some (.ref 67), some (.int x1), some (.int x2), some (.int (y3 - 1)), o4, o5]) (st1 := []) (hp1 := (hz F A L)) rfl ?_
        subst T
        exact ih _ (by omega) (cvE rfl rfl rfl (wl_le (Nat.le_succ _) (K)))
def km_changes (a92 : List Int32) (x1 : Int32) (x2 : Int32) : List Int32 := ((a92.set x1.toInt.toNat (a92.getD x2.toInt.toNat 0)).set x2.toInt.toNat (a92.getD x1.toInt.toNat 0))
theorem t_km_changes {f D : Nat} {F : Nat → Nat → Int32} {A : Nat → List Int32} {L : Nat → List Int64} {Q : Option Value → sm_H → Prop} {x1 : Int32} {x2 : Int32} (K : Q none (hz F (uA A 92 (km_changes (A 92) x1 x2)) L)) : wl_M f D 227 [.ref 67, .int x1, .int x2] (hz F A L) Q := by
  generalize hT : (km_changes (A 92) x1 x2) = T at K
  have hE : T = (((A 92).set x1.toInt.toNat ((A 92).getD x2.toInt.toNat 0)).set x2.toInt.toNat ((A 92).getD x1.toInt.toNat 0)) := hT.symm
  clear hT
  refine w_m (E := mm227) rfl ?_
  show wl_E f f (D - 1) mm227.2.2.2.2.2.2.2.2 0 [some (.ref 67), some (.int x1), some (.int x2), none] [] (hz F A L) Q
  refine w_n 3 (pc1 := 5) (ls1 := [some (.ref 67), some (.int x1), some (.int x2), none]) (st1 := [.int x1, .ref 92]) (hp1 := (hz F A L)) rfl ?_
  refine w_al (k := 92) (l := (A 92)) rfl rfl rfl (fun _ => ?_)
  refine w_n 7 (pc1 := 17) (ls1 := [some (.ref 67), some (.int x1), some (.int x2), some (.int ((A 92).getD x1.toInt.toNat 0))]) (st1 := [.int x2, .ref 92, .int x1, .ref 92]) (hp1 := (hz F A L)) rfl ?_
  refine w_al (k := 92) (l := (A 92)) rfl rfl rfl (fun _ => ?_)
  refine w_as (k := 92) (l := (A 92)) (hp1 := (hz F (uA A 92 ((A 92).set x1.toInt.toNat ((A 92).getD x2.toInt.toNat 0))) L)) rfl rfl rfl (hz_s92 _) (fun _ => ?_)
  refine w_n 4 (pc1 := 25) (ls1 := [some (.ref 67), some (.int x1), some (.int x2), some (.int ((A 92).getD x1.toInt.toNat 0))]) (st1 := [.int ((A 92).getD x1.toInt.toNat 0), .int x2, .ref 92]) (hp1 := (hz F (uA A 92 ((A 92).set x1.toInt.toNat ((A 92).getD x2.toInt.toNat 0))) L)) rfl ?_
  refine w_as (k := 92) (l := ((A 92).set x1.toInt.toNat ((A 92).getD x2.toInt.toNat 0))) (hp1 := (hz F (uA (uA A 92 ((A 92).set x1.toInt.toNat ((A 92).getD x2.toInt.toNat 0))) 92 (((A 92).set x1.toInt.toNat ((A 92).getD x2.toInt.toNat 0)).set x2.toInt.toNat ((A 92).getD x1.toInt.toNat 0))) L)) rfl rfl rfl (hz_s92 _) (fun _ => ?_)
  subst T
  exact w_r rfl rfl (cvQ rfl (funext fun q => if k0 : q = 92 then by subst k0; exact Eq.trans (b := (((A 92).set x1.toInt.toNat ((A 92).getD x2.toInt.toNat 0)).set x2.toInt.toNat ((A 92).getD x1.toInt.toNat 0))) rfl rfl else by unfold uA; simp only [nb1 k0, cond_false]) rfl K)
def km_goesNext_80   : Nat → Int32 → Int32 → List Int32 → List Int32
  | 0, _, _, a92 => a92
  | m + 1, y4, y5, a92 => (if y4.toInt < y5.toInt then (km_goesNext_80 m (y4 + 1) (y5 + (-1)) (km_changes a92 y4 y5)) else a92)
theorem t_km_goesNext_80 {f : Nat} {Q : Option Value → sm_H → Prop} : ∀ (m : Nat) (B : Nat) {D : Nat} {F : Nat → Nat → Int32} {A : Nat → List Int32} {L : Nat → List Int64} {x1 : Int32} {x2 : Int32} {x3 : Int32} {y4 : Int32} {y5 : Int32}, B ≤ m → (∀ q4 : Int32, ∀ q5 : Int32, wl_E f B D mm226.2.2.2.2.2.2.2.2 104 [some (.ref 67), some (.int x1), some (.int x2), some (.int x3), some (.int q4), some (.int q5)] [] (hz F (uA A 92 (km_goesNext_80 m y4 y5 (A 92))) L) Q) → wl_E f B D mm226.2.2.2.2.2.2.2.2 80 [some (.ref 67), some (.int x1), some (.int x2), some (.int x3), some (.int y4), some (.int y5)] [] (hz F A L) Q := by
  intro m
  induction m with
  | zero =>
    intro B D F A L x1 x2 x3 y4 y5 hm K
    rw [show B = 0 by omega]
    exact w_0
  | succ m ih =>
    intro B D F A L x1 x2 x3 y4 y5 hm K
    cases B with
    | zero => exact w_0
    | succ B =>
      generalize hT : (km_goesNext_80 (m + 1) y4 y5 (A 92)) = T at K
      have hE : T = (if y4.toInt < y5.toInt then (km_goesNext_80 m (y4 + 1) (y5 + (-1)) (km_changes (A 92) y4 y5)) else (A 92)) := hT.symm
      clear hT
      refine w_n1 (pc1 := 82) (ls1 := [some (.ref 67), some (.int x1), some (.int x2), some (.int x3), some (.int y4), some (.int y5)]) (st1 := [.int y4]) (hp1 := (hz F A L)) rfl ?_
      refine w_n 1 (pc1 := 84) (ls1 := [some (.ref 67), some (.int x1), some (.int x2), some (.int x3), some (.int y4), some (.int y5)]) (st1 := [.int y5, .int y4]) (hp1 := (hz F A L)) rfl ?_
      refine w_ge (p3 := 87) rfl rfl (fun h => ?_) (fun h => ?_)
      · have h1 : y5.toInt ≤ y4.toInt := h
        rw [if_neg (Int.not_lt.mpr h1)] at hE
        subst T
        exact cvE rfl (funext fun q => if k0 : q = 92 then by subst k0; exact Eq.trans (b := (A 92)) rfl rfl else by unfold uA; simp only [nb1 k0, cond_false]) rfl (wl_le (Nat.le_succ _) (K _ _))
      · have h1 : y4.toInt < y5.toInt := h
        rw [if_pos h1] at hE
        refine w_n 3 (pc1 := 92) (ls1 := [some (.ref 67), some (.int x1), some (.int x2), some (.int x3), some (.int y4), some (.int y5)]) (st1 := [.int y5, .int y4, .ref 67]) (hp1 := (hz F A L)) rfl ?_
        refine w_c rfl rfl (t_km_changes ?_)
        show wl_E f _ _ mm226.2.2.2.2.2.2.2.2 95 [some (.ref 67), some (.int x1), some (.int x2), some (.int x3), some (.int y4), some (.int y5)] [] (hz F (uA A 92 (km_changes (A 92) y4 y5)) L) _
        generalize hG345 : (km_changes (A 92) y4 y5) = G345 at hE ⊢
        refine w_n 3 (pc1 := 80) (ls1 := [some (.ref 67), some (.int x1), some (.int x2), some (.int x3), some (.int (y4 + 1)), some (.int (y5 + (-1)))]) (st1 := []) (hp1 := (hz F (uA A 92 G345) L)) rfl ?_
        subst T
        exact ih _ (by omega) (fun q4 q5 => cvE rfl (funext fun q => if k0 : q = 92 then by subst k0; exact Eq.trans (b := (km_goesNext_80 m (y4 + 1) (y5 + (-1)) G345)) rfl rfl else by unfold uA; simp only [nb1 k0, cond_false]) rfl (wl_le (Nat.le_succ _) (K q4 q5)))
def km_goesNext (f : Nat) (a92 : List Int32) (x1 : Int32) : Int32 × List Int32 := (if (km_goesNext_4 a92 ((x1 - 2).toInt + 1).toNat (x1 - 2)).toInt < 0 then (0, a92) else (1, (km_goesNext_80 f ((km_goesNext_4 a92 ((x1 - 2).toInt + 1).toNat (x1 - 2)) + 1) (x1 - 1) (km_changes a92 (km_goesNext_4 a92 ((x1 - 2).toInt + 1).toNat (x1 - 2)) (km_goesNext_42 a92 (km_goesNext_4 a92 ((x1 - 2).toInt + 1).toNat (x1 - 2)) f (x1 - 1))))))
theorem t_km_goesNext {f D : Nat} {F : Nat → Nat → Int32} {A : Nat → List Int32} {L : Nat → List Int64} {Q : Option Value → sm_H → Prop} {x1 : Int32} (K : Q (some (.int ((km_goesNext f (A 92) x1).1))) (hz F (uA A 92 ((km_goesNext f (A 92) x1).2)) L)) : wl_M f D 226 [.ref 67, .int x1] (hz F A L) Q := by
  generalize hT : (km_goesNext f (A 92) x1) = T at K
  have hE : T = (if (km_goesNext_4 (A 92) ((x1 - 2).toInt + 1).toNat (x1 - 2)).toInt < 0 then (0, (A 92)) else (1, (km_goesNext_80 f ((km_goesNext_4 (A 92) ((x1 - 2).toInt + 1).toNat (x1 - 2)) + 1) (x1 - 1) (km_changes (A 92) (km_goesNext_4 (A 92) ((x1 - 2).toInt + 1).toNat (x1 - 2)) (km_goesNext_42 (A 92) (km_goesNext_4 (A 92) ((x1 - 2).toInt + 1).toNat (x1 - 2)) f (x1 - 1)))))) := hT.symm
  clear hT
  refine w_m (E := mm226) rfl ?_
  show wl_E f f (D - 1) mm226.2.2.2.2.2.2.2.2 0 [some (.ref 67), some (.int x1), none, none, none, none] [] (hz F A L) Q
  refine w_n 4 (pc1 := 4) (ls1 := [some (.ref 67), some (.int x1), some (.int (x1 - 2)), none, none, none]) (st1 := []) (hp1 := (hz F A L)) rfl ?_
  refine t_km_goesNext_4 (((x1 - 2).toInt + 1).toNat) (show ((x1 - 2).toInt + 1).toNat = ((x1 - 2).toInt + 1 - 0).toNat by first | rfl | omega) ?_
  show wl_E f _ _ mm226.2.2.2.2.2.2.2.2 32 [some (.ref 67), some (.int x1), some (.int (km_goesNext_4 (A 92) ((x1 - 2).toInt + 1).toNat (x1 - 2))), none, none, none] [] (hz F A L) _
  generalize hG342 : (km_goesNext_4 (A 92) ((x1 - 2).toInt + 1).toNat (x1 - 2)) = G342 at hE ⊢
  refine w_n 1 (pc1 := 33) (ls1 := [some (.ref 67), some (.int x1), some (.int G342), none, none, none]) (st1 := [.int G342]) (hp1 := (hz F A L)) rfl ?_
  refine w_zge (p3 := 36) rfl rfl (fun h => ?_) (fun h => ?_)
  · have h1 : 0 ≤ G342.toInt := h
    rw [if_neg (Int.not_lt.mpr h1)] at hE
    refine w_n 4 (pc1 := 42) (ls1 := [some (.ref 67), some (.int x1), some (.int G342), some (.int (x1 - 1)), none, none]) (st1 := []) (hp1 := (hz F A L)) rfl ?_
    refine t_km_goesNext_42 f _ (Nat.le_refl _) ?_
    show wl_E f _ _ mm226.2.2.2.2.2.2.2.2 64 [some (.ref 67), some (.int x1), some (.int G342), some (.int (km_goesNext_42 (A 92) G342 f (x1 - 1))), none, none] [] (hz F A L) _
    generalize hG343 : (km_goesNext_42 (A 92) G342 f (x1 - 1)) = G343 at hE ⊢
    refine w_n 3 (pc1 := 67) (ls1 := [some (.ref 67), some (.int x1), some (.int G342), some (.int G343), none, none]) (st1 := [.int G343, .int G342, .ref 67]) (hp1 := (hz F A L)) rfl ?_
    refine w_c rfl rfl (t_km_changes ?_)
    show wl_E f _ _ mm226.2.2.2.2.2.2.2.2 70 [some (.ref 67), some (.int x1), some (.int G342), some (.int G343), none, none] [] (hz F (uA A 92 (km_changes (A 92) G342 G343)) L) _
    generalize hG344 : (km_changes (A 92) G342 G343) = G344 at hE ⊢
    refine w_n 8 (pc1 := 80) (ls1 := [some (.ref 67), some (.int x1), some (.int G342), some (.int G343), some (.int (G342 + 1)), some (.int (x1 - 1))]) (st1 := []) (hp1 := (hz F (uA A 92 G344) L)) rfl ?_
    refine t_km_goesNext_80 f _ (Nat.le_refl _) ?_
    intro r1 r2
    show wl_E f _ _ mm226.2.2.2.2.2.2.2.2 104 [some (.ref 67), some (.int x1), some (.int G342), some (.int G343), some (.int r1), some (.int r2)] [] (hz F (uA (uA A 92 G344) 92 (km_goesNext_80 f (G342 + 1) (x1 - 1) G344)) L) _
    generalize hG346 : (km_goesNext_80 f (G342 + 1) (x1 - 1) G344) = G346 at hE ⊢
    refine w_n 1 (pc1 := 105) (ls1 := [some (.ref 67), some (.int x1), some (.int G342), some (.int G343), some (.int r1), some (.int r2)]) (st1 := [.int 1]) (hp1 := (hz F (uA (uA A 92 G344) 92 G346) L)) rfl ?_
    subst T
    exact w_ri rfl (cvQ rfl (funext fun q => if k0 : q = 92 then by subst k0; exact Eq.trans (b := G346) rfl rfl else by unfold uA; simp only [nb1 k0, cond_false]) rfl K)
  · have h1 : G342.toInt < 0 := h
    rw [if_pos h1] at hE
    refine w_n 1 (pc1 := 37) (ls1 := [some (.ref 67), some (.int x1), some (.int G342), none, none, none]) (st1 := [.int 0]) (hp1 := (hz F A L)) rfl ?_
    subst T
    exact w_ri rfl (cvQ rfl (funext fun q => if k0 : q = 92 then by subst k0; exact Eq.trans (b := (A 92)) rfl rfl else by unfold uA; simp only [nb1 k0, cond_false]) rfl K)
def km_keepsRow_2 (a92 : List Int32)  : Nat → Int32 → List Int32 → List Int32
  | 0, _, a93 => a93
  | m + 1, y1, a93 => (km_keepsRow_2 a92 m (y1 + 1) (a93.set y1.toInt.toNat (a92.getD y1.toInt.toNat 0)))
theorem t_km_keepsRow_2 {f : Nat} {Q : Option Value → sm_H → Prop} : ∀ (m : Nat) {B D : Nat} {F : Nat → Nat → Int32} {A : Nat → List Int32} {L : Nat → List Int64} {y1 : Int32}, m = ((F 67 3).toInt - y1.toInt).toNat → (∀ q1 : Int32, wl_E f B D mm225.2.2.2.2.2.2.2.2 28 [some (.ref 67), some (.int q1)] [] (hz F (uA A 93 (km_keepsRow_2 (A 92) m y1 (A 93))) L) Q) → wl_E f B D mm225.2.2.2.2.2.2.2.2 2 [some (.ref 67), some (.int y1)] [] (hz F A L) Q := by
  intro m
  induction m with
  | zero =>
    intro B D F A L y1 hm K
    generalize hT : (km_keepsRow_2 (A 92) 0 y1 (A 93)) = T at K
    have hE : T = (A 93) := hT.symm
    clear hT
    refine w_n 3 (pc1 := 7) (ls1 := [some (.ref 67), some (.int y1)]) (st1 := [.int (F 67 3), .int y1]) (hp1 := (hz F A L)) rfl ?_
    refine w_ge (p3 := 10) rfl rfl (fun hb => ?_) (fun h => False.elim (by have h : y1.toInt < (F 67 3).toInt := h; omega))
    subst T
    exact cvE rfl (funext fun q => if k0 : q = 93 then by subst k0; exact Eq.trans (b := (A 93)) rfl rfl else by unfold uA; simp only [nb1 k0, cond_false]) rfl (K _)
  | succ m ih =>
    intro B D F A L y1 hm K
    generalize hT : (km_keepsRow_2 (A 92) (m + 1) y1 (A 93)) = T at K
    have hE : T = (km_keepsRow_2 (A 92) m (y1 + 1) ((A 93).set y1.toInt.toNat ((A 92).getD y1.toInt.toNat 0))) := hT.symm
    clear hT
    refine w_n 3 (pc1 := 7) (ls1 := [some (.ref 67), some (.int y1)]) (st1 := [.int (F 67 3), .int y1]) (hp1 := (hz F A L)) rfl ?_
    refine w_ge (p3 := 10) rfl rfl (fun h => False.elim (by have h : (F 67 3).toInt ≤ y1.toInt := h; omega)) (fun hb => ?_)
    refine w_n 6 (pc1 := 20) (ls1 := [some (.ref 67), some (.int y1)]) (st1 := [.int y1, .ref 92, .int y1, .ref 93]) (hp1 := (hz F A L)) rfl ?_
    refine w_al (k := 92) (l := (A 92)) rfl rfl rfl (fun ab => ?_)
    refine w_as (k := 93) (l := (A 93)) (hp1 := (hz F (uA A 93 ((A 93).set y1.toInt.toNat ((A 92).getD y1.toInt.toNat 0))) L)) rfl rfl rfl (hz_s93 _) (fun ab => ?_)
    refine w_n 2 (pc1 := 2) (ls1 := [some (.ref 67), some (.int (y1 + 1))]) (st1 := []) (hp1 := (hz F (uA A 93 ((A 93).set y1.toInt.toNat ((A 92).getD y1.toInt.toNat 0))) L)) rfl ?_
    subst T
    have hb2 := i_up (B := (F 67 3)) hb
    have hb3 : y1.toInt < (F 67 3).toInt := hb
    exact ih (show m = ((F 67 3).toInt - (y1 + 1).toInt).toNat by rw [hb2]; omega) (fun q1 => cvE rfl (funext fun q => if k0 : q = 93 then by subst k0; exact Eq.trans (b := (km_keepsRow_2 (A 92) m (y1 + 1) ((A 93).set y1.toInt.toNat ((A 92).getD y1.toInt.toNat 0)))) rfl rfl else by unfold uA; simp only [nb1 k0, cond_false]) rfl (K q1))
def km_keepsRow (f67_3 : Int32) (a92 : List Int32) (a93 : List Int32) : List Int32 := (km_keepsRow_2 a92 f67_3.toInt.toNat 0 a93)
theorem t_km_keepsRow {f D : Nat} {F : Nat → Nat → Int32} {A : Nat → List Int32} {L : Nat → List Int64} {Q : Option Value → sm_H → Prop} (K : Q none (hz F (uA A 93 (km_keepsRow (F 67 3) (A 92) (A 93))) L)) : wl_M f D 225 [.ref 67] (hz F A L) Q := by
  generalize hT : (km_keepsRow (F 67 3) (A 92) (A 93)) = T at K
  have hE : T = (km_keepsRow_2 (A 92) (F 67 3).toInt.toNat 0 (A 93)) := hT.symm
  clear hT
  refine w_m (E := mm225) rfl ?_
  show wl_E f f (D - 1) mm225.2.2.2.2.2.2.2.2 0 [some (.ref 67), none] [] (hz F A L) Q
  refine w_n 2 (pc1 := 2) (ls1 := [some (.ref 67), some (.int 0)]) (st1 := []) (hp1 := (hz F A L)) rfl ?_
  refine t_km_keepsRow_2 (F 67 3).toInt.toNat (show (F 67 3).toInt.toNat = ((F 67 3).toInt - (0 : Int32).toInt).toNat by have e0 : (0 : Int32).toInt = 0 := rfl; first | rfl | omega) ?_
  intro r1
  show wl_E f _ _ mm225.2.2.2.2.2.2.2.2 28 [some (.ref 67), some (.int r1)] [] (hz F (uA A 93 (km_keepsRow_2 (A 92) (F 67 3).toInt.toNat 0 (A 93))) L) _
  generalize hG349 : (km_keepsRow_2 (A 92) (F 67 3).toInt.toNat 0 (A 93)) = G349 at hE ⊢
  subst T
  exact w_r rfl rfl (cvQ rfl rfl rfl K)
def km_orders_33 (f : Nat) (f67_3 : Int32) (a68 : List Int32) (x1 : Int32) : Nat → Int32 → Int32 → List Int32 → List Int32 → Int32 × List Int32 × List Int32
  | 0, y3, _, a92, a93 => (y3, a92, a93)
  | m + 1, y3, y4, a92, a93 => (if y4 = 0 then (y3, a92, a93) else (if (km_orders_49 a68 a92 (f67_3.toInt - 1).toNat (a92.getD 0 0) 1) = x1 then (if y3 = 0 then (km_orders_33 f f67_3 a68 x1 m (y3 + 1) (km_goesNext f a92 f67_3).1 (km_goesNext f a92 f67_3).2 (km_keepsRow f67_3 a92 a93)) else (km_orders_33 f f67_3 a68 x1 m (y3 + 1) (km_goesNext f a92 f67_3).1 (km_goesNext f a92 f67_3).2 a93)) else (km_orders_33 f f67_3 a68 x1 m (y3 + 0) (km_goesNext f a92 f67_3).1 (km_goesNext f a92 f67_3).2 a93)))
theorem t_km_orders_33 {f : Nat} {Q : Option Value → sm_H → Prop} : ∀ (m : Nat) (B : Nat) {D : Nat} {F : Nat → Nat → Int32} {A : Nat → List Int32} {L : Nat → List Int64} {x1 : Int32} {x2 : Int32} {y3 : Int32} {y4 : Int32} {o5 : Option Value} {o6 : Option Value}, B ≤ m → (∀ q4 : Int32, ∀ q5 : Option Value, ∀ q6 : Option Value, wl_E f B D mm223.2.2.2.2.2.2.2.2 120 [some (.ref 67), some (.int x1), some (.int x2), some (.int ((km_orders_33 f (F 67 3) (A 68) x1 m y3 y4 (A 92) (A 93)).1)), some (.int q4), q5, q6] [] (hz F (uA (uA A 92 ((km_orders_33 f (F 67 3) (A 68) x1 m y3 y4 (A 92) (A 93)).2.1)) 93 ((km_orders_33 f (F 67 3) (A 68) x1 m y3 y4 (A 92) (A 93)).2.2)) L) Q) → wl_E f B D mm223.2.2.2.2.2.2.2.2 33 [some (.ref 67), some (.int x1), some (.int x2), some (.int y3), some (.int y4), o5, o6] [] (hz F A L) Q := by
  intro m
  induction m with
  | zero =>
    intro B D F A L x1 x2 y3 y4 o5 o6 hm K
    rw [show B = 0 by omega]
    exact w_0
  | succ m ih =>
    intro B D F A L x1 x2 y3 y4 o5 o6 hm K
    cases B with
    | zero => exact w_0
    | succ B =>
      generalize hT : (km_orders_33 f (F 67 3) (A 68) x1 (m + 1) y3 y4 (A 92) (A 93)) = T at K
      have hE : T = (if y4 = 0 then (y3, (A 92), (A 93)) else (if (km_orders_49 (A 68) (A 92) ((F 67 3).toInt - 1).toNat ((A 92).getD 0 0) 1) = x1 then (if y3 = 0 then (km_orders_33 f (F 67 3) (A 68) x1 m (y3 + 1) (km_goesNext f (A 92) (F 67 3)).1 (km_goesNext f (A 92) (F 67 3)).2 (km_keepsRow (F 67 3) (A 92) (A 93))) else (km_orders_33 f (F 67 3) (A 68) x1 m (y3 + 1) (km_goesNext f (A 92) (F 67 3)).1 (km_goesNext f (A 92) (F 67 3)).2 (A 93))) else (km_orders_33 f (F 67 3) (A 68) x1 m (y3 + 0) (km_goesNext f (A 92) (F 67 3)).1 (km_goesNext f (A 92) (F 67 3)).2 (A 93)))) := hT.symm
      clear hT
      refine w_n1 (pc1 := 35) (ls1 := [some (.ref 67), some (.int x1), some (.int x2), some (.int y3), some (.int y4), o5, o6]) (st1 := [.int y4]) (hp1 := (hz F A L)) rfl ?_
      refine w_zeq (p3 := 38) rfl rfl (fun h => ?_) (fun h => ?_)
      · have h1 : y4 = 0 := h
        rw [if_pos h1] at hE
        subst T
        exact cvE rfl (funext fun q => if k0 : q = 92 then by subst k0; exact Eq.trans (b := (A 92)) rfl rfl else if k1 : q = 93 then by subst k1; exact Eq.trans (b := (A 93)) rfl rfl else by unfold uA; simp only [nb1 k0, nb1 k1, cond_false]) rfl (wl_le (Nat.le_succ _) (K _ _ _))
      · have h1 : ¬ y4 = 0 := h
        rw [if_neg h1] at hE
        refine w_n 3 (pc1 := 43) (ls1 := [some (.ref 67), some (.int x1), some (.int x2), some (.int y3), some (.int y4), o5, o6]) (st1 := [.int 0, .ref 92]) (hp1 := (hz F A L)) rfl ?_
        refine w_al (k := 92) (l := (A 92)) rfl rfl rfl (fun _ => ?_)
        refine w_n 3 (pc1 := 49) (ls1 := [some (.ref 67), some (.int x1), some (.int x2), some (.int y3), some (.int y4), some (.int ((A 92).getD 0 0)), some (.int 1)]) (st1 := []) (hp1 := (hz F A L)) rfl ?_
        refine t_km_orders_49 (((F 67 3).toInt - 1).toNat) (show ((F 67 3).toInt - 1).toNat = ((F 67 3).toInt - (1 : Int32).toInt).toNat by have e0 : (1 : Int32).toInt = 1 := rfl; first | rfl | omega) ?_
        intro r1
        show wl_E f _ _ mm223.2.2.2.2.2.2.2.2 79 [some (.ref 67), some (.int x1), some (.int x2), some (.int y3), some (.int y4), some (.int (km_orders_49 (A 68) (A 92) ((F 67 3).toInt - 1).toNat ((A 92).getD 0 0) 1)), some (.int r1)] [] (hz F A L) _
        generalize hG341 : (km_orders_49 (A 68) (A 92) ((F 67 3).toInt - 1).toNat ((A 92).getD 0 0) 1) = G341 at hE ⊢
        refine w_n 2 (pc1 := 82) (ls1 := [some (.ref 67), some (.int x1), some (.int x2), some (.int y3), some (.int y4), some (.int G341), some (.int r1)]) (st1 := [.int x1, .int G341]) (hp1 := (hz F A L)) rfl ?_
        refine w_ne (p3 := 85) rfl rfl (fun h => ?_) (fun h => ?_)
        · have h2 : ¬ G341 = x1 := h
          rw [if_neg h2] at hE
          refine w_n 3 (pc1 := 97) (ls1 := [some (.ref 67), some (.int x1), some (.int x2), some (.int y3), some (.int y4), some (.int G341), some (.int r1)]) (st1 := [.int x1, .int G341, .int y3]) (hp1 := (hz F A L)) rfl ?_
          refine w_ne (p3 := 100) rfl rfl (fun _ => ?_) (fun h => absurd h h2)
          refine w_n 6 (pc1 := 112) (ls1 := [some (.ref 67), some (.int x1), some (.int x2), some (.int (y3 + 0)), some (.int y4), some (.int G341), some (.int r1)]) (st1 := [.int (F 67 3), .ref 67]) (hp1 := (hz F A L)) rfl ?_
          refine w_c rfl rfl (t_km_goesNext ?_)
          show wl_E f _ _ mm223.2.2.2.2.2.2.2.2 115 [some (.ref 67), some (.int x1), some (.int x2), some (.int (y3 + 0)), some (.int y4), some (.int G341), some (.int r1)] [.int (km_goesNext f (A 92) (F 67 3)).1] (hz F (uA A 92 (km_goesNext f (A 92) (F 67 3)).2) L) _
          generalize hG347 : (km_goesNext f (A 92) (F 67 3)) = G347 at hE ⊢
          refine w_n 2 (pc1 := 33) (ls1 := [some (.ref 67), some (.int x1), some (.int x2), some (.int (y3 + 0)), some (.int G347.1), some (.int G341), some (.int r1)]) (st1 := []) (hp1 := (hz F (uA A 92 G347.2) L)) rfl ?_
          subst T
          exact ih _ (by omega) (fun q4 q5 q6 => cvE rfl (funext fun q => if k0 : q = 92 then by subst k0; exact Eq.trans (b := (km_orders_33 f (F 67 3) (A 68) x1 m (y3 + 0) G347.1 G347.2 (A 93)).2.1) rfl rfl else if k1 : q = 93 then by subst k1; exact Eq.trans (b := (km_orders_33 f (F 67 3) (A 68) x1 m (y3 + 0) G347.1 G347.2 (A 93)).2.2) rfl rfl else by unfold uA; simp only [nb1 k0, nb1 k1, cond_false]) rfl (wl_le (Nat.le_succ _) (K q4 q5 q6)))
        · have h2 : G341 = x1 := h
          rw [if_pos h2] at hE
          refine w_n 1 (pc1 := 86) (ls1 := [some (.ref 67), some (.int x1), some (.int x2), some (.int y3), some (.int y4), some (.int G341), some (.int r1)]) (st1 := [.int y3]) (hp1 := (hz F A L)) rfl ?_
          refine w_zne (p3 := 89) rfl rfl (fun h => ?_) (fun h => ?_)
          · have h3 : ¬ y3 = 0 := h
            rw [if_neg h3] at hE
            refine w_n 3 (pc1 := 97) (ls1 := [some (.ref 67), some (.int x1), some (.int x2), some (.int y3), some (.int y4), some (.int G341), some (.int r1)]) (st1 := [.int x1, .int G341, .int y3]) (hp1 := (hz F A L)) rfl ?_
            refine w_ne (p3 := 100) rfl rfl (fun h => absurd h2 h) (fun _ => ?_)
            refine w_n 7 (pc1 := 112) (ls1 := [some (.ref 67), some (.int x1), some (.int x2), some (.int (y3 + 1)), some (.int y4), some (.int G341), some (.int r1)]) (st1 := [.int (F 67 3), .ref 67]) (hp1 := (hz F A L)) rfl ?_
            refine w_c rfl rfl (t_km_goesNext ?_)
            show wl_E f _ _ mm223.2.2.2.2.2.2.2.2 115 [some (.ref 67), some (.int x1), some (.int x2), some (.int (y3 + 1)), some (.int y4), some (.int G341), some (.int r1)] [.int (km_goesNext f (A 92) (F 67 3)).1] (hz F (uA A 92 (km_goesNext f (A 92) (F 67 3)).2) L) _
            generalize hG348 : (km_goesNext f (A 92) (F 67 3)) = G348 at hE ⊢
            refine w_n 2 (pc1 := 33) (ls1 := [some (.ref 67), some (.int x1), some (.int x2), some (.int (y3 + 1)), some (.int G348.1), some (.int G341), some (.int r1)]) (st1 := []) (hp1 := (hz F (uA A 92 G348.2) L)) rfl ?_
            subst T
            exact ih _ (by omega) (fun q4 q5 q6 => cvE rfl (funext fun q => if k0 : q = 92 then by subst k0; exact Eq.trans (b := (km_orders_33 f (F 67 3) (A 68) x1 m (y3 + 1) G348.1 G348.2 (A 93)).2.1) rfl rfl else if k1 : q = 93 then by subst k1; exact Eq.trans (b := (km_orders_33 f (F 67 3) (A 68) x1 m (y3 + 1) G348.1 G348.2 (A 93)).2.2) rfl rfl else by unfold uA; simp only [nb1 k0, nb1 k1, cond_false]) rfl (wl_le (Nat.le_succ _) (K q4 q5 q6)))
          · have h3 : y3 = 0 := h
            rw [if_pos h3] at hE
            refine w_n 1 (pc1 := 90) (ls1 := [some (.ref 67), some (.int x1), some (.int x2), some (.int y3), some (.int y4), some (.int G341), some (.int r1)]) (st1 := [.ref 67]) (hp1 := (hz F A L)) rfl ?_
            refine w_c rfl rfl (t_km_keepsRow ?_)
            show wl_E f _ _ mm223.2.2.2.2.2.2.2.2 93 [some (.ref 67), some (.int x1), some (.int x2), some (.int y3), some (.int y4), some (.int G341), some (.int r1)] [] (hz F (uA A 93 (km_keepsRow (F 67 3) (A 92) (A 93))) L) _
            generalize hG350 : (km_keepsRow (F 67 3) (A 92) (A 93)) = G350 at hE ⊢
            refine w_n 3 (pc1 := 97) (ls1 := [some (.ref 67), some (.int x1), some (.int x2), some (.int y3), some (.int y4), some (.int G341), some (.int r1)]) (st1 := [.int x1, .int G341, .int y3]) (hp1 := (hz F (uA A 93 G350) L)) rfl ?_
            refine w_ne (p3 := 100) rfl rfl (fun h => absurd h2 h) (fun _ => ?_)
            refine w_n 7 (pc1 := 112) (ls1 := [some (.ref 67), some (.int x1), some (.int x2), some (.int (y3 + 1)), some (.int y4), some (.int G341), some (.int r1)]) (st1 := [.int (F 67 3), .ref 67]) (hp1 := (hz F (uA A 93 G350) L)) rfl ?_
            refine w_c rfl rfl (t_km_goesNext ?_)
            show wl_E f _ _ mm223.2.2.2.2.2.2.2.2 115 [some (.ref 67), some (.int x1), some (.int x2), some (.int (y3 + 1)), some (.int y4), some (.int G341), some (.int r1)] [.int (km_goesNext f (A 92) (F 67 3)).1] (hz F (uA (uA A 93 G350) 92 (km_goesNext f (A 92) (F 67 3)).2) L) _
            generalize hG351 : (km_goesNext f (A 92) (F 67 3)) = G351 at hE ⊢
            refine w_n 2 (pc1 := 33) (ls1 := [some (.ref 67), some (.int x1), some (.int x2), some (.int (y3 + 1)), some (.int G351.1), some (.int G341), some (.int r1)]) (st1 := []) (hp1 := (hz F (uA (uA A 93 G350) 92 G351.2) L)) rfl ?_
            subst T
            exact ih _ (by omega) (fun q4 q5 q6 => cvE rfl (funext fun q => if k0 : q = 92 then by subst k0; exact Eq.trans (b := (km_orders_33 f (F 67 3) (A 68) x1 m (y3 + 1) G351.1 G351.2 G350).2.1) rfl rfl else if k1 : q = 93 then by subst k1; exact Eq.trans (b := (km_orders_33 f (F 67 3) (A 68) x1 m (y3 + 1) G351.1 G351.2 G350).2.2) rfl rfl else by unfold uA; simp only [nb1 k0, nb1 k1, cond_false]) rfl (wl_le (Nat.le_succ _) (K q4 q5 q6)))
def km_orders (f : Nat) (f67_3 : Int32) (a68 : List Int32) (a92 : List Int32) (a93 : List Int32) (x1 : Int32) (x2 : Int32) : Int32 × List Int32 × List Int32 := (if (km_isMeasure f67_3 x1) = 0 then ((-1), a92, a93) else (if x2 = 10 then ((km_orders_33 f f67_3 a68 x1 f 0 1 (km_beginsRows f67_3 a92) a93).1, (km_orders_33 f f67_3 a68 x1 f 0 1 (km_beginsRows f67_3 a92) a93).2.1, (km_orders_33 f f67_3 a68 x1 f 0 1 (km_beginsRows f67_3 a92) a93).2.2) else (if (km_isMeasure f67_3 x2) = 0 then ((-1), a92, a93) else (if (km_orders_33 f f67_3 a68 x1 f 0 1 (km_beginsRows f67_3 a92) a93).1 = 0 then ((-2), (km_orders_33 f f67_3 a68 x1 f 0 1 (km_beginsRows f67_3 a92) a93).2.1, (km_orders_33 f f67_3 a68 x1 f 0 1 (km_beginsRows f67_3 a92) a93).2.2) else (((km_orders_33 f f67_3 a68 x1 f 0 1 (km_beginsRows f67_3 a92) a93).2.2.getD x2.toInt.toNat 0), (km_orders_33 f f67_3 a68 x1 f 0 1 (km_beginsRows f67_3 a92) a93).2.1, (km_orders_33 f f67_3 a68 x1 f 0 1 (km_beginsRows f67_3 a92) a93).2.2)))))
theorem t_km_orders {f D : Nat} {F : Nat → Nat → Int32} {A : Nat → List Int32} {L : Nat → List Int64} {Q : Option Value → sm_H → Prop} {x1 : Int32} {x2 : Int32} (K : Q (some (.int ((km_orders f (F 67 3) (A 68) (A 92) (A 93) x1 x2).1))) (hz F (uA (uA A 92 ((km_orders f (F 67 3) (A 68) (A 92) (A 93) x1 x2).2.1)) 93 ((km_orders f (F 67 3) (A 68) (A 92) (A 93) x1 x2).2.2)) L)) : wl_M f D 223 [.ref 67, .int x1, .int x2] (hz F A L) Q := by
  generalize hT : (km_orders f (F 67 3) (A 68) (A 92) (A 93) x1 x2) = T at K
  have hE : T = (if (km_isMeasure (F 67 3) x1) = 0 then ((-1), (A 92), (A 93)) else (if x2 = 10 then ((km_orders_33 f (F 67 3) (A 68) x1 f 0 1 (km_beginsRows (F 67 3) (A 92)) (A 93)).1, (km_orders_33 f (F 67 3) (A 68) x1 f 0 1 (km_beginsRows (F 67 3) (A 92)) (A 93)).2.1, (km_orders_33 f (F 67 3) (A 68) x1 f 0 1 (km_beginsRows (F 67 3) (A 92)) (A 93)).2.2) else (if (km_isMeasure (F 67 3) x2) = 0 then ((-1), (A 92), (A 93)) else (if (km_orders_33 f (F 67 3) (A 68) x1 f 0 1 (km_beginsRows (F 67 3) (A 92)) (A 93)).1 = 0 then ((-2), (km_orders_33 f (F 67 3) (A 68) x1 f 0 1 (km_beginsRows (F 67 3) (A 92)) (A 93)).2.1, (km_orders_33 f (F 67 3) (A 68) x1 f 0 1 (km_beginsRows (F 67 3) (A 92)) (A 93)).2.2) else (((km_orders_33 f (F 67 3) (A 68) x1 f 0 1 (km_beginsRows (F 67 3) (A 92)) (A 93)).2.2.getD x2.toInt.toNat 0), (km_orders_33 f (F 67 3) (A 68) x1 f 0 1 (km_beginsRows (F 67 3) (A 92)) (A 93)).2.1, (km_orders_33 f (F 67 3) (A 68) x1 f 0 1 (km_beginsRows (F 67 3) (A 92)) (A 93)).2.2))))) := hT.symm
  clear hT
  refine w_m (E := mm223) rfl ?_
  show wl_E f f (D - 1) mm223.2.2.2.2.2.2.2.2 0 [some (.ref 67), some (.int x1), some (.int x2), none, none, none, none] [] (hz F A L) Q
  refine w_n 2 (pc1 := 2) (ls1 := [some (.ref 67), some (.int x1), some (.int x2), none, none, none, none]) (st1 := [.int x1, .ref 67]) (hp1 := (hz F A L)) rfl ?_
  refine w_c rfl rfl (t_km_isMeasure ?_)
  show wl_E f _ _ mm223.2.2.2.2.2.2.2.2 5 [some (.ref 67), some (.int x1), some (.int x2), none, none, none, none] [.int (km_isMeasure (F 67 3) x1)] (hz F A L) _
  generalize hG336 : (km_isMeasure (F 67 3) x1) = G336 at hE ⊢
  refine w_zeq (p3 := 8) rfl rfl (fun h => ?_) (fun h => ?_)
  · have h1 : G336 = 0 := h
    rw [if_pos h1] at hE
    refine w_n 1 (pc1 := 23) (ls1 := [some (.ref 67), some (.int x1), some (.int x2), none, none, none, none]) (st1 := [.int (-1)]) (hp1 := (hz F A L)) rfl ?_
    subst T
    exact w_ri rfl (cvQ rfl (funext fun q => if k0 : q = 92 then by subst k0; exact Eq.trans (b := (A 92)) rfl rfl else if k1 : q = 93 then by subst k1; exact Eq.trans (b := (A 93)) rfl rfl else by unfold uA; simp only [nb1 k0, nb1 k1, cond_false]) rfl K)
  · have h1 : ¬ G336 = 0 := h
    rw [if_neg h1] at hE
    refine w_n 2 (pc1 := 11) (ls1 := [some (.ref 67), some (.int x1), some (.int x2), none, none, none, none]) (st1 := [.int 10, .int x2]) (hp1 := (hz F A L)) rfl ?_
    refine w_eq (p3 := 14) rfl rfl (fun h => ?_) (fun h => ?_)
    · have h2 : x2 = 10 := h
      rw [if_pos h2] at hE
      refine w_n 1 (pc1 := 25) (ls1 := [some (.ref 67), some (.int x1), some (.int x2), none, none, none, none]) (st1 := [.ref 67]) (hp1 := (hz F A L)) rfl ?_
      refine w_c rfl rfl (t_km_beginsRows ?_)
      show wl_E f _ _ mm223.2.2.2.2.2.2.2.2 28 [some (.ref 67), some (.int x1), some (.int x2), none, none, none, none] [] (hz F (uA A 92 (km_beginsRows (F 67 3) (A 92))) L) _
      generalize hG338 : (km_beginsRows (F 67 3) (A 92)) = G338 at hE ⊢
      refine w_n 4 (pc1 := 33) (ls1 := [some (.ref 67), some (.int x1), some (.int x2), some (.int 0), some (.int 1), none, none]) (st1 := []) (hp1 := (hz F (uA A 92 G338) L)) rfl ?_
      refine t_km_orders_33 f _ (Nat.le_refl _) ?_
      intro r1 r2 r3
      show wl_E f _ _ mm223.2.2.2.2.2.2.2.2 120 [some (.ref 67), some (.int x1), some (.int x2), some (.int (km_orders_33 f (F 67 3) (A 68) x1 f 0 1 G338 (A 93)).1), some (.int r1), r2, r3] [] (hz F (uA (uA (uA A 92 G338) 92 (km_orders_33 f (F 67 3) (A 68) x1 f 0 1 G338 (A 93)).2.1) 93 (km_orders_33 f (F 67 3) (A 68) x1 f 0 1 G338 (A 93)).2.2) L) _
      generalize hG352 : (km_orders_33 f (F 67 3) (A 68) x1 f 0 1 G338 (A 93)) = G352 at hE ⊢
      refine w_n 2 (pc1 := 123) (ls1 := [some (.ref 67), some (.int x1), some (.int x2), some (.int G352.1), some (.int r1), r2, r3]) (st1 := [.int 10, .int x2]) (hp1 := (hz F (uA (uA (uA A 92 G338) 92 G352.2.1) 93 G352.2.2) L)) rfl ?_
      refine w_ne (p3 := 126) rfl rfl (fun h => absurd h2 h) (fun _ => ?_)
      refine w_n 2 (pc1 := 145) (ls1 := [some (.ref 67), some (.int x1), some (.int x2), some (.int G352.1), some (.int r1), r2, r3]) (st1 := [.int G352.1]) (hp1 := (hz F (uA (uA (uA A 92 G338) 92 G352.2.1) 93 G352.2.2) L)) rfl ?_
      subst T
      exact w_ri rfl (cvQ rfl (funext fun q => if k0 : q = 92 then by subst k0; exact Eq.trans (b := G352.2.1) rfl rfl else if k1 : q = 93 then by subst k1; exact Eq.trans (b := G352.2.2) rfl rfl else by unfold uA; simp only [nb1 k0, nb1 k1, cond_false]) rfl K)
    · have h2 : ¬ x2 = 10 := h
      rw [if_neg h2] at hE
      refine w_n 2 (pc1 := 16) (ls1 := [some (.ref 67), some (.int x1), some (.int x2), none, none, none, none]) (st1 := [.int x2, .ref 67]) (hp1 := (hz F A L)) rfl ?_
      refine w_c rfl rfl (t_km_isMeasure ?_)
      show wl_E f _ _ mm223.2.2.2.2.2.2.2.2 19 [some (.ref 67), some (.int x1), some (.int x2), none, none, none, none] [.int (km_isMeasure (F 67 3) x2)] (hz F A L) _
      generalize hG353 : (km_isMeasure (F 67 3) x2) = G353 at hE ⊢
      refine w_zne (p3 := 22) rfl rfl (fun h => ?_) (fun h => ?_)
      · have h3 : ¬ G353 = 0 := h
        rw [if_neg h3] at hE
        refine w_n 1 (pc1 := 25) (ls1 := [some (.ref 67), some (.int x1), some (.int x2), none, none, none, none]) (st1 := [.ref 67]) (hp1 := (hz F A L)) rfl ?_
        refine w_c rfl rfl (t_km_beginsRows ?_)
        show wl_E f _ _ mm223.2.2.2.2.2.2.2.2 28 [some (.ref 67), some (.int x1), some (.int x2), none, none, none, none] [] (hz F (uA A 92 (km_beginsRows (F 67 3) (A 92))) L) _
        generalize hG354 : (km_beginsRows (F 67 3) (A 92)) = G354 at hE ⊢
        refine w_n 4 (pc1 := 33) (ls1 := [some (.ref 67), some (.int x1), some (.int x2), some (.int 0), some (.int 1), none, none]) (st1 := []) (hp1 := (hz F (uA A 92 G354) L)) rfl ?_
        refine t_km_orders_33 f _ (Nat.le_refl _) ?_
        intro r4 r5 r6
        show wl_E f _ _ mm223.2.2.2.2.2.2.2.2 120 [some (.ref 67), some (.int x1), some (.int x2), some (.int (km_orders_33 f (F 67 3) (A 68) x1 f 0 1 G354 (A 93)).1), some (.int r4), r5, r6] [] (hz F (uA (uA (uA A 92 G354) 92 (km_orders_33 f (F 67 3) (A 68) x1 f 0 1 G354 (A 93)).2.1) 93 (km_orders_33 f (F 67 3) (A 68) x1 f 0 1 G354 (A 93)).2.2) L) _
        generalize hG355 : (km_orders_33 f (F 67 3) (A 68) x1 f 0 1 G354 (A 93)) = G355 at hE ⊢
        refine w_n 2 (pc1 := 123) (ls1 := [some (.ref 67), some (.int x1), some (.int x2), some (.int G355.1), some (.int r4), r5, r6]) (st1 := [.int 10, .int x2]) (hp1 := (hz F (uA (uA (uA A 92 G354) 92 G355.2.1) 93 G355.2.2) L)) rfl ?_
        refine w_ne (p3 := 126) rfl rfl (fun _ => ?_) (fun h => absurd h h2)
        refine w_n 1 (pc1 := 131) (ls1 := [some (.ref 67), some (.int x1), some (.int x2), some (.int G355.1), some (.int r4), r5, r6]) (st1 := [.int G355.1]) (hp1 := (hz F (uA (uA (uA A 92 G354) 92 G355.2.1) 93 G355.2.2) L)) rfl ?_
        refine w_zne (p3 := 134) rfl rfl (fun h => ?_) (fun h => ?_)
        · have h4 : ¬ G355.1 = 0 := h
          rw [if_neg h4] at hE
          refine w_n 3 (pc1 := 144) (ls1 := [some (.ref 67), some (.int x1), some (.int x2), some (.int G355.1), some (.int r4), r5, r6]) (st1 := [.int x2, .ref 93]) (hp1 := (hz F (uA (uA (uA A 92 G354) 92 G355.2.1) 93 G355.2.2) L)) rfl ?_
          refine w_al (k := 93) (l := G355.2.2) rfl rfl rfl (fun _ => ?_)
          subst T
          exact w_ri rfl (cvQ rfl (funext fun q => if k0 : q = 92 then by subst k0; exact Eq.trans (b := G355.2.1) rfl rfl else if k1 : q = 93 then by subst k1; exact Eq.trans (b := G355.2.2) rfl rfl else by unfold uA; simp only [nb1 k0, nb1 k1, cond_false]) rfl K)
        · have h4 : G355.1 = 0 := h
          rw [if_pos h4] at hE
          refine w_n 2 (pc1 := 145) (ls1 := [some (.ref 67), some (.int x1), some (.int x2), some (.int G355.1), some (.int r4), r5, r6]) (st1 := [.int (-2)]) (hp1 := (hz F (uA (uA (uA A 92 G354) 92 G355.2.1) 93 G355.2.2) L)) rfl ?_
          subst T
          exact w_ri rfl (cvQ rfl (funext fun q => if k0 : q = 92 then by subst k0; exact Eq.trans (b := G355.2.1) rfl rfl else if k1 : q = 93 then by subst k1; exact Eq.trans (b := G355.2.2) rfl rfl else by unfold uA; simp only [nb1 k0, nb1 k1, cond_false]) rfl K)
      · have h3 : G353 = 0 := h
        rw [if_pos h3] at hE
        refine w_n 1 (pc1 := 23) (ls1 := [some (.ref 67), some (.int x1), some (.int x2), none, none, none, none]) (st1 := [.int (-1)]) (hp1 := (hz F A L)) rfl ?_
        subst T
        exact w_ri rfl (cvQ rfl (funext fun q => if k0 : q = 92 then by subst k0; exact Eq.trans (b := (A 92)) rfl rfl else if k1 : q = 93 then by subst k1; exact Eq.trans (b := (A 93)) rfl rfl else by unfold uA; simp only [nb1 k0, nb1 k1, cond_false]) rfl K)
def kv_fewestToWin_6 (f3_0 : Int32) (l11 : List Int64)  : Nat → Int32 → List Int32 → List Int32
  | 0, _, a41 => a41
  | m + 1, y2, a41 => (kv_fewestToWin_6 f3_0 l11 m (y2 + 1) (a41.set y2.toInt.toNat (kt_favourite f3_0 l11 y2 (kt_allMeasures f3_0))))
theorem t_kv_fewestToWin_6 {f : Nat} {Q : Option Value → sm_H → Prop} : ∀ (m : Nat) {B D : Nat} {F : Nat → Nat → Int32} {A : Nat → List Int32} {L : Nat → List Int64} {x1 : Int32} {y2 : Int32} {o3 : Option Value} {o4 : Option Value} {o5 : Option Value}, m = (12 - y2.toInt).toNat → (∀ q2 : Int32, wl_E f B D mm112.2.2.2.2.2.2.2.2 39 [some (.ref 30), some (.int x1), some (.int q2), o3, o4, o5] [] (hz F (uA A 41 (kv_fewestToWin_6 (F 3 0) (L 11) m y2 (A 41))) L) Q) → wl_E f B D mm112.2.2.2.2.2.2.2.2 6 [some (.ref 30), some (.int x1), some (.int y2), o3, o4, o5] [] (hz F A L) Q := by
  intro m
  induction m with
  | zero =>
    intro B D F A L x1 y2 o3 o4 o5 hm K
    generalize hT : (kv_fewestToWin_6 (F 3 0) (L 11) 0 y2 (A 41)) = T at K
    have hE : T = (A 41) := hT.symm
    clear hT
    refine w_n 2 (pc1 := 9) (ls1 := [some (.ref 30), some (.int x1), some (.int y2), o3, o4, o5]) (st1 := [.int 12, .int y2]) (hp1 := (hz F A L)) rfl ?_
    refine w_ge (p3 := 12) rfl rfl (fun hb => ?_) (fun h => False.elim (by have h : y2.toInt < 12 := h; omega))
    subst T
    exact cvE rfl (funext fun q => if k0 : q = 41 then by subst k0; exact Eq.trans (b := (A 41)) rfl rfl else by unfold uA; simp only [nb1 k0, cond_false]) rfl (K _)
  | succ m ih =>
    intro B D F A L x1 y2 o3 o4 o5 hm K
    generalize hT : (kv_fewestToWin_6 (F 3 0) (L 11) (m + 1) y2 (A 41)) = T at K
    have hE : T = (kv_fewestToWin_6 (F 3 0) (L 11) m (y2 + 1) ((A 41).set y2.toInt.toNat (kt_favourite (F 3 0) (L 11) y2 (kt_allMeasures (F 3 0))))) := hT.symm
    clear hT
    refine w_n 2 (pc1 := 9) (ls1 := [some (.ref 30), some (.int x1), some (.int y2), o3, o4, o5]) (st1 := [.int 12, .int y2]) (hp1 := (hz F A L)) rfl ?_
    refine w_ge (p3 := 12) rfl rfl (fun h => False.elim (by have h : 12 ≤ y2.toInt := h; omega)) (fun hb => ?_)
    refine w_n 8 (pc1 := 26) (ls1 := [some (.ref 30), some (.int x1), some (.int y2), o3, o4, o5]) (st1 := [.ref 3, .int y2, .ref 3, .int y2, .ref 41]) (hp1 := (hz F A L)) rfl ?_
    refine w_c rfl rfl (t_kt_allMeasures ?_)
    show wl_E f _ _ mm112.2.2.2.2.2.2.2.2 29 [some (.ref 30), some (.int x1), some (.int y2), o3, o4, o5] [.int (kt_allMeasures (F 3 0)), .int y2, .ref 3, .int y2, .ref 41] (hz F A L) _
    generalize hG359 : (kt_allMeasures (F 3 0)) = G359 at hE ⊢
    refine w_c rfl rfl (t_kt_favourite ?_)
    show wl_E f _ _ mm112.2.2.2.2.2.2.2.2 32 [some (.ref 30), some (.int x1), some (.int y2), o3, o4, o5] [.int (kt_favourite (F 3 0) (L 11) y2 G359), .int y2, .ref 41] (hz F A L) _
    generalize hG360 : (kt_favourite (F 3 0) (L 11) y2 G359) = G360 at hE ⊢
    refine w_as (k := 41) (l := (A 41)) (hp1 := (hz F (uA A 41 ((A 41).set y2.toInt.toNat G360)) L)) rfl rfl rfl (hz_s41 _) (fun ab => ?_)
    refine w_n 2 (pc1 := 6) (ls1 := [some (.ref 30), some (.int x1), some (.int (y2 + 1)), o3, o4, o5]) (st1 := []) (hp1 := (hz F (uA A 41 ((A 41).set y2.toInt.toNat G360)) L)) rfl ?_
    subst T
    have hb2 := i_up (B := (12 : Int32)) hb
    have hb3 : y2.toInt < 12 := hb
    exact ih (show m = (12 - (y2 + 1).toInt).toNat by rw [hb2]; omega) (fun q2 => cvE rfl (funext fun q => if k0 : q = 41 then by subst k0; exact Eq.trans (b := (kv_fewestToWin_6 (F 3 0) (L 11) m (y2 + 1) ((A 41).set y2.toInt.toNat G360))) rfl rfl else by unfold uA; simp only [nb1 k0, cond_false]) rfl (K q2))
def kv_winsWith_17 (a6 : List Int32) (a41 : List Int32) (x1 : Int32) (x2 : Int32) : Nat → Int32 → List Int32 → List Int32
  | 0, _, a42 => a42
  | m + 1, y3, a42 => (if ((x2 >>> (y3 &&& 31)) &&& 1) = 0 then (kv_winsWith_17 a6 a41 x1 x2 m (y3 + 1) a42) else (if (a41.getD y3.toInt.toNat 0) = (-1) then (kv_winsWith_17 a6 a41 x1 x2 m (y3 + 1) a42) else (kv_winsWith_17 a6 a41 x1 x2 m (y3 + 1) ((a42.set (a41.getD y3.toInt.toNat 0).toInt.toNat ((a42.getD (a41.getD y3.toInt.toNat 0).toInt.toNat 0) - (a6.getD y3.toInt.toNat 0))).set x1.toInt.toNat (((a42.set (a41.getD y3.toInt.toNat 0).toInt.toNat ((a42.getD (a41.getD y3.toInt.toNat 0).toInt.toNat 0) - (a6.getD y3.toInt.toNat 0))).getD x1.toInt.toNat 0) + (a6.getD y3.toInt.toNat 0))))))
theorem t_kv_winsWith_17 {f : Nat} {Q : Option Value → sm_H → Prop} : ∀ (m : Nat) {B D : Nat} {F : Nat → Nat → Int32} {A : Nat → List Int32} {L : Nat → List Int64} {x1 : Int32} {x2 : Int32} {y3 : Int32}, m = (12 - y3.toInt).toNat → (∀ q3 : Int32, wl_E f B D mm113.2.2.2.2.2.2.2.2 91 [some (.ref 30), some (.int x1), some (.int x2), some (.int q3)] [] (hz F (uA A 42 (kv_winsWith_17 (A 6) (A 41) x1 x2 m y3 (A 42))) L) Q) → wl_E f B D mm113.2.2.2.2.2.2.2.2 17 [some (.ref 30), some (.int x1), some (.int x2), some (.int y3)] [] (hz F A L) Q := by
  intro m
  induction m with
  | zero =>
    intro B D F A L x1 x2 y3 hm K
    generalize hT : (kv_winsWith_17 (A 6) (A 41) x1 x2 0 y3 (A 42)) = T at K
    have hE : T = (A 42) := hT.symm
    clear hT
    refine w_n 2 (pc1 := 20) (ls1 := [some (.ref 30), some (.int x1), some (.int x2), some (.int y3)]) (st1 := [.int 12, .int y3]) (hp1 := (hz F A L)) rfl ?_
    refine w_ge (p3 := 23) rfl rfl (fun hb => ?_) (fun h => False.elim (by have h : y3.toInt < 12 := h; omega))
    subst T
    exact cvE rfl (funext fun q => if k0 : q = 42 then by subst k0; exact Eq.trans (b := (A 42)) rfl rfl else by unfold uA; simp only [nb1 k0, cond_false]) rfl (K _)
  | succ m ih =>
    intro B D F A L x1 x2 y3 hm K
    generalize hT : (kv_winsWith_17 (A 6) (A 41) x1 x2 (m + 1) y3 (A 42)) = T at K
    have hE : T = (if ((x2 >>> (y3 &&& 31)) &&& 1) = 0 then (kv_winsWith_17 (A 6) (A 41) x1 x2 m (y3 + 1) (A 42)) else (if ((A 41).getD y3.toInt.toNat 0) = (-1) then (kv_winsWith_17 (A 6) (A 41) x1 x2 m (y3 + 1) (A 42)) else (kv_winsWith_17 (A 6) (A 41) x1 x2 m (y3 + 1) (((A 42).set ((A 41).getD y3.toInt.toNat 0).toInt.toNat (((A 42).getD ((A 41).getD y3.toInt.toNat 0).toInt.toNat 0) - ((A 6).getD y3.toInt.toNat 0))).set x1.toInt.toNat ((((A 42).set ((A 41).getD y3.toInt.toNat 0).toInt.toNat (((A 42).getD ((A 41).getD y3.toInt.toNat 0).toInt.toNat 0) - ((A 6).getD y3.toInt.toNat 0))).getD x1.toInt.toNat 0) + ((A 6).getD y3.toInt.toNat 0)))))) := hT.symm
    clear hT
    refine w_n 2 (pc1 := 20) (ls1 := [some (.ref 30), some (.int x1), some (.int x2), some (.int y3)]) (st1 := [.int 12, .int y3]) (hp1 := (hz F A L)) rfl ?_
    refine w_ge (p3 := 23) rfl rfl (fun h => False.elim (by have h : 12 ≤ y3.toInt := h; omega)) (fun hb => ?_)
    refine w_n 5 (pc1 := 28) (ls1 := [some (.ref 30), some (.int x1), some (.int x2), some (.int y3)]) (st1 := [.int ((x2 >>> (y3 &&& 31)) &&& 1)]) (hp1 := (hz F A L)) rfl ?_
    refine w_zeq (p3 := 31) rfl rfl (fun h => ?_) (fun h => ?_)
    · have h1 : ((x2 >>> (y3 &&& 31)) &&& 1) = 0 := h
      rw [if_pos h1] at hE
      refine w_n 2 (pc1 := 17) (ls1 := [some (.ref 30), some (.int x1), some (.int x2), some (.int (y3 + 1))]) (st1 := []) (hp1 := (hz F A L)) rfl ?_
      subst T
      have hb2 := i_up (B := (12 : Int32)) hb
      have hb3 : y3.toInt < 12 := hb
      exact ih (show m = (12 - (y3 + 1).toInt).toNat by rw [hb2]; omega) (fun q3 => cvE rfl (funext fun q => if k0 : q = 42 then by subst k0; exact Eq.trans (b := (kv_winsWith_17 (A 6) (A 41) x1 x2 m (y3 + 1) (A 42))) rfl rfl else by unfold uA; simp only [nb1 k0, cond_false]) rfl (K q3))
    · have h1 : ¬ ((x2 >>> (y3 &&& 31)) &&& 1) = 0 := h
      rw [if_neg h1] at hE
      refine w_n 3 (pc1 := 36) (ls1 := [some (.ref 30), some (.int x1), some (.int x2), some (.int y3)]) (st1 := [.int y3, .ref 41]) (hp1 := (hz F A L)) rfl ?_
      refine w_al (k := 41) (l := (A 41)) rfl rfl rfl (fun ab => ?_)
      refine w_n 1 (pc1 := 38) (ls1 := [some (.ref 30), some (.int x1), some (.int x2), some (.int y3)]) (st1 := [.int (-1), .int ((A 41).getD y3.toInt.toNat 0)]) (hp1 := (hz F A L)) rfl ?_
      refine w_ne (p3 := 41) rfl rfl (fun h => ?_) (fun h => ?_)
      · have h2 : ¬ ((A 41).getD y3.toInt.toNat 0) = (-1) := h
        rw [if_neg h2] at hE
        refine w_n 5 (pc1 := 53) (ls1 := [some (.ref 30), some (.int x1), some (.int x2), some (.int y3)]) (st1 := [.int y3, .ref 41, .ref 42]) (hp1 := (hz F A L)) rfl ?_
        refine w_al (k := 41) (l := (A 41)) rfl rfl rfl (fun ab => ?_)
        refine w_n 1 (pc1 := 55) (ls1 := [some (.ref 30), some (.int x1), some (.int x2), some (.int y3)]) (st1 := [.int ((A 41).getD y3.toInt.toNat 0), .ref 42, .int ((A 41).getD y3.toInt.toNat 0), .ref 42]) (hp1 := (hz F A L)) rfl ?_
        refine w_al (k := 42) (l := (A 42)) rfl rfl rfl (fun _ => ?_)
        refine w_n 4 (pc1 := 64) (ls1 := [some (.ref 30), some (.int x1), some (.int x2), some (.int y3)]) (st1 := [.int y3, .ref 6, .int ((A 42).getD ((A 41).getD y3.toInt.toNat 0).toInt.toNat 0), .int ((A 41).getD y3.toInt.toNat 0), .ref 42]) (hp1 := (hz F A L)) rfl ?_
        refine w_al (k := 6) (l := (A 6)) rfl rfl rfl (fun ab => ?_)
        refine w_n 1 (pc1 := 66) (ls1 := [some (.ref 30), some (.int x1), some (.int x2), some (.int y3)]) (st1 := [.int (((A 42).getD ((A 41).getD y3.toInt.toNat 0).toInt.toNat 0) - ((A 6).getD y3.toInt.toNat 0)), .int ((A 41).getD y3.toInt.toNat 0), .ref 42]) (hp1 := (hz F A L)) rfl ?_
        refine w_as (k := 42) (l := (A 42)) (hp1 := (hz F (uA A 42 ((A 42).set ((A 41).getD y3.toInt.toNat 0).toInt.toNat (((A 42).getD ((A 41).getD y3.toInt.toNat 0).toInt.toNat 0) - ((A 6).getD y3.toInt.toNat 0)))) L)) rfl rfl rfl (hz_s42 _) (fun _ => ?_)
        refine w_n 4 (pc1 := 73) (ls1 := [some (.ref 30), some (.int x1), some (.int x2), some (.int y3)]) (st1 := [.int x1, .ref 42, .int x1, .ref 42]) (hp1 := (hz F (uA A 42 ((A 42).set ((A 41).getD y3.toInt.toNat 0).toInt.toNat (((A 42).getD ((A 41).getD y3.toInt.toNat 0).toInt.toNat 0) - ((A 6).getD y3.toInt.toNat 0)))) L)) rfl ?_
        refine w_al (k := 42) (l := ((A 42).set ((A 41).getD y3.toInt.toNat 0).toInt.toNat (((A 42).getD ((A 41).getD y3.toInt.toNat 0).toInt.toNat 0) - ((A 6).getD y3.toInt.toNat 0)))) rfl rfl rfl (fun _ => ?_)
        refine w_n 4 (pc1 := 82) (ls1 := [some (.ref 30), some (.int x1), some (.int x2), some (.int y3)]) (st1 := [.int y3, .ref 6, .int (((A 42).set ((A 41).getD y3.toInt.toNat 0).toInt.toNat (((A 42).getD ((A 41).getD y3.toInt.toNat 0).toInt.toNat 0) - ((A 6).getD y3.toInt.toNat 0))).getD x1.toInt.toNat 0), .int x1, .ref 42]) (hp1 := (hz F (uA A 42 ((A 42).set ((A 41).getD y3.toInt.toNat 0).toInt.toNat (((A 42).getD ((A 41).getD y3.toInt.toNat 0).toInt.toNat 0) - ((A 6).getD y3.toInt.toNat 0)))) L)) rfl ?_
        refine w_al (k := 6) (l := (A 6)) rfl rfl rfl (fun ab => ?_)
        refine w_n 1 (pc1 := 84) (ls1 := [some (.ref 30), some (.int x1), some (.int x2), some (.int y3)]) (st1 := [.int ((((A 42).set ((A 41).getD y3.toInt.toNat 0).toInt.toNat (((A 42).getD ((A 41).getD y3.toInt.toNat 0).toInt.toNat 0) - ((A 6).getD y3.toInt.toNat 0))).getD x1.toInt.toNat 0) + ((A 6).getD y3.toInt.toNat 0)), .int x1, .ref 42]) (hp1 := (hz F (uA A 42 ((A 42).set ((A 41).getD y3.toInt.toNat 0).toInt.toNat (((A 42).getD ((A 41).getD y3.toInt.toNat 0).toInt.toNat 0) - ((A 6).getD y3.toInt.toNat 0)))) L)) rfl ?_
        refine w_as (k := 42) (l := ((A 42).set ((A 41).getD y3.toInt.toNat 0).toInt.toNat (((A 42).getD ((A 41).getD y3.toInt.toNat 0).toInt.toNat 0) - ((A 6).getD y3.toInt.toNat 0)))) (hp1 := (hz F (uA (uA A 42 ((A 42).set ((A 41).getD y3.toInt.toNat 0).toInt.toNat (((A 42).getD ((A 41).getD y3.toInt.toNat 0).toInt.toNat 0) - ((A 6).getD y3.toInt.toNat 0)))) 42 (((A 42).set ((A 41).getD y3.toInt.toNat 0).toInt.toNat (((A 42).getD ((A 41).getD y3.toInt.toNat 0).toInt.toNat 0) - ((A 6).getD y3.toInt.toNat 0))).set x1.toInt.toNat ((((A 42).set ((A 41).getD y3.toInt.toNat 0).toInt.toNat (((A 42).getD ((A 41).getD y3.toInt.toNat 0).toInt.toNat 0) - ((A 6).getD y3.toInt.toNat 0))).getD x1.toInt.toNat 0) + ((A 6).getD y3.toInt.toNat 0)))) L)) rfl rfl rfl (hz_s42 _) (fun _ => ?_)
        refine w_n 2 (pc1 := 17) (ls1 := [some (.ref 30), some (.int x1), some (.int x2), some (.int (y3 + 1))]) (st1 := []) (hp1 := (hz F (uA (uA A 42 ((A 42).set ((A 41).getD y3.toInt.toNat 0).toInt.toNat (((A 42).getD ((A 41).getD y3.toInt.toNat 0).toInt.toNat 0) - ((A 6).getD y3.toInt.toNat 0)))) 42 (((A 42).set ((A 41).getD y3.toInt.toNat 0).toInt.toNat (((A 42).getD ((A 41).getD y3.toInt.toNat 0).toInt.toNat 0) - ((A 6).getD y3.toInt.toNat 0))).set x1.toInt.toNat ((((A 42).set ((A 41).getD y3.toInt.toNat 0).toInt.toNat (((A 42).getD ((A 41).getD y3.toInt.toNat 0).toInt.toNat 0) - ((A 6).getD y3.toInt.toNat 0))).getD x1.toInt.toNat 0) + ((A 6).getD y3.toInt.toNat 0)))) L)) rfl ?_
        subst T
        have hb2 := i_up (B := (12 : Int32)) hb
        have hb3 : y3.toInt < 12 := hb
        exact ih (show m = (12 - (y3 + 1).toInt).toNat by rw [hb2]; omega) (fun q3 => cvE rfl (funext fun q => if k0 : q = 42 then by subst k0; exact Eq.trans (b := (kv_winsWith_17 (A 6) (A 41) x1 x2 m (y3 + 1) (((A 42).set ((A 41).getD y3.toInt.toNat 0).toInt.toNat (((A 42).getD ((A 41).getD y3.toInt.toNat 0).toInt.toNat 0) - ((A 6).getD y3.toInt.toNat 0))).set x1.toInt.toNat ((((A 42).set ((A 41).getD y3.toInt.toNat 0).toInt.toNat (((A 42).getD ((A 41).getD y3.toInt.toNat 0).toInt.toNat 0) - ((A 6).getD y3.toInt.toNat 0))).getD x1.toInt.toNat 0) + ((A 6).getD y3.toInt.toNat 0))))) rfl rfl else by unfold uA; simp only [nb1 k0, cond_false]) rfl (K q3))
      · have h2 : ((A 41).getD y3.toInt.toNat 0) = (-1) := h
        rw [if_pos h2] at hE
        refine w_n 3 (pc1 := 17) (ls1 := [some (.ref 30), some (.int x1), some (.int x2), some (.int (y3 + 1))]) (st1 := []) (hp1 := (hz F A L)) rfl ?_
        subst T
        have hb2 := i_up (B := (12 : Int32)) hb
        have hb3 : y3.toInt < 12 := hb
        exact ih (show m = (12 - (y3 + 1).toInt).toNat by rw [hb2]; omega) (fun q3 => cvE rfl (funext fun q => if k0 : q = 42 then by subst k0; exact Eq.trans (b := (kv_winsWith_17 (A 6) (A 41) x1 x2 m (y3 + 1) (A 42))) rfl rfl else by unfold uA; simp only [nb1 k0, cond_false]) rfl (K q3))
def kv_winsWith_93 (a42 : List Int32) (x1 : Int32) : Nat → Int32 → Int32 × List Int32
  | 0, _ => (1, a42)
  | m + 1, y3 => (if y3 = x1 then (kv_winsWith_93 a42 x1 m (y3 + 1)) else (if (a42.getD y3.toInt.toNat 0).toInt < (a42.getD x1.toInt.toNat 0).toInt then (kv_winsWith_93 a42 x1 m (y3 + 1)) else (0, a42)))
theorem t_kv_winsWith_93 {f : Nat} {Q : Option Value → sm_H → Prop} : ∀ (m : Nat) {B D : Nat} {F : Nat → Nat → Int32} {A : Nat → List Int32} {L : Nat → List Int64} {x1 : Int32} {x2 : Int32} {y3 : Int32}, m = ((F 3 0).toInt - y3.toInt).toNat → (Q (some (.int ((kv_winsWith_93 (A 42) x1 m y3).1))) (hz F (uA A 42 ((kv_winsWith_93 (A 42) x1 m y3).2)) L)) → wl_E f B D mm113.2.2.2.2.2.2.2.2 93 [some (.ref 30), some (.int x1), some (.int x2), some (.int y3)] [] (hz F A L) Q := by
  intro m
  induction m with
  | zero =>
    intro B D F A L x1 x2 y3 hm K
    generalize hT : (kv_winsWith_93 (A 42) x1 0 y3) = T at K
    have hE : T = (1, (A 42)) := hT.symm
    clear hT
    refine w_n 4 (pc1 := 101) (ls1 := [some (.ref 30), some (.int x1), some (.int x2), some (.int y3)]) (st1 := [.int (F 3 0), .int y3]) (hp1 := (hz F A L)) rfl ?_
    refine w_ge (p3 := 104) rfl rfl (fun hb => ?_) (fun h => False.elim (by have h : y3.toInt < (F 3 0).toInt := h; omega))
    refine w_n 1 (pc1 := 133) (ls1 := [some (.ref 30), some (.int x1), some (.int x2), some (.int y3)]) (st1 := [.int 1]) (hp1 := (hz F A L)) rfl ?_
    subst T
    exact w_ri rfl (cvQ rfl (funext fun q => if k0 : q = 42 then by subst k0; exact Eq.trans (b := (A 42)) rfl rfl else by unfold uA; simp only [nb1 k0, cond_false]) rfl K)
  | succ m ih =>
    intro B D F A L x1 x2 y3 hm K
    generalize hT : (kv_winsWith_93 (A 42) x1 (m + 1) y3) = T at K
    have hE : T = (if y3 = x1 then (kv_winsWith_93 (A 42) x1 m (y3 + 1)) else (if ((A 42).getD y3.toInt.toNat 0).toInt < ((A 42).getD x1.toInt.toNat 0).toInt then (kv_winsWith_93 (A 42) x1 m (y3 + 1)) else (0, (A 42)))) := hT.symm
    clear hT
    refine w_n 4 (pc1 := 101) (ls1 := [some (.ref 30), some (.int x1), some (.int x2), some (.int y3)]) (st1 := [.int (F 3 0), .int y3]) (hp1 := (hz F A L)) rfl ?_
    refine w_ge (p3 := 104) rfl rfl (fun h => False.elim (by have h : (F 3 0).toInt ≤ y3.toInt := h; omega)) (fun hb => ?_)
    refine w_n 2 (pc1 := 106) (ls1 := [some (.ref 30), some (.int x1), some (.int x2), some (.int y3)]) (st1 := [.int x1, .int y3]) (hp1 := (hz F A L)) rfl ?_
    refine w_eq (p3 := 109) rfl rfl (fun h => ?_) (fun h => ?_)
    · have h1 : y3 = x1 := h
      rw [if_pos h1] at hE
      refine w_n 2 (pc1 := 93) (ls1 := [some (.ref 30), some (.int x1), some (.int x2), some (.int (y3 + 1))]) (st1 := []) (hp1 := (hz F A L)) rfl ?_
      subst T
      have hb2 := i_up (B := (F 3 0)) hb
      have hb3 : y3.toInt < (F 3 0).toInt := hb
      exact ih (show m = ((F 3 0).toInt - (y3 + 1).toInt).toNat by rw [hb2]; omega) (cvQ rfl (funext fun q => if k0 : q = 42 then by subst k0; exact Eq.trans (b := (kv_winsWith_93 (A 42) x1 m (y3 + 1)).2) rfl rfl else by unfold uA; simp only [nb1 k0, cond_false]) rfl K)
    · have h1 : ¬ y3 = x1 := h
      rw [if_neg h1] at hE
      refine w_n 3 (pc1 := 114) (ls1 := [some (.ref 30), some (.int x1), some (.int x2), some (.int y3)]) (st1 := [.int y3, .ref 42]) (hp1 := (hz F A L)) rfl ?_
      refine w_al (k := 42) (l := (A 42)) rfl rfl rfl (fun ab => ?_)
      refine w_n 3 (pc1 := 120) (ls1 := [some (.ref 30), some (.int x1), some (.int x2), some (.int y3)]) (st1 := [.int x1, .ref 42, .int ((A 42).getD y3.toInt.toNat 0)]) (hp1 := (hz F A L)) rfl ?_
      refine w_al (k := 42) (l := (A 42)) rfl rfl rfl (fun _ => ?_)
      refine w_lt (p3 := 124) rfl rfl (fun h => ?_) (fun h => ?_)
      · have h2 : ((A 42).getD y3.toInt.toNat 0).toInt < ((A 42).getD x1.toInt.toNat 0).toInt := h
        rw [if_pos h2] at hE
        refine w_n 2 (pc1 := 93) (ls1 := [some (.ref 30), some (.int x1), some (.int x2), some (.int (y3 + 1))]) (st1 := []) (hp1 := (hz F A L)) rfl ?_
        subst T
        have hb2 := i_up (B := (F 3 0)) hb
        have hb3 : y3.toInt < (F 3 0).toInt := hb
        exact ih (show m = ((F 3 0).toInt - (y3 + 1).toInt).toNat by rw [hb2]; omega) (cvQ rfl (funext fun q => if k0 : q = 42 then by subst k0; exact Eq.trans (b := (kv_winsWith_93 (A 42) x1 m (y3 + 1)).2) rfl rfl else by unfold uA; simp only [nb1 k0, cond_false]) rfl K)
      · have h2 : ((A 42).getD x1.toInt.toNat 0).toInt ≤ ((A 42).getD y3.toInt.toNat 0).toInt := h
        rw [if_neg (Int.not_lt.mpr h2)] at hE
        refine w_n 1 (pc1 := 125) (ls1 := [some (.ref 30), some (.int x1), some (.int x2), some (.int y3)]) (st1 := [.int 0]) (hp1 := (hz F A L)) rfl ?_
        subst T
        exact w_ri rfl (cvQ rfl (funext fun q => if k0 : q = 42 then by subst k0; exact Eq.trans (b := (A 42)) rfl rfl else by unfold uA; simp only [nb1 k0, cond_false]) rfl K)
def kv_winsWith (f3_0 : Int32) (a6 : List Int32) (a31 : List Int32) (a41 : List Int32) (a42 : List Int32) (x1 : Int32) (x2 : Int32) : Int32 × List Int32 := (kv_winsWith_93 (kv_winsWith_17 a6 a41 x1 x2 12 0 (sm_cpy a31 a42 0 0 6)) x1 f3_0.toInt.toNat 0)
theorem t_kv_winsWith {f D : Nat} {F : Nat → Nat → Int32} {A : Nat → List Int32} {L : Nat → List Int64} {Q : Option Value → sm_H → Prop} {x1 : Int32} {x2 : Int32} (K : Q (some (.int ((kv_winsWith (F 3 0) (A 6) (A 31) (A 41) (A 42) x1 x2).1))) (hz F (uA A 42 ((kv_winsWith (F 3 0) (A 6) (A 31) (A 41) (A 42) x1 x2).2)) L)) : wl_M f D 113 [.ref 30, .int x1, .int x2] (hz F A L) Q := by
  generalize hT : (kv_winsWith (F 3 0) (A 6) (A 31) (A 41) (A 42) x1 x2) = T at K
  have hE : T = (kv_winsWith_93 (kv_winsWith_17 (A 6) (A 41) x1 x2 12 0 (sm_cpy (A 31) (A 42) 0 0 6)) x1 (F 3 0).toInt.toNat 0) := hT.symm
  clear hT
  refine w_m (E := mm113) rfl ?_
  show wl_E f f (D - 1) mm113.2.2.2.2.2.2.2.2 0 [some (.ref 30), some (.int x1), some (.int x2), none] [] (hz F A L) Q
  refine w_n 7 (pc1 := 12) (ls1 := [some (.ref 30), some (.int x1), some (.int x2), none]) (st1 := [.int 6, .int 0, .ref 42, .int 0, .ref 31]) (hp1 := (hz F A L)) rfl ?_
  refine w_ac (ks := 31) (kd := 42) (u := (A 31)) (g := (A 42)) (hp1 := (hz F (uA A 42 (sm_cpy (A 31) (A 42) 0 0 6)) L)) rfl rfl rfl rfl (hz_s42 _) (fun _ => ?_)
  refine w_n 2 (pc1 := 17) (ls1 := [some (.ref 30), some (.int x1), some (.int x2), some (.int 0)]) (st1 := []) (hp1 := (hz F (uA A 42 (sm_cpy (A 31) (A 42) 0 0 6)) L)) rfl ?_
  refine t_kv_winsWith_17 12 (show (12 : Nat) = (12 - (0 : Int32).toInt).toNat by have e0 : (0 : Int32).toInt = 0 := rfl; first | rfl | omega) ?_
  intro r1
  show wl_E f _ _ mm113.2.2.2.2.2.2.2.2 91 [some (.ref 30), some (.int x1), some (.int x2), some (.int r1)] [] (hz F (uA (uA A 42 (sm_cpy (A 31) (A 42) 0 0 6)) 42 (kv_winsWith_17 (A 6) (A 41) x1 x2 12 0 (sm_cpy (A 31) (A 42) 0 0 6))) L) _
  generalize hG363 : (kv_winsWith_17 (A 6) (A 41) x1 x2 12 0 (sm_cpy (A 31) (A 42) 0 0 6)) = G363 at hE ⊢
  refine w_n 2 (pc1 := 93) (ls1 := [some (.ref 30), some (.int x1), some (.int x2), some (.int 0)]) (st1 := []) (hp1 := (hz F (uA (uA A 42 (sm_cpy (A 31) (A 42) 0 0 6)) 42 G363) L)) rfl ?_
  subst T
  exact t_kv_winsWith_93 _ (show (F 3 0).toInt.toNat = ((F 3 0).toInt - (0 : Int32).toInt).toNat by have e0 : (0 : Int32).toInt = 0 := rfl; first | rfl | omega) (cvQ rfl (funext fun q => if k0 : q = 42 then by subst k0; exact Eq.trans (b := (kv_winsWith_93 G363 x1 (F 3 0).toInt.toNat 0).2) rfl rfl else by unfold uA; simp only [nb1 k0, cond_false]) rfl K)
def kv_fewestToWin_47 (f3_0 : Int32) (f3_1 : Int32) (a6 : List Int32) (a31 : List Int32) (a41 : List Int32) (x1 : Int32) : Nat → Int32 → Int32 → Int32 → List Int32 → Int32 × List Int32
  | 0, _, y3, _, a42 => (y3, a42)
  | m + 1, y2, y3, y4, a42 => (if (y4 &&& (f3_1 ^^^ (-1))) = 0 then (if (kji_bitCount y4).toInt < y2.toInt then (if (kv_winsWith f3_0 a6 a31 a41 a42 x1 y4).1 = 0 then (kv_fewestToWin_47 f3_0 f3_1 a6 a31 a41 x1 m y2 y3 (y4 + 1) (kv_winsWith f3_0 a6 a31 a41 a42 x1 y4).2) else (kv_fewestToWin_47 f3_0 f3_1 a6 a31 a41 x1 m (kji_bitCount y4) y4 (y4 + 1) (kv_winsWith f3_0 a6 a31 a41 a42 x1 y4).2)) else (kv_fewestToWin_47 f3_0 f3_1 a6 a31 a41 x1 m y2 y3 (y4 + 1) a42)) else (kv_fewestToWin_47 f3_0 f3_1 a6 a31 a41 x1 m y2 y3 (y4 + 1) a42))
theorem t_kv_fewestToWin_47 {f : Nat} {Q : Option Value → sm_H → Prop} : ∀ (m : Nat) {B D : Nat} {F : Nat → Nat → Int32} {A : Nat → List Int32} {L : Nat → List Int64} {x1 : Int32} {y2 : Int32} {y3 : Int32} {y4 : Int32} {o5 : Option Value}, m = ((F 3 1).toInt + 1 - y4.toInt).toNat → (_ : (F 3 1).toInt < 2147483647) → (∀ q2 : Int32, ∀ q4 : Int32, ∀ q5 : Option Value, wl_E f B D mm112.2.2.2.2.2.2.2.2 109 [some (.ref 30), some (.int x1), some (.int q2), some (.int ((kv_fewestToWin_47 (F 3 0) (F 3 1) (A 6) (A 31) (A 41) x1 m y2 y3 y4 (A 42)).1)), some (.int q4), q5] [] (hz F (uA A 42 ((kv_fewestToWin_47 (F 3 0) (F 3 1) (A 6) (A 31) (A 41) x1 m y2 y3 y4 (A 42)).2)) L) Q) → wl_E f B D mm112.2.2.2.2.2.2.2.2 47 [some (.ref 30), some (.int x1), some (.int y2), some (.int y3), some (.int y4), o5] [] (hz F A L) Q := by
  intro m
  induction m with
  | zero =>
    intro B D F A L x1 y2 y3 y4 o5 hm hh0 K
    generalize hT : (kv_fewestToWin_47 (F 3 0) (F 3 1) (A 6) (A 31) (A 41) x1 0 y2 y3 y4 (A 42)) = T at K
    have hE : T = (y3, (A 42)) := hT.symm
    clear hT
    refine w_n 4 (pc1 := 56) (ls1 := [some (.ref 30), some (.int x1), some (.int y2), some (.int y3), some (.int y4), o5]) (st1 := [.int (F 3 1), .int y4]) (hp1 := (hz F A L)) rfl ?_
    refine w_gt (p3 := 59) rfl rfl (fun hb => ?_) (fun h => False.elim (by have h : y4.toInt ≤ (F 3 1).toInt := h; omega))
    subst T
    exact cvE rfl (funext fun q => if k0 : q = 42 then by subst k0; exact Eq.trans (b := (A 42)) rfl rfl else by unfold uA; simp only [nb1 k0, cond_false]) rfl (K _ _ _)
  | succ m ih =>
    intro B D F A L x1 y2 y3 y4 o5 hm hh0 K
    generalize hT : (kv_fewestToWin_47 (F 3 0) (F 3 1) (A 6) (A 31) (A 41) x1 (m + 1) y2 y3 y4 (A 42)) = T at K
    have hE : T = (if (y4 &&& ((F 3 1) ^^^ (-1))) = 0 then (if (kji_bitCount y4).toInt < y2.toInt then (if (kv_winsWith (F 3 0) (A 6) (A 31) (A 41) (A 42) x1 y4).1 = 0 then (kv_fewestToWin_47 (F 3 0) (F 3 1) (A 6) (A 31) (A 41) x1 m y2 y3 (y4 + 1) (kv_winsWith (F 3 0) (A 6) (A 31) (A 41) (A 42) x1 y4).2) else (kv_fewestToWin_47 (F 3 0) (F 3 1) (A 6) (A 31) (A 41) x1 m (kji_bitCount y4) y4 (y4 + 1) (kv_winsWith (F 3 0) (A 6) (A 31) (A 41) (A 42) x1 y4).2)) else (kv_fewestToWin_47 (F 3 0) (F 3 1) (A 6) (A 31) (A 41) x1 m y2 y3 (y4 + 1) (A 42))) else (kv_fewestToWin_47 (F 3 0) (F 3 1) (A 6) (A 31) (A 41) x1 m y2 y3 (y4 + 1) (A 42))) := hT.symm
    clear hT
    refine w_n 4 (pc1 := 56) (ls1 := [some (.ref 30), some (.int x1), some (.int y2), some (.int y3), some (.int y4), o5]) (st1 := [.int (F 3 1), .int y4]) (hp1 := (hz F A L)) rfl ?_
    refine w_gt (p3 := 59) rfl rfl (fun h => False.elim (by have h : (F 3 1).toInt < y4.toInt := h; omega)) (fun hb => ?_)
    refine w_n 1 (pc1 := 61) (ls1 := [some (.ref 30), some (.int x1), some (.int y2), some (.int y3), some (.int y4), o5]) (st1 := [.int y4]) (hp1 := (hz F A L)) rfl ?_
    refine w_c rfl rfl (t_kji_bitCount ?_)
    show wl_E f _ _ mm112.2.2.2.2.2.2.2.2 64 [some (.ref 30), some (.int x1), some (.int y2), some (.int y3), some (.int y4), o5] [.int (kji_bitCount y4)] (hz F A L) _
    generalize hG362 : (kji_bitCount y4) = G362 at hE ⊢
    refine w_n 8 (pc1 := 78) (ls1 := [some (.ref 30), some (.int x1), some (.int y2), some (.int y3), some (.int y4), some (.int G362)]) (st1 := [.int (y4 &&& ((F 3 1) ^^^ (-1)))]) (hp1 := (hz F A L)) rfl ?_
    refine w_zne (p3 := 81) rfl rfl (fun h => ?_) (fun h => ?_)
    · have h1 : ¬ (y4 &&& ((F 3 1) ^^^ (-1))) = 0 := h
      rw [if_neg h1] at hE
      refine w_n 2 (pc1 := 47) (ls1 := [some (.ref 30), some (.int x1), some (.int y2), some (.int y3), some (.int (y4 + 1)), some (.int G362)]) (st1 := []) (hp1 := (hz F A L)) rfl ?_
      subst T
      have hb2 := i_up2 (B := (F 3 1)) hb (by first | decide | exact hB | assumption)
      have hb3 : y4.toInt ≤ (F 3 1).toInt := hb
      exact ih (show m = ((F 3 1).toInt + 1 - (y4 + 1).toInt).toNat by rw [hb2]; omega) hh0 (fun q2 q4 q5 => cvE rfl (funext fun q => if k0 : q = 42 then by subst k0; exact Eq.trans (b := (kv_fewestToWin_47 (F 3 0) (F 3 1) (A 6) (A 31) (A 41) x1 m y2 y3 (y4 + 1) (A 42)).2) rfl rfl else by unfold uA; simp only [nb1 k0, cond_false]) rfl (K q2 q4 q5))
    · have h1 : (y4 &&& ((F 3 1) ^^^ (-1))) = 0 := h
      rw [if_pos h1] at hE
      refine w_n 2 (pc1 := 84) (ls1 := [some (.ref 30), some (.int x1), some (.int y2), some (.int y3), some (.int y4), some (.int G362)]) (st1 := [.int y2, .int G362]) (hp1 := (hz F A L)) rfl ?_
      refine w_ge (p3 := 87) rfl rfl (fun h => ?_) (fun h => ?_)
      · have h2 : y2.toInt ≤ G362.toInt := h
        rw [if_neg (Int.not_lt.mpr h2)] at hE
        refine w_n 2 (pc1 := 47) (ls1 := [some (.ref 30), some (.int x1), some (.int y2), some (.int y3), some (.int (y4 + 1)), some (.int G362)]) (st1 := []) (hp1 := (hz F A L)) rfl ?_
        subst T
        have hb2 := i_up2 (B := (F 3 1)) hb (by first | decide | exact hB | assumption)
        have hb3 : y4.toInt ≤ (F 3 1).toInt := hb
        exact ih (show m = ((F 3 1).toInt + 1 - (y4 + 1).toInt).toNat by rw [hb2]; omega) hh0 (fun q2 q4 q5 => cvE rfl (funext fun q => if k0 : q = 42 then by subst k0; exact Eq.trans (b := (kv_fewestToWin_47 (F 3 0) (F 3 1) (A 6) (A 31) (A 41) x1 m y2 y3 (y4 + 1) (A 42)).2) rfl rfl else by unfold uA; simp only [nb1 k0, cond_false]) rfl (K q2 q4 q5))
      · have h2 : G362.toInt < y2.toInt := h
        rw [if_pos h2] at hE
        refine w_n 3 (pc1 := 91) (ls1 := [some (.ref 30), some (.int x1), some (.int y2), some (.int y3), some (.int y4), some (.int G362)]) (st1 := [.int y4, .int x1, .ref 30]) (hp1 := (hz F A L)) rfl ?_
        refine w_c rfl rfl (t_kv_winsWith ?_)
        show wl_E f _ _ mm112.2.2.2.2.2.2.2.2 94 [some (.ref 30), some (.int x1), some (.int y2), some (.int y3), some (.int y4), some (.int G362)] [.int (kv_winsWith (F 3 0) (A 6) (A 31) (A 41) (A 42) x1 y4).1] (hz F (uA A 42 (kv_winsWith (F 3 0) (A 6) (A 31) (A 41) (A 42) x1 y4).2) L) _
        generalize hG364 : (kv_winsWith (F 3 0) (A 6) (A 31) (A 41) (A 42) x1 y4) = G364 at hE ⊢
        refine w_zeq (p3 := 97) rfl rfl (fun h => ?_) (fun h => ?_)
        · have h3 : G364.1 = 0 := h
          rw [if_pos h3] at hE
          refine w_n 2 (pc1 := 47) (ls1 := [some (.ref 30), some (.int x1), some (.int y2), some (.int y3), some (.int (y4 + 1)), some (.int G362)]) (st1 := []) (hp1 := (hz F (uA A 42 G364.2) L)) rfl ?_
          subst T
          have hb2 := i_up2 (B := (F 3 1)) hb (by first | decide | exact hB | assumption)
          have hb3 : y4.toInt ≤ (F 3 1).toInt := hb
          exact ih (show m = ((F 3 1).toInt + 1 - (y4 + 1).toInt).toNat by rw [hb2]; omega) hh0 (fun q2 q4 q5 => cvE rfl (funext fun q => if k0 : q = 42 then by subst k0; exact Eq.trans (b := (kv_fewestToWin_47 (F 3 0) (F 3 1) (A 6) (A 31) (A 41) x1 m y2 y3 (y4 + 1) G364.2).2) rfl rfl else by unfold uA; simp only [nb1 k0, cond_false]) rfl (K q2 q4 q5))
        · have h3 : ¬ G364.1 = 0 := h
          rw [if_neg h3] at hE
          refine w_n 6 (pc1 := 47) (ls1 := [some (.ref 30), some (.int x1), some (.int G362), some (.int y4), some (.int (y4 + 1)), some (.int G362)]) (st1 := []) (hp1 := (hz F (uA A 42 G364.2) L)) rfl ?_
          subst T
          have hb2 := i_up2 (B := (F 3 1)) hb (by first | decide | exact hB | assumption)
          have hb3 : y4.toInt ≤ (F 3 1).toInt := hb
          exact ih (show m = ((F 3 1).toInt + 1 - (y4 + 1).toInt).toNat by rw [hb2]; omega) hh0 (fun q2 q4 q5 => cvE rfl (funext fun q => if k0 : q = 42 then by subst k0; exact Eq.trans (b := (kv_fewestToWin_47 (F 3 0) (F 3 1) (A 6) (A 31) (A 41) x1 m G362 y4 (y4 + 1) G364.2).2) rfl rfl else by unfold uA; simp only [nb1 k0, cond_false]) rfl (K q2 q4 q5))
def kv_fewestToWin (f3_0 : Int32) (f3_1 : Int32) (a6 : List Int32) (a31 : List Int32) (a35 : List Int32) (a41 : List Int32) (a42 : List Int32) (l11 : List Int64) (x1 : Int32) : Int32 × List Int32 × List Int32 × List Int32 × List Int32 := ((kv_fewestToWin_47 f3_0 f3_1 a6 (kv_countFirsts f3_0 f3_1 a6 a31 a35 l11).1 (kv_fewestToWin_6 f3_0 l11 12 0 a41) x1 (f3_1.toInt + 1).toNat 13 (-1) 0 a42).1, (kv_countFirsts f3_0 f3_1 a6 a31 a35 l11).1, (kv_countFirsts f3_0 f3_1 a6 a31 a35 l11).2, (kv_fewestToWin_6 f3_0 l11 12 0 a41), (kv_fewestToWin_47 f3_0 f3_1 a6 (kv_countFirsts f3_0 f3_1 a6 a31 a35 l11).1 (kv_fewestToWin_6 f3_0 l11 12 0 a41) x1 (f3_1.toInt + 1).toNat 13 (-1) 0 a42).2)
theorem t_kv_fewestToWin {f D : Nat} {F : Nat → Nat → Int32} {A : Nat → List Int32} {L : Nat → List Int64} {Q : Option Value → sm_H → Prop} {x1 : Int32} (hh0 : (F 3 1).toInt < 2147483647) (K : Q (some (.int ((kv_fewestToWin (F 3 0) (F 3 1) (A 6) (A 31) (A 35) (A 41) (A 42) (L 11) x1).1))) (hz F (uA (uA (uA (uA A 31 ((kv_fewestToWin (F 3 0) (F 3 1) (A 6) (A 31) (A 35) (A 41) (A 42) (L 11) x1).2.1)) 35 ((kv_fewestToWin (F 3 0) (F 3 1) (A 6) (A 31) (A 35) (A 41) (A 42) (L 11) x1).2.2.1)) 41 ((kv_fewestToWin (F 3 0) (F 3 1) (A 6) (A 31) (A 35) (A 41) (A 42) (L 11) x1).2.2.2.1)) 42 ((kv_fewestToWin (F 3 0) (F 3 1) (A 6) (A 31) (A 35) (A 41) (A 42) (L 11) x1).2.2.2.2)) L)) : wl_M f D 112 [.ref 30, .int x1] (hz F A L) Q := by
  generalize hT : (kv_fewestToWin (F 3 0) (F 3 1) (A 6) (A 31) (A 35) (A 41) (A 42) (L 11) x1) = T at K
  have hE : T = ((kv_fewestToWin_47 (F 3 0) (F 3 1) (A 6) (kv_countFirsts (F 3 0) (F 3 1) (A 6) (A 31) (A 35) (L 11)).1 (kv_fewestToWin_6 (F 3 0) (L 11) 12 0 (A 41)) x1 ((F 3 1).toInt + 1).toNat 13 (-1) 0 (A 42)).1, (kv_countFirsts (F 3 0) (F 3 1) (A 6) (A 31) (A 35) (L 11)).1, (kv_countFirsts (F 3 0) (F 3 1) (A 6) (A 31) (A 35) (L 11)).2, (kv_fewestToWin_6 (F 3 0) (L 11) 12 0 (A 41)), (kv_fewestToWin_47 (F 3 0) (F 3 1) (A 6) (kv_countFirsts (F 3 0) (F 3 1) (A 6) (A 31) (A 35) (L 11)).1 (kv_fewestToWin_6 (F 3 0) (L 11) 12 0 (A 41)) x1 ((F 3 1).toInt + 1).toNat 13 (-1) 0 (A 42)).2) := hT.symm
  clear hT
  refine w_m (E := mm112) rfl ?_
  show wl_E f f (D - 1) mm112.2.2.2.2.2.2.2.2 0 [some (.ref 30), some (.int x1), none, none, none, none] [] (hz F A L) Q
  refine w_n 1 (pc1 := 1) (ls1 := [some (.ref 30), some (.int x1), none, none, none, none]) (st1 := [.ref 30]) (hp1 := (hz F A L)) rfl ?_
  refine w_c rfl rfl (t_kv_countFirsts ?_)
  show wl_E f _ _ mm112.2.2.2.2.2.2.2.2 4 [some (.ref 30), some (.int x1), none, none, none, none] [] (hz F (uA (uA A 31 (kv_countFirsts (F 3 0) (F 3 1) (A 6) (A 31) (A 35) (L 11)).1) 35 (kv_countFirsts (F 3 0) (F 3 1) (A 6) (A 31) (A 35) (L 11)).2) L) _
  generalize hG358 : (kv_countFirsts (F 3 0) (F 3 1) (A 6) (A 31) (A 35) (L 11)) = G358 at hE ⊢
  refine w_n 2 (pc1 := 6) (ls1 := [some (.ref 30), some (.int x1), some (.int 0), none, none, none]) (st1 := []) (hp1 := (hz F (uA (uA A 31 G358.1) 35 G358.2) L)) rfl ?_
  refine t_kv_fewestToWin_6 12 (show (12 : Nat) = (12 - (0 : Int32).toInt).toNat by have e0 : (0 : Int32).toInt = 0 := rfl; first | rfl | omega) ?_
  intro r1
  show wl_E f _ _ mm112.2.2.2.2.2.2.2.2 39 [some (.ref 30), some (.int x1), some (.int r1), none, none, none] [] (hz F (uA (uA (uA A 31 G358.1) 35 G358.2) 41 (kv_fewestToWin_6 (F 3 0) (L 11) 12 0 (A 41))) L) _
  generalize hG361 : (kv_fewestToWin_6 (F 3 0) (L 11) 12 0 (A 41)) = G361 at hE ⊢
  refine w_n 6 (pc1 := 47) (ls1 := [some (.ref 30), some (.int x1), some (.int 13), some (.int (-1)), some (.int 0), none]) (st1 := []) (hp1 := (hz F (uA (uA (uA A 31 G358.1) 35 G358.2) 41 G361) L)) rfl ?_
  refine t_kv_fewestToWin_47 (((F 3 1).toInt + 1).toNat) (show ((F 3 1).toInt + 1).toNat = ((F 3 1).toInt + 1 - (0 : Int32).toInt).toNat by have e0 : (0 : Int32).toInt = 0 := rfl; first | rfl | omega) hh0 ?_
  intro r2 r3 r4
  show wl_E f _ _ mm112.2.2.2.2.2.2.2.2 109 [some (.ref 30), some (.int x1), some (.int r2), some (.int (kv_fewestToWin_47 (F 3 0) (F 3 1) (A 6) G358.1 G361 x1 ((F 3 1).toInt + 1).toNat 13 (-1) 0 (A 42)).1), some (.int r3), r4] [] (hz F (uA (uA (uA (uA A 31 G358.1) 35 G358.2) 41 G361) 42 (kv_fewestToWin_47 (F 3 0) (F 3 1) (A 6) G358.1 G361 x1 ((F 3 1).toInt + 1).toNat 13 (-1) 0 (A 42)).2) L) _
  generalize hG365 : (kv_fewestToWin_47 (F 3 0) (F 3 1) (A 6) G358.1 G361 x1 ((F 3 1).toInt + 1).toNat 13 (-1) 0 (A 42)) = G365 at hE ⊢
  refine w_n 1 (pc1 := 110) (ls1 := [some (.ref 30), some (.int x1), some (.int r2), some (.int G365.1), some (.int r3), r4]) (st1 := [.int G365.1]) (hp1 := (hz F (uA (uA (uA (uA A 31 G358.1) 35 G358.2) 41 G361) 42 G365.2) L)) rfl ?_
  subst T
  exact w_ri rfl (cvQ rfl rfl rfl K)
def kc_wonOver (f3_0 : Int32) (f3_1 : Int32) (a6 : List Int32) (a31 : List Int32) (a35 : List Int32) (a41 : List Int32) (a42 : List Int32) (l11 : List Int64) (x1 : Int32) (x2 : Int32) : Int32 × List Int32 × List Int32 × List Int32 × List Int32 := (if (kt_isMeasure f3_0 x1) = 0 then ((-1), a31, a35, a41, a42) else (if (kc_within x2 0 1) = 0 then ((-1), a31, a35, a41, a42) else (if (kv_fewestToWin f3_0 f3_1 a6 a31 a35 a41 a42 l11 x1).1 = (-1) then ((-2), (kv_fewestToWin f3_0 f3_1 a6 a31 a35 a41 a42 l11 x1).2.1, (kv_fewestToWin f3_0 f3_1 a6 a31 a35 a41 a42 l11 x1).2.2.1, (kv_fewestToWin f3_0 f3_1 a6 a31 a35 a41 a42 l11 x1).2.2.2.1, (kv_fewestToWin f3_0 f3_1 a6 a31 a35 a41 a42 l11 x1).2.2.2.2) else (if x2 = 0 then ((kji_bitCount (kv_fewestToWin f3_0 f3_1 a6 a31 a35 a41 a42 l11 x1).1), (kv_fewestToWin f3_0 f3_1 a6 a31 a35 a41 a42 l11 x1).2.1, (kv_fewestToWin f3_0 f3_1 a6 a31 a35 a41 a42 l11 x1).2.2.1, (kv_fewestToWin f3_0 f3_1 a6 a31 a35 a41 a42 l11 x1).2.2.2.1, (kv_fewestToWin f3_0 f3_1 a6 a31 a35 a41 a42 l11 x1).2.2.2.2) else ((kv_fewestToWin f3_0 f3_1 a6 a31 a35 a41 a42 l11 x1).1, (kv_fewestToWin f3_0 f3_1 a6 a31 a35 a41 a42 l11 x1).2.1, (kv_fewestToWin f3_0 f3_1 a6 a31 a35 a41 a42 l11 x1).2.2.1, (kv_fewestToWin f3_0 f3_1 a6 a31 a35 a41 a42 l11 x1).2.2.2.1, (kv_fewestToWin f3_0 f3_1 a6 a31 a35 a41 a42 l11 x1).2.2.2.2)))))
theorem t_kc_wonOver {f D : Nat} {F : Nat → Nat → Int32} {A : Nat → List Int32} {L : Nat → List Int64} {Q : Option Value → sm_H → Prop} {x1 : Int32} {x2 : Int32} (hh0 : (F 3 1).toInt < 2147483647) (K : Q (some (.int ((kc_wonOver (F 3 0) (F 3 1) (A 6) (A 31) (A 35) (A 41) (A 42) (L 11) x1 x2).1))) (hz F (uA (uA (uA (uA A 31 ((kc_wonOver (F 3 0) (F 3 1) (A 6) (A 31) (A 35) (A 41) (A 42) (L 11) x1 x2).2.1)) 35 ((kc_wonOver (F 3 0) (F 3 1) (A 6) (A 31) (A 35) (A 41) (A 42) (L 11) x1 x2).2.2.1)) 41 ((kc_wonOver (F 3 0) (F 3 1) (A 6) (A 31) (A 35) (A 41) (A 42) (L 11) x1 x2).2.2.2.1)) 42 ((kc_wonOver (F 3 0) (F 3 1) (A 6) (A 31) (A 35) (A 41) (A 42) (L 11) x1 x2).2.2.2.2)) L)) : wl_M f D 111 [.ref 0, .int x1, .int x2] (hz F A L) Q := by
  generalize hT : (kc_wonOver (F 3 0) (F 3 1) (A 6) (A 31) (A 35) (A 41) (A 42) (L 11) x1 x2) = T at K
  have hE : T = (if (kt_isMeasure (F 3 0) x1) = 0 then ((-1), (A 31), (A 35), (A 41), (A 42)) else (if (kc_within x2 0 1) = 0 then ((-1), (A 31), (A 35), (A 41), (A 42)) else (if (kv_fewestToWin (F 3 0) (F 3 1) (A 6) (A 31) (A 35) (A 41) (A 42) (L 11) x1).1 = (-1) then ((-2), (kv_fewestToWin (F 3 0) (F 3 1) (A 6) (A 31) (A 35) (A 41) (A 42) (L 11) x1).2.1, (kv_fewestToWin (F 3 0) (F 3 1) (A 6) (A 31) (A 35) (A 41) (A 42) (L 11) x1).2.2.1, (kv_fewestToWin (F 3 0) (F 3 1) (A 6) (A 31) (A 35) (A 41) (A 42) (L 11) x1).2.2.2.1, (kv_fewestToWin (F 3 0) (F 3 1) (A 6) (A 31) (A 35) (A 41) (A 42) (L 11) x1).2.2.2.2) else (if x2 = 0 then ((kji_bitCount (kv_fewestToWin (F 3 0) (F 3 1) (A 6) (A 31) (A 35) (A 41) (A 42) (L 11) x1).1), (kv_fewestToWin (F 3 0) (F 3 1) (A 6) (A 31) (A 35) (A 41) (A 42) (L 11) x1).2.1, (kv_fewestToWin (F 3 0) (F 3 1) (A 6) (A 31) (A 35) (A 41) (A 42) (L 11) x1).2.2.1, (kv_fewestToWin (F 3 0) (F 3 1) (A 6) (A 31) (A 35) (A 41) (A 42) (L 11) x1).2.2.2.1, (kv_fewestToWin (F 3 0) (F 3 1) (A 6) (A 31) (A 35) (A 41) (A 42) (L 11) x1).2.2.2.2) else ((kv_fewestToWin (F 3 0) (F 3 1) (A 6) (A 31) (A 35) (A 41) (A 42) (L 11) x1).1, (kv_fewestToWin (F 3 0) (F 3 1) (A 6) (A 31) (A 35) (A 41) (A 42) (L 11) x1).2.1, (kv_fewestToWin (F 3 0) (F 3 1) (A 6) (A 31) (A 35) (A 41) (A 42) (L 11) x1).2.2.1, (kv_fewestToWin (F 3 0) (F 3 1) (A 6) (A 31) (A 35) (A 41) (A 42) (L 11) x1).2.2.2.1, (kv_fewestToWin (F 3 0) (F 3 1) (A 6) (A 31) (A 35) (A 41) (A 42) (L 11) x1).2.2.2.2))))) := hT.symm
  clear hT
  refine w_m (E := mm111) rfl ?_
  show wl_E f f (D - 1) mm111.2.2.2.2.2.2.2.2 0 [some (.ref 0), some (.int x1), some (.int x2), none] [] (hz F A L) Q
  refine w_n 3 (pc1 := 5) (ls1 := [some (.ref 0), some (.int x1), some (.int x2), none]) (st1 := [.int x1, .ref 3]) (hp1 := (hz F A L)) rfl ?_
  refine w_c rfl rfl (t_kt_isMeasure ?_)
  show wl_E f _ _ mm111.2.2.2.2.2.2.2.2 8 [some (.ref 0), some (.int x1), some (.int x2), none] [.int (kt_isMeasure (F 3 0) x1)] (hz F A L) _
  generalize hG356 : (kt_isMeasure (F 3 0) x1) = G356 at hE ⊢
  refine w_zeq (p3 := 11) rfl rfl (fun h => ?_) (fun h => ?_)
  · have h1 : G356 = 0 := h
    rw [if_pos h1] at hE
    refine w_n 1 (pc1 := 21) (ls1 := [some (.ref 0), some (.int x1), some (.int x2), none]) (st1 := [.int (-1)]) (hp1 := (hz F A L)) rfl ?_
    subst T
    exact w_ri rfl (cvQ rfl (funext fun q => if k0 : q = 31 then by subst k0; exact Eq.trans (b := (A 31)) rfl rfl else if k1 : q = 35 then by subst k1; exact Eq.trans (b := (A 35)) rfl rfl else if k2 : q = 41 then by subst k2; exact Eq.trans (b := (A 41)) rfl rfl else if k3 : q = 42 then by subst k3; exact Eq.trans (b := (A 42)) rfl rfl else by unfold uA; simp only [nb1 k0, nb1 k1, nb1 k2, nb1 k3, cond_false]) rfl K)
  · have h1 : ¬ G356 = 0 := h
    rw [if_neg h1] at hE
    refine w_n 3 (pc1 := 14) (ls1 := [some (.ref 0), some (.int x1), some (.int x2), none]) (st1 := [.int 1, .int 0, .int x2]) (hp1 := (hz F A L)) rfl ?_
    refine w_c rfl rfl (t_kc_within ?_)
    show wl_E f _ _ mm111.2.2.2.2.2.2.2.2 17 [some (.ref 0), some (.int x1), some (.int x2), none] [.int (kc_within x2 0 1)] (hz F A L) _
    generalize hG357 : (kc_within x2 0 1) = G357 at hE ⊢
    refine w_zne (p3 := 20) rfl rfl (fun h => ?_) (fun h => ?_)
    · have h2 : ¬ G357 = 0 := h
      rw [if_neg h2] at hE
      refine w_n 3 (pc1 := 27) (ls1 := [some (.ref 0), some (.int x1), some (.int x2), none]) (st1 := [.int x1, .ref 30]) (hp1 := (hz F A L)) rfl ?_
      refine w_c rfl rfl (t_kv_fewestToWin hh0 ?_)
      show wl_E f _ _ mm111.2.2.2.2.2.2.2.2 30 [some (.ref 0), some (.int x1), some (.int x2), none] [.int (kv_fewestToWin (F 3 0) (F 3 1) (A 6) (A 31) (A 35) (A 41) (A 42) (L 11) x1).1] (hz F (uA (uA (uA (uA A 31 (kv_fewestToWin (F 3 0) (F 3 1) (A 6) (A 31) (A 35) (A 41) (A 42) (L 11) x1).2.1) 35 (kv_fewestToWin (F 3 0) (F 3 1) (A 6) (A 31) (A 35) (A 41) (A 42) (L 11) x1).2.2.1) 41 (kv_fewestToWin (F 3 0) (F 3 1) (A 6) (A 31) (A 35) (A 41) (A 42) (L 11) x1).2.2.2.1) 42 (kv_fewestToWin (F 3 0) (F 3 1) (A 6) (A 31) (A 35) (A 41) (A 42) (L 11) x1).2.2.2.2) L) _
      generalize hG366 : (kv_fewestToWin (F 3 0) (F 3 1) (A 6) (A 31) (A 35) (A 41) (A 42) (L 11) x1) = G366 at hE ⊢
      refine w_n 3 (pc1 := 33) (ls1 := [some (.ref 0), some (.int x1), some (.int x2), some (.int G366.1)]) (st1 := [.int (-1), .int G366.1]) (hp1 := (hz F (uA (uA (uA (uA A 31 G366.2.1) 35 G366.2.2.1) 41 G366.2.2.2.1) 42 G366.2.2.2.2) L)) rfl ?_
      refine w_ne (p3 := 36) rfl rfl (fun h => ?_) (fun h => ?_)
      · have h3 : ¬ G366.1 = (-1) := h
        rw [if_neg h3] at hE
        refine w_n 1 (pc1 := 40) (ls1 := [some (.ref 0), some (.int x1), some (.int x2), some (.int G366.1)]) (st1 := [.int x2]) (hp1 := (hz F (uA (uA (uA (uA A 31 G366.2.1) 35 G366.2.2.1) 41 G366.2.2.2.1) 42 G366.2.2.2.2) L)) rfl ?_
        refine w_zne (p3 := 43) rfl rfl (fun h => ?_) (fun h => ?_)
        · have h4 : ¬ x2 = 0 := h
          rw [if_neg h4] at hE
          refine w_n 1 (pc1 := 51) (ls1 := [some (.ref 0), some (.int x1), some (.int x2), some (.int G366.1)]) (st1 := [.int G366.1]) (hp1 := (hz F (uA (uA (uA (uA A 31 G366.2.1) 35 G366.2.2.1) 41 G366.2.2.2.1) 42 G366.2.2.2.2) L)) rfl ?_
          subst T
          exact w_ri rfl (cvQ rfl rfl rfl K)
        · have h4 : x2 = 0 := h
          rw [if_pos h4] at hE
          refine w_n 1 (pc1 := 44) (ls1 := [some (.ref 0), some (.int x1), some (.int x2), some (.int G366.1)]) (st1 := [.int G366.1]) (hp1 := (hz F (uA (uA (uA (uA A 31 G366.2.1) 35 G366.2.2.1) 41 G366.2.2.2.1) 42 G366.2.2.2.2) L)) rfl ?_
          refine w_c rfl rfl (t_kji_bitCount ?_)
          show wl_E f _ _ mm111.2.2.2.2.2.2.2.2 47 [some (.ref 0), some (.int x1), some (.int x2), some (.int G366.1)] [.int (kji_bitCount G366.1)] (hz F (uA (uA (uA (uA A 31 G366.2.1) 35 G366.2.2.1) 41 G366.2.2.2.1) 42 G366.2.2.2.2) L) _
          generalize hG367 : (kji_bitCount G366.1) = G367 at hE ⊢
          refine w_n 1 (pc1 := 51) (ls1 := [some (.ref 0), some (.int x1), some (.int x2), some (.int G366.1)]) (st1 := [.int G367]) (hp1 := (hz F (uA (uA (uA (uA A 31 G366.2.1) 35 G366.2.2.1) 41 G366.2.2.2.1) 42 G366.2.2.2.2) L)) rfl ?_
          subst T
          exact w_ri rfl (cvQ rfl rfl rfl K)
      · have h3 : G366.1 = (-1) := h
        rw [if_pos h3] at hE
        refine w_n 1 (pc1 := 38) (ls1 := [some (.ref 0), some (.int x1), some (.int x2), some (.int G366.1)]) (st1 := [.int (-2)]) (hp1 := (hz F (uA (uA (uA (uA A 31 G366.2.1) 35 G366.2.2.1) 41 G366.2.2.2.1) 42 G366.2.2.2.2) L)) rfl ?_
        subst T
        exact w_ri rfl (cvQ rfl rfl rfl K)
    · have h2 : G357 = 0 := h
      rw [if_pos h2] at hE
      refine w_n 1 (pc1 := 21) (ls1 := [some (.ref 0), some (.int x1), some (.int x2), none]) (st1 := [.int (-1)]) (hp1 := (hz F A L)) rfl ?_
      subst T
      exact w_ri rfl (cvQ rfl (funext fun q => if k0 : q = 31 then by subst k0; exact Eq.trans (b := (A 31)) rfl rfl else if k1 : q = 35 then by subst k1; exact Eq.trans (b := (A 35)) rfl rfl else if k2 : q = 41 then by subst k2; exact Eq.trans (b := (A 41)) rfl rfl else if k3 : q = 42 then by subst k3; exact Eq.trans (b := (A 42)) rfl rfl else by unfold uA; simp only [nb1 k0, nb1 k1, nb1 k2, nb1 k3, cond_false]) rfl K)
