/-! lifts, printed by genlift.py: 12 -/
def km_lie_44 (a68 : List Int32) (x1 : Int32) : Nat → Int32 → List Int32 → List Int32
  | 0, _, a94 => a94
  | m + 1, y4, a94 => (km_lie_44 a68 x1 m (y4 + 1) (a94.set y4.toInt.toNat (km_placeOf a68 x1 y4)))
theorem t_km_lie_44 {f : Nat} {Q : Option Value → sm_H → Prop} : ∀ (m : Nat) {B D : Nat} {F : Nat → Nat → Int32} {A : Nat → List Int32} {L : Nat → List Int64} {x1 : Int32} {x2 : Int32} {x3 : Int32} {y4 : Int32} {o5 : Option Value} {o6 : Option Value}, m = (6 - y4.toInt).toNat → (∀ q4 : Int32, wl_E f B D mm234.2.2.2.2.2.2.2.2 71 [some (.ref 67), some (.int x1), some (.int x2), some (.int x3), some (.int q4), o5, o6] [] (hz F (uA A 94 (km_lie_44 (A 68) x1 m y4 (A 94))) L) Q) → wl_E f B D mm234.2.2.2.2.2.2.2.2 44 [some (.ref 67), some (.int x1), some (.int x2), some (.int x3), some (.int y4), o5, o6] [] (hz F A L) Q := by
  intro m
  induction m with
  | zero =>
    intro B D F A L x1 x2 x3 y4 o5 o6 hm K
    generalize hT : (km_lie_44 (A 68) x1 0 y4 (A 94)) = T at K
    have hE : T = (A 94) := hT.symm
    clear hT
    refine w_n 2 (pc1 := 48) (ls1 := [some (.ref 67), some (.int x1), some (.int x2), some (.int x3), some (.int y4), o5, o6]) (st1 := [.int 6, .int y4]) (hp1 := (hz F A L)) rfl ?_
    refine w_ge (p3 := 51) rfl rfl (fun hb => ?_) (fun h => False.elim (by have h : y4.toInt < 6 := h; omega))
    subst T
    exact cvE rfl (funext fun q => if k0 : q = 94 then by subst k0; exact Eq.trans (b := (A 94)) rfl rfl else by unfold uA; simp only [nb1 k0, cond_false]) rfl (K _)
  | succ m ih =>
    intro B D F A L x1 x2 x3 y4 o5 o6 hm K
    generalize hT : (km_lie_44 (A 68) x1 (m + 1) y4 (A 94)) = T at K
    have hE : T = (km_lie_44 (A 68) x1 m (y4 + 1) ((A 94).set y4.toInt.toNat (km_placeOf (A 68) x1 y4))) := hT.symm
    clear hT
    refine w_n 2 (pc1 := 48) (ls1 := [some (.ref 67), some (.int x1), some (.int x2), some (.int x3), some (.int y4), o5, o6]) (st1 := [.int 6, .int y4]) (hp1 := (hz F A L)) rfl ?_
    refine w_ge (p3 := 51) rfl rfl (fun h => False.elim (by have h : 6 ≤ y4.toInt := h; omega)) (fun hb => ?_)
    refine w_n 6 (pc1 := 61) (ls1 := [some (.ref 67), some (.int x1), some (.int x2), some (.int x3), some (.int y4), o5, o6]) (st1 := [.int y4, .int x1, .ref 67, .int y4, .ref 94]) (hp1 := (hz F A L)) rfl ?_
    refine w_c rfl rfl (t_km_placeOf ?_)
    show wl_E f _ _ mm234.2.2.2.2.2.2.2.2 64 [some (.ref 67), some (.int x1), some (.int x2), some (.int x3), some (.int y4), o5, o6] [.int (km_placeOf (A 68) x1 y4), .int y4, .ref 94] (hz F A L) _
    generalize hG404 : (km_placeOf (A 68) x1 y4) = G404 at hE ⊢
    refine w_as (k := 94) (l := (A 94)) (hp1 := (hz F (uA A 94 ((A 94).set y4.toInt.toNat G404)) L)) rfl rfl rfl (hz_s94 _) (fun ab => ?_)
    refine w_n 2 (pc1 := 44) (ls1 := [some (.ref 67), some (.int x1), some (.int x2), some (.int x3), some (.int (y4 + 1)), o5, o6]) (st1 := []) (hp1 := (hz F (uA A 94 ((A 94).set y4.toInt.toNat G404)) L)) rfl ?_
    subst T
    have hb2 := i_up (B := (6 : Int32)) hb
    have hb3 : y4.toInt < 6 := hb
    exact ih (show m = (6 - (y4 + 1).toInt).toNat by rw [hb2]; omega) (fun q4 => cvE rfl (funext fun q => if k0 : q = 94 then by subst k0; exact Eq.trans (b := (km_lie_44 (A 68) x1 m (y4 + 1) ((A 94).set y4.toInt.toNat G404))) rfl rfl else by unfold uA; simp only [nb1 k0, cond_false]) rfl (K q4))
def km_lie_89 (a92 : List Int32) (x1 : Int32) : Nat → Int32 → List Int32 → List Int32
  | 0, _, a68 => a68
  | m + 1, y6, a68 => (km_lie_89 a92 x1 m (y6 + 1) (a68.set ((72 + (6 * x1)) + (a92.getD y6.toInt.toNat 0)).toInt.toNat y6))
theorem t_km_lie_89 {f : Nat} {Q : Option Value → sm_H → Prop} : ∀ (m : Nat) {B D : Nat} {F : Nat → Nat → Int32} {A : Nat → List Int32} {L : Nat → List Int64} {x1 : Int32} {x2 : Int32} {x3 : Int32} {x4 : Int32} {x5 : Int32} {y6 : Int32}, m = ((F 67 3).toInt - y6.toInt).toNat → (∀ q6 : Int32, wl_E f B D mm234.2.2.2.2.2.2.2.2 126 [some (.ref 67), some (.int x1), some (.int x2), some (.int x3), some (.int x4), some (.int x5), some (.int q6)] [] (hz F (uA A 68 (km_lie_89 (A 92) x1 m y6 (A 68))) L) Q) → wl_E f B D mm234.2.2.2.2.2.2.2.2 89 [some (.ref 67), some (.int x1), some (.int x2), some (.int x3), some (.int x4), some (.int x5), some (.int y6)] [] (hz F A L) Q := by
  intro m
  induction m with
  | zero =>
    intro B D F A L x1 x2 x3 x4 x5 y6 hm K
    generalize hT : (km_lie_89 (A 92) x1 0 y6 (A 68)) = T at K
    have hE : T = (A 68) := hT.symm
    clear hT
    refine w_n 3 (pc1 := 95) (ls1 := [some (.ref 67), some (.int x1), some (.int x2), some (.int x3), some (.int x4), some (.int x5), some (.int y6)]) (st1 := [.int (F 67 3), .int y6]) (hp1 := (hz F A L)) rfl ?_
    refine w_ge (p3 := 98) rfl rfl (fun hb => ?_) (fun h => False.elim (by have h : y6.toInt < (F 67 3).toInt := h; omega))
    subst T
    exact cvE rfl (funext fun q => if k0 : q = 68 then by subst k0; exact Eq.trans (b := (A 68)) rfl rfl else by unfold uA; simp only [nb1 k0, cond_false]) rfl (K _)
  | succ m ih =>
    intro B D F A L x1 x2 x3 x4 x5 y6 hm K
    generalize hT : (km_lie_89 (A 92) x1 (m + 1) y6 (A 68)) = T at K
    have hE : T = (km_lie_89 (A 92) x1 m (y6 + 1) ((A 68).set ((72 + (6 * x1)) + ((A 92).getD y6.toInt.toNat 0)).toInt.toNat y6)) := hT.symm
    clear hT
    refine w_n 3 (pc1 := 95) (ls1 := [some (.ref 67), some (.int x1), some (.int x2), some (.int x3), some (.int x4), some (.int x5), some (.int y6)]) (st1 := [.int (F 67 3), .int y6]) (hp1 := (hz F A L)) rfl ?_
    refine w_ge (p3 := 98) rfl rfl (fun h => False.elim (by have h : (F 67 3).toInt ≤ y6.toInt := h; omega)) (fun hb => ?_)
    refine w_n 10 (pc1 := 115) (ls1 := [some (.ref 67), some (.int x1), some (.int x2), some (.int x3), some (.int x4), some (.int x5), some (.int y6)]) (st1 := [.int y6, .ref 92, .int (72 + (6 * x1)), .ref 68]) (hp1 := (hz F A L)) rfl ?_
    refine w_al (k := 92) (l := (A 92)) rfl rfl rfl (fun ab => ?_)
    refine w_n 2 (pc1 := 119) (ls1 := [some (.ref 67), some (.int x1), some (.int x2), some (.int x3), some (.int x4), some (.int x5), some (.int y6)]) (st1 := [.int y6, .int ((72 + (6 * x1)) + ((A 92).getD y6.toInt.toNat 0)), .ref 68]) (hp1 := (hz F A L)) rfl ?_
    refine w_as (k := 68) (l := (A 68)) (hp1 := (hz F (uA A 68 ((A 68).set ((72 + (6 * x1)) + ((A 92).getD y6.toInt.toNat 0)).toInt.toNat y6)) L)) rfl rfl rfl (hz_s68 _) (fun _ => ?_)
    refine w_n 2 (pc1 := 89) (ls1 := [some (.ref 67), some (.int x1), some (.int x2), some (.int x3), some (.int x4), some (.int x5), some (.int (y6 + 1))]) (st1 := []) (hp1 := (hz F (uA A 68 ((A 68).set ((72 + (6 * x1)) + ((A 92).getD y6.toInt.toNat 0)).toInt.toNat y6)) L)) rfl ?_
    subst T
    have hb2 := i_up (B := (F 67 3)) hb
    have hb3 : y6.toInt < (F 67 3).toInt := hb
    exact ih (show m = ((F 67 3).toInt - (y6 + 1).toInt).toNat by rw [hb2]; omega) (fun q6 => cvE rfl (funext fun q => if k0 : q = 68 then by subst k0; exact Eq.trans (b := (km_lie_89 (A 92) x1 m (y6 + 1) ((A 68).set ((72 + (6 * x1)) + ((A 92).getD y6.toInt.toNat 0)).toInt.toNat y6))) rfl rfl else by unfold uA; simp only [nb1 k0, cond_false]) rfl (K q6))
def km_lie_81 (f : Nat) (f67_3 : Int32) (a94 : List Int32) (x1 : Int32) (x3 : Int32) : Nat → Int32 → Int32 → List Int32 → List Int32 → List Int32 → List Int32 → List Int32 → Int32 × List Int32 × List Int32 × List Int32 × List Int32 × List Int32
  | 0, y4, _, a68, a87, a89, a92, a93 => (y4, a68, a87, a89, a92, a93)
  | m + 1, y4, y5, a68, a87, a89, a92, a93 => (if y5 = 0 then (y4, a68, a87, a89, a92, a93) else (if (a94.getD (km_runsOff f f67_3 (km_lie_89 a92 x1 f67_3.toInt.toNat 0 a68) a87 a89).1.toInt.toNat 0).toInt < (a94.getD x3.toInt.toNat 0).toInt then (if y4 = 0 then (km_lie_81 f f67_3 a94 x1 x3 m (y4 + 1) (km_goesNext f a92 f67_3).1 (km_lie_89 a92 x1 f67_3.toInt.toNat 0 a68) (km_runsOff f f67_3 (km_lie_89 a92 x1 f67_3.toInt.toNat 0 a68) a87 a89).2.1 (km_runsOff f f67_3 (km_lie_89 a92 x1 f67_3.toInt.toNat 0 a68) a87 a89).2.2 (km_goesNext f a92 f67_3).2 (km_keepsRow f67_3 a92 a93)) else (km_lie_81 f f67_3 a94 x1 x3 m (y4 + 1) (km_goesNext f a92 f67_3).1 (km_lie_89 a92 x1 f67_3.toInt.toNat 0 a68) (km_runsOff f f67_3 (km_lie_89 a92 x1 f67_3.toInt.toNat 0 a68) a87 a89).2.1 (km_runsOff f f67_3 (km_lie_89 a92 x1 f67_3.toInt.toNat 0 a68) a87 a89).2.2 (km_goesNext f a92 f67_3).2 a93)) else (km_lie_81 f f67_3 a94 x1 x3 m y4 (km_goesNext f a92 f67_3).1 (km_lie_89 a92 x1 f67_3.toInt.toNat 0 a68) (km_runsOff f f67_3 (km_lie_89 a92 x1 f67_3.toInt.toNat 0 a68) a87 a89).2.1 (km_runsOff f f67_3 (km_lie_89 a92 x1 f67_3.toInt.toNat 0 a68) a87 a89).2.2 (km_goesNext f a92 f67_3).2 a93)))
theorem t_km_lie_81 {f : Nat} {Q : Option Value → sm_H → Prop} : ∀ (m : Nat) (B : Nat) {D : Nat} {F : Nat → Nat → Int32} {A : Nat → List Int32} {L : Nat → List Int64} {x1 : Int32} {x2 : Int32} {x3 : Int32} {y4 : Int32} {y5 : Int32} {o6 : Option Value}, B ≤ m → (∀ q5 : Int32, ∀ q6 : Option Value, wl_E f B D mm234.2.2.2.2.2.2.2.2 172 [some (.ref 67), some (.int x1), some (.int x2), some (.int x3), some (.int ((km_lie_81 f (F 67 3) (A 94) x1 x3 m y4 y5 (A 68) (A 87) (A 89) (A 92) (A 93)).1)), some (.int q5), q6] [] (hz F (uA (uA (uA (uA (uA A 68 ((km_lie_81 f (F 67 3) (A 94) x1 x3 m y4 y5 (A 68) (A 87) (A 89) (A 92) (A 93)).2.1)) 87 ((km_lie_81 f (F 67 3) (A 94) x1 x3 m y4 y5 (A 68) (A 87) (A 89) (A 92) (A 93)).2.2.1)) 89 ((km_lie_81 f (F 67 3) (A 94) x1 x3 m y4 y5 (A 68) (A 87) (A 89) (A 92) (A 93)).2.2.2.1)) 92 ((km_lie_81 f (F 67 3) (A 94) x1 x3 m y4 y5 (A 68) (A 87) (A 89) (A 92) (A 93)).2.2.2.2.1)) 93 ((km_lie_81 f (F 67 3) (A 94) x1 x3 m y4 y5 (A 68) (A 87) (A 89) (A 92) (A 93)).2.2.2.2.2)) L) Q) → wl_E f B D mm234.2.2.2.2.2.2.2.2 81 [some (.ref 67), some (.int x1), some (.int x2), some (.int x3), some (.int y4), some (.int y5), o6] [] (hz F A L) Q := by
  intro m
  induction m with
  | zero =>
    intro B D F A L x1 x2 x3 y4 y5 o6 hm K
    rw [show B = 0 by omega]
    exact w_0
  | succ m ih =>
    intro B D F A L x1 x2 x3 y4 y5 o6 hm K
    cases B with
    | zero => exact w_0
    | succ B =>
      generalize hT : (km_lie_81 f (F 67 3) (A 94) x1 x3 (m + 1) y4 y5 (A 68) (A 87) (A 89) (A 92) (A 93)) = T at K
      have hE : T = (if y5 = 0 then (y4, (A 68), (A 87), (A 89), (A 92), (A 93)) else (if ((A 94).getD (km_runsOff f (F 67 3) (km_lie_89 (A 92) x1 (F 67 3).toInt.toNat 0 (A 68)) (A 87) (A 89)).1.toInt.toNat 0).toInt < ((A 94).getD x3.toInt.toNat 0).toInt then (if y4 = 0 then (km_lie_81 f (F 67 3) (A 94) x1 x3 m (y4 + 1) (km_goesNext f (A 92) (F 67 3)).1 (km_lie_89 (A 92) x1 (F 67 3).toInt.toNat 0 (A 68)) (km_runsOff f (F 67 3) (km_lie_89 (A 92) x1 (F 67 3).toInt.toNat 0 (A 68)) (A 87) (A 89)).2.1 (km_runsOff f (F 67 3) (km_lie_89 (A 92) x1 (F 67 3).toInt.toNat 0 (A 68)) (A 87) (A 89)).2.2 (km_goesNext f (A 92) (F 67 3)).2 (km_keepsRow (F 67 3) (A 92) (A 93))) else (km_lie_81 f (F 67 3) (A 94) x1 x3 m (y4 + 1) (km_goesNext f (A 92) (F 67 3)).1 (km_lie_89 (A 92) x1 (F 67 3).toInt.toNat 0 (A 68)) (km_runsOff f (F 67 3) (km_lie_89 (A 92) x1 (F 67 3).toInt.toNat 0 (A 68)) (A 87) (A 89)).2.1 (km_runsOff f (F 67 3) (km_lie_89 (A 92) x1 (F 67 3).toInt.toNat 0 (A 68)) (A 87) (A 89)).2.2 (km_goesNext f (A 92) (F 67 3)).2 (A 93))) else (km_lie_81 f (F 67 3) (A 94) x1 x3 m y4 (km_goesNext f (A 92) (F 67 3)).1 (km_lie_89 (A 92) x1 (F 67 3).toInt.toNat 0 (A 68)) (km_runsOff f (F 67 3) (km_lie_89 (A 92) x1 (F 67 3).toInt.toNat 0 (A 68)) (A 87) (A 89)).2.1 (km_runsOff f (F 67 3) (km_lie_89 (A 92) x1 (F 67 3).toInt.toNat 0 (A 68)) (A 87) (A 89)).2.2 (km_goesNext f (A 92) (F 67 3)).2 (A 93)))) := hT.symm
      clear hT
      refine w_n1 (pc1 := 83) (ls1 := [some (.ref 67), some (.int x1), some (.int x2), some (.int x3), some (.int y4), some (.int y5), o6]) (st1 := [.int y5]) (hp1 := (hz F A L)) rfl ?_
      refine w_zeq (p3 := 86) rfl rfl (fun h => ?_) (fun h => ?_)
      · have h1 : y5 = 0 := h
        rw [if_pos h1] at hE
        subst T
        exact cvE rfl (funext fun q => if k0 : q = 68 then by subst k0; exact Eq.trans (b := (A 68)) rfl rfl else if k1 : q = 87 then by subst k1; exact Eq.trans (b := (A 87)) rfl rfl else if k2 : q = 89 then by subst k2; exact Eq.trans (b := (A 89)) rfl rfl else if k3 : q = 92 then by subst k3; exact Eq.trans (b := (A 92)) rfl rfl else if k4 : q = 93 then by subst k4; exact Eq.trans (b := (A 93)) rfl rfl else by unfold uA; simp only [nb1 k0, nb1 k1, nb1 k2, nb1 k3, nb1 k4, cond_false]) rfl (wl_le (Nat.le_succ _) (K _ _))
      · have h1 : ¬ y5 = 0 := h
        rw [if_neg h1] at hE
        refine w_n 2 (pc1 := 89) (ls1 := [some (.ref 67), some (.int x1), some (.int x2), some (.int x3), some (.int y4), some (.int y5), some (.int 0)]) (st1 := []) (hp1 := (hz F A L)) rfl ?_
        refine t_km_lie_89 (F 67 3).toInt.toNat (show (F 67 3).toInt.toNat = ((F 67 3).toInt - (0 : Int32).toInt).toNat by have e0 : (0 : Int32).toInt = 0 := rfl; first | rfl | omega) ?_
        intro r1
        show wl_E f _ _ mm234.2.2.2.2.2.2.2.2 126 [some (.ref 67), some (.int x1), some (.int x2), some (.int x3), some (.int y4), some (.int y5), some (.int r1)] [] (hz F (uA A 68 (km_lie_89 (A 92) x1 (F 67 3).toInt.toNat 0 (A 68))) L) _
        generalize hG407 : (km_lie_89 (A 92) x1 (F 67 3).toInt.toNat 0 (A 68)) = G407 at hE ⊢
        refine w_n 3 (pc1 := 131) (ls1 := [some (.ref 67), some (.int x1), some (.int x2), some (.int x3), some (.int y4), some (.int y5), some (.int r1)]) (st1 := [.ref 67, .ref 94]) (hp1 := (hz F (uA A 68 G407) L)) rfl ?_
        refine w_c rfl rfl (t_km_runsOff ?_)
        show wl_E f _ _ mm234.2.2.2.2.2.2.2.2 134 [some (.ref 67), some (.int x1), some (.int x2), some (.int x3), some (.int y4), some (.int y5), some (.int r1)] [.int (km_runsOff f (F 67 3) G407 (A 87) (A 89)).1, .ref 94] (hz F (uA (uA (uA A 68 G407) 87 (km_runsOff f (F 67 3) G407 (A 87) (A 89)).2.1) 89 (km_runsOff f (F 67 3) G407 (A 87) (A 89)).2.2) L) _
        generalize hG408 : (km_runsOff f (F 67 3) G407 (A 87) (A 89)) = G408 at hE ⊢
        refine w_al (k := 94) (l := (A 94)) rfl rfl rfl (fun _ => ?_)
        refine w_n 3 (pc1 := 140) (ls1 := [some (.ref 67), some (.int x1), some (.int x2), some (.int x3), some (.int y4), some (.int y5), some (.int r1)]) (st1 := [.int x3, .ref 94, .int ((A 94).getD G408.1.toInt.toNat 0)]) (hp1 := (hz F (uA (uA (uA A 68 G407) 87 G408.2.1) 89 G408.2.2) L)) rfl ?_
        refine w_al (k := 94) (l := (A 94)) rfl rfl rfl (fun _ => ?_)
        refine w_ge (p3 := 144) rfl rfl (fun h => ?_) (fun h => ?_)
        · have h2 : ((A 94).getD x3.toInt.toNat 0).toInt ≤ ((A 94).getD G408.1.toInt.toNat 0).toInt := h
          rw [if_neg (Int.not_lt.mpr h2)] at hE
          refine w_n 3 (pc1 := 164) (ls1 := [some (.ref 67), some (.int x1), some (.int x2), some (.int x3), some (.int y4), some (.int y5), some (.int r1)]) (st1 := [.int (F 67 3), .ref 67]) (hp1 := (hz F (uA (uA (uA A 68 G407) 87 G408.2.1) 89 G408.2.2) L)) rfl ?_
          refine w_c rfl rfl (t_km_goesNext ?_)
          show wl_E f _ _ mm234.2.2.2.2.2.2.2.2 167 [some (.ref 67), some (.int x1), some (.int x2), some (.int x3), some (.int y4), some (.int y5), some (.int r1)] [.int (km_goesNext f (A 92) (F 67 3)).1] (hz F (uA (uA (uA (uA A 68 G407) 87 G408.2.1) 89 G408.2.2) 92 (km_goesNext f (A 92) (F 67 3)).2) L) _
          generalize hG409 : (km_goesNext f (A 92) (F 67 3)) = G409 at hE ⊢
          refine w_n 2 (pc1 := 81) (ls1 := [some (.ref 67), some (.int x1), some (.int x2), some (.int x3), some (.int y4), some (.int G409.1), some (.int r1)]) (st1 := []) (hp1 := (hz F (uA (uA (uA (uA A 68 G407) 87 G408.2.1) 89 G408.2.2) 92 G409.2) L)) rfl ?_
          subst T
          exact ih _ (by omega) (fun q5 q6 => cvE rfl (funext fun q => if k0 : q = 68 then by subst k0; exact Eq.trans (b := (km_lie_81 f (F 67 3) (A 94) x1 x3 m y4 G409.1 G407 G408.2.1 G408.2.2 G409.2 (A 93)).2.1) rfl rfl else if k1 : q = 87 then by subst k1; exact Eq.trans (b := (km_lie_81 f (F 67 3) (A 94) x1 x3 m y4 G409.1 G407 G408.2.1 G408.2.2 G409.2 (A 93)).2.2.1) rfl rfl else if k2 : q = 89 then by subst k2; exact Eq.trans (b := (km_lie_81 f (F 67 3) (A 94) x1 x3 m y4 G409.1 G407 G408.2.1 G408.2.2 G409.2 (A 93)).2.2.2.1) rfl rfl else if k3 : q = 92 then by subst k3; exact Eq.trans (b := (km_lie_81 f (F 67 3) (A 94) x1 x3 m y4 G409.1 G407 G408.2.1 G408.2.2 G409.2 (A 93)).2.2.2.2.1) rfl rfl else if k4 : q = 93 then by subst k4; exact Eq.trans (b := (km_lie_81 f (F 67 3) (A 94) x1 x3 m y4 G409.1 G407 G408.2.1 G408.2.2 G409.2 (A 93)).2.2.2.2.2) rfl rfl else by unfold uA; simp only [nb1 k0, nb1 k1, nb1 k2, nb1 k3, nb1 k4, cond_false]) rfl (wl_le (Nat.le_succ _) (K q5 q6)))
        · have h2 : ((A 94).getD G408.1.toInt.toNat 0).toInt < ((A 94).getD x3.toInt.toNat 0).toInt := h
          rw [if_pos h2] at hE
          refine w_n 1 (pc1 := 146) (ls1 := [some (.ref 67), some (.int x1), some (.int x2), some (.int x3), some (.int y4), some (.int y5), some (.int r1)]) (st1 := [.int y4]) (hp1 := (hz F (uA (uA (uA A 68 G407) 87 G408.2.1) 89 G408.2.2) L)) rfl ?_
          refine w_zne (p3 := 149) rfl rfl (fun h => ?_) (fun h => ?_)
          · have h3 : ¬ y4 = 0 := h
            rw [if_neg h3] at hE
            refine w_n 7 (pc1 := 164) (ls1 := [some (.ref 67), some (.int x1), some (.int x2), some (.int x3), some (.int (y4 + 1)), some (.int y5), some (.int r1)]) (st1 := [.int (F 67 3), .ref 67]) (hp1 := (hz F (uA (uA (uA A 68 G407) 87 G408.2.1) 89 G408.2.2) L)) rfl ?_
            refine w_c rfl rfl (t_km_goesNext ?_)
            show wl_E f _ _ mm234.2.2.2.2.2.2.2.2 167 [some (.ref 67), some (.int x1), some (.int x2), some (.int x3), some (.int (y4 + 1)), some (.int y5), some (.int r1)] [.int (km_goesNext f (A 92) (F 67 3)).1] (hz F (uA (uA (uA (uA A 68 G407) 87 G408.2.1) 89 G408.2.2) 92 (km_goesNext f (A 92) (F 67 3)).2) L) _
            generalize hG410 : (km_goesNext f (A 92) (F 67 3)) = G410 at hE ⊢
            refine w_n 2 (pc1 := 81) (ls1 := [some (.ref 67), some (.int x1), some (.int x2), some (.int x3), some (.int (y4 + 1)), some (.int G410.1), some (.int r1)]) (st1 := []) (hp1 := (hz F (uA (uA (uA (uA A 68 G407) 87 G408.2.1) 89 G408.2.2) 92 G410.2) L)) rfl ?_
            subst T
            exact ih _ (by omega) (fun q5 q6 => cvE rfl (funext fun q => if k0 : q = 68 then by subst k0; exact Eq.trans (b := (km_lie_81 f (F 67 3) (A 94) x1 x3 m (y4 + 1) G410.1 G407 G408.2.1 G408.2.2 G410.2 (A 93)).2.1) rfl rfl else if k1 : q = 87 then by subst k1; exact Eq.trans (b := (km_lie_81 f (F 67 3) (A 94) x1 x3 m (y4 + 1) G410.1 G407 G408.2.1 G408.2.2 G410.2 (A 93)).2.2.1) rfl rfl else if k2 : q = 89 then by subst k2; exact Eq.trans (b := (km_lie_81 f (F 67 3) (A 94) x1 x3 m (y4 + 1) G410.1 G407 G408.2.1 G408.2.2 G410.2 (A 93)).2.2.2.1) rfl rfl else if k3 : q = 92 then by subst k3; exact Eq.trans (b := (km_lie_81 f (F 67 3) (A 94) x1 x3 m (y4 + 1) G410.1 G407 G408.2.1 G408.2.2 G410.2 (A 93)).2.2.2.2.1) rfl rfl else if k4 : q = 93 then by subst k4; exact Eq.trans (b := (km_lie_81 f (F 67 3) (A 94) x1 x3 m (y4 + 1) G410.1 G407 G408.2.1 G408.2.2 G410.2 (A 93)).2.2.2.2.2) rfl rfl else by unfold uA; simp only [nb1 k0, nb1 k1, nb1 k2, nb1 k3, nb1 k4, cond_false]) rfl (wl_le (Nat.le_succ _) (K q5 q6)))
          · have h3 : y4 = 0 := h
            rw [if_pos h3] at hE
            refine w_n 1 (pc1 := 150) (ls1 := [some (.ref 67), some (.int x1), some (.int x2), some (.int x3), some (.int y4), some (.int y5), some (.int r1)]) (st1 := [.ref 67]) (hp1 := (hz F (uA (uA (uA A 68 G407) 87 G408.2.1) 89 G408.2.2) L)) rfl ?_
            refine w_c rfl rfl (t_km_keepsRow ?_)
            show wl_E f _ _ mm234.2.2.2.2.2.2.2.2 153 [some (.ref 67), some (.int x1), some (.int x2), some (.int x3), some (.int y4), some (.int y5), some (.int r1)] [] (hz F (uA (uA (uA (uA A 68 G407) 87 G408.2.1) 89 G408.2.2) 93 (km_keepsRow (F 67 3) (A 92) (A 93))) L) _
            generalize hG411 : (km_keepsRow (F 67 3) (A 92) (A 93)) = G411 at hE ⊢
            refine w_n 7 (pc1 := 164) (ls1 := [some (.ref 67), some (.int x1), some (.int x2), some (.int x3), some (.int (y4 + 1)), some (.int y5), some (.int r1)]) (st1 := [.int (F 67 3), .ref 67]) (hp1 := (hz F (uA (uA (uA (uA A 68 G407) 87 G408.2.1) 89 G408.2.2) 93 G411) L)) rfl ?_
            refine w_c rfl rfl (t_km_goesNext ?_)
            show wl_E f _ _ mm234.2.2.2.2.2.2.2.2 167 [some (.ref 67), some (.int x1), some (.int x2), some (.int x3), some (.int (y4 + 1)), some (.int y5), some (.int r1)] [.int (km_goesNext f (A 92) (F 67 3)).1] (hz F (uA (uA (uA (uA (uA A 68 G407) 87 G408.2.1) 89 G408.2.2) 93 G411) 92 (km_goesNext f (A 92) (F 67 3)).2) L) _
            generalize hG412 : (km_goesNext f (A 92) (F 67 3)) = G412 at hE ⊢
            refine w_n 2 (pc1 := 81) (ls1 := [some (.ref 67), some (.int x1), some (.int x2), some (.int x3), some (.int (y4 + 1)), some (.int G412.1), some (.int r1)]) (st1 := []) (hp1 := (hz F (uA (uA (uA (uA (uA A 68 G407) 87 G408.2.1) 89 G408.2.2) 93 G411) 92 G412.2) L)) rfl ?_
            subst T
            exact ih _ (by omega) (fun q5 q6 => cvE rfl (funext fun q => if k0 : q = 68 then by subst k0; exact Eq.trans (b := (km_lie_81 f (F 67 3) (A 94) x1 x3 m (y4 + 1) G412.1 G407 G408.2.1 G408.2.2 G412.2 G411).2.1) rfl rfl else if k1 : q = 87 then by subst k1; exact Eq.trans (b := (km_lie_81 f (F 67 3) (A 94) x1 x3 m (y4 + 1) G412.1 G407 G408.2.1 G408.2.2 G412.2 G411).2.2.1) rfl rfl else if k2 : q = 89 then by subst k2; exact Eq.trans (b := (km_lie_81 f (F 67 3) (A 94) x1 x3 m (y4 + 1) G412.1 G407 G408.2.1 G408.2.2 G412.2 G411).2.2.2.1) rfl rfl else if k3 : q = 92 then by subst k3; exact Eq.trans (b := (km_lie_81 f (F 67 3) (A 94) x1 x3 m (y4 + 1) G412.1 G407 G408.2.1 G408.2.2 G412.2 G411).2.2.2.2.1) rfl rfl else if k4 : q = 93 then by subst k4; exact Eq.trans (b := (km_lie_81 f (F 67 3) (A 94) x1 x3 m (y4 + 1) G412.1 G407 G408.2.1 G408.2.2 G412.2 G411).2.2.2.2.2) rfl rfl else by unfold uA; simp only [nb1 k0, nb1 k1, nb1 k2, nb1 k3, nb1 k4, cond_false]) rfl (wl_le (Nat.le_succ _) (K q5 q6)))
def km_lie_175 (a94 : List Int32) (x1 : Int32) : Nat → Int32 → List Int32 → List Int32
  | 0, _, a68 => a68
  | m + 1, y6, a68 => (km_lie_175 a94 x1 m (y6 + 1) (a68.set ((72 + (6 * x1)) + y6).toInt.toNat (a94.getD y6.toInt.toNat 0)))
theorem t_km_lie_175 {f : Nat} {Q : Option Value → sm_H → Prop} : ∀ (m : Nat) {B D : Nat} {F : Nat → Nat → Int32} {A : Nat → List Int32} {L : Nat → List Int64} {x1 : Int32} {x2 : Int32} {x3 : Int32} {x4 : Int32} {x5 : Int32} {y6 : Int32}, m = (6 - y6.toInt).toNat → (∀ q6 : Int32, wl_E f B D mm234.2.2.2.2.2.2.2.2 210 [some (.ref 67), some (.int x1), some (.int x2), some (.int x3), some (.int x4), some (.int x5), some (.int q6)] [] (hz F (uA A 68 (km_lie_175 (A 94) x1 m y6 (A 68))) L) Q) → wl_E f B D mm234.2.2.2.2.2.2.2.2 175 [some (.ref 67), some (.int x1), some (.int x2), some (.int x3), some (.int x4), some (.int x5), some (.int y6)] [] (hz F A L) Q := by
  intro m
  induction m with
  | zero =>
    intro B D F A L x1 x2 x3 x4 x5 y6 hm K
    generalize hT : (km_lie_175 (A 94) x1 0 y6 (A 68)) = T at K
    have hE : T = (A 68) := hT.symm
    clear hT
    refine w_n 2 (pc1 := 179) (ls1 := [some (.ref 67), some (.int x1), some (.int x2), some (.int x3), some (.int x4), some (.int x5), some (.int y6)]) (st1 := [.int 6, .int y6]) (hp1 := (hz F A L)) rfl ?_
    refine w_ge (p3 := 182) rfl rfl (fun hb => ?_) (fun h => False.elim (by have h : y6.toInt < 6 := h; omega))
    subst T
    exact cvE rfl (funext fun q => if k0 : q = 68 then by subst k0; exact Eq.trans (b := (A 68)) rfl rfl else by unfold uA; simp only [nb1 k0, cond_false]) rfl (K _)
  | succ m ih =>
    intro B D F A L x1 x2 x3 x4 x5 y6 hm K
    generalize hT : (km_lie_175 (A 94) x1 (m + 1) y6 (A 68)) = T at K
    have hE : T = (km_lie_175 (A 94) x1 m (y6 + 1) ((A 68).set ((72 + (6 * x1)) + y6).toInt.toNat ((A 94).getD y6.toInt.toNat 0))) := hT.symm
    clear hT
    refine w_n 2 (pc1 := 179) (ls1 := [some (.ref 67), some (.int x1), some (.int x2), some (.int x3), some (.int x4), some (.int x5), some (.int y6)]) (st1 := [.int 6, .int y6]) (hp1 := (hz F A L)) rfl ?_
    refine w_ge (p3 := 182) rfl rfl (fun h => False.elim (by have h : 6 ≤ y6.toInt := h; omega)) (fun hb => ?_)
    refine w_n 12 (pc1 := 202) (ls1 := [some (.ref 67), some (.int x1), some (.int x2), some (.int x3), some (.int x4), some (.int x5), some (.int y6)]) (st1 := [.int y6, .ref 94, .int ((72 + (6 * x1)) + y6), .ref 68]) (hp1 := (hz F A L)) rfl ?_
    refine w_al (k := 94) (l := (A 94)) rfl rfl rfl (fun ab => ?_)
    refine w_as (k := 68) (l := (A 68)) (hp1 := (hz F (uA A 68 ((A 68).set ((72 + (6 * x1)) + y6).toInt.toNat ((A 94).getD y6.toInt.toNat 0))) L)) rfl rfl rfl (hz_s68 _) (fun _ => ?_)
    refine w_n 2 (pc1 := 175) (ls1 := [some (.ref 67), some (.int x1), some (.int x2), some (.int x3), some (.int x4), some (.int x5), some (.int (y6 + 1))]) (st1 := []) (hp1 := (hz F (uA A 68 ((A 68).set ((72 + (6 * x1)) + y6).toInt.toNat ((A 94).getD y6.toInt.toNat 0))) L)) rfl ?_
    subst T
    have hb2 := i_up (B := (6 : Int32)) hb
    have hb3 : y6.toInt < 6 := hb
    exact ih (show m = (6 - (y6 + 1).toInt).toNat by rw [hb2]; omega) (fun q6 => cvE rfl (funext fun q => if k0 : q = 68 then by subst k0; exact Eq.trans (b := (km_lie_175 (A 94) x1 m (y6 + 1) ((A 68).set ((72 + (6 * x1)) + y6).toInt.toNat ((A 94).getD y6.toInt.toNat 0)))) rfl rfl else by unfold uA; simp only [nb1 k0, cond_false]) rfl (K q6))
def km_lie (f : Nat) (f67_3 : Int32) (a68 : List Int32) (a87 : List Int32) (a89 : List Int32) (a92 : List Int32) (a93 : List Int32) (a94 : List Int32) (x1 : Int32) (x2 : Int32) : Int32 × List Int32 × List Int32 × List Int32 × List Int32 × List Int32 × List Int32 := (if (km_isGuest a68 x1) = 0 then ((-1), a68, a87, a89, a92, a93, a94) else (if x2 = 10 then (if f67_3 = 6 then ((-3), a68, a87, a89, a92, a93, a94) else ((km_lie_81 f f67_3 (km_lie_44 a68 x1 6 0 a94) x1 (km_runsOff f f67_3 a68 a87 a89).1 f 0 1 a68 (km_runsOff f f67_3 a68 a87 a89).2.1 (km_runsOff f f67_3 a68 a87 a89).2.2 (km_beginsRows f67_3 a92) a93).1, (km_lie_175 (km_lie_44 a68 x1 6 0 a94) x1 6 0 (km_lie_81 f f67_3 (km_lie_44 a68 x1 6 0 a94) x1 (km_runsOff f f67_3 a68 a87 a89).1 f 0 1 a68 (km_runsOff f f67_3 a68 a87 a89).2.1 (km_runsOff f f67_3 a68 a87 a89).2.2 (km_beginsRows f67_3 a92) a93).2.1), (km_lie_81 f f67_3 (km_lie_44 a68 x1 6 0 a94) x1 (km_runsOff f f67_3 a68 a87 a89).1 f 0 1 a68 (km_runsOff f f67_3 a68 a87 a89).2.1 (km_runsOff f f67_3 a68 a87 a89).2.2 (km_beginsRows f67_3 a92) a93).2.2.1, (km_lie_81 f f67_3 (km_lie_44 a68 x1 6 0 a94) x1 (km_runsOff f f67_3 a68 a87 a89).1 f 0 1 a68 (km_runsOff f f67_3 a68 a87 a89).2.1 (km_runsOff f f67_3 a68 a87 a89).2.2 (km_beginsRows f67_3 a92) a93).2.2.2.1, (km_lie_81 f f67_3 (km_lie_44 a68 x1 6 0 a94) x1 (km_runsOff f f67_3 a68 a87 a89).1 f 0 1 a68 (km_runsOff f f67_3 a68 a87 a89).2.1 (km_runsOff f f67_3 a68 a87 a89).2.2 (km_beginsRows f67_3 a92) a93).2.2.2.2.1, (km_lie_81 f f67_3 (km_lie_44 a68 x1 6 0 a94) x1 (km_runsOff f f67_3 a68 a87 a89).1 f 0 1 a68 (km_runsOff f f67_3 a68 a87 a89).2.1 (km_runsOff f f67_3 a68 a87 a89).2.2 (km_beginsRows f67_3 a92) a93).2.2.2.2.2, (km_lie_44 a68 x1 6 0 a94))) else (if (km_isMeasure f67_3 x2) = 0 then ((-1), a68, a87, a89, a92, a93, a94) else (if f67_3 = 6 then ((-3), a68, a87, a89, a92, a93, a94) else (if (km_lie_81 f f67_3 (km_lie_44 a68 x1 6 0 a94) x1 (km_runsOff f f67_3 a68 a87 a89).1 f 0 1 a68 (km_runsOff f f67_3 a68 a87 a89).2.1 (km_runsOff f f67_3 a68 a87 a89).2.2 (km_beginsRows f67_3 a92) a93).1 = 0 then ((-2), (km_lie_175 (km_lie_44 a68 x1 6 0 a94) x1 6 0 (km_lie_81 f f67_3 (km_lie_44 a68 x1 6 0 a94) x1 (km_runsOff f f67_3 a68 a87 a89).1 f 0 1 a68 (km_runsOff f f67_3 a68 a87 a89).2.1 (km_runsOff f f67_3 a68 a87 a89).2.2 (km_beginsRows f67_3 a92) a93).2.1), (km_lie_81 f f67_3 (km_lie_44 a68 x1 6 0 a94) x1 (km_runsOff f f67_3 a68 a87 a89).1 f 0 1 a68 (km_runsOff f f67_3 a68 a87 a89).2.1 (km_runsOff f f67_3 a68 a87 a89).2.2 (km_beginsRows f67_3 a92) a93).2.2.1, (km_lie_81 f f67_3 (km_lie_44 a68 x1 6 0 a94) x1 (km_runsOff f f67_3 a68 a87 a89).1 f 0 1 a68 (km_runsOff f f67_3 a68 a87 a89).2.1 (km_runsOff f f67_3 a68 a87 a89).2.2 (km_beginsRows f67_3 a92) a93).2.2.2.1, (km_lie_81 f f67_3 (km_lie_44 a68 x1 6 0 a94) x1 (km_runsOff f f67_3 a68 a87 a89).1 f 0 1 a68 (km_runsOff f f67_3 a68 a87 a89).2.1 (km_runsOff f f67_3 a68 a87 a89).2.2 (km_beginsRows f67_3 a92) a93).2.2.2.2.1, (km_lie_81 f f67_3 (km_lie_44 a68 x1 6 0 a94) x1 (km_runsOff f f67_3 a68 a87 a89).1 f 0 1 a68 (km_runsOff f f67_3 a68 a87 a89).2.1 (km_runsOff f f67_3 a68 a87 a89).2.2 (km_beginsRows f67_3 a92) a93).2.2.2.2.2, (km_lie_44 a68 x1 6 0 a94)) else (((km_lie_81 f f67_3 (km_lie_44 a68 x1 6 0 a94) x1 (km_runsOff f f67_3 a68 a87 a89).1 f 0 1 a68 (km_runsOff f f67_3 a68 a87 a89).2.1 (km_runsOff f f67_3 a68 a87 a89).2.2 (km_beginsRows f67_3 a92) a93).2.2.2.2.2.getD x2.toInt.toNat 0), (km_lie_175 (km_lie_44 a68 x1 6 0 a94) x1 6 0 (km_lie_81 f f67_3 (km_lie_44 a68 x1 6 0 a94) x1 (km_runsOff f f67_3 a68 a87 a89).1 f 0 1 a68 (km_runsOff f f67_3 a68 a87 a89).2.1 (km_runsOff f f67_3 a68 a87 a89).2.2 (km_beginsRows f67_3 a92) a93).2.1), (km_lie_81 f f67_3 (km_lie_44 a68 x1 6 0 a94) x1 (km_runsOff f f67_3 a68 a87 a89).1 f 0 1 a68 (km_runsOff f f67_3 a68 a87 a89).2.1 (km_runsOff f f67_3 a68 a87 a89).2.2 (km_beginsRows f67_3 a92) a93).2.2.1, (km_lie_81 f f67_3 (km_lie_44 a68 x1 6 0 a94) x1 (km_runsOff f f67_3 a68 a87 a89).1 f 0 1 a68 (km_runsOff f f67_3 a68 a87 a89).2.1 (km_runsOff f f67_3 a68 a87 a89).2.2 (km_beginsRows f67_3 a92) a93).2.2.2.1, (km_lie_81 f f67_3 (km_lie_44 a68 x1 6 0 a94) x1 (km_runsOff f f67_3 a68 a87 a89).1 f 0 1 a68 (km_runsOff f f67_3 a68 a87 a89).2.1 (km_runsOff f f67_3 a68 a87 a89).2.2 (km_beginsRows f67_3 a92) a93).2.2.2.2.1, (km_lie_81 f f67_3 (km_lie_44 a68 x1 6 0 a94) x1 (km_runsOff f f67_3 a68 a87 a89).1 f 0 1 a68 (km_runsOff f f67_3 a68 a87 a89).2.1 (km_runsOff f f67_3 a68 a87 a89).2.2 (km_beginsRows f67_3 a92) a93).2.2.2.2.2, (km_lie_44 a68 x1 6 0 a94)))))))
theorem t_km_lie {f D : Nat} {F : Nat → Nat → Int32} {A : Nat → List Int32} {L : Nat → List Int64} {Q : Option Value → sm_H → Prop} {x1 : Int32} {x2 : Int32} (K : Q (some (.int ((km_lie f (F 67 3) (A 68) (A 87) (A 89) (A 92) (A 93) (A 94) x1 x2).1))) (hz F (uA (uA (uA (uA (uA (uA A 68 ((km_lie f (F 67 3) (A 68) (A 87) (A 89) (A 92) (A 93) (A 94) x1 x2).2.1)) 87 ((km_lie f (F 67 3) (A 68) (A 87) (A 89) (A 92) (A 93) (A 94) x1 x2).2.2.1)) 89 ((km_lie f (F 67 3) (A 68) (A 87) (A 89) (A 92) (A 93) (A 94) x1 x2).2.2.2.1)) 92 ((km_lie f (F 67 3) (A 68) (A 87) (A 89) (A 92) (A 93) (A 94) x1 x2).2.2.2.2.1)) 93 ((km_lie f (F 67 3) (A 68) (A 87) (A 89) (A 92) (A 93) (A 94) x1 x2).2.2.2.2.2.1)) 94 ((km_lie f (F 67 3) (A 68) (A 87) (A 89) (A 92) (A 93) (A 94) x1 x2).2.2.2.2.2.2)) L)) : wl_M f D 234 [.ref 67, .int x1, .int x2] (hz F A L) Q := by
  generalize hT : (km_lie f (F 67 3) (A 68) (A 87) (A 89) (A 92) (A 93) (A 94) x1 x2) = T at K
  have hE : T = (if (km_isGuest (A 68) x1) = 0 then ((-1), (A 68), (A 87), (A 89), (A 92), (A 93), (A 94)) else (if x2 = 10 then (if (F 67 3) = 6 then ((-3), (A 68), (A 87), (A 89), (A 92), (A 93), (A 94)) else ((km_lie_81 f (F 67 3) (km_lie_44 (A 68) x1 6 0 (A 94)) x1 (km_runsOff f (F 67 3) (A 68) (A 87) (A 89)).1 f 0 1 (A 68) (km_runsOff f (F 67 3) (A 68) (A 87) (A 89)).2.1 (km_runsOff f (F 67 3) (A 68) (A 87) (A 89)).2.2 (km_beginsRows (F 67 3) (A 92)) (A 93)).1, (km_lie_175 (km_lie_44 (A 68) x1 6 0 (A 94)) x1 6 0 (km_lie_81 f (F 67 3) (km_lie_44 (A 68) x1 6 0 (A 94)) x1 (km_runsOff f (F 67 3) (A 68) (A 87) (A 89)).1 f 0 1 (A 68) (km_runsOff f (F 67 3) (A 68) (A 87) (A 89)).2.1 (km_runsOff f (F 67 3) (A 68) (A 87) (A 89)).2.2 (km_beginsRows (F 67 3) (A 92)) (A 93)).2.1), (km_lie_81 f (F 67 3) (km_lie_44 (A 68) x1 6 0 (A 94)) x1 (km_runsOff f (F 67 3) (A 68) (A 87) (A 89)).1 f 0 1 (A 68) (km_runsOff f (F 67 3) (A 68) (A 87) (A 89)).2.1 (km_runsOff f (F 67 3) (A 68) (A 87) (A 89)).2.2 (km_beginsRows (F 67 3) (A 92)) (A 93)).2.2.1, (km_lie_81 f (F 67 3) (km_lie_44 (A 68) x1 6 0 (A 94)) x1 (km_runsOff f (F 67 3) (A 68) (A 87) (A 89)).1 f 0 1 (A 68) (km_runsOff f (F 67 3) (A 68) (A 87) (A 89)).2.1 (km_runsOff f (F 67 3) (A 68) (A 87) (A 89)).2.2 (km_beginsRows (F 67 3) (A 92)) (A 93)).2.2.2.1, (km_lie_81 f (F 67 3) (km_lie_44 (A 68) x1 6 0 (A 94)) x1 (km_runsOff f (F 67 3) (A 68) (A 87) (A 89)).1 f 0 1 (A 68) (km_runsOff f (F 67 3) (A 68) (A 87) (A 89)).2.1 (km_runsOff f (F 67 3) (A 68) (A 87) (A 89)).2.2 (km_beginsRows (F 67 3) (A 92)) (A 93)).2.2.2.2.1, (km_lie_81 f (F 67 3) (km_lie_44 (A 68) x1 6 0 (A 94)) x1 (km_runsOff f (F 67 3) (A 68) (A 87) (A 89)).1 f 0 1 (A 68) (km_runsOff f (F 67 3) (A 68) (A 87) (A 89)).2.1 (km_runsOff f (F 67 3) (A 68) (A 87) (A 89)).2.2 (km_beginsRows (F 67 3) (A 92)) (A 93)).2.2.2.2.2, (km_lie_44 (A 68) x1 6 0 (A 94)))) else (if (km_isMeasure (F 67 3) x2) = 0 then ((-1), (A 68), (A 87), (A 89), (A 92), (A 93), (A 94)) else (if (F 67 3) = 6 then ((-3), (A 68), (A 87), (A 89), (A 92), (A 93), (A 94)) else (if (km_lie_81 f (F 67 3) (km_lie_44 (A 68) x1 6 0 (A 94)) x1 (km_runsOff f (F 67 3) (A 68) (A 87) (A 89)).1 f 0 1 (A 68) (km_runsOff f (F 67 3) (A 68) (A 87) (A 89)).2.1 (km_runsOff f (F 67 3) (A 68) (A 87) (A 89)).2.2 (km_beginsRows (F 67 3) (A 92)) (A 93)).1 = 0 then ((-2), (km_lie_175 (km_lie_44 (A 68) x1 6 0 (A 94)) x1 6 0 (km_lie_81 f (F 67 3) (km_lie_44 (A 68) x1 6 0 (A 94)) x1 (km_runsOff f (F 67 3) (A 68) (A 87) (A 89)).1 f 0 1 (A 68) (km_runsOff f (F 67 3) (A 68) (A 87) (A 89)).2.1 (km_runsOff f (F 67 3) (A 68) (A 87) (A 89)).2.2 (km_beginsRows (F 67 3) (A 92)) (A 93)).2.1), (km_lie_81 f (F 67 3) (km_lie_44 (A 68) x1 6 0 (A 94)) x1 (km_runsOff f (F 67 3) (A 68) (A 87) (A 89)).1 f 0 1 (A 68) (km_runsOff f (F 67 3) (A 68) (A 87) (A 89)).2.1 (km_runsOff f (F 67 3) (A 68) (A 87) (A 89)).2.2 (km_beginsRows (F 67 3) (A 92)) (A 93)).2.2.1, (km_lie_81 f (F 67 3) (km_lie_44 (A 68) x1 6 0 (A 94)) x1 (km_runsOff f (F 67 3) (A 68) (A 87) (A 89)).1 f 0 1 (A 68) (km_runsOff f (F 67 3) (A 68) (A 87) (A 89)).2.1 (km_runsOff f (F 67 3) (A 68) (A 87) (A 89)).2.2 (km_beginsRows (F 67 3) (A 92)) (A 93)).2.2.2.1, (km_lie_81 f (F 67 3) (km_lie_44 (A 68) x1 6 0 (A 94)) x1 (km_runsOff f (F 67 3) (A 68) (A 87) (A 89)).1 f 0 1 (A 68) (km_runsOff f (F 67 3) (A 68) (A 87) (A 89)).2.1 (km_runsOff f (F 67 3) (A 68) (A 87) (A 89)).2.2 (km_beginsRows (F 67 3) (A 92)) (A 93)).2.2.2.2.1, (km_lie_81 f (F 67 3) (km_lie_44 (A 68) x1 6 0 (A 94)) x1 (km_runsOff f (F 67 3) (A 68) (A 87) (A 89)).1 f 0 1 (A 68) (km_runsOff f (F 67 3) (A 68) (A 87) (A 89)).2.1 (km_runsOff f (F 67 3) (A 68) (A 87) (A 89)).2.2 (km_beginsRows (F 67 3) (A 92)) (A 93)).2.2.2.2.2, (km_lie_44 (A 68) x1 6 0 (A 94))) else (((km_lie_81 f (F 67 3) (km_lie_44 (A 68) x1 6 0 (A 94)) x1 (km_runsOff f (F 67 3) (A 68) (A 87) (A 89)).1 f 0 1 (A 68) (km_runsOff f (F 67 3) (A 68) (A 87) (A 89)).2.1 (km_runsOff f (F 67 3) (A 68) (A 87) (A 89)).2.2 (km_beginsRows (F 67 3) (A 92)) (A 93)).2.2.2.2.2.getD x2.toInt.toNat 0), (km_lie_175 (km_lie_44 (A 68) x1 6 0 (A 94)) x1 6 0 (km_lie_81 f (F 67 3) (km_lie_44 (A 68) x1 6 0 (A 94)) x1 (km_runsOff f (F 67 3) (A 68) (A 87) (A 89)).1 f 0 1 (A 68) (km_runsOff f (F 67 3) (A 68) (A 87) (A 89)).2.1 (km_runsOff f (F 67 3) (A 68) (A 87) (A 89)).2.2 (km_beginsRows (F 67 3) (A 92)) (A 93)).2.1), (km_lie_81 f (F 67 3) (km_lie_44 (A 68) x1 6 0 (A 94)) x1 (km_runsOff f (F 67 3) (A 68) (A 87) (A 89)).1 f 0 1 (A 68) (km_runsOff f (F 67 3) (A 68) (A 87) (A 89)).2.1 (km_runsOff f (F 67 3) (A 68) (A 87) (A 89)).2.2 (km_beginsRows (F 67 3) (A 92)) (A 93)).2.2.1, (km_lie_81 f (F 67 3) (km_lie_44 (A 68) x1 6 0 (A 94)) x1 (km_runsOff f (F 67 3) (A 68) (A 87) (A 89)).1 f 0 1 (A 68) (km_runsOff f (F 67 3) (A 68) (A 87) (A 89)).2.1 (km_runsOff f (F 67 3) (A 68) (A 87) (A 89)).2.2 (km_beginsRows (F 67 3) (A 92)) (A 93)).2.2.2.1, (km_lie_81 f (F 67 3) (km_lie_44 (A 68) x1 6 0 (A 94)) x1 (km_runsOff f (F 67 3) (A 68) (A 87) (A 89)).1 f 0 1 (A 68) (km_runsOff f (F 67 3) (A 68) (A 87) (A 89)).2.1 (km_runsOff f (F 67 3) (A 68) (A 87) (A 89)).2.2 (km_beginsRows (F 67 3) (A 92)) (A 93)).2.2.2.2.1, (km_lie_81 f (F 67 3) (km_lie_44 (A 68) x1 6 0 (A 94)) x1 (km_runsOff f (F 67 3) (A 68) (A 87) (A 89)).1 f 0 1 (A 68) (km_runsOff f (F 67 3) (A 68) (A 87) (A 89)).2.1 (km_runsOff f (F 67 3) (A 68) (A 87) (A 89)).2.2 (km_beginsRows (F 67 3) (A 92)) (A 93)).2.2.2.2.2, (km_lie_44 (A 68) x1 6 0 (A 94)))))))) := hT.symm
  clear hT
  refine w_m (E := mm234) rfl ?_
  show wl_E f f (D - 1) mm234.2.2.2.2.2.2.2.2 0 [some (.ref 67), some (.int x1), some (.int x2), none, none, none, none] [] (hz F A L) Q
  refine w_n 2 (pc1 := 2) (ls1 := [some (.ref 67), some (.int x1), some (.int x2), none, none, none, none]) (st1 := [.int x1, .ref 67]) (hp1 := (hz F A L)) rfl ?_
  refine w_c rfl rfl (t_km_isGuest ?_)
  show wl_E f _ _ mm234.2.2.2.2.2.2.2.2 5 [some (.ref 67), some (.int x1), some (.int x2), none, none, none, none] [.int (km_isGuest (A 68) x1)] (hz F A L) _
  generalize hG402 : (km_isGuest (A 68) x1) = G402 at hE ⊢
  refine w_zeq (p3 := 8) rfl rfl (fun h => ?_) (fun h => ?_)
  · have h1 : G402 = 0 := h
    rw [if_pos h1] at hE
    refine w_n 1 (pc1 := 23) (ls1 := [some (.ref 67), some (.int x1), some (.int x2), none, none, none, none]) (st1 := [.int (-1)]) (hp1 := (hz F A L)) rfl ?_
    subst T
    exact w_ri rfl (cvQ rfl (funext fun q => if k0 : q = 68 then by subst k0; exact Eq.trans (b := (A 68)) rfl rfl else if k1 : q = 87 then by subst k1; exact Eq.trans (b := (A 87)) rfl rfl else if k2 : q = 89 then by subst k2; exact Eq.trans (b := (A 89)) rfl rfl else if k3 : q = 92 then by subst k3; exact Eq.trans (b := (A 92)) rfl rfl else if k4 : q = 93 then by subst k4; exact Eq.trans (b := (A 93)) rfl rfl else if k5 : q = 94 then by subst k5; exact Eq.trans (b := (A 94)) rfl rfl else by unfold uA; simp only [nb1 k0, nb1 k1, nb1 k2, nb1 k3, nb1 k4, nb1 k5, cond_false]) rfl K)
  · have h1 : ¬ G402 = 0 := h
    rw [if_neg h1] at hE
    refine w_n 2 (pc1 := 11) (ls1 := [some (.ref 67), some (.int x1), some (.int x2), none, none, none, none]) (st1 := [.int 10, .int x2]) (hp1 := (hz F A L)) rfl ?_
    refine w_eq (p3 := 14) rfl rfl (fun h => ?_) (fun h => ?_)
    · have h2 : x2 = 10 := h
      rw [if_pos h2] at hE
      refine w_n 3 (pc1 := 30) (ls1 := [some (.ref 67), some (.int x1), some (.int x2), none, none, none, none]) (st1 := [.int 6, .int (F 67 3)]) (hp1 := (hz F A L)) rfl ?_
      refine w_ne (p3 := 33) rfl rfl (fun h => ?_) (fun h => ?_)
      · have h3 : ¬ (F 67 3) = 6 := h
        rw [if_neg h3] at hE
        refine w_n 1 (pc1 := 37) (ls1 := [some (.ref 67), some (.int x1), some (.int x2), none, none, none, none]) (st1 := [.ref 67]) (hp1 := (hz F A L)) rfl ?_
        refine w_c rfl rfl (t_km_runsOff ?_)
        show wl_E f _ _ mm234.2.2.2.2.2.2.2.2 40 [some (.ref 67), some (.int x1), some (.int x2), none, none, none, none] [.int (km_runsOff f (F 67 3) (A 68) (A 87) (A 89)).1] (hz F (uA (uA A 87 (km_runsOff f (F 67 3) (A 68) (A 87) (A 89)).2.1) 89 (km_runsOff f (F 67 3) (A 68) (A 87) (A 89)).2.2) L) _
        generalize hG403 : (km_runsOff f (F 67 3) (A 68) (A 87) (A 89)) = G403 at hE ⊢
        refine w_n 3 (pc1 := 44) (ls1 := [some (.ref 67), some (.int x1), some (.int x2), some (.int G403.1), some (.int 0), none, none]) (st1 := []) (hp1 := (hz F (uA (uA A 87 G403.2.1) 89 G403.2.2) L)) rfl ?_
        refine t_km_lie_44 6 (show (6 : Nat) = (6 - (0 : Int32).toInt).toNat by have e0 : (0 : Int32).toInt = 0 := rfl; first | rfl | omega) ?_
        intro r1
        show wl_E f _ _ mm234.2.2.2.2.2.2.2.2 71 [some (.ref 67), some (.int x1), some (.int x2), some (.int G403.1), some (.int r1), none, none] [] (hz F (uA (uA (uA A 87 G403.2.1) 89 G403.2.2) 94 (km_lie_44 (A 68) x1 6 0 (A 94))) L) _
        generalize hG405 : (km_lie_44 (A 68) x1 6 0 (A 94)) = G405 at hE ⊢
        refine w_n 1 (pc1 := 72) (ls1 := [some (.ref 67), some (.int x1), some (.int x2), some (.int G403.1), some (.int r1), none, none]) (st1 := [.ref 67]) (hp1 := (hz F (uA (uA (uA A 87 G403.2.1) 89 G403.2.2) 94 G405) L)) rfl ?_
        refine w_c rfl rfl (t_km_beginsRows ?_)
        show wl_E f _ _ mm234.2.2.2.2.2.2.2.2 75 [some (.ref 67), some (.int x1), some (.int x2), some (.int G403.1), some (.int r1), none, none] [] (hz F (uA (uA (uA (uA A 87 G403.2.1) 89 G403.2.2) 94 G405) 92 (km_beginsRows (F 67 3) (A 92))) L) _
        generalize hG406 : (km_beginsRows (F 67 3) (A 92)) = G406 at hE ⊢
        refine w_n 4 (pc1 := 81) (ls1 := [some (.ref 67), some (.int x1), some (.int x2), some (.int G403.1), some (.int 0), some (.int 1), none]) (st1 := []) (hp1 := (hz F (uA (uA (uA (uA A 87 G403.2.1) 89 G403.2.2) 94 G405) 92 G406) L)) rfl ?_
        refine t_km_lie_81 f _ (Nat.le_refl _) ?_
        intro r2 r3
        show wl_E f _ _ mm234.2.2.2.2.2.2.2.2 172 [some (.ref 67), some (.int x1), some (.int x2), some (.int G403.1), some (.int (km_lie_81 f (F 67 3) G405 x1 G403.1 f 0 1 (A 68) G403.2.1 G403.2.2 G406 (A 93)).1), some (.int r2), r3] [] (hz F (uA (uA (uA (uA (uA (uA (uA (uA (uA A 87 G403.2.1) 89 G403.2.2) 94 G405) 92 G406) 68 (km_lie_81 f (F 67 3) G405 x1 G403.1 f 0 1 (A 68) G403.2.1 G403.2.2 G406 (A 93)).2.1) 87 (km_lie_81 f (F 67 3) G405 x1 G403.1 f 0 1 (A 68) G403.2.1 G403.2.2 G406 (A 93)).2.2.1) 89 (km_lie_81 f (F 67 3) G405 x1 G403.1 f 0 1 (A 68) G403.2.1 G403.2.2 G406 (A 93)).2.2.2.1) 92 (km_lie_81 f (F 67 3) G405 x1 G403.1 f 0 1 (A 68) G403.2.1 G403.2.2 G406 (A 93)).2.2.2.2.1) 93 (km_lie_81 f (F 67 3) G405 x1 G403.1 f 0 1 (A 68) G403.2.1 G403.2.2 G406 (A 93)).2.2.2.2.2) L) _
        generalize hG413 : (km_lie_81 f (F 67 3) G405 x1 G403.1 f 0 1 (A 68) G403.2.1 G403.2.2 G406 (A 93)) = G413 at hE ⊢
        refine w_n 2 (pc1 := 175) (ls1 := [some (.ref 67), some (.int x1), some (.int x2), some (.int G403.1), some (.int G413.1), some (.int r2), some (.int 0)]) (st1 := []) (hp1 := (hz F (uA (uA (uA (uA (uA (uA (uA (uA (uA A 87 G403.2.1) 89 G403.2.2) 94 G405) 92 G406) 68 G413.2.1) 87 G413.2.2.1) 89 G413.2.2.2.1) 92 G413.2.2.2.2.1) 93 G413.2.2.2.2.2) L)) rfl ?_
        refine t_km_lie_175 6 (show (6 : Nat) = (6 - (0 : Int32).toInt).toNat by have e0 : (0 : Int32).toInt = 0 := rfl; first | rfl | omega) ?_
        intro r4
        show wl_E f _ _ mm234.2.2.2.2.2.2.2.2 210 [some (.ref 67), some (.int x1), some (.int x2), some (.int G403.1), some (.int G413.1), some (.int r2), some (.int r4)] [] (hz F (uA (uA (uA (uA (uA (uA (uA (uA (uA (uA A 87 G403.2.1) 89 G403.2.2) 94 G405) 92 G406) 68 G413.2.1) 87 G413.2.2.1) 89 G413.2.2.2.1) 92 G413.2.2.2.2.1) 93 G413.2.2.2.2.2) 68 (km_lie_175 G405 x1 6 0 G413.2.1)) L) _
        generalize hG414 : (km_lie_175 G405 x1 6 0 G413.2.1) = G414 at hE ⊢
        refine w_n 2 (pc1 := 213) (ls1 := [some (.ref 67), some (.int x1), some (.int x2), some (.int G403.1), some (.int G413.1), some (.int r2), some (.int r4)]) (st1 := [.int 10, .int x2]) (hp1 := (hz F (uA (uA (uA (uA (uA (uA (uA (uA (uA (uA A 87 G403.2.1) 89 G403.2.2) 94 G405) 92 G406) 68 G413.2.1) 87 G413.2.2.1) 89 G413.2.2.2.1) 92 G413.2.2.2.2.1) 93 G413.2.2.2.2.2) 68 G414) L)) rfl ?_
        refine w_ne (p3 := 216) rfl rfl (fun h => absurd h2 h) (fun _ => ?_)
        refine w_n 2 (pc1 := 237) (ls1 := [some (.ref 67), some (.int x1), some (.int x2), some (.int G403.1), some (.int G413.1), some (.int r2), some (.int r4)]) (st1 := [.int G413.1]) (hp1 := (hz F (uA (uA (uA (uA (uA (uA (uA (uA (uA (uA A 87 G403.2.1) 89 G403.2.2) 94 G405) 92 G406) 68 G413.2.1) 87 G413.2.2.1) 89 G413.2.2.2.1) 92 G413.2.2.2.2.1) 93 G413.2.2.2.2.2) 68 G414) L)) rfl ?_
        subst T
        exact w_ri rfl (cvQ rfl (funext fun q => if k0 : q = 68 then by subst k0; exact Eq.trans (b := G414) rfl rfl else if k1 : q = 87 then by subst k1; exact Eq.trans (b := G413.2.2.1) rfl rfl else if k2 : q = 89 then by subst k2; exact Eq.trans (b := G413.2.2.2.1) rfl rfl else if k3 : q = 92 then by subst k3; exact Eq.trans (b := G413.2.2.2.2.1) rfl rfl else if k4 : q = 93 then by subst k4; exact Eq.trans (b := G413.2.2.2.2.2) rfl rfl else if k5 : q = 94 then by subst k5; exact Eq.trans (b := G405) rfl rfl else by unfold uA; simp only [nb1 k0, nb1 k1, nb1 k2, nb1 k3, nb1 k4, nb1 k5, cond_false]) rfl K)
      · have h3 : (F 67 3) = 6 := h
        rw [if_pos h3] at hE
        refine w_n 1 (pc1 := 35) (ls1 := [some (.ref 67), some (.int x1), some (.int x2), none, none, none, none]) (st1 := [.int (-3)]) (hp1 := (hz F A L)) rfl ?_
        subst T
        exact w_ri rfl (cvQ rfl (funext fun q => if k0 : q = 68 then by subst k0; exact Eq.trans (b := (A 68)) rfl rfl else if k1 : q = 87 then by subst k1; exact Eq.trans (b := (A 87)) rfl rfl else if k2 : q = 89 then by subst k2; exact Eq.trans (b := (A 89)) rfl rfl else if k3 : q = 92 then by subst k3; exact Eq.trans (b := (A 92)) rfl rfl else if k4 : q = 93 then by subst k4; exact Eq.trans (b := (A 93)) rfl rfl else if k5 : q = 94 then by subst k5; exact Eq.trans (b := (A 94)) rfl rfl else by unfold uA; simp only [nb1 k0, nb1 k1, nb1 k2, nb1 k3, nb1 k4, nb1 k5, cond_false]) rfl K)
    · have h2 : ¬ x2 = 10 := h
      rw [if_neg h2] at hE
      refine w_n 2 (pc1 := 16) (ls1 := [some (.ref 67), some (.int x1), some (.int x2), none, none, none, none]) (st1 := [.int x2, .ref 67]) (hp1 := (hz F A L)) rfl ?_
      refine w_c rfl rfl (t_km_isMeasure ?_)
      show wl_E f _ _ mm234.2.2.2.2.2.2.2.2 19 [some (.ref 67), some (.int x1), some (.int x2), none, none, none, none] [.int (km_isMeasure (F 67 3) x2)] (hz F A L) _
      generalize hG415 : (km_isMeasure (F 67 3) x2) = G415 at hE ⊢
      refine w_zne (p3 := 22) rfl rfl (fun h => ?_) (fun h => ?_)
      · have h4 : ¬ G415 = 0 := h
        rw [if_neg h4] at hE
        refine w_n 3 (pc1 := 30) (ls1 := [some (.ref 67), some (.int x1), some (.int x2), none, none, none, none]) (st1 := [.int 6, .int (F 67 3)]) (hp1 := (hz F A L)) rfl ?_
        refine w_ne (p3 := 33) rfl rfl (fun h => ?_) (fun h => ?_)
        · have h5 : ¬ (F 67 3) = 6 := h
          rw [if_neg h5] at hE
          refine w_n 1 (pc1 := 37) (ls1 := [some (.ref 67), some (.int x1), some (.int x2), none, none, none, none]) (st1 := [.ref 67]) (hp1 := (hz F A L)) rfl ?_
          refine w_c rfl rfl (t_km_runsOff ?_)
          show wl_E f _ _ mm234.2.2.2.2.2.2.2.2 40 [some (.ref 67), some (.int x1), some (.int x2), none, none, none, none] [.int (km_runsOff f (F 67 3) (A 68) (A 87) (A 89)).1] (hz F (uA (uA A 87 (km_runsOff f (F 67 3) (A 68) (A 87) (A 89)).2.1) 89 (km_runsOff f (F 67 3) (A 68) (A 87) (A 89)).2.2) L) _
          generalize hG416 : (km_runsOff f (F 67 3) (A 68) (A 87) (A 89)) = G416 at hE ⊢
          refine w_n 3 (pc1 := 44) (ls1 := [some (.ref 67), some (.int x1), some (.int x2), some (.int G416.1), some (.int 0), none, none]) (st1 := []) (hp1 := (hz F (uA (uA A 87 G416.2.1) 89 G416.2.2) L)) rfl ?_
          refine t_km_lie_44 6 (show (6 : Nat) = (6 - (0 : Int32).toInt).toNat by have e0 : (0 : Int32).toInt = 0 := rfl; first | rfl | omega) ?_
          intro r5
          show wl_E f _ _ mm234.2.2.2.2.2.2.2.2 71 [some (.ref 67), some (.int x1), some (.int x2), some (.int G416.1), some (.int r5), none, none] [] (hz F (uA (uA (uA A 87 G416.2.1) 89 G416.2.2) 94 (km_lie_44 (A 68) x1 6 0 (A 94))) L) _
          generalize hG417 : (km_lie_44 (A 68) x1 6 0 (A 94)) = G417 at hE ⊢
          refine w_n 1 (pc1 := 72) (ls1 := [some (.ref 67), some (.int x1), some (.int x2), some (.int G416.1), some (.int r5), none, none]) (st1 := [.ref 67]) (hp1 := (hz F (uA (uA (uA A 87 G416.2.1) 89 G416.2.2) 94 G417) L)) rfl ?_
          refine w_c rfl rfl (t_km_beginsRows ?_)
          show wl_E f _ _ mm234.2.2.2.2.2.2.2.2 75 [some (.ref 67), some (.int x1), some (.int x2), some (.int G416.1), some (.int r5), none, none] [] (hz F (uA (uA (uA (uA A 87 G416.2.1) 89 G416.2.2) 94 G417) 92 (km_beginsRows (F 67 3) (A 92))) L) _
          generalize hG418 : (km_beginsRows (F 67 3) (A 92)) = G418 at hE ⊢
          refine w_n 4 (pc1 := 81) (ls1 := [some (.ref 67), some (.int x1), some (.int x2), some (.int G416.1), some (.int 0), some (.int 1), none]) (st1 := []) (hp1 := (hz F (uA (uA (uA (uA A 87 G416.2.1) 89 G416.2.2) 94 G417) 92 G418) L)) rfl ?_
          refine t_km_lie_81 f _ (Nat.le_refl _) ?_
          intro r6 r7
          show wl_E f _ _ mm234.2.2.2.2.2.2.2.2 172 [some (.ref 67), some (.int x1), some (.int x2), some (.int G416.1), some (.int (km_lie_81 f (F 67 3) G417 x1 G416.1 f 0 1 (A 68) G416.2.1 G416.2.2 G418 (A 93)).1), some (.int r6), r7] [] (hz F (uA (uA (uA (uA (uA (uA (uA (uA (uA A 87 G416.2.1) 89 G416.2.2) 94 G417) 92 G418) 68 (km_lie_81 f (F 67 3) G417 x1 G416.1 f 0 1 (A 68) G416.2.1 G416.2.2 G418 (A 93)).2.1) 87 (km_lie_81 f (F 67 3) G417 x1 G416.1 f 0 1 (A 68) G416.2.1 G416.2.2 G418 (A 93)).2.2.1) 89 (km_lie_81 f (F 67 3) G417 x1 G416.1 f 0 1 (A 68) G416.2.1 G416.2.2 G418 (A 93)).2.2.2.1) 92 (km_lie_81 f (F 67 3) G417 x1 G416.1 f 0 1 (A 68) G416.2.1 G416.2.2 G418 (A 93)).2.2.2.2.1) 93 (km_lie_81 f (F 67 3) G417 x1 G416.1 f 0 1 (A 68) G416.2.1 G416.2.2 G418 (A 93)).2.2.2.2.2) L) _
          generalize hG419 : (km_lie_81 f (F 67 3) G417 x1 G416.1 f 0 1 (A 68) G416.2.1 G416.2.2 G418 (A 93)) = G419 at hE ⊢
          refine w_n 2 (pc1 := 175) (ls1 := [some (.ref 67), some (.int x1), some (.int x2), some (.int G416.1), some (.int G419.1), some (.int r6), some (.int 0)]) (st1 := []) (hp1 := (hz F (uA (uA (uA (uA (uA (uA (uA (uA (uA A 87 G416.2.1) 89 G416.2.2) 94 G417) 92 G418) 68 G419.2.1) 87 G419.2.2.1) 89 G419.2.2.2.1) 92 G419.2.2.2.2.1) 93 G419.2.2.2.2.2) L)) rfl ?_
          refine t_km_lie_175 6 (show (6 : Nat) = (6 - (0 : Int32).toInt).toNat by have e0 : (0 : Int32).toInt = 0 := rfl; first | rfl | omega) ?_
          intro r8
          show wl_E f _ _ mm234.2.2.2.2.2.2.2.2 210 [some (.ref 67), some (.int x1), some (.int x2), some (.int G416.1), some (.int G419.1), some (.int r6), some (.int r8)] [] (hz F (uA (uA (uA (uA (uA (uA (uA (uA (uA (uA A 87 G416.2.1) 89 G416.2.2) 94 G417) 92 G418) 68 G419.2.1) 87 G419.2.2.1) 89 G419.2.2.2.1) 92 G419.2.2.2.2.1) 93 G419.2.2.2.2.2) 68 (km_lie_175 G417 x1 6 0 G419.2.1)) L) _
          generalize hG420 : (km_lie_175 G417 x1 6 0 G419.2.1) = G420 at hE ⊢
          refine w_n 2 (pc1 := 213) (ls1 := [some (.ref 67), some (.int x1), some (.int x2), some (.int G416.1), some (.int G419.1), some (.int r6), some (.int r8)]) (st1 := [.int 10, .int x2]) (hp1 := (hz F (uA (uA (uA (uA (uA (uA (uA (uA (uA (uA A 87 G416.2.1) 89 G416.2.2) 94 G417) 92 G418) 68 G419.2.1) 87 G419.2.2.1) 89 G419.2.2.2.1) 92 G419.2.2.2.2.1) 93 G419.2.2.2.2.2) 68 G420) L)) rfl ?_
          refine w_ne (p3 := 216) rfl rfl (fun _ => ?_) (fun h => absurd h h2)
          refine w_n 1 (pc1 := 223) (ls1 := [some (.ref 67), some (.int x1), some (.int x2), some (.int G416.1), some (.int G419.1), some (.int r6), some (.int r8)]) (st1 := [.int G419.1]) (hp1 := (hz F (uA (uA (uA (uA (uA (uA (uA (uA (uA (uA A 87 G416.2.1) 89 G416.2.2) 94 G417) 92 G418) 68 G419.2.1) 87 G419.2.2.1) 89 G419.2.2.2.1) 92 G419.2.2.2.2.1) 93 G419.2.2.2.2.2) 68 G420) L)) rfl ?_
          refine w_zne (p3 := 226) rfl rfl (fun h => ?_) (fun h => ?_)
          · have h6 : ¬ G419.1 = 0 := h
            rw [if_neg h6] at hE
            refine w_n 3 (pc1 := 236) (ls1 := [some (.ref 67), some (.int x1), some (.int x2), some (.int G416.1), some (.int G419.1), some (.int r6), some (.int r8)]) (st1 := [.int x2, .ref 93]) (hp1 := (hz F (uA (uA (uA (uA (uA (uA (uA (uA (uA (uA A 87 G416.2.1) 89 G416.2.2) 94 G417) 92 G418) 68 G419.2.1) 87 G419.2.2.1) 89 G419.2.2.2.1) 92 G419.2.2.2.2.1) 93 G419.2.2.2.2.2) 68 G420) L)) rfl ?_
            refine w_al (k := 93) (l := G419.2.2.2.2.2) rfl rfl rfl (fun _ => ?_)
            subst T
            exact w_ri rfl (cvQ rfl (funext fun q => if k0 : q = 68 then by subst k0; exact Eq.trans (b := G420) rfl rfl else if k1 : q = 87 then by subst k1; exact Eq.trans (b := G419.2.2.1) rfl rfl else if k2 : q = 89 then by subst k2; exact Eq.trans (b := G419.2.2.2.1) rfl rfl else if k3 : q = 92 then by subst k3; exact Eq.trans (b := G419.2.2.2.2.1) rfl rfl else if k4 : q = 93 then by subst k4; exact Eq.trans (b := G419.2.2.2.2.2) rfl rfl else if k5 : q = 94 then by subst k5; exact Eq.trans (b := G417) rfl rfl else by unfold uA; simp only [nb1 k0, nb1 k1, nb1 k2, nb1 k3, nb1 k4, nb1 k5, cond_false]) rfl K)
          · have h6 : G419.1 = 0 := h
            rw [if_pos h6] at hE
            refine w_n 2 (pc1 := 237) (ls1 := [some (.ref 67), some (.int x1), some (.int x2), some (.int G416.1), some (.int G419.1), some (.int r6), some (.int r8)]) (st1 := [.int (-2)]) (hp1 := (hz F (uA (uA (uA (uA (uA (uA (uA (uA (uA (uA A 87 G416.2.1) 89 G416.2.2) 94 G417) 92 G418) 68 G419.2.1) 87 G419.2.2.1) 89 G419.2.2.2.1) 92 G419.2.2.2.2.1) 93 G419.2.2.2.2.2) 68 G420) L)) rfl ?_
            subst T
            exact w_ri rfl (cvQ rfl (funext fun q => if k0 : q = 68 then by subst k0; exact Eq.trans (b := G420) rfl rfl else if k1 : q = 87 then by subst k1; exact Eq.trans (b := G419.2.2.1) rfl rfl else if k2 : q = 89 then by subst k2; exact Eq.trans (b := G419.2.2.2.1) rfl rfl else if k3 : q = 92 then by subst k3; exact Eq.trans (b := G419.2.2.2.2.1) rfl rfl else if k4 : q = 93 then by subst k4; exact Eq.trans (b := G419.2.2.2.2.2) rfl rfl else if k5 : q = 94 then by subst k5; exact Eq.trans (b := G417) rfl rfl else by unfold uA; simp only [nb1 k0, nb1 k1, nb1 k2, nb1 k3, nb1 k4, nb1 k5, cond_false]) rfl K)
        · have h5 : (F 67 3) = 6 := h
          rw [if_pos h5] at hE
          refine w_n 1 (pc1 := 35) (ls1 := [some (.ref 67), some (.int x1), some (.int x2), none, none, none, none]) (st1 := [.int (-3)]) (hp1 := (hz F A L)) rfl ?_
          subst T
          exact w_ri rfl (cvQ rfl (funext fun q => if k0 : q = 68 then by subst k0; exact Eq.trans (b := (A 68)) rfl rfl else if k1 : q = 87 then by subst k1; exact Eq.trans (b := (A 87)) rfl rfl else if k2 : q = 89 then by subst k2; exact Eq.trans (b := (A 89)) rfl rfl else if k3 : q = 92 then by subst k3; exact Eq.trans (b := (A 92)) rfl rfl else if k4 : q = 93 then by subst k4; exact Eq.trans (b := (A 93)) rfl rfl else if k5 : q = 94 then by subst k5; exact Eq.trans (b := (A 94)) rfl rfl else by unfold uA; simp only [nb1 k0, nb1 k1, nb1 k2, nb1 k3, nb1 k4, nb1 k5, cond_false]) rfl K)
      · have h4 : G415 = 0 := h
        rw [if_pos h4] at hE
        refine w_n 1 (pc1 := 23) (ls1 := [some (.ref 67), some (.int x1), some (.int x2), none, none, none, none]) (st1 := [.int (-1)]) (hp1 := (hz F A L)) rfl ?_
        subst T
        exact w_ri rfl (cvQ rfl (funext fun q => if k0 : q = 68 then by subst k0; exact Eq.trans (b := (A 68)) rfl rfl else if k1 : q = 87 then by subst k1; exact Eq.trans (b := (A 87)) rfl rfl else if k2 : q = 89 then by subst k2; exact Eq.trans (b := (A 89)) rfl rfl else if k3 : q = 92 then by subst k3; exact Eq.trans (b := (A 92)) rfl rfl else if k4 : q = 93 then by subst k4; exact Eq.trans (b := (A 93)) rfl rfl else if k5 : q = 94 then by subst k5; exact Eq.trans (b := (A 94)) rfl rfl else by unfold uA; simp only [nb1 k0, nb1 k1, nb1 k2, nb1 k3, nb1 k4, nb1 k5, cond_false]) rfl K)
def kv_possibleWinners_8 (f3_0 : Int32) (a6 : List Int32) (l11 : List Int64) (x1 : Int32) : Nat → Int32 → Int32 → List Int32 → Int32 × List Int32
  | 0, y2, _, a31 => (y2, a31)
  | m + 1, y2, y3, a31 => (if ((x1 >>> (y3 &&& 31)) &&& 1) = 0 then (kv_possibleWinners_8 f3_0 a6 l11 x1 m y2 (y3 + 1) a31) else (if (kt_favourite f3_0 l11 y3 (kt_allMeasures f3_0)) = (-1) then (kv_possibleWinners_8 f3_0 a6 l11 x1 m (y2 + (a6.getD y3.toInt.toNat 0)) (y3 + 1) a31) else (kv_possibleWinners_8 f3_0 a6 l11 x1 m (y2 + (a6.getD y3.toInt.toNat 0)) (y3 + 1) (a31.set (kt_favourite f3_0 l11 y3 (kt_allMeasures f3_0)).toInt.toNat ((a31.getD (kt_favourite f3_0 l11 y3 (kt_allMeasures f3_0)).toInt.toNat 0) - (a6.getD y3.toInt.toNat 0))))))
theorem t_kv_possibleWinners_8 {f : Nat} {Q : Option Value → sm_H → Prop} : ∀ (m : Nat) {B D : Nat} {F : Nat → Nat → Int32} {A : Nat → List Int32} {L : Nat → List Int64} {x1 : Int32} {y2 : Int32} {y3 : Int32} {o4 : Option Value}, m = (12 - y3.toInt).toNat → (∀ q3 : Int32, ∀ q4 : Option Value, wl_E f B D mm121.2.2.2.2.2.2.2.2 85 [some (.ref 30), some (.int x1), some (.int ((kv_possibleWinners_8 (F 3 0) (A 6) (L 11) x1 m y2 y3 (A 31)).1)), some (.int q3), q4] [] (hz F (uA A 31 ((kv_possibleWinners_8 (F 3 0) (A 6) (L 11) x1 m y2 y3 (A 31)).2)) L) Q) → wl_E f B D mm121.2.2.2.2.2.2.2.2 8 [some (.ref 30), some (.int x1), some (.int y2), some (.int y3), o4] [] (hz F A L) Q := by
  intro m
  induction m with
  | zero =>
    intro B D F A L x1 y2 y3 o4 hm K
    generalize hT : (kv_possibleWinners_8 (F 3 0) (A 6) (L 11) x1 0 y2 y3 (A 31)) = T at K
    have hE : T = (y2, (A 31)) := hT.symm
    clear hT
    refine w_n 2 (pc1 := 11) (ls1 := [some (.ref 30), some (.int x1), some (.int y2), some (.int y3), o4]) (st1 := [.int 12, .int y3]) (hp1 := (hz F A L)) rfl ?_
    refine w_ge (p3 := 14) rfl rfl (fun hb => ?_) (fun h => False.elim (by have h : y3.toInt < 12 := h; omega))
    subst T
    exact cvE rfl (funext fun q => if k0 : q = 31 then by subst k0; exact Eq.trans (b := (A 31)) rfl rfl else by unfold uA; simp only [nb1 k0, cond_false]) rfl (K _ _)
  | succ m ih =>
    intro B D F A L x1 y2 y3 o4 hm K
    generalize hT : (kv_possibleWinners_8 (F 3 0) (A 6) (L 11) x1 (m + 1) y2 y3 (A 31)) = T at K
    have hE : T = (if ((x1 >>> (y3 &&& 31)) &&& 1) = 0 then (kv_possibleWinners_8 (F 3 0) (A 6) (L 11) x1 m y2 (y3 + 1) (A 31)) else (if (kt_favourite (F 3 0) (L 11) y3 (kt_allMeasures (F 3 0))) = (-1) then (kv_possibleWinners_8 (F 3 0) (A 6) (L 11) x1 m (y2 + ((A 6).getD y3.toInt.toNat 0)) (y3 + 1) (A 31)) else (kv_possibleWinners_8 (F 3 0) (A 6) (L 11) x1 m (y2 + ((A 6).getD y3.toInt.toNat 0)) (y3 + 1) ((A 31).set (kt_favourite (F 3 0) (L 11) y3 (kt_allMeasures (F 3 0))).toInt.toNat (((A 31).getD (kt_favourite (F 3 0) (L 11) y3 (kt_allMeasures (F 3 0))).toInt.toNat 0) - ((A 6).getD y3.toInt.toNat 0)))))) := hT.symm
    clear hT
    refine w_n 2 (pc1 := 11) (ls1 := [some (.ref 30), some (.int x1), some (.int y2), some (.int y3), o4]) (st1 := [.int 12, .int y3]) (hp1 := (hz F A L)) rfl ?_
    refine w_ge (p3 := 14) rfl rfl (fun h => False.elim (by have h : 12 ≤ y3.toInt := h; omega)) (fun hb => ?_)
    refine w_n 5 (pc1 := 19) (ls1 := [some (.ref 30), some (.int x1), some (.int y2), some (.int y3), o4]) (st1 := [.int ((x1 >>> (y3 &&& 31)) &&& 1)]) (hp1 := (hz F A L)) rfl ?_
    refine w_zne (p3 := 22) rfl rfl (fun h => ?_) (fun h => ?_)
    · have h1 : ¬ ((x1 >>> (y3 &&& 31)) &&& 1) = 0 := h
      rw [if_neg h1] at hE
      refine w_n 5 (pc1 := 34) (ls1 := [some (.ref 30), some (.int x1), some (.int y2), some (.int y3), o4]) (st1 := [.ref 3, .int y3, .ref 3]) (hp1 := (hz F A L)) rfl ?_
      refine w_c rfl rfl (t_kt_allMeasures ?_)
      show wl_E f _ _ mm121.2.2.2.2.2.2.2.2 37 [some (.ref 30), some (.int x1), some (.int y2), some (.int y3), o4] [.int (kt_allMeasures (F 3 0)), .int y3, .ref 3] (hz F A L) _
      generalize hG424 : (kt_allMeasures (F 3 0)) = G424 at hE ⊢
      refine w_c rfl rfl (t_kt_favourite ?_)
      show wl_E f _ _ mm121.2.2.2.2.2.2.2.2 40 [some (.ref 30), some (.int x1), some (.int y2), some (.int y3), o4] [.int (kt_favourite (F 3 0) (L 11) y3 G424)] (hz F A L) _
      generalize hG425 : (kt_favourite (F 3 0) (L 11) y3 G424) = G425 at hE ⊢
      refine w_n 3 (pc1 := 45) (ls1 := [some (.ref 30), some (.int x1), some (.int y2), some (.int y3), some (.int G425)]) (st1 := [.int (-1), .int G425]) (hp1 := (hz F A L)) rfl ?_
      refine w_eq (p3 := 48) rfl rfl (fun h => ?_) (fun h => ?_)
      · have h2 : G425 = (-1) := h
        rw [if_pos h2] at hE
        refine w_n 5 (pc1 := 76) (ls1 := [some (.ref 30), some (.int x1), some (.int y2), some (.int y3), some (.int G425)]) (st1 := [.int y3, .ref 6, .int y2]) (hp1 := (hz F A L)) rfl ?_
        refine w_al (k := 6) (l := (A 6)) rfl rfl rfl (fun ab => ?_)
        refine w_n 4 (pc1 := 8) (ls1 := [some (.ref 30), some (.int x1), some (.int (y2 + ((A 6).getD y3.toInt.toNat 0))), some (.int (y3 + 1)), some (.int G425)]) (st1 := []) (hp1 := (hz F A L)) rfl ?_
        subst T
        have hb2 := i_up (B := (12 : Int32)) hb
        have hb3 : y3.toInt < 12 := hb
        exact ih (show m = (12 - (y3 + 1).toInt).toNat by rw [hb2]; omega) (fun q3 q4 => cvE rfl (funext fun q => if k0 : q = 31 then by subst k0; exact Eq.trans (b := (kv_possibleWinners_8 (F 3 0) (A 6) (L 11) x1 m (y2 + ((A 6).getD y3.toInt.toNat 0)) (y3 + 1) (A 31)).2) rfl rfl else by unfold uA; simp only [nb1 k0, cond_false]) rfl (K q3 q4))
      · have h2 : ¬ G425 = (-1) := h
        rw [if_neg h2] at hE
        refine w_n 4 (pc1 := 55) (ls1 := [some (.ref 30), some (.int x1), some (.int y2), some (.int y3), some (.int G425)]) (st1 := [.int G425, .ref 31, .int G425, .ref 31]) (hp1 := (hz F A L)) rfl ?_
        refine w_al (k := 31) (l := (A 31)) rfl rfl rfl (fun _ => ?_)
        refine w_n 4 (pc1 := 64) (ls1 := [some (.ref 30), some (.int x1), some (.int y2), some (.int y3), some (.int G425)]) (st1 := [.int y3, .ref 6, .int ((A 31).getD G425.toInt.toNat 0), .int G425, .ref 31]) (hp1 := (hz F A L)) rfl ?_
        refine w_al (k := 6) (l := (A 6)) rfl rfl rfl (fun ab => ?_)
        refine w_n 1 (pc1 := 66) (ls1 := [some (.ref 30), some (.int x1), some (.int y2), some (.int y3), some (.int G425)]) (st1 := [.int (((A 31).getD G425.toInt.toNat 0) - ((A 6).getD y3.toInt.toNat 0)), .int G425, .ref 31]) (hp1 := (hz F A L)) rfl ?_
        refine w_as (k := 31) (l := (A 31)) (hp1 := (hz F (uA A 31 ((A 31).set G425.toInt.toNat (((A 31).getD G425.toInt.toNat 0) - ((A 6).getD y3.toInt.toNat 0)))) L)) rfl rfl rfl (hz_s31 _) (fun _ => ?_)
        refine w_n 5 (pc1 := 76) (ls1 := [some (.ref 30), some (.int x1), some (.int y2), some (.int y3), some (.int G425)]) (st1 := [.int y3, .ref 6, .int y2]) (hp1 := (hz F (uA A 31 ((A 31).set G425.toInt.toNat (((A 31).getD G425.toInt.toNat 0) - ((A 6).getD y3.toInt.toNat 0)))) L)) rfl ?_
        refine w_al (k := 6) (l := (A 6)) rfl rfl rfl (fun ab => ?_)
        refine w_n 4 (pc1 := 8) (ls1 := [some (.ref 30), some (.int x1), some (.int (y2 + ((A 6).getD y3.toInt.toNat 0))), some (.int (y3 + 1)), some (.int G425)]) (st1 := []) (hp1 := (hz F (uA A 31 ((A 31).set G425.toInt.toNat (((A 31).getD G425.toInt.toNat 0) - ((A 6).getD y3.toInt.toNat 0)))) L)) rfl ?_
        subst T
        have hb2 := i_up (B := (12 : Int32)) hb
        have hb3 : y3.toInt < 12 := hb
        exact ih (show m = (12 - (y3 + 1).toInt).toNat by rw [hb2]; omega) (fun q3 q4 => cvE rfl (funext fun q => if k0 : q = 31 then by subst k0; exact Eq.trans (b := (kv_possibleWinners_8 (F 3 0) (A 6) (L 11) x1 m (y2 + ((A 6).getD y3.toInt.toNat 0)) (y3 + 1) ((A 31).set G425.toInt.toNat (((A 31).getD G425.toInt.toNat 0) - ((A 6).getD y3.toInt.toNat 0)))).2) rfl rfl else by unfold uA; simp only [nb1 k0, cond_false]) rfl (K q3 q4))
    · have h1 : ((x1 >>> (y3 &&& 31)) &&& 1) = 0 := h
      rw [if_pos h1] at hE
      refine w_n 3 (pc1 := 8) (ls1 := [some (.ref 30), some (.int x1), some (.int y2), some (.int (y3 + 1)), o4]) (st1 := []) (hp1 := (hz F A L)) rfl ?_
      subst T
      have hb2 := i_up (B := (12 : Int32)) hb
      have hb3 : y3.toInt < 12 := hb
      exact ih (show m = (12 - (y3 + 1).toInt).toNat by rw [hb2]; omega) (fun q3 q4 => cvE rfl (funext fun q => if k0 : q = 31 then by subst k0; exact Eq.trans (b := (kv_possibleWinners_8 (F 3 0) (A 6) (L 11) x1 m y2 (y3 + 1) (A 31)).2) rfl rfl else by unfold uA; simp only [nb1 k0, cond_false]) rfl (K q3 q4))
def kv_possibleWinners_90  (x2 : Int32) : Nat → Int32 → Int32 → List Int32 → Int32 × List Int32
  | 0, y3, _, a31 => (y3, a31)
  | m + 1, y3, y4, a31 => (if (kc_most_31 (a31.set y4.toInt.toNat ((a31.getD y4.toInt.toNat 0) + x2))) = y4 then (kv_possibleWinners_90 x2 m (y3 ||| ((1 : Int32) <<< (y4 &&& 31))) (y4 + 1) ((a31.set y4.toInt.toNat ((a31.getD y4.toInt.toNat 0) + x2)).set y4.toInt.toNat (((a31.set y4.toInt.toNat ((a31.getD y4.toInt.toNat 0) + x2)).getD y4.toInt.toNat 0) - x2))) else (kv_possibleWinners_90 x2 m y3 (y4 + 1) ((a31.set y4.toInt.toNat ((a31.getD y4.toInt.toNat 0) + x2)).set y4.toInt.toNat (((a31.set y4.toInt.toNat ((a31.getD y4.toInt.toNat 0) + x2)).getD y4.toInt.toNat 0) - x2))))
theorem t_kv_possibleWinners_90 {f : Nat} {Q : Option Value → sm_H → Prop} : ∀ (m : Nat) {B D : Nat} {F : Nat → Nat → Int32} {A : Nat → List Int32} {L : Nat → List Int64} {x1 : Int32} {x2 : Int32} {y3 : Int32} {y4 : Int32}, m = ((F 3 0).toInt - y4.toInt).toNat → (∀ q4 : Int32, wl_E f B D mm121.2.2.2.2.2.2.2.2 149 [some (.ref 30), some (.int x1), some (.int x2), some (.int ((kv_possibleWinners_90 x2 m y3 y4 (A 31)).1)), some (.int q4)] [] (hz F (uA A 31 ((kv_possibleWinners_90 x2 m y3 y4 (A 31)).2)) L) Q) → wl_E f B D mm121.2.2.2.2.2.2.2.2 90 [some (.ref 30), some (.int x1), some (.int x2), some (.int y3), some (.int y4)] [] (hz F A L) Q := by
  intro m
  induction m with
  | zero =>
    intro B D F A L x1 x2 y3 y4 hm K
    generalize hT : (kv_possibleWinners_90 x2 0 y3 y4 (A 31)) = T at K
    have hE : T = (y3, (A 31)) := hT.symm
    clear hT
    refine w_n 4 (pc1 := 99) (ls1 := [some (.ref 30), some (.int x1), some (.int x2), some (.int y3), some (.int y4)]) (st1 := [.int (F 3 0), .int y4]) (hp1 := (hz F A L)) rfl ?_
    refine w_ge (p3 := 102) rfl rfl (fun hb => ?_) (fun h => False.elim (by have h : y4.toInt < (F 3 0).toInt := h; omega))
    subst T
    exact cvE rfl (funext fun q => if k0 : q = 31 then by subst k0; exact Eq.trans (b := (A 31)) rfl rfl else by unfold uA; simp only [nb1 k0, cond_false]) rfl (K _)
  | succ m ih =>
    intro B D F A L x1 x2 y3 y4 hm K
    generalize hT : (kv_possibleWinners_90 x2 (m + 1) y3 y4 (A 31)) = T at K
    have hE : T = (if (kc_most_31 ((A 31).set y4.toInt.toNat (((A 31).getD y4.toInt.toNat 0) + x2))) = y4 then (kv_possibleWinners_90 x2 m (y3 ||| ((1 : Int32) <<< (y4 &&& 31))) (y4 + 1) (((A 31).set y4.toInt.toNat (((A 31).getD y4.toInt.toNat 0) + x2)).set y4.toInt.toNat ((((A 31).set y4.toInt.toNat (((A 31).getD y4.toInt.toNat 0) + x2)).getD y4.toInt.toNat 0) - x2))) else (kv_possibleWinners_90 x2 m y3 (y4 + 1) (((A 31).set y4.toInt.toNat (((A 31).getD y4.toInt.toNat 0) + x2)).set y4.toInt.toNat ((((A 31).set y4.toInt.toNat (((A 31).getD y4.toInt.toNat 0) + x2)).getD y4.toInt.toNat 0) - x2)))) := hT.symm
    clear hT
    refine w_n 4 (pc1 := 99) (ls1 := [some (.ref 30), some (.int x1), some (.int x2), some (.int y3), some (.int y4)]) (st1 := [.int (F 3 0), .int y4]) (hp1 := (hz F A L)) rfl ?_
    refine w_ge (p3 := 102) rfl rfl (fun h => False.elim (by have h : (F 3 0).toInt ≤ y4.toInt := h; omega)) (fun hb => ?_)
    refine w_n 4 (pc1 := 109) (ls1 := [some (.ref 30), some (.int x1), some (.int x2), some (.int y3), some (.int y4)]) (st1 := [.int y4, .ref 31, .int y4, .ref 31]) (hp1 := (hz F A L)) rfl ?_
    refine w_al (k := 31) (l := (A 31)) rfl rfl rfl (fun ab => ?_)
    refine w_n 2 (pc1 := 112) (ls1 := [some (.ref 30), some (.int x1), some (.int x2), some (.int y3), some (.int y4)]) (st1 := [.int (((A 31).getD y4.toInt.toNat 0) + x2), .int y4, .ref 31]) (hp1 := (hz F A L)) rfl ?_
    refine w_as (k := 31) (l := (A 31)) (hp1 := (hz F (uA A 31 ((A 31).set y4.toInt.toNat (((A 31).getD y4.toInt.toNat 0) + x2))) L)) rfl rfl rfl (hz_s31 _) (fun ab => ?_)
    refine w_n 2 (pc1 := 117) (ls1 := [some (.ref 30), some (.int x1), some (.int x2), some (.int y3), some (.int y4)]) (st1 := [.ref 31]) (hp1 := (hz F (uA A 31 ((A 31).set y4.toInt.toNat (((A 31).getD y4.toInt.toNat 0) + x2))) L)) rfl ?_
    refine w_c rfl rfl (t_kc_most_31 ?_)
    show wl_E f _ _ mm121.2.2.2.2.2.2.2.2 120 [some (.ref 30), some (.int x1), some (.int x2), some (.int y3), some (.int y4)] [.int (kc_most_31 ((A 31).set y4.toInt.toNat (((A 31).getD y4.toInt.toNat 0) + x2)))] (hz F (uA A 31 ((A 31).set y4.toInt.toNat (((A 31).getD y4.toInt.toNat 0) + x2))) L) _
    generalize hG427 : (kc_most_31 ((A 31).set y4.toInt.toNat (((A 31).getD y4.toInt.toNat 0) + x2))) = G427 at hE ⊢
    refine w_n 1 (pc1 := 122) (ls1 := [some (.ref 30), some (.int x1), some (.int x2), some (.int y3), some (.int y4)]) (st1 := [.int y4, .int G427]) (hp1 := (hz F (uA A 31 ((A 31).set y4.toInt.toNat (((A 31).getD y4.toInt.toNat 0) + x2))) L)) rfl ?_
    refine w_ne (p3 := 125) rfl rfl (fun h => ?_) (fun h => ?_)
    · have h1 : ¬ G427 = y4 := h
      rw [if_neg h1] at hE
      refine w_n 4 (pc1 := 139) (ls1 := [some (.ref 30), some (.int x1), some (.int x2), some (.int y3), some (.int y4)]) (st1 := [.int y4, .ref 31, .int y4, .ref 31]) (hp1 := (hz F (uA A 31 ((A 31).set y4.toInt.toNat (((A 31).getD y4.toInt.toNat 0) + x2))) L)) rfl ?_
      refine w_al (k := 31) (l := ((A 31).set y4.toInt.toNat (((A 31).getD y4.toInt.toNat 0) + x2))) rfl rfl rfl (fun ab => ?_)
      refine w_n 2 (pc1 := 142) (ls1 := [some (.ref 30), some (.int x1), some (.int x2), some (.int y3), some (.int y4)]) (st1 := [.int ((((A 31).set y4.toInt.toNat (((A 31).getD y4.toInt.toNat 0) + x2)).getD y4.toInt.toNat 0) - x2), .int y4, .ref 31]) (hp1 := (hz F (uA A 31 ((A 31).set y4.toInt.toNat (((A 31).getD y4.toInt.toNat 0) + x2))) L)) rfl ?_
      refine w_as (k := 31) (l := ((A 31).set y4.toInt.toNat (((A 31).getD y4.toInt.toNat 0) + x2))) (hp1 := (hz F (uA (uA A 31 ((A 31).set y4.toInt.toNat (((A 31).getD y4.toInt.toNat 0) + x2))) 31 (((A 31).set y4.toInt.toNat (((A 31).getD y4.toInt.toNat 0) + x2)).set y4.toInt.toNat ((((A 31).set y4.toInt.toNat (((A 31).getD y4.toInt.toNat 0) + x2)).getD y4.toInt.toNat 0) - x2))) L)) rfl rfl rfl (hz_s31 _) (fun ab => ?_)
      refine w_n 2 (pc1 := 90) (ls1 := [some (.ref 30), some (.int x1), some (.int x2), some (.int y3), some (.int (y4 + 1))]) (st1 := []) (hp1 := (hz F (uA (uA A 31 ((A 31).set y4.toInt.toNat (((A 31).getD y4.toInt.toNat 0) + x2))) 31 (((A 31).set y4.toInt.toNat (((A 31).getD y4.toInt.toNat 0) + x2)).set y4.toInt.toNat ((((A 31).set y4.toInt.toNat (((A 31).getD y4.toInt.toNat 0) + x2)).getD y4.toInt.toNat 0) - x2))) L)) rfl ?_
      subst T
      have hb2 := i_up (B := (F 3 0)) hb
      have hb3 : y4.toInt < (F 3 0).toInt := hb
      exact ih (show m = ((F 3 0).toInt - (y4 + 1).toInt).toNat by rw [hb2]; omega) (fun q4 => cvE rfl (funext fun q => if k0 : q = 31 then by subst k0; exact Eq.trans (b := (kv_possibleWinners_90 x2 m y3 (y4 + 1) (((A 31).set y4.toInt.toNat (((A 31).getD y4.toInt.toNat 0) + x2)).set y4.toInt.toNat ((((A 31).set y4.toInt.toNat (((A 31).getD y4.toInt.toNat 0) + x2)).getD y4.toInt.toNat 0) - x2))).2) rfl rfl else by unfold uA; simp only [nb1 k0, cond_false]) rfl (K q4))
    · have h1 : G427 = y4 := h
      rw [if_pos h1] at hE
      refine w_n 10 (pc1 := 139) (ls1 := [some (.ref 30), some (.int x1), some (.int x2), some (.int (y3 ||| ((1 : Int32) <<< (y4 &&& 31)))), some (.int y4)]) (st1 := [.int y4, .ref 31, .int y4, .ref 31]) (hp1 := (hz F (uA A 31 ((A 31).set y4.toInt.toNat (((A 31).getD y4.toInt.toNat 0) + x2))) L)) rfl ?_
      refine w_al (k := 31) (l := ((A 31).set y4.toInt.toNat (((A 31).getD y4.toInt.toNat 0) + x2))) rfl rfl rfl (fun ab => ?_)
      refine w_n 2 (pc1 := 142) (ls1 := [some (.ref 30), some (.int x1), some (.int x2), some (.int (y3 ||| ((1 : Int32) <<< (y4 &&& 31)))), some (.int y4)]) (st1 := [.int ((((A 31).set y4.toInt.toNat (((A 31).getD y4.toInt.toNat 0) + x2)).getD y4.toInt.toNat 0) - x2), .int y4, .ref 31]) (hp1 := (hz F (uA A 31 ((A 31).set y4.toInt.toNat (((A 31).getD y4.toInt.toNat 0) + x2))) L)) rfl ?_
      refine w_as (k := 31) (l := ((A 31).set y4.toInt.toNat (((A 31).getD y4.toInt.toNat 0) + x2))) (hp1 := (hz F (uA (uA A 31 ((A 31).set y4.toInt.toNat (((A 31).getD y4.toInt.toNat 0) + x2))) 31 (((A 31).set y4.toInt.toNat (((A 31).getD y4.toInt.toNat 0) + x2)).set y4.toInt.toNat ((((A 31).set y4.toInt.toNat (((A 31).getD y4.toInt.toNat 0) + x2)).getD y4.toInt.toNat 0) - x2))) L)) rfl rfl rfl (hz_s31 _) (fun ab => ?_)
      refine w_n 2 (pc1 := 90) (ls1 := [some (.ref 30), some (.int x1), some (.int x2), some (.int (y3 ||| ((1 : Int32) <<< (y4 &&& 31)))), some (.int (y4 + 1))]) (st1 := []) (hp1 := (hz F (uA (uA A 31 ((A 31).set y4.toInt.toNat (((A 31).getD y4.toInt.toNat 0) + x2))) 31 (((A 31).set y4.toInt.toNat (((A 31).getD y4.toInt.toNat 0) + x2)).set y4.toInt.toNat ((((A 31).set y4.toInt.toNat (((A 31).getD y4.toInt.toNat 0) + x2)).getD y4.toInt.toNat 0) - x2))) L)) rfl ?_
      subst T
      have hb2 := i_up (B := (F 3 0)) hb
      have hb3 : y4.toInt < (F 3 0).toInt := hb
      exact ih (show m = ((F 3 0).toInt - (y4 + 1).toInt).toNat by rw [hb2]; omega) (fun q4 => cvE rfl (funext fun q => if k0 : q = 31 then by subst k0; exact Eq.trans (b := (kv_possibleWinners_90 x2 m (y3 ||| ((1 : Int32) <<< (y4 &&& 31))) (y4 + 1) (((A 31).set y4.toInt.toNat (((A 31).getD y4.toInt.toNat 0) + x2)).set y4.toInt.toNat ((((A 31).set y4.toInt.toNat (((A 31).getD y4.toInt.toNat 0) + x2)).getD y4.toInt.toNat 0) - x2))).2) rfl rfl else by unfold uA; simp only [nb1 k0, cond_false]) rfl (K q4))
def kv_possibleWinners (f3_0 : Int32) (f3_1 : Int32) (a6 : List Int32) (a31 : List Int32) (a35 : List Int32) (l11 : List Int64) (x1 : Int32) : Int32 × List Int32 × List Int32 := ((kv_possibleWinners_90 (kv_possibleWinners_8 f3_0 a6 l11 x1 12 0 0 (kv_countFirsts f3_0 f3_1 a6 a31 a35 l11).1).1 f3_0.toInt.toNat 0 0 (kv_possibleWinners_8 f3_0 a6 l11 x1 12 0 0 (kv_countFirsts f3_0 f3_1 a6 a31 a35 l11).1).2).1, (kv_possibleWinners_90 (kv_possibleWinners_8 f3_0 a6 l11 x1 12 0 0 (kv_countFirsts f3_0 f3_1 a6 a31 a35 l11).1).1 f3_0.toInt.toNat 0 0 (kv_possibleWinners_8 f3_0 a6 l11 x1 12 0 0 (kv_countFirsts f3_0 f3_1 a6 a31 a35 l11).1).2).2, (kv_countFirsts f3_0 f3_1 a6 a31 a35 l11).2)
theorem t_kv_possibleWinners {f D : Nat} {F : Nat → Nat → Int32} {A : Nat → List Int32} {L : Nat → List Int64} {Q : Option Value → sm_H → Prop} {x1 : Int32} (K : Q (some (.int ((kv_possibleWinners (F 3 0) (F 3 1) (A 6) (A 31) (A 35) (L 11) x1).1))) (hz F (uA (uA A 31 ((kv_possibleWinners (F 3 0) (F 3 1) (A 6) (A 31) (A 35) (L 11) x1).2.1)) 35 ((kv_possibleWinners (F 3 0) (F 3 1) (A 6) (A 31) (A 35) (L 11) x1).2.2)) L)) : wl_M f D 121 [.ref 30, .int x1] (hz F A L) Q := by
  generalize hT : (kv_possibleWinners (F 3 0) (F 3 1) (A 6) (A 31) (A 35) (L 11) x1) = T at K
  have hE : T = ((kv_possibleWinners_90 (kv_possibleWinners_8 (F 3 0) (A 6) (L 11) x1 12 0 0 (kv_countFirsts (F 3 0) (F 3 1) (A 6) (A 31) (A 35) (L 11)).1).1 (F 3 0).toInt.toNat 0 0 (kv_possibleWinners_8 (F 3 0) (A 6) (L 11) x1 12 0 0 (kv_countFirsts (F 3 0) (F 3 1) (A 6) (A 31) (A 35) (L 11)).1).2).1, (kv_possibleWinners_90 (kv_possibleWinners_8 (F 3 0) (A 6) (L 11) x1 12 0 0 (kv_countFirsts (F 3 0) (F 3 1) (A 6) (A 31) (A 35) (L 11)).1).1 (F 3 0).toInt.toNat 0 0 (kv_possibleWinners_8 (F 3 0) (A 6) (L 11) x1 12 0 0 (kv_countFirsts (F 3 0) (F 3 1) (A 6) (A 31) (A 35) (L 11)).1).2).2, (kv_countFirsts (F 3 0) (F 3 1) (A 6) (A 31) (A 35) (L 11)).2) := hT.symm
  clear hT
  refine w_m (E := mm121) rfl ?_
  show wl_E f f (D - 1) mm121.2.2.2.2.2.2.2.2 0 [some (.ref 30), some (.int x1), none, none, none] [] (hz F A L) Q
  refine w_n 1 (pc1 := 1) (ls1 := [some (.ref 30), some (.int x1), none, none, none]) (st1 := [.ref 30]) (hp1 := (hz F A L)) rfl ?_
  refine w_c rfl rfl (t_kv_countFirsts ?_)
  show wl_E f _ _ mm121.2.2.2.2.2.2.2.2 4 [some (.ref 30), some (.int x1), none, none, none] [] (hz F (uA (uA A 31 (kv_countFirsts (F 3 0) (F 3 1) (A 6) (A 31) (A 35) (L 11)).1) 35 (kv_countFirsts (F 3 0) (F 3 1) (A 6) (A 31) (A 35) (L 11)).2) L) _
  generalize hG423 : (kv_countFirsts (F 3 0) (F 3 1) (A 6) (A 31) (A 35) (L 11)) = G423 at hE ⊢
  refine w_n 4 (pc1 := 8) (ls1 := [some (.ref 30), some (.int x1), some (.int 0), some (.int 0), none]) (st1 := []) (hp1 := (hz F (uA (uA A 31 G423.1) 35 G423.2) L)) rfl ?_
  refine t_kv_possibleWinners_8 12 (show (12 : Nat) = (12 - (0 : Int32).toInt).toNat by have e0 : (0 : Int32).toInt = 0 := rfl; first | rfl | omega) ?_
  intro r1 r2
  show wl_E f _ _ mm121.2.2.2.2.2.2.2.2 85 [some (.ref 30), some (.int x1), some (.int (kv_possibleWinners_8 (F 3 0) (A 6) (L 11) x1 12 0 0 G423.1).1), some (.int r1), r2] [] (hz F (uA (uA (uA A 31 G423.1) 35 G423.2) 31 (kv_possibleWinners_8 (F 3 0) (A 6) (L 11) x1 12 0 0 G423.1).2) L) _
  generalize hG426 : (kv_possibleWinners_8 (F 3 0) (A 6) (L 11) x1 12 0 0 G423.1) = G426 at hE ⊢
  refine w_n 4 (pc1 := 90) (ls1 := [some (.ref 30), some (.int x1), some (.int G426.1), some (.int 0), some (.int 0)]) (st1 := []) (hp1 := (hz F (uA (uA (uA A 31 G423.1) 35 G423.2) 31 G426.2) L)) rfl ?_
  refine t_kv_possibleWinners_90 (F 3 0).toInt.toNat (show (F 3 0).toInt.toNat = ((F 3 0).toInt - (0 : Int32).toInt).toNat by have e0 : (0 : Int32).toInt = 0 := rfl; first | rfl | omega) ?_
  intro r3
  show wl_E f _ _ mm121.2.2.2.2.2.2.2.2 149 [some (.ref 30), some (.int x1), some (.int G426.1), some (.int (kv_possibleWinners_90 G426.1 (F 3 0).toInt.toNat 0 0 G426.2).1), some (.int r3)] [] (hz F (uA (uA (uA (uA A 31 G423.1) 35 G423.2) 31 G426.2) 31 (kv_possibleWinners_90 G426.1 (F 3 0).toInt.toNat 0 0 G426.2).2) L) _
  generalize hG428 : (kv_possibleWinners_90 G426.1 (F 3 0).toInt.toNat 0 0 G426.2) = G428 at hE ⊢
  refine w_n 1 (pc1 := 150) (ls1 := [some (.ref 30), some (.int x1), some (.int G426.1), some (.int G428.1), some (.int r3)]) (st1 := [.int G428.1]) (hp1 := (hz F (uA (uA (uA (uA A 31 G423.1) 35 G423.2) 31 G426.2) 31 G428.2) L)) rfl ?_
  subst T
  exact w_ri rfl (cvQ rfl (funext fun q => if k0 : q = 31 then by subst k0; exact Eq.trans (b := G428.2) rfl rfl else if k1 : q = 35 then by subst k1; exact Eq.trans (b := G423.2) rfl rfl else by unfold uA; simp only [nb1 k0, nb1 k1, cond_false]) rfl K)
def kc_sure (f3_0 : Int32) (f3_1 : Int32) (a6 : List Int32) (a31 : List Int32) (a35 : List Int32) (l11 : List Int64) (x1 : Int32) (x2 : Int32) : Int32 × List Int32 × List Int32 := (if (x1 &&& (f3_1 ^^^ (-1))) = 0 then (if 6 < (kji_bitCount x1).toInt then ((-1), a31, a35) else (if (kc_within x2 0 1) = 0 then ((-1), a31, a35) else (if x2 = 1 then ((kv_possibleWinners f3_0 f3_1 a6 a31 a35 l11 x1).1, (kv_possibleWinners f3_0 f3_1 a6 a31 a35 l11 x1).2.1, (kv_possibleWinners f3_0 f3_1 a6 a31 a35 l11 x1).2.2) else (if (kji_bitCount (kv_possibleWinners f3_0 f3_1 a6 a31 a35 l11 x1).1) = 1 then ((kv_possibleWinners f3_0 f3_1 a6 a31 a35 l11 x1).1, (kv_possibleWinners f3_0 f3_1 a6 a31 a35 l11 x1).2.1, (kv_possibleWinners f3_0 f3_1 a6 a31 a35 l11 x1).2.2) else (0, (kv_possibleWinners f3_0 f3_1 a6 a31 a35 l11 x1).2.1, (kv_possibleWinners f3_0 f3_1 a6 a31 a35 l11 x1).2.2))))) else ((-1), a31, a35))
theorem t_kc_sure {f D : Nat} {F : Nat → Nat → Int32} {A : Nat → List Int32} {L : Nat → List Int64} {Q : Option Value → sm_H → Prop} {x1 : Int32} {x2 : Int32} (K : Q (some (.int ((kc_sure (F 3 0) (F 3 1) (A 6) (A 31) (A 35) (L 11) x1 x2).1))) (hz F (uA (uA A 31 ((kc_sure (F 3 0) (F 3 1) (A 6) (A 31) (A 35) (L 11) x1 x2).2.1)) 35 ((kc_sure (F 3 0) (F 3 1) (A 6) (A 31) (A 35) (L 11) x1 x2).2.2)) L)) : wl_M f D 120 [.ref 0, .int x1, .int x2] (hz F A L) Q := by
  generalize hT : (kc_sure (F 3 0) (F 3 1) (A 6) (A 31) (A 35) (L 11) x1 x2) = T at K
  have hE : T = (if (x1 &&& ((F 3 1) ^^^ (-1))) = 0 then (if 6 < (kji_bitCount x1).toInt then ((-1), (A 31), (A 35)) else (if (kc_within x2 0 1) = 0 then ((-1), (A 31), (A 35)) else (if x2 = 1 then ((kv_possibleWinners (F 3 0) (F 3 1) (A 6) (A 31) (A 35) (L 11) x1).1, (kv_possibleWinners (F 3 0) (F 3 1) (A 6) (A 31) (A 35) (L 11) x1).2.1, (kv_possibleWinners (F 3 0) (F 3 1) (A 6) (A 31) (A 35) (L 11) x1).2.2) else (if (kji_bitCount (kv_possibleWinners (F 3 0) (F 3 1) (A 6) (A 31) (A 35) (L 11) x1).1) = 1 then ((kv_possibleWinners (F 3 0) (F 3 1) (A 6) (A 31) (A 35) (L 11) x1).1, (kv_possibleWinners (F 3 0) (F 3 1) (A 6) (A 31) (A 35) (L 11) x1).2.1, (kv_possibleWinners (F 3 0) (F 3 1) (A 6) (A 31) (A 35) (L 11) x1).2.2) else (0, (kv_possibleWinners (F 3 0) (F 3 1) (A 6) (A 31) (A 35) (L 11) x1).2.1, (kv_possibleWinners (F 3 0) (F 3 1) (A 6) (A 31) (A 35) (L 11) x1).2.2))))) else ((-1), (A 31), (A 35))) := hT.symm
  clear hT
  refine w_m (E := mm120) rfl ?_
  show wl_E f f (D - 1) mm120.2.2.2.2.2.2.2.2 0 [some (.ref 0), some (.int x1), some (.int x2), none] [] (hz F A L) Q
  refine w_n 7 (pc1 := 11) (ls1 := [some (.ref 0), some (.int x1), some (.int x2), none]) (st1 := [.int (x1 &&& ((F 3 1) ^^^ (-1)))]) (hp1 := (hz F A L)) rfl ?_
  refine w_zne (p3 := 14) rfl rfl (fun h => ?_) (fun h => ?_)
  · have h1 : ¬ (x1 &&& ((F 3 1) ^^^ (-1))) = 0 := h
    rw [if_neg h1] at hE
    refine w_n 1 (pc1 := 24) (ls1 := [some (.ref 0), some (.int x1), some (.int x2), none]) (st1 := [.int (-1)]) (hp1 := (hz F A L)) rfl ?_
    subst T
    exact w_ri rfl (cvQ rfl (funext fun q => if k0 : q = 31 then by subst k0; exact Eq.trans (b := (A 31)) rfl rfl else if k1 : q = 35 then by subst k1; exact Eq.trans (b := (A 35)) rfl rfl else by unfold uA; simp only [nb1 k0, nb1 k1, cond_false]) rfl K)
  · have h1 : (x1 &&& ((F 3 1) ^^^ (-1))) = 0 := h
    rw [if_pos h1] at hE
    refine w_n 1 (pc1 := 15) (ls1 := [some (.ref 0), some (.int x1), some (.int x2), none]) (st1 := [.int x1]) (hp1 := (hz F A L)) rfl ?_
    refine w_c rfl rfl (t_kji_bitCount ?_)
    show wl_E f _ _ mm120.2.2.2.2.2.2.2.2 18 [some (.ref 0), some (.int x1), some (.int x2), none] [.int (kji_bitCount x1)] (hz F A L) _
    generalize hG421 : (kji_bitCount x1) = G421 at hE ⊢
    refine w_n 1 (pc1 := 20) (ls1 := [some (.ref 0), some (.int x1), some (.int x2), none]) (st1 := [.int 6, .int G421]) (hp1 := (hz F A L)) rfl ?_
    refine w_le (p3 := 23) rfl rfl (fun h => ?_) (fun h => ?_)
    · have h2 : G421.toInt ≤ 6 := h
      rw [if_neg (Int.not_lt.mpr h2)] at hE
      refine w_n 3 (pc1 := 28) (ls1 := [some (.ref 0), some (.int x1), some (.int x2), none]) (st1 := [.int 1, .int 0, .int x2]) (hp1 := (hz F A L)) rfl ?_
      refine w_c rfl rfl (t_kc_within ?_)
      show wl_E f _ _ mm120.2.2.2.2.2.2.2.2 31 [some (.ref 0), some (.int x1), some (.int x2), none] [.int (kc_within x2 0 1)] (hz F A L) _
      generalize hG422 : (kc_within x2 0 1) = G422 at hE ⊢
      refine w_zne (p3 := 34) rfl rfl (fun h => ?_) (fun h => ?_)
      · have h3 : ¬ G422 = 0 := h
        rw [if_neg h3] at hE
        refine w_n 3 (pc1 := 41) (ls1 := [some (.ref 0), some (.int x1), some (.int x2), none]) (st1 := [.int x1, .ref 30]) (hp1 := (hz F A L)) rfl ?_
        refine w_c rfl rfl (t_kv_possibleWinners ?_)
        show wl_E f _ _ mm120.2.2.2.2.2.2.2.2 44 [some (.ref 0), some (.int x1), some (.int x2), none] [.int (kv_possibleWinners (F 3 0) (F 3 1) (A 6) (A 31) (A 35) (L 11) x1).1] (hz F (uA (uA A 31 (kv_possibleWinners (F 3 0) (F 3 1) (A 6) (A 31) (A 35) (L 11) x1).2.1) 35 (kv_possibleWinners (F 3 0) (F 3 1) (A 6) (A 31) (A 35) (L 11) x1).2.2) L) _
        generalize hG429 : (kv_possibleWinners (F 3 0) (F 3 1) (A 6) (A 31) (A 35) (L 11) x1) = G429 at hE ⊢
        refine w_n 3 (pc1 := 47) (ls1 := [some (.ref 0), some (.int x1), some (.int x2), some (.int G429.1)]) (st1 := [.int 1, .int x2]) (hp1 := (hz F (uA (uA A 31 G429.2.1) 35 G429.2.2) L)) rfl ?_
        refine w_ne (p3 := 50) rfl rfl (fun h => ?_) (fun h => ?_)
        · have h4 : ¬ x2 = 1 := h
          rw [if_neg h4] at hE
          refine w_n 1 (pc1 := 53) (ls1 := [some (.ref 0), some (.int x1), some (.int x2), some (.int G429.1)]) (st1 := [.int G429.1]) (hp1 := (hz F (uA (uA A 31 G429.2.1) 35 G429.2.2) L)) rfl ?_
          refine w_c rfl rfl (t_kji_bitCount ?_)
          show wl_E f _ _ mm120.2.2.2.2.2.2.2.2 56 [some (.ref 0), some (.int x1), some (.int x2), some (.int G429.1)] [.int (kji_bitCount G429.1)] (hz F (uA (uA A 31 G429.2.1) 35 G429.2.2) L) _
          generalize hG430 : (kji_bitCount G429.1) = G430 at hE ⊢
          refine w_n 1 (pc1 := 57) (ls1 := [some (.ref 0), some (.int x1), some (.int x2), some (.int G429.1)]) (st1 := [.int 1, .int G430]) (hp1 := (hz F (uA (uA A 31 G429.2.1) 35 G429.2.2) L)) rfl ?_
          refine w_ne (p3 := 60) rfl rfl (fun h => ?_) (fun h => ?_)
          · have h5 : ¬ G430 = 1 := h
            rw [if_neg h5] at hE
            refine w_n 1 (pc1 := 65) (ls1 := [some (.ref 0), some (.int x1), some (.int x2), some (.int G429.1)]) (st1 := [.int 0]) (hp1 := (hz F (uA (uA A 31 G429.2.1) 35 G429.2.2) L)) rfl ?_
            subst T
            exact w_ri rfl (cvQ rfl rfl rfl K)
          · have h5 : G430 = 1 := h
            rw [if_pos h5] at hE
            refine w_n 2 (pc1 := 65) (ls1 := [some (.ref 0), some (.int x1), some (.int x2), some (.int G429.1)]) (st1 := [.int G429.1]) (hp1 := (hz F (uA (uA A 31 G429.2.1) 35 G429.2.2) L)) rfl ?_
            subst T
            exact w_ri rfl (cvQ rfl rfl rfl K)
        · have h4 : x2 = 1 := h
          rw [if_pos h4] at hE
          refine w_n 1 (pc1 := 51) (ls1 := [some (.ref 0), some (.int x1), some (.int x2), some (.int G429.1)]) (st1 := [.int G429.1]) (hp1 := (hz F (uA (uA A 31 G429.2.1) 35 G429.2.2) L)) rfl ?_
          subst T
          exact w_ri rfl (cvQ rfl rfl rfl K)
      · have h3 : G422 = 0 := h
        rw [if_pos h3] at hE
        refine w_n 1 (pc1 := 35) (ls1 := [some (.ref 0), some (.int x1), some (.int x2), none]) (st1 := [.int (-1)]) (hp1 := (hz F A L)) rfl ?_
        subst T
        exact w_ri rfl (cvQ rfl (funext fun q => if k0 : q = 31 then by subst k0; exact Eq.trans (b := (A 31)) rfl rfl else if k1 : q = 35 then by subst k1; exact Eq.trans (b := (A 35)) rfl rfl else by unfold uA; simp only [nb1 k0, nb1 k1, cond_false]) rfl K)
    · have h2 : 6 < G421.toInt := h
      rw [if_pos h2] at hE
      refine w_n 1 (pc1 := 24) (ls1 := [some (.ref 0), some (.int x1), some (.int x2), none]) (st1 := [.int (-1)]) (hp1 := (hz F A L)) rfl ?_
      subst T
      exact w_ri rfl (cvQ rfl (funext fun q => if k0 : q = 31 then by subst k0; exact Eq.trans (b := (A 31)) rfl rfl else if k1 : q = 35 then by subst k1; exact Eq.trans (b := (A 35)) rfl rfl else by unfold uA; simp only [nb1 k0, nb1 k1, cond_false]) rfl K)
def km_sure_47 (f67_3 : Int32) (x1 : Int32) : Nat → Int32 → Int32 → Int32 → List Int32 → Int32 × Int32 × List Int32
  | 0, y3, y4, _, a95 => (y3, y4, a95)
  | m + 1, y3, y4, y5, a95 => (if (km_has x1 y5) = 0 then (km_sure_47 f67_3 x1 m y3 y4 (y5 + 1) a95) else (km_sure_47 f67_3 x1 m (y3 + 1) (y4 * f67_3) (y5 + 1) (a95.set y3.toInt.toNat y5)))
theorem t_km_sure_47 {f : Nat} {Q : Option Value → sm_H → Prop} : ∀ (m : Nat) {B D : Nat} {F : Nat → Nat → Int32} {A : Nat → List Int32} {L : Nat → List Int64} {x1 : Int32} {x2 : Int32} {y3 : Int32} {y4 : Int32} {y5 : Int32} {o6 : Option Value} {o7 : Option Value} {o8 : Option Value}, m = (12 - y5.toInt).toNat → (∀ q5 : Int32, wl_E f B D mm235.2.2.2.2.2.2.2.2 93 [some (.ref 67), some (.int x1), some (.int x2), some (.int ((km_sure_47 (F 67 3) x1 m y3 y4 y5 (A 95)).1)), some (.int ((km_sure_47 (F 67 3) x1 m y3 y4 y5 (A 95)).2.1)), some (.int q5), o6, o7, o8] [] (hz F (uA A 95 ((km_sure_47 (F 67 3) x1 m y3 y4 y5 (A 95)).2.2)) L) Q) → wl_E f B D mm235.2.2.2.2.2.2.2.2 47 [some (.ref 67), some (.int x1), some (.int x2), some (.int y3), some (.int y4), some (.int y5), o6, o7, o8] [] (hz F A L) Q := by
  intro m
  induction m with
  | zero =>
    intro B D F A L x1 x2 y3 y4 y5 o6 o7 o8 hm K
    generalize hT : (km_sure_47 (F 67 3) x1 0 y3 y4 y5 (A 95)) = T at K
    have hE : T = (y3, y4, (A 95)) := hT.symm
    clear hT
    refine w_n 2 (pc1 := 51) (ls1 := [some (.ref 67), some (.int x1), some (.int x2), some (.int y3), some (.int y4), some (.int y5), o6, o7, o8]) (st1 := [.int 12, .int y5]) (hp1 := (hz F A L)) rfl ?_
    refine w_ge (p3 := 54) rfl rfl (fun hb => ?_) (fun h => False.elim (by have h : y5.toInt < 12 := h; omega))
    subst T
    exact cvE rfl (funext fun q => if k0 : q = 95 then by subst k0; exact Eq.trans (b := (A 95)) rfl rfl else by unfold uA; simp only [nb1 k0, cond_false]) rfl (K _)
  | succ m ih =>
    intro B D F A L x1 x2 y3 y4 y5 o6 o7 o8 hm K
    generalize hT : (km_sure_47 (F 67 3) x1 (m + 1) y3 y4 y5 (A 95)) = T at K
    have hE : T = (if (km_has x1 y5) = 0 then (km_sure_47 (F 67 3) x1 m y3 y4 (y5 + 1) (A 95)) else (km_sure_47 (F 67 3) x1 m (y3 + 1) (y4 * (F 67 3)) (y5 + 1) ((A 95).set y3.toInt.toNat y5))) := hT.symm
    clear hT
    refine w_n 2 (pc1 := 51) (ls1 := [some (.ref 67), some (.int x1), some (.int x2), some (.int y3), some (.int y4), some (.int y5), o6, o7, o8]) (st1 := [.int 12, .int y5]) (hp1 := (hz F A L)) rfl ?_
    refine w_ge (p3 := 54) rfl rfl (fun h => False.elim (by have h : 12 ≤ y5.toInt := h; omega)) (fun hb => ?_)
    refine w_n 2 (pc1 := 57) (ls1 := [some (.ref 67), some (.int x1), some (.int x2), some (.int y3), some (.int y4), some (.int y5), o6, o7, o8]) (st1 := [.int y5, .int x1]) (hp1 := (hz F A L)) rfl ?_
    refine w_c rfl rfl (t_km_has ?_)
    show wl_E f _ _ mm235.2.2.2.2.2.2.2.2 60 [some (.ref 67), some (.int x1), some (.int x2), some (.int y3), some (.int y4), some (.int y5), o6, o7, o8] [.int (km_has x1 y5)] (hz F A L) _
    generalize hG433 : (km_has x1 y5) = G433 at hE ⊢
    refine w_zne (p3 := 63) rfl rfl (fun h => ?_) (fun h => ?_)
    · have h1 : ¬ G433 = 0 := h
      rw [if_neg h1] at hE
      refine w_n 4 (pc1 := 73) (ls1 := [some (.ref 67), some (.int x1), some (.int x2), some (.int y3), some (.int y4), some (.int y5), o6, o7, o8]) (st1 := [.int y5, .int y3, .ref 95]) (hp1 := (hz F A L)) rfl ?_
      refine w_as (k := 95) (l := (A 95)) (hp1 := (hz F (uA A 95 ((A 95).set y3.toInt.toNat y5)) L)) rfl rfl rfl (hz_s95 _) (fun _ => ?_)
      refine w_n 11 (pc1 := 47) (ls1 := [some (.ref 67), some (.int x1), some (.int x2), some (.int (y3 + 1)), some (.int (y4 * (F 67 3))), some (.int (y5 + 1)), o6, o7, o8]) (st1 := []) (hp1 := (hz F (uA A 95 ((A 95).set y3.toInt.toNat y5)) L)) rfl ?_
      subst T
      have hb2 := i_up (B := (12 : Int32)) hb
      have hb3 : y5.toInt < 12 := hb
      exact ih (show m = (12 - (y5 + 1).toInt).toNat by rw [hb2]; omega) (fun q5 => cvE rfl (funext fun q => if k0 : q = 95 then by subst k0; exact Eq.trans (b := (km_sure_47 (F 67 3) x1 m (y3 + 1) (y4 * (F 67 3)) (y5 + 1) ((A 95).set y3.toInt.toNat y5)).2.2) rfl rfl else by unfold uA; simp only [nb1 k0, cond_false]) rfl (K q5))
    · have h1 : G433 = 0 := h
      rw [if_pos h1] at hE
      refine w_n 3 (pc1 := 47) (ls1 := [some (.ref 67), some (.int x1), some (.int x2), some (.int y3), some (.int y4), some (.int (y5 + 1)), o6, o7, o8]) (st1 := []) (hp1 := (hz F A L)) rfl ?_
      subst T
      have hb2 := i_up (B := (12 : Int32)) hb
      have hb3 : y5.toInt < 12 := hb
      exact ih (show m = (12 - (y5 + 1).toInt).toNat by rw [hb2]; omega) (fun q5 => cvE rfl (funext fun q => if k0 : q = 95 then by subst k0; exact Eq.trans (b := (km_sure_47 (F 67 3) x1 m y3 y4 (y5 + 1) (A 95)).2.2) rfl rfl else by unfold uA; simp only [nb1 k0, cond_false]) rfl (K q5))
