/-! lifts, printed by genlift.py: 6 -/
noncomputable def km_runsOff_99  (x1 : Int32) : Nat → Int32 → Int32
  | 0, y2 => y2
  | m + 1, y2 => (if (km_has x1 y2) = 0 then (km_runsOff_99 x1 m (y2 + 1)) else y2)
theorem t_km_runsOff_99 {f : Nat} {Q : Option Value → sm_H → Prop} : ∀ (m : Nat) (B : Nat) {D : Nat} {F : Nat → Nat → Int32} {A : Nat → List Int32} {L : Nat → List Int64} {x1 : Int32} {y2 : Int32} {o3 : Option Value} {o4 : Option Value}, B ≤ m → (wl_E f B D mm210.2.2.2.2.2.2.2.2 114 [some (.ref 67), some (.int x1), some (.int (km_runsOff_99 x1 m y2)), o3, o4] [] (hz F A L) Q) → wl_E f B D mm210.2.2.2.2.2.2.2.2 99 [some (.ref 67), some (.int x1), some (.int y2), o3, o4] [] (hz F A L) Q := by
  intro m
  induction m with
  | zero =>
    intro B D F A L x1 y2 o3 o4 hm K
    rw [show B = 0 by omega]
    exact w_0
  | succ m ih =>
    intro B D F A L x1 y2 o3 o4 hm K
    cases B with
    | zero => exact w_0
    | succ B =>
      generalize hT : (km_runsOff_99 x1 (m + 1) y2) = T at K
      have hE : T = (if (km_has x1 y2) = 0 then (km_runsOff_99 x1 m (y2 + 1)) else y2) := hT.symm
      clear hT
      refine w_n1 (pc1 := 100) (ls1 := [some (.ref 67), some (.int x1), some (.int y2), o3, o4]) (st1 := [.int x1]) (hp1 := (hz F A L)) rfl ?_
      refine w_n 1 (pc1 := 101) (ls1 := [some (.ref 67), some (.int x1), some (.int y2), o3, o4]) (st1 := [.int y2, .int x1]) (hp1 := (hz F A L)) rfl ?_
      refine w_c rfl rfl (t_km_has ?_)
      show wl_E f _ _ mm210.2.2.2.2.2.2.2.2 104 [some (.ref 67), some (.int x1), some (.int y2), o3, o4] [.int (km_has x1 y2)] (hz F A L) _
      generalize hG180 : (km_has x1 y2) = G180 at hE ⊢
      refine w_zne (p3 := 107) rfl rfl (fun h => ?_) (fun h => ?_)
      · have h1 : ¬ G180 = 0 := h
        rw [if_neg h1] at hE
        subst T
        exact cvE rfl rfl rfl (wl_le (Nat.le_succ _) (K))
      · have h1 : G180 = 0 := h
        rw [if_pos h1] at hE
        refine w_n 5 (pc1 := 99) (ls1 := [some (.ref 67), some (.int x1), some (.int (y2 + 1)), o3, o4]) (st1 := []) (hp1 := (hz F A L)) rfl ?_
        subst T
        exact ih _ (by omega) (cvE rfl rfl rfl (wl_le (Nat.le_succ _) (K)))
noncomputable def km_runsOff (f : Nat) (f67_3 : Int32) (a68 : List Int32) (a87 : List Int32) (a89 : List Int32) : Int32 × List Int32 × List Int32 := ((km_runsOff_99 (km_runsOff_7 f67_3 a68 ((f67_3 - 1).toInt).toNat (km_allMeasures f67_3) 0 a87 a89).1 f 0), (km_runsOff_7 f67_3 a68 ((f67_3 - 1).toInt).toNat (km_allMeasures f67_3) 0 a87 a89).2.1, (km_runsOff_7 f67_3 a68 ((f67_3 - 1).toInt).toNat (km_allMeasures f67_3) 0 a87 a89).2.2)
theorem t_km_runsOff {f D : Nat} {F : Nat → Nat → Int32} {A : Nat → List Int32} {L : Nat → List Int64} {Q : Option Value → sm_H → Prop} (K : Q (some (.int ((km_runsOff f (F 67 3) (A 68) (A 87) (A 89)).1))) (hz F (uA (uA A 87 ((km_runsOff f (F 67 3) (A 68) (A 87) (A 89)).2.1)) 89 ((km_runsOff f (F 67 3) (A 68) (A 87) (A 89)).2.2)) L)) : wl_M f D 210 [.ref 67] (hz F A L) Q := by
  generalize hT : (km_runsOff f (F 67 3) (A 68) (A 87) (A 89)) = T at K
  have hE : T = ((km_runsOff_99 (km_runsOff_7 (F 67 3) (A 68) (((F 67 3) - 1).toInt).toNat (km_allMeasures (F 67 3)) 0 (A 87) (A 89)).1 f 0), (km_runsOff_7 (F 67 3) (A 68) (((F 67 3) - 1).toInt).toNat (km_allMeasures (F 67 3)) 0 (A 87) (A 89)).2.1, (km_runsOff_7 (F 67 3) (A 68) (((F 67 3) - 1).toInt).toNat (km_allMeasures (F 67 3)) 0 (A 87) (A 89)).2.2) := hT.symm
  clear hT
  refine w_m (E := mm210) rfl ?_
  show wl_E f f (D - 1) mm210.2.2.2.2.2.2.2.2 0 [some (.ref 67), none, none, none, none] [] (hz F A L) Q
  refine w_n 1 (pc1 := 1) (ls1 := [some (.ref 67), none, none, none, none]) (st1 := [.ref 67]) (hp1 := (hz F A L)) rfl ?_
  refine w_c rfl rfl (t_km_allMeasures ?_)
  show wl_E f _ _ mm210.2.2.2.2.2.2.2.2 4 [some (.ref 67), none, none, none, none] [.int (km_allMeasures (F 67 3))] (hz F A L) _
  generalize hG175 : (km_allMeasures (F 67 3)) = G175 at hE ⊢
  refine w_n 3 (pc1 := 7) (ls1 := [some (.ref 67), some (.int G175), some (.int 0), none, none]) (st1 := []) (hp1 := (hz F A L)) rfl ?_
  refine t_km_runsOff_7 ((((F 67 3) - 1).toInt).toNat) (show (((F 67 3) - 1).toInt).toNat = (((F 67 3) - 1).toInt - (0 : Int32).toInt).toNat by have e0 : (0 : Int32).toInt = 0 := rfl; first | rfl | omega) ?_
  intro r1 r2 r3
  show wl_E f _ _ mm210.2.2.2.2.2.2.2.2 97 [some (.ref 67), some (.int (km_runsOff_7 (F 67 3) (A 68) (((F 67 3) - 1).toInt).toNat G175 0 (A 87) (A 89)).1), some (.int r1), r2, r3] [] (hz F (uA (uA A 87 (km_runsOff_7 (F 67 3) (A 68) (((F 67 3) - 1).toInt).toNat G175 0 (A 87) (A 89)).2.1) 89 (km_runsOff_7 (F 67 3) (A 68) (((F 67 3) - 1).toInt).toNat G175 0 (A 87) (A 89)).2.2) L) _
  generalize hG179 : (km_runsOff_7 (F 67 3) (A 68) (((F 67 3) - 1).toInt).toNat G175 0 (A 87) (A 89)) = G179 at hE ⊢
  refine w_n 2 (pc1 := 99) (ls1 := [some (.ref 67), some (.int G179.1), some (.int 0), r2, r3]) (st1 := []) (hp1 := (hz F (uA (uA A 87 G179.2.1) 89 G179.2.2) L)) rfl ?_
  refine t_km_runsOff_99 f _ (Nat.le_refl _) ?_
  show wl_E f _ _ mm210.2.2.2.2.2.2.2.2 114 [some (.ref 67), some (.int G179.1), some (.int (km_runsOff_99 G179.1 f 0)), r2, r3] [] (hz F (uA (uA A 87 G179.2.1) 89 G179.2.2) L) _
  generalize hG181 : (km_runsOff_99 G179.1 f 0) = G181 at hE ⊢
  refine w_n 1 (pc1 := 115) (ls1 := [some (.ref 67), some (.int G179.1), some (.int G181), r2, r3]) (st1 := [.int G181]) (hp1 := (hz F (uA (uA A 87 G179.2.1) 89 G179.2.2) L)) rfl ?_
  subst T
  exact w_ri rfl (cvQ rfl rfl rfl K)
noncomputable def km_runOff (f : Nat) (f67_3 : Int32) (a68 : List Int32) (a87 : List Int32) (a89 : List Int32) (x1 : Int32) : Int32 × List Int32 × List Int32 := (if x1 = 10 then ((km_runsOff f f67_3 a68 a87 a89).1, (km_runsOff f f67_3 a68 a87 a89).2.1, (km_runsOff f f67_3 a68 a87 a89).2.2) else (if (km_in x1 0 (f67_3 - 2)) = 0 then ((-1), a87, a89) else (((km_runsOff f f67_3 a68 a87 a89).2.2.getD x1.toInt.toNat 0), (km_runsOff f f67_3 a68 a87 a89).2.1, (km_runsOff f f67_3 a68 a87 a89).2.2)))
theorem t_km_runOff {f D : Nat} {F : Nat → Nat → Int32} {A : Nat → List Int32} {L : Nat → List Int64} {Q : Option Value → sm_H → Prop} {x1 : Int32} (K : Q (some (.int ((km_runOff f (F 67 3) (A 68) (A 87) (A 89) x1).1))) (hz F (uA (uA A 87 ((km_runOff f (F 67 3) (A 68) (A 87) (A 89) x1).2.1)) 89 ((km_runOff f (F 67 3) (A 68) (A 87) (A 89) x1).2.2)) L)) : wl_M f D 209 [.ref 67, .int x1] (hz F A L) Q := by
  generalize hT : (km_runOff f (F 67 3) (A 68) (A 87) (A 89) x1) = T at K
  have hE : T = (if x1 = 10 then ((km_runsOff f (F 67 3) (A 68) (A 87) (A 89)).1, (km_runsOff f (F 67 3) (A 68) (A 87) (A 89)).2.1, (km_runsOff f (F 67 3) (A 68) (A 87) (A 89)).2.2) else (if (km_in x1 0 ((F 67 3) - 2)) = 0 then ((-1), (A 87), (A 89)) else (((km_runsOff f (F 67 3) (A 68) (A 87) (A 89)).2.2.getD x1.toInt.toNat 0), (km_runsOff f (F 67 3) (A 68) (A 87) (A 89)).2.1, (km_runsOff f (F 67 3) (A 68) (A 87) (A 89)).2.2))) := hT.symm
  clear hT
  refine w_m (E := mm209) rfl ?_
  show wl_E f f (D - 1) mm209.2.2.2.2.2.2.2.2 0 [some (.ref 67), some (.int x1), none] [] (hz F A L) Q
  refine w_n 2 (pc1 := 3) (ls1 := [some (.ref 67), some (.int x1), none]) (st1 := [.int 10, .int x1]) (hp1 := (hz F A L)) rfl ?_
  refine w_eq (p3 := 6) rfl rfl (fun h => ?_) (fun h => ?_)
  · have h1 : x1 = 10 := h
    rw [if_pos h1] at hE
    refine w_n 1 (pc1 := 23) (ls1 := [some (.ref 67), some (.int x1), none]) (st1 := [.ref 67]) (hp1 := (hz F A L)) rfl ?_
    refine w_c rfl rfl (t_km_runsOff ?_)
    show wl_E f _ _ mm209.2.2.2.2.2.2.2.2 26 [some (.ref 67), some (.int x1), none] [.int (km_runsOff f (F 67 3) (A 68) (A 87) (A 89)).1] (hz F (uA (uA A 87 (km_runsOff f (F 67 3) (A 68) (A 87) (A 89)).2.1) 89 (km_runsOff f (F 67 3) (A 68) (A 87) (A 89)).2.2) L) _
    generalize hG182 : (km_runsOff f (F 67 3) (A 68) (A 87) (A 89)) = G182 at hE ⊢
    refine w_n 3 (pc1 := 30) (ls1 := [some (.ref 67), some (.int x1), some (.int G182.1)]) (st1 := [.int 10, .int x1]) (hp1 := (hz F (uA (uA A 87 G182.2.1) 89 G182.2.2) L)) rfl ?_
    refine w_ne (p3 := 33) rfl rfl (fun h => absurd h1 h) (fun _ => ?_)
    refine w_n 2 (pc1 := 43) (ls1 := [some (.ref 67), some (.int x1), some (.int G182.1)]) (st1 := [.int G182.1]) (hp1 := (hz F (uA (uA A 87 G182.2.1) 89 G182.2.2) L)) rfl ?_
    subst T
    exact w_ri rfl (cvQ rfl rfl rfl K)
  · have h1 : ¬ x1 = 10 := h
    rw [if_neg h1] at hE
    refine w_n 6 (pc1 := 14) (ls1 := [some (.ref 67), some (.int x1), none]) (st1 := [.int ((F 67 3) - 2), .int 0, .int x1]) (hp1 := (hz F A L)) rfl ?_
    refine w_c rfl rfl (t_km_in ?_)
    show wl_E f _ _ mm209.2.2.2.2.2.2.2.2 17 [some (.ref 67), some (.int x1), none] [.int (km_in x1 0 ((F 67 3) - 2))] (hz F A L) _
    generalize hG183 : (km_in x1 0 ((F 67 3) - 2)) = G183 at hE ⊢
    refine w_zne (p3 := 20) rfl rfl (fun h => ?_) (fun h => ?_)
    · have h2 : ¬ G183 = 0 := h
      rw [if_neg h2] at hE
      refine w_n 1 (pc1 := 23) (ls1 := [some (.ref 67), some (.int x1), none]) (st1 := [.ref 67]) (hp1 := (hz F A L)) rfl ?_
      refine w_c rfl rfl (t_km_runsOff ?_)
      show wl_E f _ _ mm209.2.2.2.2.2.2.2.2 26 [some (.ref 67), some (.int x1), none] [.int (km_runsOff f (F 67 3) (A 68) (A 87) (A 89)).1] (hz F (uA (uA A 87 (km_runsOff f (F 67 3) (A 68) (A 87) (A 89)).2.1) 89 (km_runsOff f (F 67 3) (A 68) (A 87) (A 89)).2.2) L) _
      generalize hG184 : (km_runsOff f (F 67 3) (A 68) (A 87) (A 89)) = G184 at hE ⊢
      refine w_n 3 (pc1 := 30) (ls1 := [some (.ref 67), some (.int x1), some (.int G184.1)]) (st1 := [.int 10, .int x1]) (hp1 := (hz F (uA (uA A 87 G184.2.1) 89 G184.2.2) L)) rfl ?_
      refine w_ne (p3 := 33) rfl rfl (fun _ => ?_) (fun h => absurd h h1)
      refine w_n 3 (pc1 := 42) (ls1 := [some (.ref 67), some (.int x1), some (.int G184.1)]) (st1 := [.int x1, .ref 89]) (hp1 := (hz F (uA (uA A 87 G184.2.1) 89 G184.2.2) L)) rfl ?_
      refine w_al (k := 89) (l := G184.2.2) rfl rfl rfl (fun _ => ?_)
      subst T
      exact w_ri rfl (cvQ rfl rfl rfl K)
    · have h2 : G183 = 0 := h
      rw [if_pos h2] at hE
      refine w_n 1 (pc1 := 21) (ls1 := [some (.ref 67), some (.int x1), none]) (st1 := [.int (-1)]) (hp1 := (hz F A L)) rfl ?_
      subst T
      exact w_ri rfl (cvQ rfl (funext fun q => if k0 : q = 87 then by subst k0; exact Eq.trans (b := (A 87)) rfl rfl else if k1 : q = 89 then by subst k1; exact Eq.trans (b := (A 89)) rfl rfl else by unfold uA; simp only [nb1 k0, nb1 k1, cond_false]) rfl K)
noncomputable def kv_fewestToWin_6 (f3_0 : Int32) (l11 : List Int64)  : Nat → Int32 → List Int32 → List Int32
  | 0, _, a41 => a41
  | m + 1, y2, a41 => (kv_fewestToWin_6 f3_0 l11 m (y2 + 1) (a41.set y2.toInt.toNat (kt_favourite f3_0 l11 y2 (kt_allMeasures f3_0))))
theorem t_kv_fewestToWin_6 {f : Nat} {Q : Option Value → sm_H → Prop} : ∀ (m : Nat) {B D : Nat} {F : Nat → Nat → Int32} {A : Nat → List Int32} {L : Nat → List Int64} {x1 : Int32} {y2 : Int32} {o3 : Option Value} {o4 : Option Value} {o5 : Option Value}, m = (12 - y2.toInt).toNat → (∀ q2 : Int32, wl_E f B D mm112.2.2.2.2.2.2.2.2 39 [some (.ref 30), some (.int x1), some (.int q2), o3, o4, o5] [] (hz F (uA A 41 (kv_fewestToWin_6 (F 3 0) (L 11) m y2 (A 41))) L) Q) → wl_E f B D mm112.2.2.2.2.2.2.2.2 6 [some (.ref 30), some (.int x1), some (.int y2), o3, o4, o5] [] (hz F A L) Q := by
  intro m
  induction m with
  | zero =>
    intro B D F A L x1 y2 o3 o4 o5 hm K
    generalize hT : (kv_fewestToWin_6 (F 3 0) (L 11) 0 y2 (A 41)) = T at K
    have hE : T = (A 41) := hT.symm
    clear hT
    refine w_n 2 (pc1 := 9) (ls1 := [some (.ref 30), some (.int x1), some (.int y2), o3, o4, o5]) (st1 := [.int 12, .int y2]) (hp1 := (hz F A L)) rfl ?_
    refine w_ge (p3 := 12) rfl rfl (fun hb => ?_) (fun h => False.elim (by have h : y2.toInt < 12 := h; omega))
    subst T
    exact cvE rfl (funext fun q => if k0 : q = 41 then by subst k0; exact Eq.trans (b := (A 41)) rfl rfl else by unfold uA; simp only [nb1 k0, cond_false]) rfl (K _)
  | succ m ih =>
    intro B D F A L x1 y2 o3 o4 o5 hm K
    generalize hT : (kv_fewestToWin_6 (F 3 0) (L 11) (m + 1) y2 (A 41)) = T at K
    have hE : T = (kv_fewestToWin_6 (F 3 0) (L 11) m (y2 + 1) ((A 41).set y2.toInt.toNat (kt_favourite (F 3 0) (L 11) y2 (kt_allMeasures (F 3 0))))) := hT.symm
    clear hT
    refine w_n 2 (pc1 := 9) (ls1 := [some (.ref 30), some (.int x1), some (.int y2), o3, o4, o5]) (st1 := [.int 12, .int y2]) (hp1 := (hz F A L)) rfl ?_
    refine w_ge (p3 := 12) rfl rfl (fun h => False.elim (by have h : 12 ≤ y2.toInt := h; omega)) (fun hb => ?_)
    refine w_n 8 (pc1 := 26) (ls1 := [some (.ref 30), some (.int x1), some (.int y2), o3, o4, o5]) (st1 := [.ref 3, .int y2, .ref 3, .int y2, .ref 41]) (hp1 := (hz F A L)) rfl ?_
    refine w_c rfl rfl (t_kt_allMeasures ?_)
    show wl_E f _ _ mm112.2.2.2.2.2.2.2.2 29 [some (.ref 30), some (.int x1), some (.int y2), o3, o4, o5] [.int (kt_allMeasures (F 3 0)), .int y2, .ref 3, .int y2, .ref 41] (hz F A L) _
    generalize hG188 : (kt_allMeasures (F 3 0)) = G188 at hE ⊢
    refine w_c rfl rfl (t_kt_favourite ?_)
    show wl_E f _ _ mm112.2.2.2.2.2.2.2.2 32 [some (.ref 30), some (.int x1), some (.int y2), o3, o4, o5] [.int (kt_favourite (F 3 0) (L 11) y2 G188), .int y2, .ref 41] (hz F A L) _
    generalize hG189 : (kt_favourite (F 3 0) (L 11) y2 G188) = G189 at hE ⊢
    refine w_as (k := 41) (l := (A 41)) (hp1 := (hz F (uA A 41 ((A 41).set y2.toInt.toNat G189)) L)) rfl rfl rfl (hz_s41 _) (fun ab => ?_)
    refine w_n 2 (pc1 := 6) (ls1 := [some (.ref 30), some (.int x1), some (.int (y2 + 1)), o3, o4, o5]) (st1 := []) (hp1 := (hz F (uA A 41 ((A 41).set y2.toInt.toNat G189)) L)) rfl ?_
    subst T
    have hb2 := i_up (B := (12 : Int32)) hb
    have hb3 : y2.toInt < 12 := hb
    exact ih (show m = (12 - (y2 + 1).toInt).toNat by rw [hb2]; omega) (fun q2 => cvE rfl (funext fun q => if k0 : q = 41 then by subst k0; exact Eq.trans (b := (kv_fewestToWin_6 (F 3 0) (L 11) m (y2 + 1) ((A 41).set y2.toInt.toNat G189))) rfl rfl else by unfold uA; simp only [nb1 k0, cond_false]) rfl (K q2))
noncomputable def kji_bitCount (x0 : Int32) : Int32 := ((((((((x0 - (((x0.toUInt32 >>> ((1 : Int32).toUInt32 &&& Int32.toUInt32 31)).toInt32) &&& 1431655765)) &&& 858993459) + ((((x0 - (((x0.toUInt32 >>> ((1 : Int32).toUInt32 &&& Int32.toUInt32 31)).toInt32) &&& 1431655765)).toUInt32 >>> ((2 : Int32).toUInt32 &&& Int32.toUInt32 31)).toInt32) &&& 858993459)) + (((((x0 - (((x0.toUInt32 >>> ((1 : Int32).toUInt32 &&& Int32.toUInt32 31)).toInt32) &&& 1431655765)) &&& 858993459) + ((((x0 - (((x0.toUInt32 >>> ((1 : Int32).toUInt32 &&& Int32.toUInt32 31)).toInt32) &&& 1431655765)).toUInt32 >>> ((2 : Int32).toUInt32 &&& Int32.toUInt32 31)).toInt32) &&& 858993459)).toUInt32 >>> ((4 : Int32).toUInt32 &&& Int32.toUInt32 31)).toInt32)) &&& 252645135) + (((((((x0 - (((x0.toUInt32 >>> ((1 : Int32).toUInt32 &&& Int32.toUInt32 31)).toInt32) &&& 1431655765)) &&& 858993459) + ((((x0 - (((x0.toUInt32 >>> ((1 : Int32).toUInt32 &&& Int32.toUInt32 31)).toInt32) &&& 1431655765)).toUInt32 >>> ((2 : Int32).toUInt32 &&& Int32.toUInt32 31)).toInt32) &&& 858993459)) + (((((x0 - (((x0.toUInt32 >>> ((1 : Int32).toUInt32 &&& Int32.toUInt32 31)).toInt32) &&& 1431655765)) &&& 858993459) + ((((x0 - (((x0.toUInt32 >>> ((1 : Int32).toUInt32 &&& Int32.toUInt32 31)).toInt32) &&& 1431655765)).toUInt32 >>> ((2 : Int32).toUInt32 &&& Int32.toUInt32 31)).toInt32) &&& 858993459)).toUInt32 >>> ((4 : Int32).toUInt32 &&& Int32.toUInt32 31)).toInt32)) &&& 252645135).toUInt32 >>> ((8 : Int32).toUInt32 &&& Int32.toUInt32 31)).toInt32)) + ((((((((x0 - (((x0.toUInt32 >>> ((1 : Int32).toUInt32 &&& Int32.toUInt32 31)).toInt32) &&& 1431655765)) &&& 858993459) + ((((x0 - (((x0.toUInt32 >>> ((1 : Int32).toUInt32 &&& Int32.toUInt32 31)).toInt32) &&& 1431655765)).toUInt32 >>> ((2 : Int32).toUInt32 &&& Int32.toUInt32 31)).toInt32) &&& 858993459)) + (((((x0 - (((x0.toUInt32 >>> ((1 : Int32).toUInt32 &&& Int32.toUInt32 31)).toInt32) &&& 1431655765)) &&& 858993459) + ((((x0 - (((x0.toUInt32 >>> ((1 : Int32).toUInt32 &&& Int32.toUInt32 31)).toInt32) &&& 1431655765)).toUInt32 >>> ((2 : Int32).toUInt32 &&& Int32.toUInt32 31)).toInt32) &&& 858993459)).toUInt32 >>> ((4 : Int32).toUInt32 &&& Int32.toUInt32 31)).toInt32)) &&& 252645135) + (((((((x0 - (((x0.toUInt32 >>> ((1 : Int32).toUInt32 &&& Int32.toUInt32 31)).toInt32) &&& 1431655765)) &&& 858993459) + ((((x0 - (((x0.toUInt32 >>> ((1 : Int32).toUInt32 &&& Int32.toUInt32 31)).toInt32) &&& 1431655765)).toUInt32 >>> ((2 : Int32).toUInt32 &&& Int32.toUInt32 31)).toInt32) &&& 858993459)) + (((((x0 - (((x0.toUInt32 >>> ((1 : Int32).toUInt32 &&& Int32.toUInt32 31)).toInt32) &&& 1431655765)) &&& 858993459) + ((((x0 - (((x0.toUInt32 >>> ((1 : Int32).toUInt32 &&& Int32.toUInt32 31)).toInt32) &&& 1431655765)).toUInt32 >>> ((2 : Int32).toUInt32 &&& Int32.toUInt32 31)).toInt32) &&& 858993459)).toUInt32 >>> ((4 : Int32).toUInt32 &&& Int32.toUInt32 31)).toInt32)) &&& 252645135).toUInt32 >>> ((8 : Int32).toUInt32 &&& Int32.toUInt32 31)).toInt32)).toUInt32 >>> ((16 : Int32).toUInt32 &&& Int32.toUInt32 31)).toInt32)) &&& 63)
theorem t_kji_bitCount {f D : Nat} {F : Nat → Nat → Int32} {A : Nat → List Int32} {L : Nat → List Int64} {Q : Option Value → sm_H → Prop} {x0 : Int32} (K : Q (some (.int (kji_bitCount x0))) (hz F A L)) : wl_M f D 72 [.int x0] (hz F A L) Q := by
  generalize hT : (kji_bitCount x0) = T at K
  have hE : T = ((((((((x0 - (((x0.toUInt32 >>> ((1 : Int32).toUInt32 &&& Int32.toUInt32 31)).toInt32) &&& 1431655765)) &&& 858993459) + ((((x0 - (((x0.toUInt32 >>> ((1 : Int32).toUInt32 &&& Int32.toUInt32 31)).toInt32) &&& 1431655765)).toUInt32 >>> ((2 : Int32).toUInt32 &&& Int32.toUInt32 31)).toInt32) &&& 858993459)) + (((((x0 - (((x0.toUInt32 >>> ((1 : Int32).toUInt32 &&& Int32.toUInt32 31)).toInt32) &&& 1431655765)) &&& 858993459) + ((((x0 - (((x0.toUInt32 >>> ((1 : Int32).toUInt32 &&& Int32.toUInt32 31)).toInt32) &&& 1431655765)).toUInt32 >>> ((2 : Int32).toUInt32 &&& Int32.toUInt32 31)).toInt32) &&& 858993459)).toUInt32 >>> ((4 : Int32).toUInt32 &&& Int32.toUInt32 31)).toInt32)) &&& 252645135) + (((((((x0 - (((x0.toUInt32 >>> ((1 : Int32).toUInt32 &&& Int32.toUInt32 31)).toInt32) &&& 1431655765)) &&& 858993459) + ((((x0 - (((x0.toUInt32 >>> ((1 : Int32).toUInt32 &&& Int32.toUInt32 31)).toInt32) &&& 1431655765)).toUInt32 >>> ((2 : Int32).toUInt32 &&& Int32.toUInt32 31)).toInt32) &&& 858993459)) + (((((x0 - (((x0.toUInt32 >>> ((1 : Int32).toUInt32 &&& Int32.toUInt32 31)).toInt32) &&& 1431655765)) &&& 858993459) + ((((x0 - (((x0.toUInt32 >>> ((1 : Int32).toUInt32 &&& Int32.toUInt32 31)).toInt32) &&& 1431655765)).toUInt32 >>> ((2 : Int32).toUInt32 &&& Int32.toUInt32 31)).toInt32) &&& 858993459)).toUInt32 >>> ((4 : Int32).toUInt32 &&& Int32.toUInt32 31)).toInt32)) &&& 252645135).toUInt32 >>> ((8 : Int32).toUInt32 &&& Int32.toUInt32 31)).toInt32)) + ((((((((x0 - (((x0.toUInt32 >>> ((1 : Int32).toUInt32 &&& Int32.toUInt32 31)).toInt32) &&& 1431655765)) &&& 858993459) + ((((x0 - (((x0.toUInt32 >>> ((1 : Int32).toUInt32 &&& Int32.toUInt32 31)).toInt32) &&& 1431655765)).toUInt32 >>> ((2 : Int32).toUInt32 &&& Int32.toUInt32 31)).toInt32) &&& 858993459)) + (((((x0 - (((x0.toUInt32 >>> ((1 : Int32).toUInt32 &&& Int32.toUInt32 31)).toInt32) &&& 1431655765)) &&& 858993459) + ((((x0 - (((x0.toUInt32 >>> ((1 : Int32).toUInt32 &&& Int32.toUInt32 31)).toInt32) &&& 1431655765)).toUInt32 >>> ((2 : Int32).toUInt32 &&& Int32.toUInt32 31)).toInt32) &&& 858993459)).toUInt32 >>> ((4 : Int32).toUInt32 &&& Int32.toUInt32 31)).toInt32)) &&& 252645135) + (((((((x0 - (((x0.toUInt32 >>> ((1 : Int32).toUInt32 &&& Int32.toUInt32 31)).toInt32) &&& 1431655765)) &&& 858993459) + ((((x0 - (((x0.toUInt32 >>> ((1 : Int32).toUInt32 &&& Int32.toUInt32 31)).toInt32) &&& 1431655765)).toUInt32 >>> ((2 : Int32).toUInt32 &&& Int32.toUInt32 31)).toInt32) &&& 858993459)) + (((((x0 - (((x0.toUInt32 >>> ((1 : Int32).toUInt32 &&& Int32.toUInt32 31)).toInt32) &&& 1431655765)) &&& 858993459) + ((((x0 - (((x0.toUInt32 >>> ((1 : Int32).toUInt32 &&& Int32.toUInt32 31)).toInt32) &&& 1431655765)).toUInt32 >>> ((2 : Int32).toUInt32 &&& Int32.toUInt32 31)).toInt32) &&& 858993459)).toUInt32 >>> ((4 : Int32).toUInt32 &&& Int32.toUInt32 31)).toInt32)) &&& 252645135).toUInt32 >>> ((8 : Int32).toUInt32 &&& Int32.toUInt32 31)).toInt32)).toUInt32 >>> ((16 : Int32).toUInt32 &&& Int32.toUInt32 31)).toInt32)) &&& 63) := hT.symm
  clear hT
  refine w_m (E := mm72) rfl ?_
  show wl_E f f (D - 1) mm72.2.2.2.2.2.2.2.2 0 [some (.int x0)] [] (hz F A L) Q
  refine w_n 41 (pc1 := 52) (ls1 := [some (.int (((((((x0 - (((x0.toUInt32 >>> ((1 : Int32).toUInt32 &&& Int32.toUInt32 31)).toInt32) &&& 1431655765)) &&& 858993459) + ((((x0 - (((x0.toUInt32 >>> ((1 : Int32).toUInt32 &&& Int32.toUInt32 31)).toInt32) &&& 1431655765)).toUInt32 >>> ((2 : Int32).toUInt32 &&& Int32.toUInt32 31)).toInt32) &&& 858993459)) + (((((x0 - (((x0.toUInt32 >>> ((1 : Int32).toUInt32 &&& Int32.toUInt32 31)).toInt32) &&& 1431655765)) &&& 858993459) + ((((x0 - (((x0.toUInt32 >>> ((1 : Int32).toUInt32 &&& Int32.toUInt32 31)).toInt32) &&& 1431655765)).toUInt32 >>> ((2 : Int32).toUInt32 &&& Int32.toUInt32 31)).toInt32) &&& 858993459)).toUInt32 >>> ((4 : Int32).toUInt32 &&& Int32.toUInt32 31)).toInt32)) &&& 252645135) + (((((((x0 - (((x0.toUInt32 >>> ((1 : Int32).toUInt32 &&& Int32.toUInt32 31)).toInt32) &&& 1431655765)) &&& 858993459) + ((((x0 - (((x0.toUInt32 >>> ((1 : Int32).toUInt32 &&& Int32.toUInt32 31)).toInt32) &&& 1431655765)).toUInt32 >>> ((2 : Int32).toUInt32 &&& Int32.toUInt32 31)).toInt32) &&& 858993459)) + (((((x0 - (((x0.toUInt32 >>> ((1 : Int32).toUInt32 &&& Int32.toUInt32 31)).toInt32) &&& 1431655765)) &&& 858993459) + ((((x0 - (((x0.toUInt32 >>> ((1 : Int32).toUInt32 &&& Int32.toUInt32 31)).toInt32) &&& 1431655765)).toUInt32 >>> ((2 : Int32).toUInt32 &&& Int32.toUInt32 31)).toInt32) &&& 858993459)).toUInt32 >>> ((4 : Int32).toUInt32 &&& Int32.toUInt32 31)).toInt32)) &&& 252645135).toUInt32 >>> ((8 : Int32).toUInt32 &&& Int32.toUInt32 31)).toInt32)) + ((((((((x0 - (((x0.toUInt32 >>> ((1 : Int32).toUInt32 &&& Int32.toUInt32 31)).toInt32) &&& 1431655765)) &&& 858993459) + ((((x0 - (((x0.toUInt32 >>> ((1 : Int32).toUInt32 &&& Int32.toUInt32 31)).toInt32) &&& 1431655765)).toUInt32 >>> ((2 : Int32).toUInt32 &&& Int32.toUInt32 31)).toInt32) &&& 858993459)) + (((((x0 - (((x0.toUInt32 >>> ((1 : Int32).toUInt32 &&& Int32.toUInt32 31)).toInt32) &&& 1431655765)) &&& 858993459) + ((((x0 - (((x0.toUInt32 >>> ((1 : Int32).toUInt32 &&& Int32.toUInt32 31)).toInt32) &&& 1431655765)).toUInt32 >>> ((2 : Int32).toUInt32 &&& Int32.toUInt32 31)).toInt32) &&& 858993459)).toUInt32 >>> ((4 : Int32).toUInt32 &&& Int32.toUInt32 31)).toInt32)) &&& 252645135) + (((((((x0 - (((x0.toUInt32 >>> ((1 : Int32).toUInt32 &&& Int32.toUInt32 31)).toInt32) &&& 1431655765)) &&& 858993459) + ((((x0 - (((x0.toUInt32 >>> ((1 : Int32).toUInt32 &&& Int32.toUInt32 31)).toInt32) &&& 1431655765)).toUInt32 >>> ((2 : Int32).toUInt32 &&& Int32.toUInt32 31)).toInt32) &&& 858993459)) + (((((x0 - (((x0.toUInt32 >>> ((1 : Int32).toUInt32 &&& Int32.toUInt32 31)).toInt32) &&& 1431655765)) &&& 858993459) + ((((x0 - (((x0.toUInt32 >>> ((1 : Int32).toUInt32 &&& Int32.toUInt32 31)).toInt32) &&& 1431655765)).toUInt32 >>> ((2 : Int32).toUInt32 &&& Int32.toUInt32 31)).toInt32) &&& 858993459)).toUInt32 >>> ((4 : Int32).toUInt32 &&& Int32.toUInt32 31)).toInt32)) &&& 252645135).toUInt32 >>> ((8 : Int32).toUInt32 &&& Int32.toUInt32 31)).toInt32)).toUInt32 >>> ((16 : Int32).toUInt32 &&& Int32.toUInt32 31)).toInt32)))]) (st1 := [.int ((((((((x0 - (((x0.toUInt32 >>> ((1 : Int32).toUInt32 &&& Int32.toUInt32 31)).toInt32) &&& 1431655765)) &&& 858993459) + ((((x0 - (((x0.toUInt32 >>> ((1 : Int32).toUInt32 &&& Int32.toUInt32 31)).toInt32) &&& 1431655765)).toUInt32 >>> ((2 : Int32).toUInt32 &&& Int32.toUInt32 31)).toInt32) &&& 858993459)) + (((((x0 - (((x0.toUInt32 >>> ((1 : Int32).toUInt32 &&& Int32.toUInt32 31)).toInt32) &&& 1431655765)) &&& 858993459) + ((((x0 - (((x0.toUInt32 >>> ((1 : Int32).toUInt32 &&& Int32.toUInt32 31)).toInt32) &&& 1431655765)).toUInt32 >>> ((2 : Int32).toUInt32 &&& Int32.toUInt32 31)).toInt32) &&& 858993459)).toUInt32 >>> ((4 : Int32).toUInt32 &&& Int32.toUInt32 31)).toInt32)) &&& 252645135) + (((((((x0 - (((x0.toUInt32 >>> ((1 : Int32).toUInt32 &&& Int32.toUInt32 31)).toInt32) &&& 1431655765)) &&& 858993459) + ((((x0 - (((x0.toUInt32 >>> ((1 : Int32).toUInt32 &&& Int32.toUInt32 31)).toInt32) &&& 1431655765)).toUInt32 >>> ((2 : Int32).toUInt32 &&& Int32.toUInt32 31)).toInt32) &&& 858993459)) + (((((x0 - (((x0.toUInt32 >>> ((1 : Int32).toUInt32 &&& Int32.toUInt32 31)).toInt32) &&& 1431655765)) &&& 858993459) + ((((x0 - (((x0.toUInt32 >>> ((1 : Int32).toUInt32 &&& Int32.toUInt32 31)).toInt32) &&& 1431655765)).toUInt32 >>> ((2 : Int32).toUInt32 &&& Int32.toUInt32 31)).toInt32) &&& 858993459)).toUInt32 >>> ((4 : Int32).toUInt32 &&& Int32.toUInt32 31)).toInt32)) &&& 252645135).toUInt32 >>> ((8 : Int32).toUInt32 &&& Int32.toUInt32 31)).toInt32)) + ((((((((x0 - (((x0.toUInt32 >>> ((1 : Int32).toUInt32 &&& Int32.toUInt32 31)).toInt32) &&& 1431655765)) &&& 858993459) + ((((x0 - (((x0.toUInt32 >>> ((1 : Int32).toUInt32 &&& Int32.toUInt32 31)).toInt32) &&& 1431655765)).toUInt32 >>> ((2 : Int32).toUInt32 &&& Int32.toUInt32 31)).toInt32) &&& 858993459)) + (((((x0 - (((x0.toUInt32 >>> ((1 : Int32).toUInt32 &&& Int32.toUInt32 31)).toInt32) &&& 1431655765)) &&& 858993459) + ((((x0 - (((x0.toUInt32 >>> ((1 : Int32).toUInt32 &&& Int32.toUInt32 31)).toInt32) &&& 1431655765)).toUInt32 >>> ((2 : Int32).toUInt32 &&& Int32.toUInt32 31)).toInt32) &&& 858993459)).toUInt32 >>> ((4 : Int32).toUInt32 &&& Int32.toUInt32 31)).toInt32)) &&& 252645135) + (((((((x0 - (((x0.toUInt32 >>> ((1 : Int32).toUInt32 &&& Int32.toUInt32 31)).toInt32) &&& 1431655765)) &&& 858993459) + ((((x0 - (((x0.toUInt32 >>> ((1 : Int32).toUInt32 &&& Int32.toUInt32 31)).toInt32) &&& 1431655765)).toUInt32 >>> ((2 : Int32).toUInt32 &&& Int32.toUInt32 31)).toInt32) &&& 858993459)) + (((((x0 - (((x0.toUInt32 >>> ((1 : Int32).toUInt32 &&& Int32.toUInt32 31)).toInt32) &&& 1431655765)) &&& 858993459) + ((((x0 - (((x0.toUInt32 >>> ((1 : Int32).toUInt32 &&& Int32.toUInt32 31)).toInt32) &&& 1431655765)).toUInt32 >>> ((2 : Int32).toUInt32 &&& Int32.toUInt32 31)).toInt32) &&& 858993459)).toUInt32 >>> ((4 : Int32).toUInt32 &&& Int32.toUInt32 31)).toInt32)) &&& 252645135).toUInt32 >>> ((8 : Int32).toUInt32 &&& Int32.toUInt32 31)).toInt32)).toUInt32 >>> ((16 : Int32).toUInt32 &&& Int32.toUInt32 31)).toInt32)) &&& 63)]) (hp1 := (hz F A L)) rfl ?_
  subst T
  exact w_ri rfl (cvQ rfl rfl rfl K)
noncomputable def kv_winsWith_17 (a6 : List Int32) (a41 : List Int32) (x1 : Int32) (x2 : Int32) : Nat → Int32 → List Int32 → List Int32
  | 0, _, a42 => a42
  | m + 1, y3, a42 => (if ((x2 >>> (y3 &&& 31)) &&& 1) = 0 then (kv_winsWith_17 a6 a41 x1 x2 m (y3 + 1) a42) else (if (a41.getD y3.toInt.toNat 0) = (-1) then (kv_winsWith_17 a6 a41 x1 x2 m (y3 + 1) a42) else (kv_winsWith_17 a6 a41 x1 x2 m (y3 + 1) ((a42.set (a41.getD y3.toInt.toNat 0).toInt.toNat ((a42.getD (a41.getD y3.toInt.toNat 0).toInt.toNat 0) - (a6.getD y3.toInt.toNat 0))).set x1.toInt.toNat (((a42.set (a41.getD y3.toInt.toNat 0).toInt.toNat ((a42.getD (a41.getD y3.toInt.toNat 0).toInt.toNat 0) - (a6.getD y3.toInt.toNat 0))).getD x1.toInt.toNat 0) + (a6.getD y3.toInt.toNat 0))))))
theorem t_kv_winsWith_17 {f : Nat} {Q : Option Value → sm_H → Prop} : ∀ (m : Nat) {B D : Nat} {F : Nat → Nat → Int32} {A : Nat → List Int32} {L : Nat → List Int64} {x1 : Int32} {x2 : Int32} {y3 : Int32}, m = (12 - y3.toInt).toNat → (∀ q3 : Int32, wl_E f B D mm113.2.2.2.2.2.2.2.2 91 [some (.ref 30), some (.int x1), some (.int x2), some (.int q3)] [] (hz F (uA A 42 (kv_winsWith_17 (A 6) (A 41) x1 x2 m y3 (A 42))) L) Q) → wl_E f B D mm113.2.2.2.2.2.2.2.2 17 [some (.ref 30), some (.int x1), some (.int x2), some (.int y3)] [] (hz F A L) Q := by
  intro m
  induction m with
  | zero =>
    intro B D F A L x1 x2 y3 hm K
    generalize hT : (kv_winsWith_17 (A 6) (A 41) x1 x2 0 y3 (A 42)) = T at K
    have hE : T = (A 42) := hT.symm
    clear hT
    refine w_n 2 (pc1 := 20) (ls1 := [some (.ref 30), some (.int x1), some (.int x2), some (.int y3)]) (st1 := [.int 12, .int y3]) (hp1 := (hz F A L)) rfl ?_
    refine w_ge (p3 := 23) rfl rfl (fun hb => ?_) (fun h => False.elim (by have h : y3.toInt < 12 := h; omega))
    subst T
    exact cvE rfl (funext fun q => if k0 : q = 42 then by subst k0; exact Eq.trans (b := (A 42)) rfl rfl else by unfold uA; simp only [nb1 k0, cond_false]) rfl (K _)
  | succ m ih =>
    intro B D F A L x1 x2 y3 hm K
    generalize hT : (kv_winsWith_17 (A 6) (A 41) x1 x2 (m + 1) y3 (A 42)) = T at K
    have hE : T = (if ((x2 >>> (y3 &&& 31)) &&& 1) = 0 then (kv_winsWith_17 (A 6) (A 41) x1 x2 m (y3 + 1) (A 42)) else (if ((A 41).getD y3.toInt.toNat 0) = (-1) then (kv_winsWith_17 (A 6) (A 41) x1 x2 m (y3 + 1) (A 42)) else (kv_winsWith_17 (A 6) (A 41) x1 x2 m (y3 + 1) (((A 42).set ((A 41).getD y3.toInt.toNat 0).toInt.toNat (((A 42).getD ((A 41).getD y3.toInt.toNat 0).toInt.toNat 0) - ((A 6).getD y3.toInt.toNat 0))).set x1.toInt.toNat ((((A 42).set ((A 41).getD y3.toInt.toNat 0).toInt.toNat (((A 42).getD ((A 41).getD y3.toInt.toNat 0).toInt.toNat 0) - ((A 6).getD y3.toInt.toNat 0))).getD x1.toInt.toNat 0) + ((A 6).getD y3.toInt.toNat 0)))))) := hT.symm
    clear hT
    refine w_n 2 (pc1 := 20) (ls1 := [some (.ref 30), some (.int x1), some (.int x2), some (.int y3)]) (st1 := [.int 12, .int y3]) (hp1 := (hz F A L)) rfl ?_
    refine w_ge (p3 := 23) rfl rfl (fun h => False.elim (by have h : 12 ≤ y3.toInt := h; omega)) (fun hb => ?_)
    refine w_n 5 (pc1 := 28) (ls1 := [some (.ref 30), some (.int x1), some (.int x2), some (.int y3)]) (st1 := [.int ((x2 >>> (y3 &&& 31)) &&& 1)]) (hp1 := (hz F A L)) rfl ?_
    refine w_zeq (p3 := 31) rfl rfl (fun h => ?_) (fun h => ?_)
    · have h1 : ((x2 >>> (y3 &&& 31)) &&& 1) = 0 := h
      rw [if_pos h1] at hE
      refine w_n 2 (pc1 := 17) (ls1 := [some (.ref 30), some (.int x1), some (.int x2), some (.int (y3 + 1))]) (st1 := []) (hp1 := (hz F A L)) rfl ?_
      subst T
      have hb2 := i_up (B := (12 : Int32)) hb
      have hb3 : y3.toInt < 12 := hb
      exact ih (show m = (12 - (y3 + 1).toInt).toNat by rw [hb2]; omega) (fun q3 => cvE rfl (funext fun q => if k0 : q = 42 then by subst k0; exact Eq.trans (b := (kv_winsWith_17 (A 6) (A 41) x1 x2 m (y3 + 1) (A 42))) rfl rfl else by unfold uA; simp only [nb1 k0, cond_false]) rfl (K q3))
    · have h1 : ¬ ((x2 >>> (y3 &&& 31)) &&& 1) = 0 := h
      rw [if_neg h1] at hE
      refine w_n 3 (pc1 := 36) (ls1 := [some (.ref 30), some (.int x1), some (.int x2), some (.int y3)]) (st1 := [.int y3, .ref 41]) (hp1 := (hz F A L)) rfl ?_
      refine w_al (k := 41) (l := (A 41)) rfl rfl rfl (fun ab => ?_)
      refine w_n 1 (pc1 := 38) (ls1 := [some (.ref 30), some (.int x1), some (.int x2), some (.int y3)]) (st1 := [.int (-1), .int ((A 41).getD y3.toInt.toNat 0)]) (hp1 := (hz F A L)) rfl ?_
      refine w_ne (p3 := 41) rfl rfl (fun h => ?_) (fun h => ?_)
      · have h2 : ¬ ((A 41).getD y3.toInt.toNat 0) = (-1) := h
        rw [if_neg h2] at hE
        refine w_n 5 (pc1 := 53) (ls1 := [some (.ref 30), some (.int x1), some (.int x2), some (.int y3)]) (st1 := [.int y3, .ref 41, .ref 42]) (hp1 := (hz F A L)) rfl ?_
        refine w_al (k := 41) (l := (A 41)) rfl rfl rfl (fun ab => ?_)
        refine w_n 1 (pc1 := 55) (ls1 := [some (.ref 30), some (.int x1), some (.int x2), some (.int y3)]) (st1 := [.int ((A 41).getD y3.toInt.toNat 0), .ref 42, .int ((A 41).getD y3.toInt.toNat 0), .ref 42]) (hp1 := (hz F A L)) rfl ?_
        refine w_al (k := 42) (l := (A 42)) rfl rfl rfl (fun _ => ?_)
        refine w_n 4 (pc1 := 64) (ls1 := [some (.ref 30), some (.int x1), some (.int x2), some (.int y3)]) (st1 := [.int y3, .ref 6, .int ((A 42).getD ((A 41).getD y3.toInt.toNat 0).toInt.toNat 0), .int ((A 41).getD y3.toInt.toNat 0), .ref 42]) (hp1 := (hz F A L)) rfl ?_
        refine w_al (k := 6) (l := (A 6)) rfl rfl rfl (fun ab => ?_)
        refine w_n 1 (pc1 := 66) (ls1 := [some (.ref 30), some (.int x1), some (.int x2), some (.int y3)]) (st1 := [.int (((A 42).getD ((A 41).getD y3.toInt.toNat 0).toInt.toNat 0) - ((A 6).getD y3.toInt.toNat 0)), .int ((A 41).getD y3.toInt.toNat 0), .ref 42]) (hp1 := (hz F A L)) rfl ?_
        refine w_as (k := 42) (l := (A 42)) (hp1 := (hz F (uA A 42 ((A 42).set ((A 41).getD y3.toInt.toNat 0).toInt.toNat (((A 42).getD ((A 41).getD y3.toInt.toNat 0).toInt.toNat 0) - ((A 6).getD y3.toInt.toNat 0)))) L)) rfl rfl rfl (hz_s42 _) (fun _ => ?_)
        refine w_n 4 (pc1 := 73) (ls1 := [some (.ref 30), some (.int x1), some (.int x2), some (.int y3)]) (st1 := [.int x1, .ref 42, .int x1, .ref 42]) (hp1 := (hz F (uA A 42 ((A 42).set ((A 41).getD y3.toInt.toNat 0).toInt.toNat (((A 42).getD ((A 41).getD y3.toInt.toNat 0).toInt.toNat 0) - ((A 6).getD y3.toInt.toNat 0)))) L)) rfl ?_
        refine w_al (k := 42) (l := ((A 42).set ((A 41).getD y3.toInt.toNat 0).toInt.toNat (((A 42).getD ((A 41).getD y3.toInt.toNat 0).toInt.toNat 0) - ((A 6).getD y3.toInt.toNat 0)))) rfl rfl rfl (fun _ => ?_)
        refine w_n 4 (pc1 := 82) (ls1 := [some (.ref 30), some (.int x1), some (.int x2), some (.int y3)]) (st1 := [.int y3, .ref 6, .int (((A 42).set ((A 41).getD y3.toInt.toNat 0).toInt.toNat (((A 42).getD ((A 41).getD y3.toInt.toNat 0).toInt.toNat 0) - ((A 6).getD y3.toInt.toNat 0))).getD x1.toInt.toNat 0), .int x1, .ref 42]) (hp1 := (hz F (uA A 42 ((A 42).set ((A 41).getD y3.toInt.toNat 0).toInt.toNat (((A 42).getD ((A 41).getD y3.toInt.toNat 0).toInt.toNat 0) - ((A 6).getD y3.toInt.toNat 0)))) L)) rfl ?_
        refine w_al (k := 6) (l := (A 6)) rfl rfl rfl (fun ab => ?_)
        refine w_n 1 (pc1 := 84) (ls1 := [some (.ref 30), some (.int x1), some (.int x2), some (.int y3)]) (st1 := [.int ((((A 42).set ((A 41).getD y3.toInt.toNat 0).toInt.toNat (((A 42).getD ((A 41).getD y3.toInt.toNat 0).toInt.toNat 0) - ((A 6).getD y3.toInt.toNat 0))).getD x1.toInt.toNat 0) + ((A 6).getD y3.toInt.toNat 0)), .int x1, .ref 42]) (hp1 := (hz F (uA A 42 ((A 42).set ((A 41).getD y3.toInt.toNat 0).toInt.toNat (((A 42).getD ((A 41).getD y3.toInt.toNat 0).toInt.toNat 0) - ((A 6).getD y3.toInt.toNat 0)))) L)) rfl ?_
        refine w_as (k := 42) (l := ((A 42).set ((A 41).getD y3.toInt.toNat 0).toInt.toNat (((A 42).getD ((A 41).getD y3.toInt.toNat 0).toInt.toNat 0) - ((A 6).getD y3.toInt.toNat 0)))) (hp1 := (hz F (uA (uA A 42 ((A 42).set ((A 41).getD y3.toInt.toNat 0).toInt.toNat (((A 42).getD ((A 41).getD y3.toInt.toNat 0).toInt.toNat 0) - ((A 6).getD y3.toInt.toNat 0)))) 42 (((A 42).set ((A 41).getD y3.toInt.toNat 0).toInt.toNat (((A 42).getD ((A 41).getD y3.toInt.toNat 0).toInt.toNat 0) - ((A 6).getD y3.toInt.toNat 0))).set x1.toInt.toNat ((((A 42).set ((A 41).getD y3.toInt.toNat 0).toInt.toNat (((A 42).getD ((A 41).getD y3.toInt.toNat 0).toInt.toNat 0) - ((A 6).getD y3.toInt.toNat 0))).getD x1.toInt.toNat 0) + ((A 6).getD y3.toInt.toNat 0)))) L)) rfl rfl rfl (hz_s42 _) (fun _ => ?_)
        refine w_n 2 (pc1 := 17) (ls1 := [some (.ref 30), some (.int x1), some (.int x2), some (.int (y3 + 1))]) (st1 := []) (hp1 := (hz F (uA (uA A 42 ((A 42).set ((A 41).getD y3.toInt.toNat 0).toInt.toNat (((A 42).getD ((A 41).getD y3.toInt.toNat 0).toInt.toNat 0) - ((A 6).getD y3.toInt.toNat 0)))) 42 (((A 42).set ((A 41).getD y3.toInt.toNat 0).toInt.toNat (((A 42).getD ((A 41).getD y3.toInt.toNat 0).toInt.toNat 0) - ((A 6).getD y3.toInt.toNat 0))).set x1.toInt.toNat ((((A 42).set ((A 41).getD y3.toInt.toNat 0).toInt.toNat (((A 42).getD ((A 41).getD y3.toInt.toNat 0).toInt.toNat 0) - ((A 6).getD y3.toInt.toNat 0))).getD x1.toInt.toNat 0) + ((A 6).getD y3.toInt.toNat 0)))) L)) rfl ?_
        subst T
        have hb2 := i_up (B := (12 : Int32)) hb
        have hb3 : y3.toInt < 12 := hb
        exact ih (show m = (12 - (y3 + 1).toInt).toNat by rw [hb2]; omega) (fun q3 => cvE rfl (funext fun q => if k0 : q = 42 then by subst k0; exact Eq.trans (b := (kv_winsWith_17 (A 6) (A 41) x1 x2 m (y3 + 1) (((A 42).set ((A 41).getD y3.toInt.toNat 0).toInt.toNat (((A 42).getD ((A 41).getD y3.toInt.toNat 0).toInt.toNat 0) - ((A 6).getD y3.toInt.toNat 0))).set x1.toInt.toNat ((((A 42).set ((A 41).getD y3.toInt.toNat 0).toInt.toNat (((A 42).getD ((A 41).getD y3.toInt.toNat 0).toInt.toNat 0) - ((A 6).getD y3.toInt.toNat 0))).getD x1.toInt.toNat 0) + ((A 6).getD y3.toInt.toNat 0))))) rfl rfl else by unfold uA; simp only [nb1 k0, cond_false]) rfl (K q3))
      · have h2 : ((A 41).getD y3.toInt.toNat 0) = (-1) := h
        rw [if_pos h2] at hE
        refine w_n 3 (pc1 := 17) (ls1 := [some (.ref 30), some (.int x1), some (.int x2), some (.int (y3 + 1))]) (st1 := []) (hp1 := (hz F A L)) rfl ?_
        subst T
        have hb2 := i_up (B := (12 : Int32)) hb
        have hb3 : y3.toInt < 12 := hb
        exact ih (show m = (12 - (y3 + 1).toInt).toNat by rw [hb2]; omega) (fun q3 => cvE rfl (funext fun q => if k0 : q = 42 then by subst k0; exact Eq.trans (b := (kv_winsWith_17 (A 6) (A 41) x1 x2 m (y3 + 1) (A 42))) rfl rfl else by unfold uA; simp only [nb1 k0, cond_false]) rfl (K q3))
noncomputable def kv_winsWith_93 (a42 : List Int32) (x1 : Int32) : Nat → Int32 → Int32 × List Int32
  | 0, _ => (1, a42)
  | m + 1, y3 => (if y3 = x1 then (kv_winsWith_93 a42 x1 m (y3 + 1)) else (if (a42.getD y3.toInt.toNat 0).toInt < (a42.getD x1.toInt.toNat 0).toInt then (kv_winsWith_93 a42 x1 m (y3 + 1)) else (0, a42)))
theorem t_kv_winsWith_93 {f : Nat} {Q : Option Value → sm_H → Prop} : ∀ (m : Nat) {B D : Nat} {F : Nat → Nat → Int32} {A : Nat → List Int32} {L : Nat → List Int64} {x1 : Int32} {x2 : Int32} {y3 : Int32}, m = ((F 3 0).toInt - y3.toInt).toNat → (Q (some (.int ((kv_winsWith_93 (A 42) x1 m y3).1))) (hz F (uA A 42 ((kv_winsWith_93 (A 42) x1 m y3).2)) L)) → wl_E f B D mm113.2.2.2.2.2.2.2.2 93 [some (.ref 30), some (.int x1), some (.int x2), some (.int y3)] [] (hz F A L) Q := by
  intro m
  induction m with
  | zero =>
    intro B D F A L x1 x2 y3 hm K
    generalize hT : (kv_winsWith_93 (A 42) x1 0 y3) = T at K
    have hE : T = (1, (A 42)) := hT.symm
    clear hT
    refine w_n 4 (pc1 := 101) (ls1 := [some (.ref 30), some (.int x1), some (.int x2), some (.int y3)]) (st1 := [.int (F 3 0), .int y3]) (hp1 := (hz F A L)) rfl ?_
    refine w_ge (p3 := 104) rfl rfl (fun hb => ?_) (fun h => False.elim (by have h : y3.toInt < (F 3 0).toInt := h; omega))
    refine w_n 1 (pc1 := 133) (ls1 := [some (.ref 30), some (.int x1), some (.int x2), some (.int y3)]) (st1 := [.int 1]) (hp1 := (hz F A L)) rfl ?_
    subst T
    exact w_ri rfl (cvQ rfl (funext fun q => if k0 : q = 42 then by subst k0; exact Eq.trans (b := (A 42)) rfl rfl else by unfold uA; simp only [nb1 k0, cond_false]) rfl K)
  | succ m ih =>
    intro B D F A L x1 x2 y3 hm K
    generalize hT : (kv_winsWith_93 (A 42) x1 (m + 1) y3) = T at K
    have hE : T = (if y3 = x1 then (kv_winsWith_93 (A 42) x1 m (y3 + 1)) else (if ((A 42).getD y3.toInt.toNat 0).toInt < ((A 42).getD x1.toInt.toNat 0).toInt then (kv_winsWith_93 (A 42) x1 m (y3 + 1)) else (0, (A 42)))) := hT.symm
    clear hT
    refine w_n 4 (pc1 := 101) (ls1 := [some (.ref 30), some (.int x1), some (.int x2), some (.int y3)]) (st1 := [.int (F 3 0), .int y3]) (hp1 := (hz F A L)) rfl ?_
    refine w_ge (p3 := 104) rfl rfl (fun h => False.elim (by have h : (F 3 0).toInt ≤ y3.toInt := h; omega)) (fun hb => ?_)
    refine w_n 2 (pc1 := 106) (ls1 := [some (.ref 30), some (.int x1), some (.int x2), some (.int y3)]) (st1 := [.int x1, .int y3]) (hp1 := (hz F A L)) rfl ?_
    refine w_eq (p3 := 109) rfl rfl (fun h => ?_) (fun h => ?_)
    · have h1 : y3 = x1 := h
      rw [if_pos h1] at hE
      refine w_n 2 (pc1 := 93) (ls1 := [some (.ref 30), some (.int x1), some (.int x2), some (.int (y3 + 1))]) (st1 := []) (hp1 := (hz F A L)) rfl ?_
      subst T
      have hb2 := i_up (B := (F 3 0)) hb
      have hb3 : y3.toInt < (F 3 0).toInt := hb
      exact ih (show m = ((F 3 0).toInt - (y3 + 1).toInt).toNat by rw [hb2]; omega) (cvQ rfl (funext fun q => if k0 : q = 42 then by subst k0; exact Eq.trans (b := (kv_winsWith_93 (A 42) x1 m (y3 + 1)).2) rfl rfl else by unfold uA; simp only [nb1 k0, cond_false]) rfl K)
    · have h1 : ¬ y3 = x1 := h
      rw [if_neg h1] at hE
      refine w_n 3 (pc1 := 114) (ls1 := [some (.ref 30), some (.int x1), some (.int x2), some (.int y3)]) (st1 := [.int y3, .ref 42]) (hp1 := (hz F A L)) rfl ?_
      refine w_al (k := 42) (l := (A 42)) rfl rfl rfl (fun ab => ?_)
      refine w_n 3 (pc1 := 120) (ls1 := [some (.ref 30), some (.int x1), some (.int x2), some (.int y3)]) (st1 := [.int x1, .ref 42, .int ((A 42).getD y3.toInt.toNat 0)]) (hp1 := (hz F A L)) rfl ?_
      refine w_al (k := 42) (l := (A 42)) rfl rfl rfl (fun _ => ?_)
      refine w_lt (p3 := 124) rfl rfl (fun h => ?_) (fun h => ?_)
      · have h2 : ((A 42).getD y3.toInt.toNat 0).toInt < ((A 42).getD x1.toInt.toNat 0).toInt := h
        rw [if_pos h2] at hE
        refine w_n 2 (pc1 := 93) (ls1 := [some (.ref 30), some (.int x1), some (.int x2), some (.int (y3 + 1))]) (st1 := []) (hp1 := (hz F A L)) rfl ?_
        subst T
        have hb2 := i_up (B := (F 3 0)) hb
        have hb3 : y3.toInt < (F 3 0).toInt := hb
        exact ih (show m = ((F 3 0).toInt - (y3 + 1).toInt).toNat by rw [hb2]; omega) (cvQ rfl (funext fun q => if k0 : q = 42 then by subst k0; exact Eq.trans (b := (kv_winsWith_93 (A 42) x1 m (y3 + 1)).2) rfl rfl else by unfold uA; simp only [nb1 k0, cond_false]) rfl K)
      · have h2 : ((A 42).getD x1.toInt.toNat 0).toInt ≤ ((A 42).getD y3.toInt.toNat 0).toInt := h
        rw [if_neg (Int.not_lt.mpr h2)] at hE
        refine w_n 1 (pc1 := 125) (ls1 := [some (.ref 30), some (.int x1), some (.int x2), some (.int y3)]) (st1 := [.int 0]) (hp1 := (hz F A L)) rfl ?_
        subst T
        exact w_ri rfl (cvQ rfl (funext fun q => if k0 : q = 42 then by subst k0; exact Eq.trans (b := (A 42)) rfl rfl else by unfold uA; simp only [nb1 k0, cond_false]) rfl K)
noncomputable def kv_winsWith (f3_0 : Int32) (a6 : List Int32) (a31 : List Int32) (a41 : List Int32) (a42 : List Int32) (x1 : Int32) (x2 : Int32) : Int32 × List Int32 := (kv_winsWith_93 (kv_winsWith_17 a6 a41 x1 x2 12 0 (sm_cpy a31 a42 0 0 6)) x1 f3_0.toInt.toNat 0)
theorem t_kv_winsWith {f D : Nat} {F : Nat → Nat → Int32} {A : Nat → List Int32} {L : Nat → List Int64} {Q : Option Value → sm_H → Prop} {x1 : Int32} {x2 : Int32} (K : Q (some (.int ((kv_winsWith (F 3 0) (A 6) (A 31) (A 41) (A 42) x1 x2).1))) (hz F (uA A 42 ((kv_winsWith (F 3 0) (A 6) (A 31) (A 41) (A 42) x1 x2).2)) L)) : wl_M f D 113 [.ref 30, .int x1, .int x2] (hz F A L) Q := by
  generalize hT : (kv_winsWith (F 3 0) (A 6) (A 31) (A 41) (A 42) x1 x2) = T at K
  have hE : T = (kv_winsWith_93 (kv_winsWith_17 (A 6) (A 41) x1 x2 12 0 (sm_cpy (A 31) (A 42) 0 0 6)) x1 (F 3 0).toInt.toNat 0) := hT.symm
  clear hT
  refine w_m (E := mm113) rfl ?_
  show wl_E f f (D - 1) mm113.2.2.2.2.2.2.2.2 0 [some (.ref 30), some (.int x1), some (.int x2), none] [] (hz F A L) Q
  refine w_n 7 (pc1 := 12) (ls1 := [some (.ref 30), some (.int x1), some (.int x2), none]) (st1 := [.int 6, .int 0, .ref 42, .int 0, .ref 31]) (hp1 := (hz F A L)) rfl ?_
  refine w_ac (ks := 31) (kd := 42) (u := (A 31)) (g := (A 42)) (hp1 := (hz F (uA A 42 (sm_cpy (A 31) (A 42) 0 0 6)) L)) rfl rfl rfl rfl (hz_s42 _) (fun _ => ?_)
  refine w_n 2 (pc1 := 17) (ls1 := [some (.ref 30), some (.int x1), some (.int x2), some (.int 0)]) (st1 := []) (hp1 := (hz F (uA A 42 (sm_cpy (A 31) (A 42) 0 0 6)) L)) rfl ?_
  refine t_kv_winsWith_17 12 (show (12 : Nat) = (12 - (0 : Int32).toInt).toNat by have e0 : (0 : Int32).toInt = 0 := rfl; first | rfl | omega) ?_
  intro r1
  show wl_E f _ _ mm113.2.2.2.2.2.2.2.2 91 [some (.ref 30), some (.int x1), some (.int x2), some (.int r1)] [] (hz F (uA (uA A 42 (sm_cpy (A 31) (A 42) 0 0 6)) 42 (kv_winsWith_17 (A 6) (A 41) x1 x2 12 0 (sm_cpy (A 31) (A 42) 0 0 6))) L) _
  generalize hG192 : (kv_winsWith_17 (A 6) (A 41) x1 x2 12 0 (sm_cpy (A 31) (A 42) 0 0 6)) = G192 at hE ⊢
  refine w_n 2 (pc1 := 93) (ls1 := [some (.ref 30), some (.int x1), some (.int x2), some (.int 0)]) (st1 := []) (hp1 := (hz F (uA (uA A 42 (sm_cpy (A 31) (A 42) 0 0 6)) 42 G192) L)) rfl ?_
  subst T
  exact t_kv_winsWith_93 _ (show (F 3 0).toInt.toNat = ((F 3 0).toInt - (0 : Int32).toInt).toNat by have e0 : (0 : Int32).toInt = 0 := rfl; first | rfl | omega) (cvQ rfl (funext fun q => if k0 : q = 42 then by subst k0; exact Eq.trans (b := (kv_winsWith_93 G192 x1 (F 3 0).toInt.toNat 0).2) rfl rfl else by unfold uA; simp only [nb1 k0, cond_false]) rfl K)
noncomputable def kv_fewestToWin_47 (f3_0 : Int32) (f3_1 : Int32) (a6 : List Int32) (a31 : List Int32) (a41 : List Int32) (x1 : Int32) : Nat → Int32 → Int32 → Int32 → List Int32 → Int32 × List Int32
  | 0, _, y3, _, a42 => (y3, a42)
  | m + 1, y2, y3, y4, a42 => (if (y4 &&& (f3_1 ^^^ (-1))) = 0 then (if (kji_bitCount y4).toInt < y2.toInt then (if (kv_winsWith f3_0 a6 a31 a41 a42 x1 y4).1 = 0 then (kv_fewestToWin_47 f3_0 f3_1 a6 a31 a41 x1 m y2 y3 (y4 + 1) (kv_winsWith f3_0 a6 a31 a41 a42 x1 y4).2) else (kv_fewestToWin_47 f3_0 f3_1 a6 a31 a41 x1 m (kji_bitCount y4) y4 (y4 + 1) (kv_winsWith f3_0 a6 a31 a41 a42 x1 y4).2)) else (kv_fewestToWin_47 f3_0 f3_1 a6 a31 a41 x1 m y2 y3 (y4 + 1) a42)) else (kv_fewestToWin_47 f3_0 f3_1 a6 a31 a41 x1 m y2 y3 (y4 + 1) a42))
theorem t_kv_fewestToWin_47 {f : Nat} {Q : Option Value → sm_H → Prop} : ∀ (m : Nat) {B D : Nat} {F : Nat → Nat → Int32} {A : Nat → List Int32} {L : Nat → List Int64} {x1 : Int32} {y2 : Int32} {y3 : Int32} {y4 : Int32} {o5 : Option Value}, m = ((F 3 1).toInt + 1 - y4.toInt).toNat → (_ : (F 3 1).toInt < 2147483647) → (∀ q2 : Int32, ∀ q4 : Int32, ∀ q5 : Option Value, wl_E f B D mm112.2.2.2.2.2.2.2.2 109 [some (.ref 30), some (.int x1), some (.int q2), some (.int ((kv_fewestToWin_47 (F 3 0) (F 3 1) (A 6) (A 31) (A 41) x1 m y2 y3 y4 (A 42)).1)), some (.int q4), q5] [] (hz F (uA A 42 ((kv_fewestToWin_47 (F 3 0) (F 3 1) (A 6) (A 31) (A 41) x1 m y2 y3 y4 (A 42)).2)) L) Q) → wl_E f B D mm112.2.2.2.2.2.2.2.2 47 [some (.ref 30), some (.int x1), some (.int y2), some (.int y3), some (.int y4), o5] [] (hz F A L) Q := by
  intro m
  induction m with
  | zero =>
    intro B D F A L x1 y2 y3 y4 o5 hm hh0 K
    generalize hT : (kv_fewestToWin_47 (F 3 0) (F 3 1) (A 6) (A 31) (A 41) x1 0 y2 y3 y4 (A 42)) = T at K
    have hE : T = (y3, (A 42)) := hT.symm
    clear hT
    refine w_n 4 (pc1 := 56) (ls1 := [some (.ref 30), some (.int x1), some (.int y2), some (.int y3), some (.int y4), o5]) (st1 := [.int (F 3 1), .int y4]) (hp1 := (hz F A L)) rfl ?_
    refine w_gt (p3 := 59) rfl rfl (fun hb => ?_) (fun h => False.elim (by have h : y4.toInt ≤ (F 3 1).toInt := h; omega))
    subst T
    exact cvE rfl (funext fun q => if k0 : q = 42 then by subst k0; exact Eq.trans (b := (A 42)) rfl rfl else by unfold uA; simp only [nb1 k0, cond_false]) rfl (K _ _ _)
  | succ m ih =>
    intro B D F A L x1 y2 y3 y4 o5 hm hh0 K
    generalize hT : (kv_fewestToWin_47 (F 3 0) (F 3 1) (A 6) (A 31) (A 41) x1 (m + 1) y2 y3 y4 (A 42)) = T at K
    have hE : T = (if (y4 &&& ((F 3 1) ^^^ (-1))) = 0 then (if (kji_bitCount y4).toInt < y2.toInt then (if (kv_winsWith (F 3 0) (A 6) (A 31) (A 41) (A 42) x1 y4).1 = 0 then (kv_fewestToWin_47 (F 3 0) (F 3 1) (A 6) (A 31) (A 41) x1 m y2 y3 (y4 + 1) (kv_winsWith (F 3 0) (A 6) (A 31) (A 41) (A 42) x1 y4).2) else (kv_fewestToWin_47 (F 3 0) (F 3 1) (A 6) (A 31) (A 41) x1 m (kji_bitCount y4) y4 (y4 + 1) (kv_winsWith (F 3 0) (A 6) (A 31) (A 41) (A 42) x1 y4).2)) else (kv_fewestToWin_47 (F 3 0) (F 3 1) (A 6) (A 31) (A 41) x1 m y2 y3 (y4 + 1) (A 42))) else (kv_fewestToWin_47 (F 3 0) (F 3 1) (A 6) (A 31) (A 41) x1 m y2 y3 (y4 + 1) (A 42))) := hT.symm
    clear hT
    refine w_n 4 (pc1 := 56) (ls1 := [some (.ref 30), some (.int x1), some (.int y2), some (.int y3), some (.int y4), o5]) (st1 := [.int (F 3 1), .int y4]) (hp1 := (hz F A L)) rfl ?_
    refine w_gt (p3 := 59) rfl rfl (fun h => False.elim (by have h : (F 3 1).toInt < y4.toInt := h; omega)) (fun hb => ?_)
    refine w_n 1 (pc1 := 61) (ls1 := [some (.ref 30), some (.int x1), some (.int y2), some (.int y3), some (.int y4), o5]) (st1 := [.int y4]) (hp1 := (hz F A L)) rfl ?_
    refine w_c rfl rfl (t_kji_bitCount ?_)
    show wl_E f _ _ mm112.2.2.2.2.2.2.2.2 64 [some (.ref 30), some (.int x1), some (.int y2), some (.int y3), some (.int y4), o5] [.int (kji_bitCount y4)] (hz F A L) _
    generalize hG191 : (kji_bitCount y4) = G191 at hE ⊢
    refine w_n 8 (pc1 := 78) (ls1 := [some (.ref 30), some (.int x1), some (.int y2), some (.int y3), some (.int y4), some (.int G191)]) (st1 := [.int (y4 &&& ((F 3 1) ^^^ (-1)))]) (hp1 := (hz F A L)) rfl ?_
    refine w_zne (p3 := 81) rfl rfl (fun h => ?_) (fun h => ?_)
    · have h1 : ¬ (y4 &&& ((F 3 1) ^^^ (-1))) = 0 := h
      rw [if_neg h1] at hE
      refine w_n 2 (pc1 := 47) (ls1 := [some (.ref 30), some (.int x1), some (.int y2), some (.int y3), some (.int (y4 + 1)), some (.int G191)]) (st1 := []) (hp1 := (hz F A L)) rfl ?_
      subst T
      have hb2 := i_up2 (B := (F 3 1)) hb (by first | decide | exact hB | assumption)
      have hb3 : y4.toInt ≤ (F 3 1).toInt := hb
      exact ih (show m = ((F 3 1).toInt + 1 - (y4 + 1).toInt).toNat by rw [hb2]; omega) hh0 (fun q2 q4 q5 => cvE rfl (funext fun q => if k0 : q = 42 then by subst k0; exact Eq.trans (b := (kv_fewestToWin_47 (F 3 0) (F 3 1) (A 6) (A 31) (A 41) x1 m y2 y3 (y4 + 1) (A 42)).2) rfl rfl else by unfold uA; simp only [nb1 k0, cond_false]) rfl (K q2 q4 q5))
    · have h1 : (y4 &&& ((F 3 1) ^^^ (-1))) = 0 := h
      rw [if_pos h1] at hE
      refine w_n 2 (pc1 := 84) (ls1 := [some (.ref 30), some (.int x1), some (.int y2), some (.int y3), some (.int y4), some (.int G191)]) (st1 := [.int y2, .int G191]) (hp1 := (hz F A L)) rfl ?_
      refine w_ge (p3 := 87) rfl rfl (fun h => ?_) (fun h => ?_)
      · have h2 : y2.toInt ≤ G191.toInt := h
        rw [if_neg (Int.not_lt.mpr h2)] at hE
        refine w_n 2 (pc1 := 47) (ls1 := [some (.ref 30), some (.int x1), some (.int y2), some (.int y3), some (.int (y4 + 1)), some (.int G191)]) (st1 := []) (hp1 := (hz F A L)) rfl ?_
        subst T
        have hb2 := i_up2 (B := (F 3 1)) hb (by first | decide | exact hB | assumption)
        have hb3 : y4.toInt ≤ (F 3 1).toInt := hb
        exact ih (show m = ((F 3 1).toInt + 1 - (y4 + 1).toInt).toNat by rw [hb2]; omega) hh0 (fun q2 q4 q5 => cvE rfl (funext fun q => if k0 : q = 42 then by subst k0; exact Eq.trans (b := (kv_fewestToWin_47 (F 3 0) (F 3 1) (A 6) (A 31) (A 41) x1 m y2 y3 (y4 + 1) (A 42)).2) rfl rfl else by unfold uA; simp only [nb1 k0, cond_false]) rfl (K q2 q4 q5))
      · have h2 : G191.toInt < y2.toInt := h
        rw [if_pos h2] at hE
        refine w_n 3 (pc1 := 91) (ls1 := [some (.ref 30), some (.int x1), some (.int y2), some (.int y3), some (.int y4), some (.int G191)]) (st1 := [.int y4, .int x1, .ref 30]) (hp1 := (hz F A L)) rfl ?_
        refine w_c rfl rfl (t_kv_winsWith ?_)
        show wl_E f _ _ mm112.2.2.2.2.2.2.2.2 94 [some (.ref 30), some (.int x1), some (.int y2), some (.int y3), some (.int y4), some (.int G191)] [.int (kv_winsWith (F 3 0) (A 6) (A 31) (A 41) (A 42) x1 y4).1] (hz F (uA A 42 (kv_winsWith (F 3 0) (A 6) (A 31) (A 41) (A 42) x1 y4).2) L) _
        generalize hG193 : (kv_winsWith (F 3 0) (A 6) (A 31) (A 41) (A 42) x1 y4) = G193 at hE ⊢
        refine w_zeq (p3 := 97) rfl rfl (fun h => ?_) (fun h => ?_)
        · have h3 : G193.1 = 0 := h
          rw [if_pos h3] at hE
          refine w_n 2 (pc1 := 47) (ls1 := [some (.ref 30), some (.int x1), some (.int y2), some (.int y3), some (.int (y4 + 1)), some (.int G191)]) (st1 := []) (hp1 := (hz F (uA A 42 G193.2) L)) rfl ?_
          subst T
          have hb2 := i_up2 (B := (F 3 1)) hb (by first | decide | exact hB | assumption)
          have hb3 : y4.toInt ≤ (F 3 1).toInt := hb
          exact ih (show m = ((F 3 1).toInt + 1 - (y4 + 1).toInt).toNat by rw [hb2]; omega) hh0 (fun q2 q4 q5 => cvE rfl (funext fun q => if k0 : q = 42 then by subst k0; exact Eq.trans (b := (kv_fewestToWin_47 (F 3 0) (F 3 1) (A 6) (A 31) (A 41) x1 m y2 y3 (y4 + 1) G193.2).2) rfl rfl else by unfold uA; simp only [nb1 k0, cond_false]) rfl (K q2 q4 q5))
        · have h3 : ¬ G193.1 = 0 := h
          rw [if_neg h3] at hE
          refine w_n 6 (pc1 := 47) (ls1 := [some (.ref 30), some (.int x1), some (.int G191), some (.int y4), some (.int (y4 + 1)), some (.int G191)]) (st1 := []) (hp1 := (hz F (uA A 42 G193.2) L)) rfl ?_
          subst T
          have hb2 := i_up2 (B := (F 3 1)) hb (by first | decide | exact hB | assumption)
          have hb3 : y4.toInt ≤ (F 3 1).toInt := hb
          exact ih (show m = ((F 3 1).toInt + 1 - (y4 + 1).toInt).toNat by rw [hb2]; omega) hh0 (fun q2 q4 q5 => cvE rfl (funext fun q => if k0 : q = 42 then by subst k0; exact Eq.trans (b := (kv_fewestToWin_47 (F 3 0) (F 3 1) (A 6) (A 31) (A 41) x1 m G191 y4 (y4 + 1) G193.2).2) rfl rfl else by unfold uA; simp only [nb1 k0, cond_false]) rfl (K q2 q4 q5))
noncomputable def kv_fewestToWin (f3_0 : Int32) (f3_1 : Int32) (a6 : List Int32) (a31 : List Int32) (a35 : List Int32) (a41 : List Int32) (a42 : List Int32) (l11 : List Int64) (x1 : Int32) : Int32 × List Int32 × List Int32 × List Int32 × List Int32 := ((kv_fewestToWin_47 f3_0 f3_1 a6 (kv_countFirsts f3_0 f3_1 a6 a31 a35 l11).1 (kv_fewestToWin_6 f3_0 l11 12 0 a41) x1 (f3_1.toInt + 1).toNat 13 (-1) 0 a42).1, (kv_countFirsts f3_0 f3_1 a6 a31 a35 l11).1, (kv_countFirsts f3_0 f3_1 a6 a31 a35 l11).2, (kv_fewestToWin_6 f3_0 l11 12 0 a41), (kv_fewestToWin_47 f3_0 f3_1 a6 (kv_countFirsts f3_0 f3_1 a6 a31 a35 l11).1 (kv_fewestToWin_6 f3_0 l11 12 0 a41) x1 (f3_1.toInt + 1).toNat 13 (-1) 0 a42).2)
theorem t_kv_fewestToWin {f D : Nat} {F : Nat → Nat → Int32} {A : Nat → List Int32} {L : Nat → List Int64} {Q : Option Value → sm_H → Prop} {x1 : Int32} (hh0 : (F 3 1).toInt < 2147483647) (K : Q (some (.int ((kv_fewestToWin (F 3 0) (F 3 1) (A 6) (A 31) (A 35) (A 41) (A 42) (L 11) x1).1))) (hz F (uA (uA (uA (uA A 31 ((kv_fewestToWin (F 3 0) (F 3 1) (A 6) (A 31) (A 35) (A 41) (A 42) (L 11) x1).2.1)) 35 ((kv_fewestToWin (F 3 0) (F 3 1) (A 6) (A 31) (A 35) (A 41) (A 42) (L 11) x1).2.2.1)) 41 ((kv_fewestToWin (F 3 0) (F 3 1) (A 6) (A 31) (A 35) (A 41) (A 42) (L 11) x1).2.2.2.1)) 42 ((kv_fewestToWin (F 3 0) (F 3 1) (A 6) (A 31) (A 35) (A 41) (A 42) (L 11) x1).2.2.2.2)) L)) : wl_M f D 112 [.ref 30, .int x1] (hz F A L) Q := by
  generalize hT : (kv_fewestToWin (F 3 0) (F 3 1) (A 6) (A 31) (A 35) (A 41) (A 42) (L 11) x1) = T at K
  have hE : T = ((kv_fewestToWin_47 (F 3 0) (F 3 1) (A 6) (kv_countFirsts (F 3 0) (F 3 1) (A 6) (A 31) (A 35) (L 11)).1 (kv_fewestToWin_6 (F 3 0) (L 11) 12 0 (A 41)) x1 ((F 3 1).toInt + 1).toNat 13 (-1) 0 (A 42)).1, (kv_countFirsts (F 3 0) (F 3 1) (A 6) (A 31) (A 35) (L 11)).1, (kv_countFirsts (F 3 0) (F 3 1) (A 6) (A 31) (A 35) (L 11)).2, (kv_fewestToWin_6 (F 3 0) (L 11) 12 0 (A 41)), (kv_fewestToWin_47 (F 3 0) (F 3 1) (A 6) (kv_countFirsts (F 3 0) (F 3 1) (A 6) (A 31) (A 35) (L 11)).1 (kv_fewestToWin_6 (F 3 0) (L 11) 12 0 (A 41)) x1 ((F 3 1).toInt + 1).toNat 13 (-1) 0 (A 42)).2) := hT.symm
  clear hT
  refine w_m (E := mm112) rfl ?_
  show wl_E f f (D - 1) mm112.2.2.2.2.2.2.2.2 0 [some (.ref 30), some (.int x1), none, none, none, none] [] (hz F A L) Q
  refine w_n 1 (pc1 := 1) (ls1 := [some (.ref 30), some (.int x1), none, none, none, none]) (st1 := [.ref 30]) (hp1 := (hz F A L)) rfl ?_
  refine w_c rfl rfl (t_kv_countFirsts ?_)
  show wl_E f _ _ mm112.2.2.2.2.2.2.2.2 4 [some (.ref 30), some (.int x1), none, none, none, none] [] (hz F (uA (uA A 31 (kv_countFirsts (F 3 0) (F 3 1) (A 6) (A 31) (A 35) (L 11)).1) 35 (kv_countFirsts (F 3 0) (F 3 1) (A 6) (A 31) (A 35) (L 11)).2) L) _
  generalize hG187 : (kv_countFirsts (F 3 0) (F 3 1) (A 6) (A 31) (A 35) (L 11)) = G187 at hE ⊢
  refine w_n 2 (pc1 := 6) (ls1 := [some (.ref 30), some (.int x1), some (.int 0), none, none, none]) (st1 := []) (hp1 := (hz F (uA (uA A 31 G187.1) 35 G187.2) L)) rfl ?_
  refine t_kv_fewestToWin_6 12 (show (12 : Nat) = (12 - (0 : Int32).toInt).toNat by have e0 : (0 : Int32).toInt = 0 := rfl; first | rfl | omega) ?_
  intro r1
  show wl_E f _ _ mm112.2.2.2.2.2.2.2.2 39 [some (.ref 30), some (.int x1), some (.int r1), none, none, none] [] (hz F (uA (uA (uA A 31 G187.1) 35 G187.2) 41 (kv_fewestToWin_6 (F 3 0) (L 11) 12 0 (A 41))) L) _
  generalize hG190 : (kv_fewestToWin_6 (F 3 0) (L 11) 12 0 (A 41)) = G190 at hE ⊢
  refine w_n 6 (pc1 := 47) (ls1 := [some (.ref 30), some (.int x1), some (.int 13), some (.int (-1)), some (.int 0), none]) (st1 := []) (hp1 := (hz F (uA (uA (uA A 31 G187.1) 35 G187.2) 41 G190) L)) rfl ?_
  refine t_kv_fewestToWin_47 (((F 3 1).toInt + 1).toNat) (show ((F 3 1).toInt + 1).toNat = ((F 3 1).toInt + 1 - (0 : Int32).toInt).toNat by have e0 : (0 : Int32).toInt = 0 := rfl; first | rfl | omega) hh0 ?_
  intro r2 r3 r4
  show wl_E f _ _ mm112.2.2.2.2.2.2.2.2 109 [some (.ref 30), some (.int x1), some (.int r2), some (.int (kv_fewestToWin_47 (F 3 0) (F 3 1) (A 6) G187.1 G190 x1 ((F 3 1).toInt + 1).toNat 13 (-1) 0 (A 42)).1), some (.int r3), r4] [] (hz F (uA (uA (uA (uA A 31 G187.1) 35 G187.2) 41 G190) 42 (kv_fewestToWin_47 (F 3 0) (F 3 1) (A 6) G187.1 G190 x1 ((F 3 1).toInt + 1).toNat 13 (-1) 0 (A 42)).2) L) _
  generalize hG194 : (kv_fewestToWin_47 (F 3 0) (F 3 1) (A 6) G187.1 G190 x1 ((F 3 1).toInt + 1).toNat 13 (-1) 0 (A 42)) = G194 at hE ⊢
  refine w_n 1 (pc1 := 110) (ls1 := [some (.ref 30), some (.int x1), some (.int r2), some (.int G194.1), some (.int r3), r4]) (st1 := [.int G194.1]) (hp1 := (hz F (uA (uA (uA (uA A 31 G187.1) 35 G187.2) 41 G190) 42 G194.2) L)) rfl ?_
  subst T
  exact w_ri rfl (cvQ rfl rfl rfl K)
noncomputable def kc_wonOver (f3_0 : Int32) (f3_1 : Int32) (a6 : List Int32) (a31 : List Int32) (a35 : List Int32) (a41 : List Int32) (a42 : List Int32) (l11 : List Int64) (x1 : Int32) (x2 : Int32) : Int32 × List Int32 × List Int32 × List Int32 × List Int32 := (if (kt_isMeasure f3_0 x1) = 0 then ((-1), a31, a35, a41, a42) else (if (kc_within x2 0 1) = 0 then ((-1), a31, a35, a41, a42) else (if (kv_fewestToWin f3_0 f3_1 a6 a31 a35 a41 a42 l11 x1).1 = (-1) then ((-2), (kv_fewestToWin f3_0 f3_1 a6 a31 a35 a41 a42 l11 x1).2.1, (kv_fewestToWin f3_0 f3_1 a6 a31 a35 a41 a42 l11 x1).2.2.1, (kv_fewestToWin f3_0 f3_1 a6 a31 a35 a41 a42 l11 x1).2.2.2.1, (kv_fewestToWin f3_0 f3_1 a6 a31 a35 a41 a42 l11 x1).2.2.2.2) else (if x2 = 0 then ((kji_bitCount (kv_fewestToWin f3_0 f3_1 a6 a31 a35 a41 a42 l11 x1).1), (kv_fewestToWin f3_0 f3_1 a6 a31 a35 a41 a42 l11 x1).2.1, (kv_fewestToWin f3_0 f3_1 a6 a31 a35 a41 a42 l11 x1).2.2.1, (kv_fewestToWin f3_0 f3_1 a6 a31 a35 a41 a42 l11 x1).2.2.2.1, (kv_fewestToWin f3_0 f3_1 a6 a31 a35 a41 a42 l11 x1).2.2.2.2) else ((kv_fewestToWin f3_0 f3_1 a6 a31 a35 a41 a42 l11 x1).1, (kv_fewestToWin f3_0 f3_1 a6 a31 a35 a41 a42 l11 x1).2.1, (kv_fewestToWin f3_0 f3_1 a6 a31 a35 a41 a42 l11 x1).2.2.1, (kv_fewestToWin f3_0 f3_1 a6 a31 a35 a41 a42 l11 x1).2.2.2.1, (kv_fewestToWin f3_0 f3_1 a6 a31 a35 a41 a42 l11 x1).2.2.2.2)))))
theorem t_kc_wonOver {f D : Nat} {F : Nat → Nat → Int32} {A : Nat → List Int32} {L : Nat → List Int64} {Q : Option Value → sm_H → Prop} {x1 : Int32} {x2 : Int32} (hh0 : (F 3 1).toInt < 2147483647) (K : Q (some (.int ((kc_wonOver (F 3 0) (F 3 1) (A 6) (A 31) (A 35) (A 41) (A 42) (L 11) x1 x2).1))) (hz F (uA (uA (uA (uA A 31 ((kc_wonOver (F 3 0) (F 3 1) (A 6) (A 31) (A 35) (A 41) (A 42) (L 11) x1 x2).2.1)) 35 ((kc_wonOver (F 3 0) (F 3 1) (A 6) (A 31) (A 35) (A 41) (A 42) (L 11) x1 x2).2.2.1)) 41 ((kc_wonOver (F 3 0) (F 3 1) (A 6) (A 31) (A 35) (A 41) (A 42) (L 11) x1 x2).2.2.2.1)) 42 ((kc_wonOver (F 3 0) (F 3 1) (A 6) (A 31) (A 35) (A 41) (A 42) (L 11) x1 x2).2.2.2.2)) L)) : wl_M f D 111 [.ref 0, .int x1, .int x2] (hz F A L) Q := by
  generalize hT : (kc_wonOver (F 3 0) (F 3 1) (A 6) (A 31) (A 35) (A 41) (A 42) (L 11) x1 x2) = T at K
  have hE : T = (if (kt_isMeasure (F 3 0) x1) = 0 then ((-1), (A 31), (A 35), (A 41), (A 42)) else (if (kc_within x2 0 1) = 0 then ((-1), (A 31), (A 35), (A 41), (A 42)) else (if (kv_fewestToWin (F 3 0) (F 3 1) (A 6) (A 31) (A 35) (A 41) (A 42) (L 11) x1).1 = (-1) then ((-2), (kv_fewestToWin (F 3 0) (F 3 1) (A 6) (A 31) (A 35) (A 41) (A 42) (L 11) x1).2.1, (kv_fewestToWin (F 3 0) (F 3 1) (A 6) (A 31) (A 35) (A 41) (A 42) (L 11) x1).2.2.1, (kv_fewestToWin (F 3 0) (F 3 1) (A 6) (A 31) (A 35) (A 41) (A 42) (L 11) x1).2.2.2.1, (kv_fewestToWin (F 3 0) (F 3 1) (A 6) (A 31) (A 35) (A 41) (A 42) (L 11) x1).2.2.2.2) else (if x2 = 0 then ((kji_bitCount (kv_fewestToWin (F 3 0) (F 3 1) (A 6) (A 31) (A 35) (A 41) (A 42) (L 11) x1).1), (kv_fewestToWin (F 3 0) (F 3 1) (A 6) (A 31) (A 35) (A 41) (A 42) (L 11) x1).2.1, (kv_fewestToWin (F 3 0) (F 3 1) (A 6) (A 31) (A 35) (A 41) (A 42) (L 11) x1).2.2.1, (kv_fewestToWin (F 3 0) (F 3 1) (A 6) (A 31) (A 35) (A 41) (A 42) (L 11) x1).2.2.2.1, (kv_fewestToWin (F 3 0) (F 3 1) (A 6) (A 31) (A 35) (A 41) (A 42) (L 11) x1).2.2.2.2) else ((kv_fewestToWin (F 3 0) (F 3 1) (A 6) (A 31) (A 35) (A 41) (A 42) (L 11) x1).1, (kv_fewestToWin (F 3 0) (F 3 1) (A 6) (A 31) (A 35) (A 41) (A 42) (L 11) x1).2.1, (kv_fewestToWin (F 3 0) (F 3 1) (A 6) (A 31) (A 35) (A 41) (A 42) (L 11) x1).2.2.1, (kv_fewestToWin (F 3 0) (F 3 1) (A 6) (A 31) (A 35) (A 41) (A 42) (L 11) x1).2.2.2.1, (kv_fewestToWin (F 3 0) (F 3 1) (A 6) (A 31) (A 35) (A 41) (A 42) (L 11) x1).2.2.2.2))))) := hT.symm
  clear hT
  refine w_m (E := mm111) rfl ?_
  show wl_E f f (D - 1) mm111.2.2.2.2.2.2.2.2 0 [some (.ref 0), some (.int x1), some (.int x2), none] [] (hz F A L) Q
  refine w_n 3 (pc1 := 5) (ls1 := [some (.ref 0), some (.int x1), some (.int x2), none]) (st1 := [.int x1, .ref 3]) (hp1 := (hz F A L)) rfl ?_
  refine w_c rfl rfl (t_kt_isMeasure ?_)
  show wl_E f _ _ mm111.2.2.2.2.2.2.2.2 8 [some (.ref 0), some (.int x1), some (.int x2), none] [.int (kt_isMeasure (F 3 0) x1)] (hz F A L) _
  generalize hG185 : (kt_isMeasure (F 3 0) x1) = G185 at hE ⊢
  refine w_zeq (p3 := 11) rfl rfl (fun h => ?_) (fun h => ?_)
  · have h1 : G185 = 0 := h
    rw [if_pos h1] at hE
    refine w_n 1 (pc1 := 21) (ls1 := [some (.ref 0), some (.int x1), some (.int x2), none]) (st1 := [.int (-1)]) (hp1 := (hz F A L)) rfl ?_
    subst T
    exact w_ri rfl (cvQ rfl (funext fun q => if k0 : q = 31 then by subst k0; exact Eq.trans (b := (A 31)) rfl rfl else if k1 : q = 35 then by subst k1; exact Eq.trans (b := (A 35)) rfl rfl else if k2 : q = 41 then by subst k2; exact Eq.trans (b := (A 41)) rfl rfl else if k3 : q = 42 then by subst k3; exact Eq.trans (b := (A 42)) rfl rfl else by unfold uA; simp only [nb1 k0, nb1 k1, nb1 k2, nb1 k3, cond_false]) rfl K)
  · have h1 : ¬ G185 = 0 := h
    rw [if_neg h1] at hE
    refine w_n 3 (pc1 := 14) (ls1 := [some (.ref 0), some (.int x1), some (.int x2), none]) (st1 := [.int 1, .int 0, .int x2]) (hp1 := (hz F A L)) rfl ?_
    refine w_c rfl rfl (t_kc_within ?_)
    show wl_E f _ _ mm111.2.2.2.2.2.2.2.2 17 [some (.ref 0), some (.int x1), some (.int x2), none] [.int (kc_within x2 0 1)] (hz F A L) _
    generalize hG186 : (kc_within x2 0 1) = G186 at hE ⊢
    refine w_zne (p3 := 20) rfl rfl (fun h => ?_) (fun h => ?_)
    · have h2 : ¬ G186 = 0 := h
      rw [if_neg h2] at hE
      refine w_n 3 (pc1 := 27) (ls1 := [some (.ref 0), some (.int x1), some (.int x2), none]) (st1 := [.int x1, .ref 30]) (hp1 := (hz F A L)) rfl ?_
      refine w_c rfl rfl (t_kv_fewestToWin hh0 ?_)
      show wl_E f _ _ mm111.2.2.2.2.2.2.2.2 30 [some (.ref 0), some (.int x1), some (.int x2), none] [.int (kv_fewestToWin (F 3 0) (F 3 1) (A 6) (A 31) (A 35) (A 41) (A 42) (L 11) x1).1] (hz F (uA (uA (uA (uA A 31 (kv_fewestToWin (F 3 0) (F 3 1) (A 6) (A 31) (A 35) (A 41) (A 42) (L 11) x1).2.1) 35 (kv_fewestToWin (F 3 0) (F 3 1) (A 6) (A 31) (A 35) (A 41) (A 42) (L 11) x1).2.2.1) 41 (kv_fewestToWin (F 3 0) (F 3 1) (A 6) (A 31) (A 35) (A 41) (A 42) (L 11) x1).2.2.2.1) 42 (kv_fewestToWin (F 3 0) (F 3 1) (A 6) (A 31) (A 35) (A 41) (A 42) (L 11) x1).2.2.2.2) L) _
      generalize hG195 : (kv_fewestToWin (F 3 0) (F 3 1) (A 6) (A 31) (A 35) (A 41) (A 42) (L 11) x1) = G195 at hE ⊢
      refine w_n 3 (pc1 := 33) (ls1 := [some (.ref 0), some (.int x1), some (.int x2), some (.int G195.1)]) (st1 := [.int (-1), .int G195.1]) (hp1 := (hz F (uA (uA (uA (uA A 31 G195.2.1) 35 G195.2.2.1) 41 G195.2.2.2.1) 42 G195.2.2.2.2) L)) rfl ?_
      refine w_ne (p3 := 36) rfl rfl (fun h => ?_) (fun h => ?_)
      · have h3 : ¬ G195.1 = (-1) := h
        rw [if_neg h3] at hE
        refine w_n 1 (pc1 := 40) (ls1 := [some (.ref 0), some (.int x1), some (.int x2), some (.int G195.1)]) (st1 := [.int x2]) (hp1 := (hz F (uA (uA (uA (uA A 31 G195.2.1) 35 G195.2.2.1) 41 G195.2.2.2.1) 42 G195.2.2.2.2) L)) rfl ?_
        refine w_zne (p3 := 43) rfl rfl (fun h => ?_) (fun h => ?_)
        · have h4 : ¬ x2 = 0 := h
          rw [if_neg h4] at hE
          refine w_n 1 (pc1 := 51) (ls1 := [some (.ref 0), some (.int x1), some (.int x2), some (.int G195.1)]) (st1 := [.int G195.1]) (hp1 := (hz F (uA (uA (uA (uA A 31 G195.2.1) 35 G195.2.2.1) 41 G195.2.2.2.1) 42 G195.2.2.2.2) L)) rfl ?_
          subst T
          exact w_ri rfl (cvQ rfl rfl rfl K)
        · have h4 : x2 = 0 := h
          rw [if_pos h4] at hE
          refine w_n 1 (pc1 := 44) (ls1 := [some (.ref 0), some (.int x1), some (.int x2), some (.int G195.1)]) (st1 := [.int G195.1]) (hp1 := (hz F (uA (uA (uA (uA A 31 G195.2.1) 35 G195.2.2.1) 41 G195.2.2.2.1) 42 G195.2.2.2.2) L)) rfl ?_
          refine w_c rfl rfl (t_kji_bitCount ?_)
          show wl_E f _ _ mm111.2.2.2.2.2.2.2.2 47 [some (.ref 0), some (.int x1), some (.int x2), some (.int G195.1)] [.int (kji_bitCount G195.1)] (hz F (uA (uA (uA (uA A 31 G195.2.1) 35 G195.2.2.1) 41 G195.2.2.2.1) 42 G195.2.2.2.2) L) _
          generalize hG196 : (kji_bitCount G195.1) = G196 at hE ⊢
          refine w_n 1 (pc1 := 51) (ls1 := [some (.ref 0), some (.int x1), some (.int x2), some (.int G195.1)]) (st1 := [.int G196]) (hp1 := (hz F (uA (uA (uA (uA A 31 G195.2.1) 35 G195.2.2.1) 41 G195.2.2.2.1) 42 G195.2.2.2.2) L)) rfl ?_
          subst T
          exact w_ri rfl (cvQ rfl rfl rfl K)
      · have h3 : G195.1 = (-1) := h
        rw [if_pos h3] at hE
        refine w_n 1 (pc1 := 38) (ls1 := [some (.ref 0), some (.int x1), some (.int x2), some (.int G195.1)]) (st1 := [.int (-2)]) (hp1 := (hz F (uA (uA (uA (uA A 31 G195.2.1) 35 G195.2.2.1) 41 G195.2.2.2.1) 42 G195.2.2.2.2) L)) rfl ?_
        subst T
        exact w_ri rfl (cvQ rfl rfl rfl K)
    · have h2 : G186 = 0 := h
      rw [if_pos h2] at hE
      refine w_n 1 (pc1 := 21) (ls1 := [some (.ref 0), some (.int x1), some (.int x2), none]) (st1 := [.int (-1)]) (hp1 := (hz F A L)) rfl ?_
      subst T
      exact w_ri rfl (cvQ rfl (funext fun q => if k0 : q = 31 then by subst k0; exact Eq.trans (b := (A 31)) rfl rfl else if k1 : q = 35 then by subst k1; exact Eq.trans (b := (A 35)) rfl rfl else if k2 : q = 41 then by subst k2; exact Eq.trans (b := (A 41)) rfl rfl else if k3 : q = 42 then by subst k3; exact Eq.trans (b := (A 42)) rfl rfl else by unfold uA; simp only [nb1 k0, nb1 k1, nb1 k2, nb1 k3, cond_false]) rfl K)
noncomputable def km_biscuitsOf_4 (a68 : List Int32) (x1 : Int32) : Nat → Int32 → Int32 → Int32
  | 0, y2, _ => y2
  | m + 1, y2, y3 => (if (km_has x1 y3) = 0 then (km_biscuitsOf_4 a68 x1 m (y2 + 0) (y3 + 1)) else (km_biscuitsOf_4 a68 x1 m (y2 + (a68.getD (12 + y3).toInt.toNat 0)) (y3 + 1)))
theorem t_km_biscuitsOf_4 {f : Nat} {Q : Option Value → sm_H → Prop} : ∀ (m : Nat) {B D : Nat} {F : Nat → Nat → Int32} {A : Nat → List Int32} {L : Nat → List Int64} {x1 : Int32} {y2 : Int32} {y3 : Int32}, m = (12 - y3.toInt).toNat → (∀ q3 : Int32, wl_E f B D mm230.2.2.2.2.2.2.2.2 40 [some (.ref 67), some (.int x1), some (.int (km_biscuitsOf_4 (A 68) x1 m y2 y3)), some (.int q3)] [] (hz F A L) Q) → wl_E f B D mm230.2.2.2.2.2.2.2.2 4 [some (.ref 67), some (.int x1), some (.int y2), some (.int y3)] [] (hz F A L) Q := by
  intro m
  induction m with
  | zero =>
    intro B D F A L x1 y2 y3 hm K
    generalize hT : (km_biscuitsOf_4 (A 68) x1 0 y2 y3) = T at K
    have hE : T = y2 := hT.symm
    clear hT
    refine w_n 2 (pc1 := 7) (ls1 := [some (.ref 67), some (.int x1), some (.int y2), some (.int y3)]) (st1 := [.int 12, .int y3]) (hp1 := (hz F A L)) rfl ?_
    refine w_ge (p3 := 10) rfl rfl (fun hb => ?_) (fun h => False.elim (by have h : y3.toInt < 12 := h; omega))
    subst T
    exact cvE rfl rfl rfl (K _)
  | succ m ih =>
    intro B D F A L x1 y2 y3 hm K
    generalize hT : (km_biscuitsOf_4 (A 68) x1 (m + 1) y2 y3) = T at K
    have hE : T = (if (km_has x1 y3) = 0 then (km_biscuitsOf_4 (A 68) x1 m (y2 + 0) (y3 + 1)) else (km_biscuitsOf_4 (A 68) x1 m (y2 + ((A 68).getD (12 + y3).toInt.toNat 0)) (y3 + 1))) := hT.symm
    clear hT
    refine w_n 2 (pc1 := 7) (ls1 := [some (.ref 67), some (.int x1), some (.int y2), some (.int y3)]) (st1 := [.int 12, .int y3]) (hp1 := (hz F A L)) rfl ?_
    refine w_ge (p3 := 10) rfl rfl (fun h => False.elim (by have h : 12 ≤ y3.toInt := h; omega)) (fun hb => ?_)
    refine w_n 3 (pc1 := 13) (ls1 := [some (.ref 67), some (.int x1), some (.int y2), some (.int y3)]) (st1 := [.int y3, .int x1, .int y2]) (hp1 := (hz F A L)) rfl ?_
    refine w_c rfl rfl (t_km_has ?_)
    show wl_E f _ _ mm230.2.2.2.2.2.2.2.2 16 [some (.ref 67), some (.int x1), some (.int y2), some (.int y3)] [.int (km_has x1 y3), .int y2] (hz F A L) _
    generalize hG201 : (km_has x1 y3) = G201 at hE ⊢
    refine w_zeq (p3 := 19) rfl rfl (fun h => ?_) (fun h => ?_)
    · have h1 : G201 = 0 := h
      rw [if_pos h1] at hE
      refine w_n 5 (pc1 := 4) (ls1 := [some (.ref 67), some (.int x1), some (.int (y2 + 0)), some (.int (y3 + 1))]) (st1 := []) (hp1 := (hz F A L)) rfl ?_
      subst T
      have hb2 := i_up (B := (12 : Int32)) hb
      have hb3 : y3.toInt < 12 := hb
      exact ih (show m = (12 - (y3 + 1).toInt).toNat by rw [hb2]; omega) (fun q3 => cvE rfl rfl rfl (K q3))
    · have h1 : ¬ G201 = 0 := h
      rw [if_neg h1] at hE
      refine w_n 5 (pc1 := 27) (ls1 := [some (.ref 67), some (.int x1), some (.int y2), some (.int y3)]) (st1 := [.int (12 + y3), .ref 68, .int y2]) (hp1 := (hz F A L)) rfl ?_
      refine w_al (k := 68) (l := (A 68)) rfl rfl rfl (fun _ => ?_)
      refine w_n 5 (pc1 := 4) (ls1 := [some (.ref 67), some (.int x1), some (.int (y2 + ((A 68).getD (12 + y3).toInt.toNat 0))), some (.int (y3 + 1))]) (st1 := []) (hp1 := (hz F A L)) rfl ?_
      subst T
      have hb2 := i_up (B := (12 : Int32)) hb
      have hb3 : y3.toInt < 12 := hb
      exact ih (show m = (12 - (y3 + 1).toInt).toNat by rw [hb2]; omega) (fun q3 => cvE rfl rfl rfl (K q3))
noncomputable def km_biscuitsOf (a68 : List Int32) (x1 : Int32) : Int32 := (km_biscuitsOf_4 a68 x1 12 0 0)
theorem t_km_biscuitsOf {f D : Nat} {F : Nat → Nat → Int32} {A : Nat → List Int32} {L : Nat → List Int64} {Q : Option Value → sm_H → Prop} {x1 : Int32} (K : Q (some (.int (km_biscuitsOf (A 68) x1))) (hz F A L)) : wl_M f D 230 [.ref 67, .int x1] (hz F A L) Q := by
  generalize hT : (km_biscuitsOf (A 68) x1) = T at K
  have hE : T = (km_biscuitsOf_4 (A 68) x1 12 0 0) := hT.symm
  clear hT
  refine w_m (E := mm230) rfl ?_
  show wl_E f f (D - 1) mm230.2.2.2.2.2.2.2.2 0 [some (.ref 67), some (.int x1), none, none] [] (hz F A L) Q
  refine w_n 4 (pc1 := 4) (ls1 := [some (.ref 67), some (.int x1), some (.int 0), some (.int 0)]) (st1 := []) (hp1 := (hz F A L)) rfl ?_
  refine t_km_biscuitsOf_4 12 (show (12 : Nat) = (12 - (0 : Int32).toInt).toNat by have e0 : (0 : Int32).toInt = 0 := rfl; first | rfl | omega) ?_
  intro r1
  show wl_E f _ _ mm230.2.2.2.2.2.2.2.2 40 [some (.ref 67), some (.int x1), some (.int (km_biscuitsOf_4 (A 68) x1 12 0 0)), some (.int r1)] [] (hz F A L) _
  generalize hG202 : (km_biscuitsOf_4 (A 68) x1 12 0 0) = G202 at hE ⊢
  refine w_n 1 (pc1 := 41) (ls1 := [some (.ref 67), some (.int x1), some (.int G202), some (.int r1)]) (st1 := [.int G202]) (hp1 := (hz F A L)) rfl ?_
  subst T
  exact w_ri rfl (cvQ rfl rfl rfl K)
noncomputable def km_isWon_29 (a87 : List Int32) (x1 : Int32) : Nat → Int32 → Int32 × List Int32
  | 0, _ => (1, a87)
  | m + 1, y3 => (if y3 = x1 then (km_isWon_29 a87 x1 m (y3 + 1)) else (if (a87.getD y3.toInt.toNat 0).toInt < (a87.getD x1.toInt.toNat 0).toInt then (km_isWon_29 a87 x1 m (y3 + 1)) else (0, a87)))
theorem t_km_isWon_29 {f : Nat} {Q : Option Value → sm_H → Prop} : ∀ (m : Nat) {B D : Nat} {F : Nat → Nat → Int32} {A : Nat → List Int32} {L : Nat → List Int64} {x1 : Int32} {x2 : Int32} {y3 : Int32}, m = ((F 67 3).toInt - y3.toInt).toNat → (Q (some (.int ((km_isWon_29 (A 87) x1 m y3).1))) (hz F (uA A 87 ((km_isWon_29 (A 87) x1 m y3).2)) L)) → wl_E f B D mm233.2.2.2.2.2.2.2.2 29 [some (.ref 67), some (.int x1), some (.int x2), some (.int y3)] [] (hz F A L) Q := by
  intro m
  induction m with
  | zero =>
    intro B D F A L x1 x2 y3 hm K
    generalize hT : (km_isWon_29 (A 87) x1 0 y3) = T at K
    have hE : T = (1, (A 87)) := hT.symm
    clear hT
    refine w_n 3 (pc1 := 34) (ls1 := [some (.ref 67), some (.int x1), some (.int x2), some (.int y3)]) (st1 := [.int (F 67 3), .int y3]) (hp1 := (hz F A L)) rfl ?_
    refine w_ge (p3 := 37) rfl rfl (fun hb => ?_) (fun h => False.elim (by have h : y3.toInt < (F 67 3).toInt := h; omega))
    refine w_n 1 (pc1 := 66) (ls1 := [some (.ref 67), some (.int x1), some (.int x2), some (.int y3)]) (st1 := [.int 1]) (hp1 := (hz F A L)) rfl ?_
    subst T
    exact w_ri rfl (cvQ rfl (funext fun q => if k0 : q = 87 then by subst k0; exact Eq.trans (b := (A 87)) rfl rfl else by unfold uA; simp only [nb1 k0, cond_false]) rfl K)
  | succ m ih =>
    intro B D F A L x1 x2 y3 hm K
    generalize hT : (km_isWon_29 (A 87) x1 (m + 1) y3) = T at K
    have hE : T = (if y3 = x1 then (km_isWon_29 (A 87) x1 m (y3 + 1)) else (if ((A 87).getD y3.toInt.toNat 0).toInt < ((A 87).getD x1.toInt.toNat 0).toInt then (km_isWon_29 (A 87) x1 m (y3 + 1)) else (0, (A 87)))) := hT.symm
    clear hT
    refine w_n 3 (pc1 := 34) (ls1 := [some (.ref 67), some (.int x1), some (.int x2), some (.int y3)]) (st1 := [.int (F 67 3), .int y3]) (hp1 := (hz F A L)) rfl ?_
    refine w_ge (p3 := 37) rfl rfl (fun h => False.elim (by have h : (F 67 3).toInt ≤ y3.toInt := h; omega)) (fun hb => ?_)
    refine w_n 2 (pc1 := 39) (ls1 := [some (.ref 67), some (.int x1), some (.int x2), some (.int y3)]) (st1 := [.int x1, .int y3]) (hp1 := (hz F A L)) rfl ?_
    refine w_eq (p3 := 42) rfl rfl (fun h => ?_) (fun h => ?_)
    · have h1 : y3 = x1 := h
      rw [if_pos h1] at hE
      refine w_n 2 (pc1 := 29) (ls1 := [some (.ref 67), some (.int x1), some (.int x2), some (.int (y3 + 1))]) (st1 := []) (hp1 := (hz F A L)) rfl ?_
      subst T
      have hb2 := i_up (B := (F 67 3)) hb
      have hb3 : y3.toInt < (F 67 3).toInt := hb
      exact ih (show m = ((F 67 3).toInt - (y3 + 1).toInt).toNat by rw [hb2]; omega) (cvQ rfl (funext fun q => if k0 : q = 87 then by subst k0; exact Eq.trans (b := (km_isWon_29 (A 87) x1 m (y3 + 1)).2) rfl rfl else by unfold uA; simp only [nb1 k0, cond_false]) rfl K)
    · have h1 : ¬ y3 = x1 := h
      rw [if_neg h1] at hE
      refine w_n 3 (pc1 := 47) (ls1 := [some (.ref 67), some (.int x1), some (.int x2), some (.int y3)]) (st1 := [.int y3, .ref 87]) (hp1 := (hz F A L)) rfl ?_
      refine w_al (k := 87) (l := (A 87)) rfl rfl rfl (fun ab => ?_)
      refine w_n 3 (pc1 := 53) (ls1 := [some (.ref 67), some (.int x1), some (.int x2), some (.int y3)]) (st1 := [.int x1, .ref 87, .int ((A 87).getD y3.toInt.toNat 0)]) (hp1 := (hz F A L)) rfl ?_
      refine w_al (k := 87) (l := (A 87)) rfl rfl rfl (fun _ => ?_)
      refine w_lt (p3 := 57) rfl rfl (fun h => ?_) (fun h => ?_)
      · have h2 : ((A 87).getD y3.toInt.toNat 0).toInt < ((A 87).getD x1.toInt.toNat 0).toInt := h
        rw [if_pos h2] at hE
        refine w_n 2 (pc1 := 29) (ls1 := [some (.ref 67), some (.int x1), some (.int x2), some (.int (y3 + 1))]) (st1 := []) (hp1 := (hz F A L)) rfl ?_
        subst T
        have hb2 := i_up (B := (F 67 3)) hb
        have hb3 : y3.toInt < (F 67 3).toInt := hb
        exact ih (show m = ((F 67 3).toInt - (y3 + 1).toInt).toNat by rw [hb2]; omega) (cvQ rfl (funext fun q => if k0 : q = 87 then by subst k0; exact Eq.trans (b := (km_isWon_29 (A 87) x1 m (y3 + 1)).2) rfl rfl else by unfold uA; simp only [nb1 k0, cond_false]) rfl K)
      · have h2 : ((A 87).getD x1.toInt.toNat 0).toInt ≤ ((A 87).getD y3.toInt.toNat 0).toInt := h
        rw [if_neg (Int.not_lt.mpr h2)] at hE
        refine w_n 1 (pc1 := 58) (ls1 := [some (.ref 67), some (.int x1), some (.int x2), some (.int y3)]) (st1 := [.int 0]) (hp1 := (hz F A L)) rfl ?_
        subst T
        exact w_ri rfl (cvQ rfl (funext fun q => if k0 : q = 87 then by subst k0; exact Eq.trans (b := (A 87)) rfl rfl else by unfold uA; simp only [nb1 k0, cond_false]) rfl K)
noncomputable def km_isWon (f67_3 : Int32) (a68 : List Int32) (a87 : List Int32) (x1 : Int32) (x2 : Int32) : Int32 × List Int32 := (km_isWon_29 ((km_laysFirsts f67_3 a68 a87 (km_allMeasures f67_3) x2).set x1.toInt.toNat (((km_laysFirsts f67_3 a68 a87 (km_allMeasures f67_3) x2).getD x1.toInt.toNat 0) + (km_biscuitsOf a68 x2))) x1 f67_3.toInt.toNat 0)
theorem t_km_isWon {f D : Nat} {F : Nat → Nat → Int32} {A : Nat → List Int32} {L : Nat → List Int64} {Q : Option Value → sm_H → Prop} {x1 : Int32} {x2 : Int32} (K : Q (some (.int ((km_isWon (F 67 3) (A 68) (A 87) x1 x2).1))) (hz F (uA A 87 ((km_isWon (F 67 3) (A 68) (A 87) x1 x2).2)) L)) : wl_M f D 233 [.ref 67, .int x1, .int x2] (hz F A L) Q := by
  generalize hT : (km_isWon (F 67 3) (A 68) (A 87) x1 x2) = T at K
  have hE : T = (km_isWon_29 ((km_laysFirsts (F 67 3) (A 68) (A 87) (km_allMeasures (F 67 3)) x2).set x1.toInt.toNat (((km_laysFirsts (F 67 3) (A 68) (A 87) (km_allMeasures (F 67 3)) x2).getD x1.toInt.toNat 0) + (km_biscuitsOf (A 68) x2))) x1 (F 67 3).toInt.toNat 0) := hT.symm
  clear hT
  refine w_m (E := mm233) rfl ?_
  show wl_E f f (D - 1) mm233.2.2.2.2.2.2.2.2 0 [some (.ref 67), some (.int x1), some (.int x2), none] [] (hz F A L) Q
  refine w_n 2 (pc1 := 2) (ls1 := [some (.ref 67), some (.int x1), some (.int x2), none]) (st1 := [.ref 67, .ref 67]) (hp1 := (hz F A L)) rfl ?_
  refine w_c rfl rfl (t_km_allMeasures ?_)
  show wl_E f _ _ mm233.2.2.2.2.2.2.2.2 5 [some (.ref 67), some (.int x1), some (.int x2), none] [.int (km_allMeasures (F 67 3)), .ref 67] (hz F A L) _
  generalize hG199 : (km_allMeasures (F 67 3)) = G199 at hE ⊢
  refine w_n 1 (pc1 := 6) (ls1 := [some (.ref 67), some (.int x1), some (.int x2), none]) (st1 := [.int x2, .int G199, .ref 67]) (hp1 := (hz F A L)) rfl ?_
  refine w_c rfl rfl (t_km_laysFirsts ?_)
  show wl_E f _ _ mm233.2.2.2.2.2.2.2.2 9 [some (.ref 67), some (.int x1), some (.int x2), none] [] (hz F (uA A 87 (km_laysFirsts (F 67 3) (A 68) (A 87) G199 x2)) L) _
  generalize hG200 : (km_laysFirsts (F 67 3) (A 68) (A 87) G199 x2) = G200 at hE ⊢
  refine w_n 6 (pc1 := 19) (ls1 := [some (.ref 67), some (.int x1), some (.int x2), none]) (st1 := [.int x1, .ref 87, .int x1, .ref 87]) (hp1 := (hz F (uA A 87 G200) L)) rfl ?_
  refine w_al (k := 87) (l := G200) rfl rfl rfl (fun _ => ?_)
  refine w_n 2 (pc1 := 22) (ls1 := [some (.ref 67), some (.int x1), some (.int x2), none]) (st1 := [.int x2, .ref 67, .int (G200.getD x1.toInt.toNat 0), .int x1, .ref 87]) (hp1 := (hz F (uA A 87 G200) L)) rfl ?_
  refine w_c rfl rfl (t_km_biscuitsOf ?_)
  show wl_E f _ _ mm233.2.2.2.2.2.2.2.2 25 [some (.ref 67), some (.int x1), some (.int x2), none] [.int (km_biscuitsOf (A 68) x2), .int (G200.getD x1.toInt.toNat 0), .int x1, .ref 87] (hz F (uA A 87 G200) L) _
  generalize hG203 : (km_biscuitsOf (A 68) x2) = G203 at hE ⊢
  refine w_n 1 (pc1 := 26) (ls1 := [some (.ref 67), some (.int x1), some (.int x2), none]) (st1 := [.int ((G200.getD x1.toInt.toNat 0) + G203), .int x1, .ref 87]) (hp1 := (hz F (uA A 87 G200) L)) rfl ?_
  refine w_as (k := 87) (l := G200) (hp1 := (hz F (uA (uA A 87 G200) 87 (G200.set x1.toInt.toNat ((G200.getD x1.toInt.toNat 0) + G203))) L)) rfl rfl rfl (hz_s87 _) (fun _ => ?_)
  refine w_n 2 (pc1 := 29) (ls1 := [some (.ref 67), some (.int x1), some (.int x2), some (.int 0)]) (st1 := []) (hp1 := (hz F (uA (uA A 87 G200) 87 (G200.set x1.toInt.toNat ((G200.getD x1.toInt.toNat 0) + G203))) L)) rfl ?_
  subst T
  exact t_km_isWon_29 _ (show (F 67 3).toInt.toNat = ((F 67 3).toInt - (0 : Int32).toInt).toNat by have e0 : (0 : Int32).toInt = 0 := rfl; first | rfl | omega) (cvQ rfl (funext fun q => if k0 : q = 87 then by subst k0; exact Eq.trans (b := (km_isWon_29 (G200.set x1.toInt.toNat ((G200.getD x1.toInt.toNat 0) + G203)) x1 (F 67 3).toInt.toNat 0).2) rfl rfl else by unfold uA; simp only [nb1 k0, cond_false]) rfl K)
noncomputable def km_bits_4  (x0 : Int32) : Nat → Int32 → Int32 → Int32
  | 0, y1, _ => y1
  | m + 1, y1, y2 => (km_bits_4 x0 m (y1 + ((x0 >>> (y2 &&& 31)) &&& 1)) (y2 + 1))
theorem t_km_bits_4 {f : Nat} {Q : Option Value → sm_H → Prop} : ∀ (m : Nat) {B D : Nat} {F : Nat → Nat → Int32} {A : Nat → List Int32} {L : Nat → List Int64} {x0 : Int32} {y1 : Int32} {y2 : Int32}, m = (12 - y2.toInt).toNat → (∀ q2 : Int32, wl_E f B D mm215.2.2.2.2.2.2.2.2 24 [some (.int x0), some (.int (km_bits_4 x0 m y1 y2)), some (.int q2)] [] (hz F A L) Q) → wl_E f B D mm215.2.2.2.2.2.2.2.2 4 [some (.int x0), some (.int y1), some (.int y2)] [] (hz F A L) Q := by
  intro m
  induction m with
  | zero =>
    intro B D F A L x0 y1 y2 hm K
    generalize hT : (km_bits_4 x0 0 y1 y2) = T at K
    have hE : T = y1 := hT.symm
    clear hT
    refine w_n 2 (pc1 := 7) (ls1 := [some (.int x0), some (.int y1), some (.int y2)]) (st1 := [.int 12, .int y2]) (hp1 := (hz F A L)) rfl ?_
    refine w_ge (p3 := 10) rfl rfl (fun hb => ?_) (fun h => False.elim (by have h : y2.toInt < 12 := h; omega))
    subst T
    exact cvE rfl rfl rfl (K _)
  | succ m ih =>
    intro B D F A L x0 y1 y2 hm K
    generalize hT : (km_bits_4 x0 (m + 1) y1 y2) = T at K
    have hE : T = (km_bits_4 x0 m (y1 + ((x0 >>> (y2 &&& 31)) &&& 1)) (y2 + 1)) := hT.symm
    clear hT
    refine w_n 2 (pc1 := 7) (ls1 := [some (.int x0), some (.int y1), some (.int y2)]) (st1 := [.int 12, .int y2]) (hp1 := (hz F A L)) rfl ?_
    refine w_ge (p3 := 10) rfl rfl (fun h => False.elim (by have h : 12 ≤ y2.toInt := h; omega)) (fun hb => ?_)
    refine w_n 10 (pc1 := 4) (ls1 := [some (.int x0), some (.int (y1 + ((x0 >>> (y2 &&& 31)) &&& 1))), some (.int (y2 + 1))]) (st1 := []) (hp1 := (hz F A L)) rfl ?_
    subst T
    have hb2 := i_up (B := (12 : Int32)) hb
    have hb3 : y2.toInt < 12 := hb
    exact ih (show m = (12 - (y2 + 1).toInt).toNat by rw [hb2]; omega) (fun q2 => cvE rfl rfl rfl (K q2))
noncomputable def km_bits (x0 : Int32) : Int32 := (km_bits_4 x0 12 0 0)
theorem t_km_bits {f D : Nat} {F : Nat → Nat → Int32} {A : Nat → List Int32} {L : Nat → List Int64} {Q : Option Value → sm_H → Prop} {x0 : Int32} (K : Q (some (.int (km_bits x0))) (hz F A L)) : wl_M f D 215 [.int x0] (hz F A L) Q := by
  generalize hT : (km_bits x0) = T at K
  have hE : T = (km_bits_4 x0 12 0 0) := hT.symm
  clear hT
  refine w_m (E := mm215) rfl ?_
  show wl_E f f (D - 1) mm215.2.2.2.2.2.2.2.2 0 [some (.int x0), none, none] [] (hz F A L) Q
  refine w_n 4 (pc1 := 4) (ls1 := [some (.int x0), some (.int 0), some (.int 0)]) (st1 := []) (hp1 := (hz F A L)) rfl ?_
  refine t_km_bits_4 12 (show (12 : Nat) = (12 - (0 : Int32).toInt).toNat by have e0 : (0 : Int32).toInt = 0 := rfl; first | rfl | omega) ?_
  intro r1
  show wl_E f _ _ mm215.2.2.2.2.2.2.2.2 24 [some (.int x0), some (.int (km_bits_4 x0 12 0 0)), some (.int r1)] [] (hz F A L) _
  generalize hG205 : (km_bits_4 x0 12 0 0) = G205 at hE ⊢
  refine w_n 1 (pc1 := 25) (ls1 := [some (.int x0), some (.int G205), some (.int r1)]) (st1 := [.int G205]) (hp1 := (hz F A L)) rfl ?_
  subst T
  exact w_ri rfl (cvQ rfl rfl rfl K)
noncomputable def km_wonOver_25 (f67_3 : Int32) (a68 : List Int32) (x1 : Int32) : Nat → Int32 → Int32 → List Int32 → Int32 × List Int32
  | 0, y3, _, a87 => (y3, a87)
  | m + 1, y3, y4, a87 => (if (y4 &&& ((a68.getD 144 0) ^^^ (-1))) = 0 then (if y3 = (-2) then (if (km_isWon f67_3 a68 a87 x1 y4).1 = 0 then (km_wonOver_25 f67_3 a68 x1 m y3 (y4 + 1) (km_isWon f67_3 a68 a87 x1 y4).2) else (km_wonOver_25 f67_3 a68 x1 m y4 (y4 + 1) (km_isWon f67_3 a68 a87 x1 y4).2)) else (if (km_bits y4).toInt < (km_bits y3).toInt then (if (km_isWon f67_3 a68 a87 x1 y4).1 = 0 then (km_wonOver_25 f67_3 a68 x1 m y3 (y4 + 1) (km_isWon f67_3 a68 a87 x1 y4).2) else (km_wonOver_25 f67_3 a68 x1 m y4 (y4 + 1) (km_isWon f67_3 a68 a87 x1 y4).2)) else (km_wonOver_25 f67_3 a68 x1 m y3 (y4 + 1) a87))) else (km_wonOver_25 f67_3 a68 x1 m y3 (y4 + 1) a87))
theorem t_km_wonOver_25 {f : Nat} {Q : Option Value → sm_H → Prop} : ∀ (m : Nat) {B D : Nat} {F : Nat → Nat → Int32} {A : Nat → List Int32} {L : Nat → List Int64} {x1 : Int32} {x2 : Int32} {y3 : Int32} {y4 : Int32}, m = (((A 68).getD 144 0).toInt + 1 - y4.toInt).toNat → (_ : ((A 68).getD 144 0).toInt < 2147483647) → (∀ q4 : Int32, wl_E f B D mm232.2.2.2.2.2.2.2.2 94 [some (.ref 67), some (.int x1), some (.int x2), some (.int ((km_wonOver_25 (F 67 3) (A 68) x1 m y3 y4 (A 87)).1)), some (.int q4)] [] (hz F (uA A 87 ((km_wonOver_25 (F 67 3) (A 68) x1 m y3 y4 (A 87)).2)) L) Q) → wl_E f B D mm232.2.2.2.2.2.2.2.2 25 [some (.ref 67), some (.int x1), some (.int x2), some (.int y3), some (.int y4)] [] (hz F A L) Q := by
  intro m
  induction m with
  | zero =>
    intro B D F A L x1 x2 y3 y4 hm hh0 K
    generalize hT : (km_wonOver_25 (F 67 3) (A 68) x1 0 y3 y4 (A 87)) = T at K
    have hE : T = (y3, (A 87)) := hT.symm
    clear hT
    refine w_n 4 (pc1 := 34) (ls1 := [some (.ref 67), some (.int x1), some (.int x2), some (.int y3), some (.int y4)]) (st1 := [.int 144, .ref 68, .int y4]) (hp1 := (hz F A L)) rfl ?_
    refine w_al (k := 68) (l := (A 68)) rfl rfl rfl (fun _ => ?_)
    refine w_gt (p3 := 38) rfl rfl (fun hb => ?_) (fun h => False.elim (by have h : y4.toInt ≤ ((A 68).getD 144 0).toInt := h; omega))
    subst T
    exact cvE rfl (funext fun q => if k0 : q = 87 then by subst k0; exact Eq.trans (b := (A 87)) rfl rfl else by unfold uA; simp only [nb1 k0, cond_false]) rfl (K _)
  | succ m ih =>
    intro B D F A L x1 x2 y3 y4 hm hh0 K
    generalize hT : (km_wonOver_25 (F 67 3) (A 68) x1 (m + 1) y3 y4 (A 87)) = T at K
    have hE : T = (if (y4 &&& (((A 68).getD 144 0) ^^^ (-1))) = 0 then (if y3 = (-2) then (if (km_isWon (F 67 3) (A 68) (A 87) x1 y4).1 = 0 then (km_wonOver_25 (F 67 3) (A 68) x1 m y3 (y4 + 1) (km_isWon (F 67 3) (A 68) (A 87) x1 y4).2) else (km_wonOver_25 (F 67 3) (A 68) x1 m y4 (y4 + 1) (km_isWon (F 67 3) (A 68) (A 87) x1 y4).2)) else (if (km_bits y4).toInt < (km_bits y3).toInt then (if (km_isWon (F 67 3) (A 68) (A 87) x1 y4).1 = 0 then (km_wonOver_25 (F 67 3) (A 68) x1 m y3 (y4 + 1) (km_isWon (F 67 3) (A 68) (A 87) x1 y4).2) else (km_wonOver_25 (F 67 3) (A 68) x1 m y4 (y4 + 1) (km_isWon (F 67 3) (A 68) (A 87) x1 y4).2)) else (km_wonOver_25 (F 67 3) (A 68) x1 m y3 (y4 + 1) (A 87)))) else (km_wonOver_25 (F 67 3) (A 68) x1 m y3 (y4 + 1) (A 87))) := hT.symm
    clear hT
    refine w_n 4 (pc1 := 34) (ls1 := [some (.ref 67), some (.int x1), some (.int x2), some (.int y3), some (.int y4)]) (st1 := [.int 144, .ref 68, .int y4]) (hp1 := (hz F A L)) rfl ?_
    refine w_al (k := 68) (l := (A 68)) rfl rfl rfl (fun _ => ?_)
    refine w_gt (p3 := 38) rfl rfl (fun h => False.elim (by have h : ((A 68).getD 144 0).toInt < y4.toInt := h; omega)) (fun hb => ?_)
    refine w_n 4 (pc1 := 47) (ls1 := [some (.ref 67), some (.int x1), some (.int x2), some (.int y3), some (.int y4)]) (st1 := [.int 144, .ref 68, .int y4]) (hp1 := (hz F A L)) rfl ?_
    refine w_al (k := 68) (l := (A 68)) rfl rfl rfl (fun _ => ?_)
    refine w_n 3 (pc1 := 51) (ls1 := [some (.ref 67), some (.int x1), some (.int x2), some (.int y3), some (.int y4)]) (st1 := [.int (y4 &&& (((A 68).getD 144 0) ^^^ (-1)))]) (hp1 := (hz F A L)) rfl ?_
    refine w_zne (p3 := 54) rfl rfl (fun h => ?_) (fun h => ?_)
    · have h1 : ¬ (y4 &&& (((A 68).getD 144 0) ^^^ (-1))) = 0 := h
      rw [if_neg h1] at hE
      refine w_n 2 (pc1 := 25) (ls1 := [some (.ref 67), some (.int x1), some (.int x2), some (.int y3), some (.int (y4 + 1))]) (st1 := []) (hp1 := (hz F A L)) rfl ?_
      subst T
      have hb2 := i_up2 (B := ((A 68).getD 144 0)) hb (by first | decide | exact hB | assumption)
      have hb3 : y4.toInt ≤ ((A 68).getD 144 0).toInt := hb
      exact ih (show m = (((A 68).getD 144 0).toInt + 1 - (y4 + 1).toInt).toNat by rw [hb2]; omega) hh0 (fun q4 => cvE rfl (funext fun q => if k0 : q = 87 then by subst k0; exact Eq.trans (b := (km_wonOver_25 (F 67 3) (A 68) x1 m y3 (y4 + 1) (A 87)).2) rfl rfl else by unfold uA; simp only [nb1 k0, cond_false]) rfl (K q4))
    · have h1 : (y4 &&& (((A 68).getD 144 0) ^^^ (-1))) = 0 := h
      rw [if_pos h1] at hE
      refine w_n 2 (pc1 := 57) (ls1 := [some (.ref 67), some (.int x1), some (.int x2), some (.int y3), some (.int y4)]) (st1 := [.int (-2), .int y3]) (hp1 := (hz F A L)) rfl ?_
      refine w_eq (p3 := 60) rfl rfl (fun h => ?_) (fun h => ?_)
      · have h2 : y3 = (-2) := h
        rw [if_pos h2] at hE
        refine w_n 3 (pc1 := 76) (ls1 := [some (.ref 67), some (.int x1), some (.int x2), some (.int y3), some (.int y4)]) (st1 := [.int y4, .int x1, .ref 67]) (hp1 := (hz F A L)) rfl ?_
        refine w_c rfl rfl (t_km_isWon ?_)
        show wl_E f _ _ mm232.2.2.2.2.2.2.2.2 79 [some (.ref 67), some (.int x1), some (.int x2), some (.int y3), some (.int y4)] [.int (km_isWon (F 67 3) (A 68) (A 87) x1 y4).1] (hz F (uA A 87 (km_isWon (F 67 3) (A 68) (A 87) x1 y4).2) L) _
        generalize hG204 : (km_isWon (F 67 3) (A 68) (A 87) x1 y4) = G204 at hE ⊢
        refine w_zne (p3 := 82) rfl rfl (fun h => ?_) (fun h => ?_)
        · have h3 : ¬ G204.1 = 0 := h
          rw [if_neg h3] at hE
          refine w_n 4 (pc1 := 25) (ls1 := [some (.ref 67), some (.int x1), some (.int x2), some (.int y4), some (.int (y4 + 1))]) (st1 := []) (hp1 := (hz F (uA A 87 G204.2) L)) rfl ?_
          subst T
          have hb2 := i_up2 (B := ((A 68).getD 144 0)) hb (by first | decide | exact hB | assumption)
          have hb3 : y4.toInt ≤ ((A 68).getD 144 0).toInt := hb
          exact ih (show m = (((A 68).getD 144 0).toInt + 1 - (y4 + 1).toInt).toNat by rw [hb2]; omega) hh0 (fun q4 => cvE rfl (funext fun q => if k0 : q = 87 then by subst k0; exact Eq.trans (b := (km_wonOver_25 (F 67 3) (A 68) x1 m y4 (y4 + 1) G204.2).2) rfl rfl else by unfold uA; simp only [nb1 k0, cond_false]) rfl (K q4))
        · have h3 : G204.1 = 0 := h
          rw [if_pos h3] at hE
          refine w_n 3 (pc1 := 25) (ls1 := [some (.ref 67), some (.int x1), some (.int x2), some (.int y3), some (.int (y4 + 1))]) (st1 := []) (hp1 := (hz F (uA A 87 G204.2) L)) rfl ?_
          subst T
          have hb2 := i_up2 (B := ((A 68).getD 144 0)) hb (by first | decide | exact hB | assumption)
          have hb3 : y4.toInt ≤ ((A 68).getD 144 0).toInt := hb
          exact ih (show m = (((A 68).getD 144 0).toInt + 1 - (y4 + 1).toInt).toNat by rw [hb2]; omega) hh0 (fun q4 => cvE rfl (funext fun q => if k0 : q = 87 then by subst k0; exact Eq.trans (b := (km_wonOver_25 (F 67 3) (A 68) x1 m y3 (y4 + 1) G204.2).2) rfl rfl else by unfold uA; simp only [nb1 k0, cond_false]) rfl (K q4))
      · have h2 : ¬ y3 = (-2) := h
        rw [if_neg h2] at hE
        refine w_n 1 (pc1 := 62) (ls1 := [some (.ref 67), some (.int x1), some (.int x2), some (.int y3), some (.int y4)]) (st1 := [.int y4]) (hp1 := (hz F A L)) rfl ?_
        refine w_c rfl rfl (t_km_bits ?_)
        show wl_E f _ _ mm232.2.2.2.2.2.2.2.2 65 [some (.ref 67), some (.int x1), some (.int x2), some (.int y3), some (.int y4)] [.int (km_bits y4)] (hz F A L) _
        generalize hG206 : (km_bits y4) = G206 at hE ⊢
        refine w_n 1 (pc1 := 66) (ls1 := [some (.ref 67), some (.int x1), some (.int x2), some (.int y3), some (.int y4)]) (st1 := [.int y3, .int G206]) (hp1 := (hz F A L)) rfl ?_
        refine w_c rfl rfl (t_km_bits ?_)
        show wl_E f _ _ mm232.2.2.2.2.2.2.2.2 69 [some (.ref 67), some (.int x1), some (.int x2), some (.int y3), some (.int y4)] [.int (km_bits y3), .int G206] (hz F A L) _
        generalize hG207 : (km_bits y3) = G207 at hE ⊢
        refine w_ge (p3 := 72) rfl rfl (fun h => ?_) (fun h => ?_)
        · have h4 : G207.toInt ≤ G206.toInt := h
          rw [if_neg (Int.not_lt.mpr h4)] at hE
          refine w_n 2 (pc1 := 25) (ls1 := [some (.ref 67), some (.int x1), some (.int x2), some (.int y3), some (.int (y4 + 1))]) (st1 := []) (hp1 := (hz F A L)) rfl ?_
          subst T
          have hb2 := i_up2 (B := ((A 68).getD 144 0)) hb (by first | decide | exact hB | assumption)
          have hb3 : y4.toInt ≤ ((A 68).getD 144 0).toInt := hb
          exact ih (show m = (((A 68).getD 144 0).toInt + 1 - (y4 + 1).toInt).toNat by rw [hb2]; omega) hh0 (fun q4 => cvE rfl (funext fun q => if k0 : q = 87 then by subst k0; exact Eq.trans (b := (km_wonOver_25 (F 67 3) (A 68) x1 m y3 (y4 + 1) (A 87)).2) rfl rfl else by unfold uA; simp only [nb1 k0, cond_false]) rfl (K q4))
        · have h4 : G206.toInt < G207.toInt := h
          rw [if_pos h4] at hE
          refine w_n 3 (pc1 := 76) (ls1 := [some (.ref 67), some (.int x1), some (.int x2), some (.int y3), some (.int y4)]) (st1 := [.int y4, .int x1, .ref 67]) (hp1 := (hz F A L)) rfl ?_
          refine w_c rfl rfl (t_km_isWon ?_)
          show wl_E f _ _ mm232.2.2.2.2.2.2.2.2 79 [some (.ref 67), some (.int x1), some (.int x2), some (.int y3), some (.int y4)] [.int (km_isWon (F 67 3) (A 68) (A 87) x1 y4).1] (hz F (uA A 87 (km_isWon (F 67 3) (A 68) (A 87) x1 y4).2) L) _
          generalize hG208 : (km_isWon (F 67 3) (A 68) (A 87) x1 y4) = G208 at hE ⊢
          refine w_zne (p3 := 82) rfl rfl (fun h => ?_) (fun h => ?_)
          · have h5 : ¬ G208.1 = 0 := h
            rw [if_neg h5] at hE
            refine w_n 4 (pc1 := 25) (ls1 := [some (.ref 67), some (.int x1), some (.int x2), some (.int y4), some (.int (y4 + 1))]) (st1 := []) (hp1 := (hz F (uA A 87 G208.2) L)) rfl ?_
            subst T
            have hb2 := i_up2 (B := ((A 68).getD 144 0)) hb (by first | decide | exact hB | assumption)
            have hb3 : y4.toInt ≤ ((A 68).getD 144 0).toInt := hb
            exact ih (show m = (((A 68).getD 144 0).toInt + 1 - (y4 + 1).toInt).toNat by rw [hb2]; omega) hh0 (fun q4 => cvE rfl (funext fun q => if k0 : q = 87 then by subst k0; exact Eq.trans (b := (km_wonOver_25 (F 67 3) (A 68) x1 m y4 (y4 + 1) G208.2).2) rfl rfl else by unfold uA; simp only [nb1 k0, cond_false]) rfl (K q4))
          · have h5 : G208.1 = 0 := h
            rw [if_pos h5] at hE
            refine w_n 3 (pc1 := 25) (ls1 := [some (.ref 67), some (.int x1), some (.int x2), some (.int y3), some (.int (y4 + 1))]) (st1 := []) (hp1 := (hz F (uA A 87 G208.2) L)) rfl ?_
            subst T
            have hb2 := i_up2 (B := ((A 68).getD 144 0)) hb (by first | decide | exact hB | assumption)
            have hb3 : y4.toInt ≤ ((A 68).getD 144 0).toInt := hb
            exact ih (show m = (((A 68).getD 144 0).toInt + 1 - (y4 + 1).toInt).toNat by rw [hb2]; omega) hh0 (fun q4 => cvE rfl (funext fun q => if k0 : q = 87 then by subst k0; exact Eq.trans (b := (km_wonOver_25 (F 67 3) (A 68) x1 m y3 (y4 + 1) G208.2).2) rfl rfl else by unfold uA; simp only [nb1 k0, cond_false]) rfl (K q4))
