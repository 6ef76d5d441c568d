/-! lifts, printed by genlift.py: 6 -/
noncomputable def km_runsOff_99  (x1 : Int32) : Nat → Int32 → Int32
  | 0, y2 => y2
  | m + 1, y2 => (if (km_has x1 y2) = 0 then (km_runsOff_99 x1 m (y2 + 1)) else y2)
theorem t_km_runsOff_99 {f : Nat} {Q : Option Value → sm_H → Prop} : ∀ (m : Nat) (B : Nat) {D : Nat} {F : Nat → Nat → Int32} {A : Nat → List Int32} {L : Nat → List Int64} {x1 : Int32} {y2 : Int32} {o3 : Option Value} {o4 : Option Value}, B ≤ m → (wl_E f B D mm210.2.2.2.2.2.2.2.2 114 [some (.ref 67), some (.int x1), some (.int (km_runsOff_99 x1 m y2)), o3, o4] [] (hz F A L) Q) → wl_E f B D mm210.2.2.2.2.2.2.2.2 99 [some (.ref 67), some (.int x1), some (.int y2), o3, o4] [] (hz F A L) Q := by
  intro m
  induction m with
  | zero =>
    intro B D F A L x1 y2 o3 o4 hm K
    rw [show B = 0 by omega]
    exact w_0
  | succ m ih =>
    intro B D F A L x1 y2 o3 o4 hm K
    cases B with
    | zero => exact w_0
    | succ B =>
      generalize hT : (km_runsOff_99 x1 (m + 1) y2) = T at K
      have hE : T = (if (km_has x1 y2) = 0 then (km_runsOff_99 x1 m (y2 + 1)) else y2) := hT.symm
      clear hT
      refine w_n1 (pc1 := 100) (ls1 := [some (.ref 67), some (.int x1), some (.int y2), o3, o4]) (st1 := [.int x1]) (hp1 := (hz F A L)) rfl ?_
      refine w_n 1 (pc1 := 101) (ls1 := [some (.ref 67), some (.int x1), some (.int y2), o3, o4]) (st1 := [.int y2, .int x1]) (hp1 := (hz F A L)) rfl ?_
      refine w_c rfl rfl (t_km_has ?_)
      show wl_E f _ _ mm210.2.2.2.2.2.2.2.2 104 [some (.ref 67), some (.int x1), some (.int y2), o3, o4] [.int (km_has x1 y2)] (hz F A L) _
      generalize hG180 : (km_has x1 y2) = G180 at hE ⊢
      refine w_zne (p3 := 107) rfl rfl (fun h => ?_) (fun h => ?_)
      · have h1 : ¬ G180 = 0 := h
        rw [if_neg h1] at hE
        subst T
        exact cvE rfl rfl rfl (wl_le (Nat.le_succ _) (K))
      · have h1 : G180 = 0 := h
        rw [if_pos h1] at hE
        refine w_n 5 (pc1 := 99) (ls1 := [some (.ref 67), some (.int x1), some (.int (y2 + 1)), o3, o4]) (st1 := []) (hp1 := (hz F A L)) rfl ?_
        subst T
        exact ih _ (by omega) (cvE rfl rfl rfl (wl_le (Nat.le_succ _) (K)))
noncomputable def km_runsOff (f : Nat) (f67_3 : Int32) (a68 : List Int32) (a87 : List Int32) (a89 : List Int32) : Int32 × List Int32 × List Int32 := ((km_runsOff_99 (km_runsOff_7 f67_3 a68 ((f67_3 - 1).toInt).toNat (km_allMeasures f67_3) 0 a87 a89).1 f 0), (km_runsOff_7 f67_3 a68 ((f67_3 - 1).toInt).toNat (km_allMeasures f67_3) 0 a87 a89).2.1, (km_runsOff_7 f67_3 a68 ((f67_3 - 1).toInt).toNat (km_allMeasures f67_3) 0 a87 a89).2.2)
theorem t_km_runsOff {f D : Nat} {F : Nat → Nat → Int32} {A : Nat → List Int32} {L : Nat → List Int64} {Q : Option Value → sm_H → Prop} (K : Q (some (.int ((km_runsOff f (F 67 3) (A 68) (A 87) (A 89)).1))) (hz F (uA (uA A 87 ((km_runsOff f (F 67 3) (A 68) (A 87) (A 89)).2.1)) 89 ((km_runsOff f (F 67 3) (A 68) (A 87) (A 89)).2.2)) L)) : wl_M f D 210 [.ref 67] (hz F A L) Q := by
  generalize hT : (km_runsOff f (F 67 3) (A 68) (A 87) (A 89)) = T at K
  have hE : T = ((km_runsOff_99 (km_runsOff_7 (F 67 3) (A 68) (((F 67 3) - 1).toInt).toNat (km_allMeasures (F 67 3)) 0 (A 87) (A 89)).1 f 0), (km_runsOff_7 (F 67 3) (A 68) (((F 67 3) - 1).toInt).toNat (km_allMeasures (F 67 3)) 0 (A 87) (A 89)).2.1, (km_runsOff_7 (F 67 3) (A 68) (((F 67 3) - 1).toInt).toNat (km_allMeasures (F 67 3)) 0 (A 87) (A 89)).2.2) := hT.symm
  clear hT
  refine w_m (E := mm210) rfl ?_
  show wl_E f f (D - 1) mm210.2.2.2.2.2.2.2.2 0 [some (.ref 67), none, none, none, none] [] (hz F A L) Q
  refine w_n 1 (pc1 := 1) (ls1 := [some (.ref 67), none, none, none, none]) (st1 := [.ref 67]) (hp1 := (hz F A L)) rfl ?_
  refine w_c rfl rfl (t_km_allMeasures ?_)
  show wl_E f _ _ mm210.2.2.2.2.2.2.2.2 4 [some (.ref 67), none, none, none, none] [.int (km_allMeasures (F 67 3))] (hz F A L) _
  generalize hG175 : (km_allMeasures (F 67 3)) = G175 at hE ⊢
  refine w_n 3 (pc1 := 7) (ls1 := [some (.ref 67), some (.int G175), some (.int 0), none, none]) (st1 := []) (hp1 := (hz F A L)) rfl ?_
  refine t_km_runsOff_7 ((((F 67 3) - 1).toInt).toNat) (show (((F 67 3) - 1).toInt).toNat = (((F 67 3) - 1).toInt - (0 : Int32).toInt).toNat by have e0 : (0 : Int32).toInt = 0 := rfl; first | rfl | omega) ?_
  intro r1 r2 r3
  show wl_E f _ _ mm210.2.2.2.2.2.2.2.2 97 [some (.ref 67), some (.int (km_runsOff_7 (F 67 3) (A 68) (((F 67 3) - 1).toInt).toNat G175 0 (A 87) (A 89)).1), some (.int r1), r2, r3] [] (hz F (uA (uA A 87 (km_runsOff_7 (F 67 3) (A 68) (((F 67 3) - 1).toInt).toNat G175 0 (A 87) (A 89)).2.1) 89 (km_runsOff_7 (F 67 3) (A 68) (((F 67 3) - 1).toInt).toNat G175 0 (A 87) (A 89)).2.2) L) _
  generalize hG179 : (km_runsOff_7 (F 67 3) (A 68) (((F 67 3) - 1).toInt).toNat G175 0 (A 87) (A 89)) = G179 at hE ⊢
  refine w_n 2 (pc1 := 99) (ls1 := [some (.ref 67), some (.int G179.1), some (.int 0), r2, r3]) (st1 := []) (hp1 := (hz F (uA (uA A 87 G179.2.1) 89 G179.2.2) L)) rfl ?_
  refine t_km_runsOff_99 f _ (Nat.le_refl _) ?_
  show wl_E f _ _ mm210.2.2.2.2.2.2.2.2 114 [some (.ref 67), some (.int G179.1), some (.int (km_runsOff_99 G179.1 f 0)), r2, r3] [] (hz F (uA (uA A 87 G179.2.1) 89 G179.2.2) L) _
  generalize hG181 : (km_runsOff_99 G179.1 f 0) = G181 at hE ⊢
  refine w_n 1 (pc1 := 115) (ls1 := [some (.ref 67), some (.int G179.1), some (.int G181), r2, r3]) (st1 := [.int G181]) (hp1 := (hz F (uA (uA A 87 G179.2.1) 89 G179.2.2) L)) rfl ?_
  subst T
  exact w_ri rfl (cvQ rfl rfl rfl K)
noncomputable def km_runOff (f : Nat) (f67_3 : Int32) (a68 : List Int32) (a87 : List Int32) (a89 : List Int32) (x1 : Int32) : Int32 × List Int32 × List Int32 := (if x1 = 10 then ((km_runsOff f f67_3 a68 a87 a89).1, (km_runsOff f f67_3 a68 a87 a89).2.1, (km_runsOff f f67_3 a68 a87 a89).2.2) else (if (km_in x1 0 (f67_3 - 2)) = 0 then ((-1), a87, a89) else (((km_runsOff f f67_3 a68 a87 a89).2.2.getD x1.toInt.toNat 0), (km_runsOff f f67_3 a68 a87 a89).2.1, (km_runsOff f f67_3 a68 a87 a89).2.2)))
theorem t_km_runOff {f D : Nat} {F : Nat → Nat → Int32} {A : Nat → List Int32} {L : Nat → List Int64} {Q : Option Value → sm_H → Prop} {x1 : Int32} (K : Q (some (.int ((km_runOff f (F 67 3) (A 68) (A 87) (A 89) x1).1))) (hz F (uA (uA A 87 ((km_runOff f (F 67 3) (A 68) (A 87) (A 89) x1).2.1)) 89 ((km_runOff f (F 67 3) (A 68) (A 87) (A 89) x1).2.2)) L)) : wl_M f D 209 [.ref 67, .int x1] (hz F A L) Q := by
  generalize hT : (km_runOff f (F 67 3) (A 68) (A 87) (A 89) x1) = T at K
  have hE : T = (if x1 = 10 then ((km_runsOff f (F 67 3) (A 68) (A 87) (A 89)).1, (km_runsOff f (F 67 3) (A 68) (A 87) (A 89)).2.1, (km_runsOff f (F 67 3) (A 68) (A 87) (A 89)).2.2) else (if (km_in x1 0 ((F 67 3) - 2)) = 0 then ((-1), (A 87), (A 89)) else (((km_runsOff f (F 67 3) (A 68) (A 87) (A 89)).2.2.getD x1.toInt.toNat 0), (km_runsOff f (F 67 3) (A 68) (A 87) (A 89)).2.1, (km_runsOff f (F 67 3) (A 68) (A 87) (A 89)).2.2))) := hT.symm
  clear hT
  refine w_m (E := mm209) rfl ?_
  show wl_E f f (D - 1) mm209.2.2.2.2.2.2.2.2 0 [some (.ref 67), some (.int x1), none] [] (hz F A L) Q
  refine w_n 2 (pc1 := 3) (ls1 := [some (.ref 67), some (.int x1), none]) (st1 := [.int 10, .int x1]) (hp1 := (hz F A L)) rfl ?_
  refine w_eq (p3 := 6) rfl rfl (fun h => ?_) (fun h => ?_)
  · have h1 : x1 = 10 := h
    rw [if_pos h1] at hE
    refine w_n 1 (pc1 := 23) (ls1 := [some (.ref 67), some (.int x1), none]) (st1 := [.ref 67]) (hp1 := (hz F A L)) rfl ?_
    refine w_c rfl rfl (t_km_runsOff ?_)
    show wl_E f _ _ mm209.2.2.2.2.2.2.2.2 26 [some (.ref 67), some (.int x1), none] [.int (km_runsOff f (F 67 3) (A 68) (A 87) (A 89)).1] (hz F (uA (uA A 87 (km_runsOff f (F 67 3) (A 68) (A 87) (A 89)).2.1) 89 (km_runsOff f (F 67 3) (A 68) (A 87) (A 89)).2.2) L) _
    generalize hG182 : (km_runsOff f (F 67 3) (A 68) (A 87) (A 89)) = G182 at hE ⊢
    refine w_n 3 (pc1 := 30) (ls1 := [some (.ref 67), some (.int x1), some (.int G182.1)]) (st1 := [.int 10, .int x1]) (hp1 := (hz F (uA (uA A 87 G182.2.1) 89 G182.2.2) L)) rfl ?_
    refine w_ne (p3 := 33) rfl rfl (fun h => absurd h1 h) (fun _ => ?_)
    refine w_n 2 (pc1 := 43) (ls1 := [some (.ref 67), some (.int x1), some (.int G182.1)]) (st1 := [.int G182.1]) (hp1 := (hz F (uA (uA A 87 G182.2.1) 89 G182.2.2) L)) rfl ?_
    subst T
    exact w_ri rfl (cvQ rfl rfl rfl K)
  · have h1 : ¬ x1 = 10 := h
    rw [if_neg h1] at hE
    refine w_n 6 (pc1 := 14) (ls1 := [some (.ref 67), some (.int x1), none]) (st1 := [.int ((F 67 3) - 2), .int 0, .int x1]) (hp1 := (hz F A L)) rfl ?_
    refine w_c rfl rfl (t_km_in ?_)
    show wl_E f _ _ mm209.2.2.2.2.2.2.2.2 17 [some (.ref 67), some (.int x1), none] [.int (km_in x1 0 ((F 67 3) - 2))] (hz F A L) _
    generalize hG183 : (km_in x1 0 ((F 67 3) - 2)) = G183 at hE ⊢
    refine w_zne (p3 := 20) rfl rfl (fun h => ?_) (fun h => ?_)
    · have h2 : ¬ G183 = 0 := h
      rw [if_neg h2] at hE
      refine w_n 1 (pc1 := 23) (ls1 := [some (.ref 67), some (.int x1), none]) (st1 := [.ref 67]) (hp1 := (hz F A L)) rfl ?_
      refine w_c rfl rfl (t_km_runsOff ?_)
      show wl_E f _ _ mm209.2.2.2.2.2.2.2.2 26 [some (.ref 67), some (.int x1), none] [.int (km_runsOff f (F 67 3) (A 68) (A 87) (A 89)).1] (hz F (uA (uA A 87 (km_runsOff f (F 67 3) (A 68) (A 87) (A 89)).2.1) 89 (km_runsOff f (F 67 3) (A 68) (A 87) (A 89)).2.2) L) _
      generalize hG184 : (km_runsOff f (F 67 3) (A 68) (A 87) (A 89)) = G184 at hE ⊢
      refine w_n 3 (pc1 := 30) (ls1 := [some (.ref 67), some (.int x1), some (.int G184.1)]) (st1 := [.int 10, .int x1]) (hp1 := (hz F (uA (uA A 87 G184.2.1) 89 G184.2.2) L)) rfl ?_
      refine w_ne (p3 := 33) rfl rfl (fun _ => ?_) (fun h => absurd h h1)
      refine w_n 3 (pc1 := 42) (ls1 := [some (.ref 67), some (.int x1), some (.int G184.1)]) (st1 := [.int x1, .ref 89]) (hp1 := (hz F (uA (uA A 87 G184.2.1) 89 G184.2.2) L)) rfl ?_
      refine w_al (k := 89) (l := G184.2.2) rfl rfl rfl (fun _ => ?_)
      subst T
      exact w_ri rfl (cvQ rfl rfl rfl K)
    · have h2 : G183 = 0 := h
      rw [if_pos h2] at hE
      refine w_n 1 (pc1 := 21) (ls1 := [some (.ref 67), some (.int x1), none]) (st1 := [.int (-1)]) (hp1 := (hz F A L)) rfl ?_
      subst T
      exact w_ri rfl (cvQ rfl (funext fun q => if k0 : q = 87 then by subst k0; exact Eq.trans (b := (A 87)) rfl rfl else if k1 : q = 89 then by subst k1; exact Eq.trans (b := (A 89)) rfl rfl else by unfold uA; simp only [nb1 k0, nb1 k1, cond_false]) rfl K)
noncomputable def kv_weighPairs_17 (f3_1 : Int32) (a6 : List Int32) (l11 : List Int64) (x2 : Int32) : Nat → Int32 → List Int32 → List Int32
  | 0, _, a32 => a32
  | m + 1, y3, a32 => (kv_weighPairs_17 f3_1 a6 l11 x2 m (y3 + 1) (a32.set ((x2 * 6) + y3).toInt.toNat (kv_biscuitsFor f3_1 a6 l11 x2 y3)))
theorem t_kv_weighPairs_17 {f : Nat} {Q : Option Value → sm_H → Prop} : ∀ (m : Nat) {B D : Nat} {F : Nat → Nat → Int32} {A : Nat → List Int32} {L : Nat → List Int64} {x1 : Int32} {x2 : Int32} {y3 : Int32}, m = (x1.toInt - y3.toInt).toNat → (∀ q3 : Int32, wl_E f B D mm86.2.2.2.2.2.2.2.2 45 [some (.ref 30), some (.int x1), some (.int x2), some (.int q3)] [] (hz F (uA A 32 (kv_weighPairs_17 (F 3 1) (A 6) (L 11) x2 m y3 (A 32))) L) Q) → wl_E f B D mm86.2.2.2.2.2.2.2.2 17 [some (.ref 30), some (.int x1), some (.int x2), some (.int y3)] [] (hz F A L) Q := by
  intro m
  induction m with
  | zero =>
    intro B D F A L x1 x2 y3 hm K
    generalize hT : (kv_weighPairs_17 (F 3 1) (A 6) (L 11) x2 0 y3 (A 32)) = T at K
    have hE : T = (A 32) := hT.symm
    clear hT
    refine w_n 2 (pc1 := 19) (ls1 := [some (.ref 30), some (.int x1), some (.int x2), some (.int y3)]) (st1 := [.int x1, .int y3]) (hp1 := (hz F A L)) rfl ?_
    refine w_ge (p3 := 22) rfl rfl (fun hb => ?_) (fun h => False.elim (by have h : y3.toInt < x1.toInt := h; omega))
    subst T
    exact cvE rfl (funext fun q => if k0 : q = 32 then by subst k0; exact Eq.trans (b := (A 32)) rfl rfl else by unfold uA; simp only [nb1 k0, cond_false]) rfl (K _)
  | succ m ih =>
    intro B D F A L x1 x2 y3 hm K
    generalize hT : (kv_weighPairs_17 (F 3 1) (A 6) (L 11) x2 (m + 1) y3 (A 32)) = T at K
    have hE : T = (kv_weighPairs_17 (F 3 1) (A 6) (L 11) x2 m (y3 + 1) ((A 32).set ((x2 * 6) + y3).toInt.toNat (kv_biscuitsFor (F 3 1) (A 6) (L 11) x2 y3))) := hT.symm
    clear hT
    refine w_n 2 (pc1 := 19) (ls1 := [some (.ref 30), some (.int x1), some (.int x2), some (.int y3)]) (st1 := [.int x1, .int y3]) (hp1 := (hz F A L)) rfl ?_
    refine w_ge (p3 := 22) rfl rfl (fun h => False.elim (by have h : x1.toInt ≤ y3.toInt := h; omega)) (fun hb => ?_)
    refine w_n 10 (pc1 := 35) (ls1 := [some (.ref 30), some (.int x1), some (.int x2), some (.int y3)]) (st1 := [.int y3, .int x2, .ref 30, .int ((x2 * 6) + y3), .ref 32]) (hp1 := (hz F A L)) rfl ?_
    refine w_c rfl rfl (t_kv_biscuitsFor ?_)
    show wl_E f _ _ mm86.2.2.2.2.2.2.2.2 38 [some (.ref 30), some (.int x1), some (.int x2), some (.int y3)] [.int (kv_biscuitsFor (F 3 1) (A 6) (L 11) x2 y3), .int ((x2 * 6) + y3), .ref 32] (hz F A L) _
    generalize hG185 : (kv_biscuitsFor (F 3 1) (A 6) (L 11) x2 y3) = G185 at hE ⊢
    refine w_as (k := 32) (l := (A 32)) (hp1 := (hz F (uA A 32 ((A 32).set ((x2 * 6) + y3).toInt.toNat G185)) L)) rfl rfl rfl (hz_s32 _) (fun _ => ?_)
    refine w_n 2 (pc1 := 17) (ls1 := [some (.ref 30), some (.int x1), some (.int x2), some (.int (y3 + 1))]) (st1 := []) (hp1 := (hz F (uA A 32 ((A 32).set ((x2 * 6) + y3).toInt.toNat G185)) L)) rfl ?_
    subst T
    have hb2 := i_up (B := x1) hb
    have hb3 : y3.toInt < x1.toInt := hb
    exact ih (show m = (x1.toInt - (y3 + 1).toInt).toNat by rw [hb2]; omega) (fun q3 => cvE rfl (funext fun q => if k0 : q = 32 then by subst k0; exact Eq.trans (b := (kv_weighPairs_17 (F 3 1) (A 6) (L 11) x2 m (y3 + 1) ((A 32).set ((x2 * 6) + y3).toInt.toNat G185))) rfl rfl else by unfold uA; simp only [nb1 k0, cond_false]) rfl (K q3))
noncomputable def kv_weighPairs_10 (f3_1 : Int32) (a6 : List Int32) (l11 : List Int64) (x1 : Int32) : Nat → Int32 → List Int32 → List Int32
  | 0, _, a32 => a32
  | m + 1, y2, a32 => (kv_weighPairs_10 f3_1 a6 l11 x1 m (y2 + 1) (kv_weighPairs_17 f3_1 a6 l11 y2 x1.toInt.toNat 0 a32))
theorem t_kv_weighPairs_10 {f : Nat} {Q : Option Value → sm_H → Prop} : ∀ (m : Nat) {B D : Nat} {F : Nat → Nat → Int32} {A : Nat → List Int32} {L : Nat → List Int64} {x1 : Int32} {y2 : Int32} {o3 : Option Value}, m = (x1.toInt - y2.toInt).toNat → (∀ q2 : Int32, ∀ q3 : Option Value, wl_E f B D mm86.2.2.2.2.2.2.2.2 51 [some (.ref 30), some (.int x1), some (.int q2), q3] [] (hz F (uA A 32 (kv_weighPairs_10 (F 3 1) (A 6) (L 11) x1 m y2 (A 32))) L) Q) → wl_E f B D mm86.2.2.2.2.2.2.2.2 10 [some (.ref 30), some (.int x1), some (.int y2), o3] [] (hz F A L) Q := by
  intro m
  induction m with
  | zero =>
    intro B D F A L x1 y2 o3 hm K
    generalize hT : (kv_weighPairs_10 (F 3 1) (A 6) (L 11) x1 0 y2 (A 32)) = T at K
    have hE : T = (A 32) := hT.symm
    clear hT
    refine w_n 2 (pc1 := 12) (ls1 := [some (.ref 30), some (.int x1), some (.int y2), o3]) (st1 := [.int x1, .int y2]) (hp1 := (hz F A L)) rfl ?_
    refine w_ge (p3 := 15) rfl rfl (fun hb => ?_) (fun h => False.elim (by have h : y2.toInt < x1.toInt := h; omega))
    subst T
    exact cvE rfl (funext fun q => if k0 : q = 32 then by subst k0; exact Eq.trans (b := (A 32)) rfl rfl else by unfold uA; simp only [nb1 k0, cond_false]) rfl (K _ _)
  | succ m ih =>
    intro B D F A L x1 y2 o3 hm K
    generalize hT : (kv_weighPairs_10 (F 3 1) (A 6) (L 11) x1 (m + 1) y2 (A 32)) = T at K
    have hE : T = (kv_weighPairs_10 (F 3 1) (A 6) (L 11) x1 m (y2 + 1) (kv_weighPairs_17 (F 3 1) (A 6) (L 11) y2 x1.toInt.toNat 0 (A 32))) := hT.symm
    clear hT
    refine w_n 2 (pc1 := 12) (ls1 := [some (.ref 30), some (.int x1), some (.int y2), o3]) (st1 := [.int x1, .int y2]) (hp1 := (hz F A L)) rfl ?_
    refine w_ge (p3 := 15) rfl rfl (fun h => False.elim (by have h : x1.toInt ≤ y2.toInt := h; omega)) (fun hb => ?_)
    refine w_n 2 (pc1 := 17) (ls1 := [some (.ref 30), some (.int x1), some (.int y2), some (.int 0)]) (st1 := []) (hp1 := (hz F A L)) rfl ?_
    refine t_kv_weighPairs_17 x1.toInt.toNat (show x1.toInt.toNat = (x1.toInt - (0 : Int32).toInt).toNat by have e0 : (0 : Int32).toInt = 0 := rfl; first | rfl | omega) ?_
    intro r1
    show wl_E f _ _ mm86.2.2.2.2.2.2.2.2 45 [some (.ref 30), some (.int x1), some (.int y2), some (.int r1)] [] (hz F (uA A 32 (kv_weighPairs_17 (F 3 1) (A 6) (L 11) y2 x1.toInt.toNat 0 (A 32))) L) _
    generalize hG186 : (kv_weighPairs_17 (F 3 1) (A 6) (L 11) y2 x1.toInt.toNat 0 (A 32)) = G186 at hE ⊢
    refine w_n 2 (pc1 := 10) (ls1 := [some (.ref 30), some (.int x1), some (.int (y2 + 1)), some (.int r1)]) (st1 := []) (hp1 := (hz F (uA A 32 G186) L)) rfl ?_
    subst T
    have hb2 := i_up (B := x1) hb
    have hb3 : y2.toInt < x1.toInt := hb
    exact ih (show m = (x1.toInt - (y2 + 1).toInt).toNat by rw [hb2]; omega) (fun q2 q3 => cvE rfl (funext fun q => if k0 : q = 32 then by subst k0; exact Eq.trans (b := (kv_weighPairs_10 (F 3 1) (A 6) (L 11) x1 m (y2 + 1) G186)) rfl rfl else by unfold uA; simp only [nb1 k0, cond_false]) rfl (K q2 q3))
noncomputable def kv_weighPairs_67 (a32 : List Int32) (x2 : Int32) : Nat → Int32 → List Int32 → List Int32
  | 0, _, a33 => a33
  | m + 1, y3, a33 => (if (a32.getD ((y3 * 6) + x2).toInt.toNat 0).toInt < (a32.getD ((x2 * 6) + y3).toInt.toNat 0).toInt then (kv_weighPairs_67 a32 x2 m (y3 + 1) (a33.set x2.toInt.toNat ((a33.getD x2.toInt.toNat 0) ||| ((1 : Int32) <<< (y3 &&& 31))))) else (kv_weighPairs_67 a32 x2 m (y3 + 1) a33))
theorem t_kv_weighPairs_67 {f : Nat} {Q : Option Value → sm_H → Prop} : ∀ (m : Nat) {B D : Nat} {F : Nat → Nat → Int32} {A : Nat → List Int32} {L : Nat → List Int64} {x1 : Int32} {x2 : Int32} {y3 : Int32}, m = (x1.toInt - y3.toInt).toNat → (∀ q3 : Int32, wl_E f B D mm86.2.2.2.2.2.2.2.2 115 [some (.ref 30), some (.int x1), some (.int x2), some (.int q3)] [] (hz F (uA A 33 (kv_weighPairs_67 (A 32) x2 m y3 (A 33))) L) Q) → wl_E f B D mm86.2.2.2.2.2.2.2.2 67 [some (.ref 30), some (.int x1), some (.int x2), some (.int y3)] [] (hz F A L) Q := by
  intro m
  induction m with
  | zero =>
    intro B D F A L x1 x2 y3 hm K
    generalize hT : (kv_weighPairs_67 (A 32) x2 0 y3 (A 33)) = T at K
    have hE : T = (A 33) := hT.symm
    clear hT
    refine w_n 2 (pc1 := 69) (ls1 := [some (.ref 30), some (.int x1), some (.int x2), some (.int y3)]) (st1 := [.int x1, .int y3]) (hp1 := (hz F A L)) rfl ?_
    refine w_ge (p3 := 72) rfl rfl (fun hb => ?_) (fun h => False.elim (by have h : y3.toInt < x1.toInt := h; omega))
    subst T
    exact cvE rfl (funext fun q => if k0 : q = 33 then by subst k0; exact Eq.trans (b := (A 33)) rfl rfl else by unfold uA; simp only [nb1 k0, cond_false]) rfl (K _)
  | succ m ih =>
    intro B D F A L x1 x2 y3 hm K
    generalize hT : (kv_weighPairs_67 (A 32) x2 (m + 1) y3 (A 33)) = T at K
    have hE : T = (if ((A 32).getD ((y3 * 6) + x2).toInt.toNat 0).toInt < ((A 32).getD ((x2 * 6) + y3).toInt.toNat 0).toInt then (kv_weighPairs_67 (A 32) x2 m (y3 + 1) ((A 33).set x2.toInt.toNat (((A 33).getD x2.toInt.toNat 0) ||| ((1 : Int32) <<< (y3 &&& 31))))) else (kv_weighPairs_67 (A 32) x2 m (y3 + 1) (A 33))) := hT.symm
    clear hT
    refine w_n 2 (pc1 := 69) (ls1 := [some (.ref 30), some (.int x1), some (.int x2), some (.int y3)]) (st1 := [.int x1, .int y3]) (hp1 := (hz F A L)) rfl ?_
    refine w_ge (p3 := 72) rfl rfl (fun h => False.elim (by have h : x1.toInt ≤ y3.toInt := h; omega)) (fun hb => ?_)
    refine w_n 7 (pc1 := 82) (ls1 := [some (.ref 30), some (.int x1), some (.int x2), some (.int y3)]) (st1 := [.int ((x2 * 6) + y3), .ref 32]) (hp1 := (hz F A L)) rfl ?_
    refine w_al (k := 32) (l := (A 32)) rfl rfl rfl (fun _ => ?_)
    refine w_n 7 (pc1 := 93) (ls1 := [some (.ref 30), some (.int x1), some (.int x2), some (.int y3)]) (st1 := [.int ((y3 * 6) + x2), .ref 32, .int ((A 32).getD ((x2 * 6) + y3).toInt.toNat 0)]) (hp1 := (hz F A L)) rfl ?_
    refine w_al (k := 32) (l := (A 32)) rfl rfl rfl (fun _ => ?_)
    refine w_le (p3 := 97) rfl rfl (fun h => ?_) (fun h => ?_)
    · have h1 : ((A 32).getD ((x2 * 6) + y3).toInt.toNat 0).toInt ≤ ((A 32).getD ((y3 * 6) + x2).toInt.toNat 0).toInt := h
      rw [if_neg (Int.not_lt.mpr h1)] at hE
      refine w_n 2 (pc1 := 67) (ls1 := [some (.ref 30), some (.int x1), some (.int x2), some (.int (y3 + 1))]) (st1 := []) (hp1 := (hz F A L)) rfl ?_
      subst T
      have hb2 := i_up (B := x1) hb
      have hb3 : y3.toInt < x1.toInt := hb
      exact ih (show m = (x1.toInt - (y3 + 1).toInt).toNat by rw [hb2]; omega) (fun q3 => cvE rfl (funext fun q => if k0 : q = 33 then by subst k0; exact Eq.trans (b := (kv_weighPairs_67 (A 32) x2 m (y3 + 1) (A 33))) rfl rfl else by unfold uA; simp only [nb1 k0, cond_false]) rfl (K q3))
    · have h1 : ((A 32).getD ((y3 * 6) + x2).toInt.toNat 0).toInt < ((A 32).getD ((x2 * 6) + y3).toInt.toNat 0).toInt := h
      rw [if_pos h1] at hE
      refine w_n 4 (pc1 := 103) (ls1 := [some (.ref 30), some (.int x1), some (.int x2), some (.int y3)]) (st1 := [.int x2, .ref 33, .int x2, .ref 33]) (hp1 := (hz F A L)) rfl ?_
      refine w_al (k := 33) (l := (A 33)) rfl rfl rfl (fun _ => ?_)
      refine w_n 4 (pc1 := 108) (ls1 := [some (.ref 30), some (.int x1), some (.int x2), some (.int y3)]) (st1 := [.int (((A 33).getD x2.toInt.toNat 0) ||| ((1 : Int32) <<< (y3 &&& 31))), .int x2, .ref 33]) (hp1 := (hz F A L)) rfl ?_
      refine w_as (k := 33) (l := (A 33)) (hp1 := (hz F (uA A 33 ((A 33).set x2.toInt.toNat (((A 33).getD x2.toInt.toNat 0) ||| ((1 : Int32) <<< (y3 &&& 31))))) L)) rfl rfl rfl (hz_s33 _) (fun _ => ?_)
      refine w_n 2 (pc1 := 67) (ls1 := [some (.ref 30), some (.int x1), some (.int x2), some (.int (y3 + 1))]) (st1 := []) (hp1 := (hz F (uA A 33 ((A 33).set x2.toInt.toNat (((A 33).getD x2.toInt.toNat 0) ||| ((1 : Int32) <<< (y3 &&& 31))))) L)) rfl ?_
      subst T
      have hb2 := i_up (B := x1) hb
      have hb3 : y3.toInt < x1.toInt := hb
      exact ih (show m = (x1.toInt - (y3 + 1).toInt).toNat by rw [hb2]; omega) (fun q3 => cvE rfl (funext fun q => if k0 : q = 33 then by subst k0; exact Eq.trans (b := (kv_weighPairs_67 (A 32) x2 m (y3 + 1) ((A 33).set x2.toInt.toNat (((A 33).getD x2.toInt.toNat 0) ||| ((1 : Int32) <<< (y3 &&& 31)))))) rfl rfl else by unfold uA; simp only [nb1 k0, cond_false]) rfl (K q3))
noncomputable def kv_weighPairs_53 (a32 : List Int32) (x1 : Int32) : Nat → Int32 → List Int32 → List Int32
  | 0, _, a33 => a33
  | m + 1, y2, a33 => (kv_weighPairs_53 a32 x1 m (y2 + 1) (kv_weighPairs_67 a32 y2 x1.toInt.toNat 0 (a33.set y2.toInt.toNat 0)))
theorem t_kv_weighPairs_53 {f : Nat} {Q : Option Value → sm_H → Prop} : ∀ (m : Nat) {B D : Nat} {F : Nat → Nat → Int32} {A : Nat → List Int32} {L : Nat → List Int64} {x1 : Int32} {y2 : Int32} {o3 : Option Value}, m = (x1.toInt - y2.toInt).toNat → (∀ q2 : Int32, ∀ q3 : Option Value, wl_E f B D mm86.2.2.2.2.2.2.2.2 121 [some (.ref 30), some (.int x1), some (.int q2), q3] [] (hz F (uA A 33 (kv_weighPairs_53 (A 32) x1 m y2 (A 33))) L) Q) → wl_E f B D mm86.2.2.2.2.2.2.2.2 53 [some (.ref 30), some (.int x1), some (.int y2), o3] [] (hz F A L) Q := by
  intro m
  induction m with
  | zero =>
    intro B D F A L x1 y2 o3 hm K
    generalize hT : (kv_weighPairs_53 (A 32) x1 0 y2 (A 33)) = T at K
    have hE : T = (A 33) := hT.symm
    clear hT
    refine w_n 2 (pc1 := 55) (ls1 := [some (.ref 30), some (.int x1), some (.int y2), o3]) (st1 := [.int x1, .int y2]) (hp1 := (hz F A L)) rfl ?_
    refine w_ge (p3 := 58) rfl rfl (fun hb => ?_) (fun h => False.elim (by have h : y2.toInt < x1.toInt := h; omega))
    subst T
    exact cvE rfl (funext fun q => if k0 : q = 33 then by subst k0; exact Eq.trans (b := (A 33)) rfl rfl else by unfold uA; simp only [nb1 k0, cond_false]) rfl (K _ _)
  | succ m ih =>
    intro B D F A L x1 y2 o3 hm K
    generalize hT : (kv_weighPairs_53 (A 32) x1 (m + 1) y2 (A 33)) = T at K
    have hE : T = (kv_weighPairs_53 (A 32) x1 m (y2 + 1) (kv_weighPairs_67 (A 32) y2 x1.toInt.toNat 0 ((A 33).set y2.toInt.toNat 0))) := hT.symm
    clear hT
    refine w_n 2 (pc1 := 55) (ls1 := [some (.ref 30), some (.int x1), some (.int y2), o3]) (st1 := [.int x1, .int y2]) (hp1 := (hz F A L)) rfl ?_
    refine w_ge (p3 := 58) rfl rfl (fun h => False.elim (by have h : x1.toInt ≤ y2.toInt := h; omega)) (fun hb => ?_)
    refine w_n 4 (pc1 := 64) (ls1 := [some (.ref 30), some (.int x1), some (.int y2), o3]) (st1 := [.int 0, .int y2, .ref 33]) (hp1 := (hz F A L)) rfl ?_
    refine w_as (k := 33) (l := (A 33)) (hp1 := (hz F (uA A 33 ((A 33).set y2.toInt.toNat 0)) L)) rfl rfl rfl (hz_s33 _) (fun ab => ?_)
    refine w_n 2 (pc1 := 67) (ls1 := [some (.ref 30), some (.int x1), some (.int y2), some (.int 0)]) (st1 := []) (hp1 := (hz F (uA A 33 ((A 33).set y2.toInt.toNat 0)) L)) rfl ?_
    refine t_kv_weighPairs_67 x1.toInt.toNat (show x1.toInt.toNat = (x1.toInt - (0 : Int32).toInt).toNat by have e0 : (0 : Int32).toInt = 0 := rfl; first | rfl | omega) ?_
    intro r1
    show wl_E f _ _ mm86.2.2.2.2.2.2.2.2 115 [some (.ref 30), some (.int x1), some (.int y2), some (.int r1)] [] (hz F (uA (uA A 33 ((A 33).set y2.toInt.toNat 0)) 33 (kv_weighPairs_67 (A 32) y2 x1.toInt.toNat 0 ((A 33).set y2.toInt.toNat 0))) L) _
    generalize hG188 : (kv_weighPairs_67 (A 32) y2 x1.toInt.toNat 0 ((A 33).set y2.toInt.toNat 0)) = G188 at hE ⊢
    refine w_n 2 (pc1 := 53) (ls1 := [some (.ref 30), some (.int x1), some (.int (y2 + 1)), some (.int r1)]) (st1 := []) (hp1 := (hz F (uA (uA A 33 ((A 33).set y2.toInt.toNat 0)) 33 G188) L)) rfl ?_
    subst T
    have hb2 := i_up (B := x1) hb
    have hb3 : y2.toInt < x1.toInt := hb
    exact ih (show m = (x1.toInt - (y2 + 1).toInt).toNat by rw [hb2]; omega) (fun q2 q3 => cvE rfl (funext fun q => if k0 : q = 33 then by subst k0; exact Eq.trans (b := (kv_weighPairs_53 (A 32) x1 m (y2 + 1) G188)) rfl rfl else by unfold uA; simp only [nb1 k0, cond_false]) rfl (K q2 q3))
noncomputable def kv_weighPairs (f3_0 : Int32) (f3_1 : Int32) (a6 : List Int32) (a32 : List Int32) (a33 : List Int32) (l11 : List Int64) : List Int32 × List Int32 := ((kv_weighPairs_10 f3_1 a6 l11 f3_0 f3_0.toInt.toNat 0 a32), (kv_weighPairs_53 (kv_weighPairs_10 f3_1 a6 l11 f3_0 f3_0.toInt.toNat 0 a32) f3_0 f3_0.toInt.toNat 0 a33))
theorem t_kv_weighPairs {f D : Nat} {F : Nat → Nat → Int32} {A : Nat → List Int32} {L : Nat → List Int64} {Q : Option Value → sm_H → Prop} (K : Q none (hz F (uA (uA A 32 ((kv_weighPairs (F 3 0) (F 3 1) (A 6) (A 32) (A 33) (L 11)).1)) 33 ((kv_weighPairs (F 3 0) (F 3 1) (A 6) (A 32) (A 33) (L 11)).2)) L)) : wl_M f D 86 [.ref 30] (hz F A L) Q := by
  generalize hT : (kv_weighPairs (F 3 0) (F 3 1) (A 6) (A 32) (A 33) (L 11)) = T at K
  have hE : T = ((kv_weighPairs_10 (F 3 1) (A 6) (L 11) (F 3 0) (F 3 0).toInt.toNat 0 (A 32)), (kv_weighPairs_53 (kv_weighPairs_10 (F 3 1) (A 6) (L 11) (F 3 0) (F 3 0).toInt.toNat 0 (A 32)) (F 3 0) (F 3 0).toInt.toNat 0 (A 33))) := hT.symm
  clear hT
  refine w_m (E := mm86) rfl ?_
  show wl_E f f (D - 1) mm86.2.2.2.2.2.2.2.2 0 [some (.ref 30), none, none, none] [] (hz F A L) Q
  refine w_n 6 (pc1 := 10) (ls1 := [some (.ref 30), some (.int (F 3 0)), some (.int 0), none]) (st1 := []) (hp1 := (hz F A L)) rfl ?_
  refine t_kv_weighPairs_10 (F 3 0).toInt.toNat (show (F 3 0).toInt.toNat = ((F 3 0).toInt - (0 : Int32).toInt).toNat by have e0 : (0 : Int32).toInt = 0 := rfl; first | rfl | omega) ?_
  intro r1 r2
  show wl_E f _ _ mm86.2.2.2.2.2.2.2.2 51 [some (.ref 30), some (.int (F 3 0)), some (.int r1), r2] [] (hz F (uA A 32 (kv_weighPairs_10 (F 3 1) (A 6) (L 11) (F 3 0) (F 3 0).toInt.toNat 0 (A 32))) L) _
  generalize hG187 : (kv_weighPairs_10 (F 3 1) (A 6) (L 11) (F 3 0) (F 3 0).toInt.toNat 0 (A 32)) = G187 at hE ⊢
  refine w_n 2 (pc1 := 53) (ls1 := [some (.ref 30), some (.int (F 3 0)), some (.int 0), r2]) (st1 := []) (hp1 := (hz F (uA A 32 G187) L)) rfl ?_
  refine t_kv_weighPairs_53 (F 3 0).toInt.toNat (show (F 3 0).toInt.toNat = ((F 3 0).toInt - (0 : Int32).toInt).toNat by have e0 : (0 : Int32).toInt = 0 := rfl; first | rfl | omega) ?_
  intro r3 r4
  show wl_E f _ _ mm86.2.2.2.2.2.2.2.2 121 [some (.ref 30), some (.int (F 3 0)), some (.int r3), r4] [] (hz F (uA (uA A 32 G187) 33 (kv_weighPairs_53 G187 (F 3 0) (F 3 0).toInt.toNat 0 (A 33))) L) _
  generalize hG189 : (kv_weighPairs_53 G187 (F 3 0) (F 3 0).toInt.toNat 0 (A 33)) = G189 at hE ⊢
  subst T
  exact w_r rfl rfl (cvQ rfl rfl rfl K)
noncomputable def kc_best_17 (a32 : List Int32) (a33 : List Int32) (x1 : Int32) : Nat → Int32 → Int32 × List Int32 × List Int32
  | 0, _ => ((-2), a32, a33)
  | m + 1, y2 => (if ((a33.getD y2.toInt.toNat 0) ||| ((1 : Int32) <<< (y2 &&& 31))) = x1 then (y2, a32, a33) else (kc_best_17 a32 a33 x1 m (y2 + 1)))
theorem t_kc_best_17 {f : Nat} {Q : Option Value → sm_H → Prop} : ∀ (m : Nat) {B D : Nat} {F : Nat → Nat → Int32} {A : Nat → List Int32} {L : Nat → List Int64} {x1 : Int32} {y2 : Int32}, m = ((F 3 0).toInt - y2.toInt).toNat → (Q (some (.int ((kc_best_17 (A 32) (A 33) x1 m y2).1))) (hz F (uA (uA A 32 ((kc_best_17 (A 32) (A 33) x1 m y2).2.1)) 33 ((kc_best_17 (A 32) (A 33) x1 m y2).2.2)) L)) → wl_E f B D mm85.2.2.2.2.2.2.2.2 17 [some (.ref 0), some (.int x1), some (.int y2)] [] (hz F A L) Q := by
  intro m
  induction m with
  | zero =>
    intro B D F A L x1 y2 hm K
    generalize hT : (kc_best_17 (A 32) (A 33) x1 0 y2) = T at K
    have hE : T = ((-2), (A 32), (A 33)) := hT.symm
    clear hT
    refine w_n 4 (pc1 := 25) (ls1 := [some (.ref 0), some (.int x1), some (.int y2)]) (st1 := [.int (F 3 0), .int y2]) (hp1 := (hz F A L)) rfl ?_
    refine w_ge (p3 := 28) rfl rfl (fun hb => ?_) (fun h => False.elim (by have h : y2.toInt < (F 3 0).toInt := h; omega))
    refine w_n 1 (pc1 := 55) (ls1 := [some (.ref 0), some (.int x1), some (.int y2)]) (st1 := [.int (-2)]) (hp1 := (hz F A L)) rfl ?_
    subst T
    exact w_ri rfl (cvQ rfl (funext fun q => if k0 : q = 32 then by subst k0; exact Eq.trans (b := (A 32)) rfl rfl else if k1 : q = 33 then by subst k1; exact Eq.trans (b := (A 33)) rfl rfl else by unfold uA; simp only [nb1 k0, nb1 k1, cond_false]) rfl K)
  | succ m ih =>
    intro B D F A L x1 y2 hm K
    generalize hT : (kc_best_17 (A 32) (A 33) x1 (m + 1) y2) = T at K
    have hE : T = (if (((A 33).getD y2.toInt.toNat 0) ||| ((1 : Int32) <<< (y2 &&& 31))) = x1 then (y2, (A 32), (A 33)) else (kc_best_17 (A 32) (A 33) x1 m (y2 + 1))) := hT.symm
    clear hT
    refine w_n 4 (pc1 := 25) (ls1 := [some (.ref 0), some (.int x1), some (.int y2)]) (st1 := [.int (F 3 0), .int y2]) (hp1 := (hz F A L)) rfl ?_
    refine w_ge (p3 := 28) rfl rfl (fun h => False.elim (by have h : (F 3 0).toInt ≤ y2.toInt := h; omega)) (fun hb => ?_)
    refine w_n 4 (pc1 := 36) (ls1 := [some (.ref 0), some (.int x1), some (.int y2)]) (st1 := [.int y2, .ref 33]) (hp1 := (hz F A L)) rfl ?_
    refine w_al (k := 33) (l := (A 33)) rfl rfl rfl (fun ab => ?_)
    refine w_n 5 (pc1 := 42) (ls1 := [some (.ref 0), some (.int x1), some (.int y2)]) (st1 := [.int x1, .int (((A 33).getD y2.toInt.toNat 0) ||| ((1 : Int32) <<< (y2 &&& 31)))]) (hp1 := (hz F A L)) rfl ?_
    refine w_ne (p3 := 45) rfl rfl (fun h => ?_) (fun h => ?_)
    · have h1 : ¬ (((A 33).getD y2.toInt.toNat 0) ||| ((1 : Int32) <<< (y2 &&& 31))) = x1 := h
      rw [if_neg h1] at hE
      refine w_n 2 (pc1 := 17) (ls1 := [some (.ref 0), some (.int x1), some (.int (y2 + 1))]) (st1 := []) (hp1 := (hz F A L)) rfl ?_
      subst T
      have hb2 := i_up (B := (F 3 0)) hb
      have hb3 : y2.toInt < (F 3 0).toInt := hb
      exact ih (show m = ((F 3 0).toInt - (y2 + 1).toInt).toNat by rw [hb2]; omega) (cvQ rfl (funext fun q => if k0 : q = 32 then by subst k0; exact Eq.trans (b := (kc_best_17 (A 32) (A 33) x1 m (y2 + 1)).2.1) rfl rfl else if k1 : q = 33 then by subst k1; exact Eq.trans (b := (kc_best_17 (A 32) (A 33) x1 m (y2 + 1)).2.2) rfl rfl else by unfold uA; simp only [nb1 k0, nb1 k1, cond_false]) rfl K)
    · have h1 : (((A 33).getD y2.toInt.toNat 0) ||| ((1 : Int32) <<< (y2 &&& 31))) = x1 := h
      rw [if_pos h1] at hE
      refine w_n 1 (pc1 := 46) (ls1 := [some (.ref 0), some (.int x1), some (.int y2)]) (st1 := [.int y2]) (hp1 := (hz F A L)) rfl ?_
      subst T
      exact w_ri rfl (cvQ rfl (funext fun q => if k0 : q = 32 then by subst k0; exact Eq.trans (b := (A 32)) rfl rfl else if k1 : q = 33 then by subst k1; exact Eq.trans (b := (A 33)) rfl rfl else by unfold uA; simp only [nb1 k0, nb1 k1, cond_false]) rfl K)
noncomputable def kc_best (f3_0 : Int32) (f3_1 : Int32) (a6 : List Int32) (a32 : List Int32) (a33 : List Int32) (l11 : List Int64) : Int32 × List Int32 × List Int32 := (kc_best_17 (kv_weighPairs f3_0 f3_1 a6 a32 a33 l11).1 (kv_weighPairs f3_0 f3_1 a6 a32 a33 l11).2 (kt_allMeasures f3_0) f3_0.toInt.toNat 0)
theorem t_kc_best {f D : Nat} {F : Nat → Nat → Int32} {A : Nat → List Int32} {L : Nat → List Int64} {Q : Option Value → sm_H → Prop} (K : Q (some (.int ((kc_best (F 3 0) (F 3 1) (A 6) (A 32) (A 33) (L 11)).1))) (hz F (uA (uA A 32 ((kc_best (F 3 0) (F 3 1) (A 6) (A 32) (A 33) (L 11)).2.1)) 33 ((kc_best (F 3 0) (F 3 1) (A 6) (A 32) (A 33) (L 11)).2.2)) L)) : wl_M f D 85 [.ref 0] (hz F A L) Q := by
  generalize hT : (kc_best (F 3 0) (F 3 1) (A 6) (A 32) (A 33) (L 11)) = T at K
  have hE : T = (kc_best_17 (kv_weighPairs (F 3 0) (F 3 1) (A 6) (A 32) (A 33) (L 11)).1 (kv_weighPairs (F 3 0) (F 3 1) (A 6) (A 32) (A 33) (L 11)).2 (kt_allMeasures (F 3 0)) (F 3 0).toInt.toNat 0) := hT.symm
  clear hT
  refine w_m (E := mm85) rfl ?_
  show wl_E f f (D - 1) mm85.2.2.2.2.2.2.2.2 0 [some (.ref 0), none, none] [] (hz F A L) Q
  refine w_n 2 (pc1 := 4) (ls1 := [some (.ref 0), none, none]) (st1 := [.ref 30]) (hp1 := (hz F A L)) rfl ?_
  refine w_c rfl rfl (t_kv_weighPairs ?_)
  show wl_E f _ _ mm85.2.2.2.2.2.2.2.2 7 [some (.ref 0), none, none] [] (hz F (uA (uA A 32 (kv_weighPairs (F 3 0) (F 3 1) (A 6) (A 32) (A 33) (L 11)).1) 33 (kv_weighPairs (F 3 0) (F 3 1) (A 6) (A 32) (A 33) (L 11)).2) L) _
  generalize hG190 : (kv_weighPairs (F 3 0) (F 3 1) (A 6) (A 32) (A 33) (L 11)) = G190 at hE ⊢
  refine w_n 2 (pc1 := 11) (ls1 := [some (.ref 0), none, none]) (st1 := [.ref 3]) (hp1 := (hz F (uA (uA A 32 G190.1) 33 G190.2) L)) rfl ?_
  refine w_c rfl rfl (t_kt_allMeasures ?_)
  show wl_E f _ _ mm85.2.2.2.2.2.2.2.2 14 [some (.ref 0), none, none] [.int (kt_allMeasures (F 3 0))] (hz F (uA (uA A 32 G190.1) 33 G190.2) L) _
  generalize hG191 : (kt_allMeasures (F 3 0)) = G191 at hE ⊢
  refine w_n 3 (pc1 := 17) (ls1 := [some (.ref 0), some (.int G191), some (.int 0)]) (st1 := []) (hp1 := (hz F (uA (uA A 32 G190.1) 33 G190.2) L)) rfl ?_
  subst T
  exact t_kc_best_17 _ (show (F 3 0).toInt.toNat = ((F 3 0).toInt - (0 : Int32).toInt).toNat by have e0 : (0 : Int32).toInt = 0 := rfl; first | rfl | omega) (cvQ rfl (funext fun q => if k0 : q = 32 then by subst k0; exact Eq.trans (b := (kc_best_17 G190.1 G190.2 G191 (F 3 0).toInt.toNat 0).2.1) rfl rfl else if k1 : q = 33 then by subst k1; exact Eq.trans (b := (kc_best_17 G190.1 G190.2 G191 (F 3 0).toInt.toNat 0).2.2) rfl rfl else by unfold uA; simp only [nb1 k0, nb1 k1, cond_false]) rfl K)
noncomputable def km_beats (a68 : List Int32) (x1 : Int32) (x2 : Int32) : Int32 := (if (km_pairOf a68 x2 x1).toInt < (km_pairOf a68 x1 x2).toInt then 1 else 0)
theorem t_km_beats {f D : Nat} {F : Nat → Nat → Int32} {A : Nat → List Int32} {L : Nat → List Int64} {Q : Option Value → sm_H → Prop} {x1 : Int32} {x2 : Int32} (K : Q (some (.int (km_beats (A 68) x1 x2))) (hz F A L)) : wl_M f D 213 [.ref 67, .int x1, .int x2] (hz F A L) Q := by
  generalize hT : (km_beats (A 68) x1 x2) = T at K
  have hE : T = (if (km_pairOf (A 68) x2 x1).toInt < (km_pairOf (A 68) x1 x2).toInt then 1 else 0) := hT.symm
  clear hT
  refine w_m (E := mm213) rfl ?_
  show wl_E f f (D - 1) mm213.2.2.2.2.2.2.2.2 0 [some (.ref 67), some (.int x1), some (.int x2)] [] (hz F A L) Q
  refine w_n 3 (pc1 := 3) (ls1 := [some (.ref 67), some (.int x1), some (.int x2)]) (st1 := [.int x2, .int x1, .ref 67]) (hp1 := (hz F A L)) rfl ?_
  refine w_c rfl rfl (t_km_pairOf ?_)
  show wl_E f _ _ mm213.2.2.2.2.2.2.2.2 6 [some (.ref 67), some (.int x1), some (.int x2)] [.int (km_pairOf (A 68) x1 x2)] (hz F A L) _
  generalize hG194 : (km_pairOf (A 68) x1 x2) = G194 at hE ⊢
  refine w_n 3 (pc1 := 9) (ls1 := [some (.ref 67), some (.int x1), some (.int x2)]) (st1 := [.int x1, .int x2, .ref 67, .int G194]) (hp1 := (hz F A L)) rfl ?_
  refine w_c rfl rfl (t_km_pairOf ?_)
  show wl_E f _ _ mm213.2.2.2.2.2.2.2.2 12 [some (.ref 67), some (.int x1), some (.int x2)] [.int (km_pairOf (A 68) x2 x1), .int G194] (hz F A L) _
  generalize hG195 : (km_pairOf (A 68) x2 x1) = G195 at hE ⊢
  refine w_le (p3 := 15) rfl rfl (fun h => ?_) (fun h => ?_)
  · have h1 : G194.toInt ≤ G195.toInt := h
    rw [if_neg (Int.not_lt.mpr h1)] at hE
    refine w_n 1 (pc1 := 20) (ls1 := [some (.ref 67), some (.int x1), some (.int x2)]) (st1 := [.int 0]) (hp1 := (hz F A L)) rfl ?_
    subst T
    exact w_ri rfl (cvQ rfl rfl rfl K)
  · have h1 : G195.toInt < G194.toInt := h
    rw [if_pos h1] at hE
    refine w_n 2 (pc1 := 20) (ls1 := [some (.ref 67), some (.int x1), some (.int x2)]) (st1 := [.int 1]) (hp1 := (hz F A L)) rfl ?_
    subst T
    exact w_ri rfl (cvQ rfl rfl rfl K)
noncomputable def km_beatsAll_2 (a68 : List Int32) (x1 : Int32) (x2 : Int32) : Nat → Int32 → Int32
  | 0, _ => 1
  | m + 1, y3 => (if (km_has x2 y3) = 0 then (km_beatsAll_2 a68 x1 x2 m (y3 + 1)) else (if (km_beats a68 x1 y3) = 0 then 0 else (km_beatsAll_2 a68 x1 x2 m (y3 + 1))))
theorem t_km_beatsAll_2 {f : Nat} {Q : Option Value → sm_H → Prop} : ∀ (m : Nat) {B D : Nat} {F : Nat → Nat → Int32} {A : Nat → List Int32} {L : Nat → List Int64} {x1 : Int32} {x2 : Int32} {y3 : Int32}, m = ((F 67 3).toInt - y3.toInt).toNat → (Q (some (.int (km_beatsAll_2 (A 68) x1 x2 m y3))) (hz F A L)) → wl_E f B D mm212.2.2.2.2.2.2.2.2 2 [some (.ref 67), some (.int x1), some (.int x2), some (.int y3)] [] (hz F A L) Q := by
  intro m
  induction m with
  | zero =>
    intro B D F A L x1 x2 y3 hm K
    generalize hT : (km_beatsAll_2 (A 68) x1 x2 0 y3) = T at K
    have hE : T = 1 := hT.symm
    clear hT
    refine w_n 3 (pc1 := 7) (ls1 := [some (.ref 67), some (.int x1), some (.int x2), some (.int y3)]) (st1 := [.int (F 67 3), .int y3]) (hp1 := (hz F A L)) rfl ?_
    refine w_ge (p3 := 10) rfl rfl (fun hb => ?_) (fun h => False.elim (by have h : y3.toInt < (F 67 3).toInt := h; omega))
    refine w_n 1 (pc1 := 36) (ls1 := [some (.ref 67), some (.int x1), some (.int x2), some (.int y3)]) (st1 := [.int 1]) (hp1 := (hz F A L)) rfl ?_
    subst T
    exact w_ri rfl (cvQ rfl rfl rfl K)
  | succ m ih =>
    intro B D F A L x1 x2 y3 hm K
    generalize hT : (km_beatsAll_2 (A 68) x1 x2 (m + 1) y3) = T at K
    have hE : T = (if (km_has x2 y3) = 0 then (km_beatsAll_2 (A 68) x1 x2 m (y3 + 1)) else (if (km_beats (A 68) x1 y3) = 0 then 0 else (km_beatsAll_2 (A 68) x1 x2 m (y3 + 1)))) := hT.symm
    clear hT
    refine w_n 3 (pc1 := 7) (ls1 := [some (.ref 67), some (.int x1), some (.int x2), some (.int y3)]) (st1 := [.int (F 67 3), .int y3]) (hp1 := (hz F A L)) rfl ?_
    refine w_ge (p3 := 10) rfl rfl (fun h => False.elim (by have h : (F 67 3).toInt ≤ y3.toInt := h; omega)) (fun hb => ?_)
    refine w_n 2 (pc1 := 12) (ls1 := [some (.ref 67), some (.int x1), some (.int x2), some (.int y3)]) (st1 := [.int y3, .int x2]) (hp1 := (hz F A L)) rfl ?_
    refine w_c rfl rfl (t_km_has ?_)
    show wl_E f _ _ mm212.2.2.2.2.2.2.2.2 15 [some (.ref 67), some (.int x1), some (.int x2), some (.int y3)] [.int (km_has x2 y3)] (hz F A L) _
    generalize hG193 : (km_has x2 y3) = G193 at hE ⊢
    refine w_zeq (p3 := 18) rfl rfl (fun h => ?_) (fun h => ?_)
    · have h1 : G193 = 0 := h
      rw [if_pos h1] at hE
      refine w_n 2 (pc1 := 2) (ls1 := [some (.ref 67), some (.int x1), some (.int x2), some (.int (y3 + 1))]) (st1 := []) (hp1 := (hz F A L)) rfl ?_
      subst T
      have hb2 := i_up (B := (F 67 3)) hb
      have hb3 : y3.toInt < (F 67 3).toInt := hb
      exact ih (show m = ((F 67 3).toInt - (y3 + 1).toInt).toNat by rw [hb2]; omega) (cvQ rfl rfl rfl K)
    · have h1 : ¬ G193 = 0 := h
      rw [if_neg h1] at hE
      refine w_n 3 (pc1 := 21) (ls1 := [some (.ref 67), some (.int x1), some (.int x2), some (.int y3)]) (st1 := [.int y3, .int x1, .ref 67]) (hp1 := (hz F A L)) rfl ?_
      refine w_c rfl rfl (t_km_beats ?_)
      show wl_E f _ _ mm212.2.2.2.2.2.2.2.2 24 [some (.ref 67), some (.int x1), some (.int x2), some (.int y3)] [.int (km_beats (A 68) x1 y3)] (hz F A L) _
      generalize hG196 : (km_beats (A 68) x1 y3) = G196 at hE ⊢
      refine w_zne (p3 := 27) rfl rfl (fun h => ?_) (fun h => ?_)
      · have h2 : ¬ G196 = 0 := h
        rw [if_neg h2] at hE
        refine w_n 2 (pc1 := 2) (ls1 := [some (.ref 67), some (.int x1), some (.int x2), some (.int (y3 + 1))]) (st1 := []) (hp1 := (hz F A L)) rfl ?_
        subst T
        have hb2 := i_up (B := (F 67 3)) hb
        have hb3 : y3.toInt < (F 67 3).toInt := hb
        exact ih (show m = ((F 67 3).toInt - (y3 + 1).toInt).toNat by rw [hb2]; omega) (cvQ rfl rfl rfl K)
      · have h2 : G196 = 0 := h
        rw [if_pos h2] at hE
        refine w_n 1 (pc1 := 28) (ls1 := [some (.ref 67), some (.int x1), some (.int x2), some (.int y3)]) (st1 := [.int 0]) (hp1 := (hz F A L)) rfl ?_
        subst T
        exact w_ri rfl (cvQ rfl rfl rfl K)
noncomputable def km_beatsAll (f67_3 : Int32) (a68 : List Int32) (x1 : Int32) (x2 : Int32) : Int32 := (km_beatsAll_2 a68 x1 x2 f67_3.toInt.toNat 0)
theorem t_km_beatsAll {f D : Nat} {F : Nat → Nat → Int32} {A : Nat → List Int32} {L : Nat → List Int64} {Q : Option Value → sm_H → Prop} {x1 : Int32} {x2 : Int32} (K : Q (some (.int (km_beatsAll (F 67 3) (A 68) x1 x2))) (hz F A L)) : wl_M f D 212 [.ref 67, .int x1, .int x2] (hz F A L) Q := by
  generalize hT : (km_beatsAll (F 67 3) (A 68) x1 x2) = T at K
  have hE : T = (km_beatsAll_2 (A 68) x1 x2 (F 67 3).toInt.toNat 0) := hT.symm
  clear hT
  refine w_m (E := mm212) rfl ?_
  show wl_E f f (D - 1) mm212.2.2.2.2.2.2.2.2 0 [some (.ref 67), some (.int x1), some (.int x2), none] [] (hz F A L) Q
  refine w_n 2 (pc1 := 2) (ls1 := [some (.ref 67), some (.int x1), some (.int x2), some (.int 0)]) (st1 := []) (hp1 := (hz F A L)) rfl ?_
  subst T
  exact t_km_beatsAll_2 _ (show (F 67 3).toInt.toNat = ((F 67 3).toInt - (0 : Int32).toInt).toNat by have e0 : (0 : Int32).toInt = 0 := rfl; first | rfl | omega) (cvQ rfl rfl rfl K)
noncomputable def km_best_2 (f67_3 : Int32) (a68 : List Int32)  : Nat → Int32 → Int32
  | 0, _ => (-2)
  | m + 1, y1 => (if (km_beatsAll f67_3 a68 y1 ((km_allMeasures f67_3) &&& (((1 : Int32) <<< (y1 &&& 31)) ^^^ (-1)))) = 0 then (km_best_2 f67_3 a68 m (y1 + 1)) else y1)
theorem t_km_best_2 {f : Nat} {Q : Option Value → sm_H → Prop} : ∀ (m : Nat) {B D : Nat} {F : Nat → Nat → Int32} {A : Nat → List Int32} {L : Nat → List Int64} {y1 : Int32}, m = ((F 67 3).toInt - y1.toInt).toNat → (Q (some (.int (km_best_2 (F 67 3) (A 68) m y1))) (hz F A L)) → wl_E f B D mm211.2.2.2.2.2.2.2.2 2 [some (.ref 67), some (.int y1)] [] (hz F A L) Q := by
  intro m
  induction m with
  | zero =>
    intro B D F A L y1 hm K
    generalize hT : (km_best_2 (F 67 3) (A 68) 0 y1) = T at K
    have hE : T = (-2) := hT.symm
    clear hT
    refine w_n 3 (pc1 := 7) (ls1 := [some (.ref 67), some (.int y1)]) (st1 := [.int (F 67 3), .int y1]) (hp1 := (hz F A L)) rfl ?_
    refine w_ge (p3 := 10) rfl rfl (fun hb => ?_) (fun h => False.elim (by have h : y1.toInt < (F 67 3).toInt := h; omega))
    refine w_n 1 (pc1 := 38) (ls1 := [some (.ref 67), some (.int y1)]) (st1 := [.int (-2)]) (hp1 := (hz F A L)) rfl ?_
    subst T
    exact w_ri rfl (cvQ rfl rfl rfl K)
  | succ m ih =>
    intro B D F A L y1 hm K
    generalize hT : (km_best_2 (F 67 3) (A 68) (m + 1) y1) = T at K
    have hE : T = (if (km_beatsAll (F 67 3) (A 68) y1 ((km_allMeasures (F 67 3)) &&& (((1 : Int32) <<< (y1 &&& 31)) ^^^ (-1)))) = 0 then (km_best_2 (F 67 3) (A 68) m (y1 + 1)) else y1) := hT.symm
    clear hT
    refine w_n 3 (pc1 := 7) (ls1 := [some (.ref 67), some (.int y1)]) (st1 := [.int (F 67 3), .int y1]) (hp1 := (hz F A L)) rfl ?_
    refine w_ge (p3 := 10) rfl rfl (fun h => False.elim (by have h : (F 67 3).toInt ≤ y1.toInt := h; omega)) (fun hb => ?_)
    refine w_n 3 (pc1 := 13) (ls1 := [some (.ref 67), some (.int y1)]) (st1 := [.ref 67, .int y1, .ref 67]) (hp1 := (hz F A L)) rfl ?_
    refine w_c rfl rfl (t_km_allMeasures ?_)
    show wl_E f _ _ mm211.2.2.2.2.2.2.2.2 16 [some (.ref 67), some (.int y1)] [.int (km_allMeasures (F 67 3)), .int y1, .ref 67] (hz F A L) _
    generalize hG192 : (km_allMeasures (F 67 3)) = G192 at hE ⊢
    refine w_n 6 (pc1 := 22) (ls1 := [some (.ref 67), some (.int y1)]) (st1 := [.int (G192 &&& (((1 : Int32) <<< (y1 &&& 31)) ^^^ (-1))), .int y1, .ref 67]) (hp1 := (hz F A L)) rfl ?_
    refine w_c rfl rfl (t_km_beatsAll ?_)
    show wl_E f _ _ mm211.2.2.2.2.2.2.2.2 25 [some (.ref 67), some (.int y1)] [.int (km_beatsAll (F 67 3) (A 68) y1 (G192 &&& (((1 : Int32) <<< (y1 &&& 31)) ^^^ (-1))))] (hz F A L) _
    generalize hG197 : (km_beatsAll (F 67 3) (A 68) y1 (G192 &&& (((1 : Int32) <<< (y1 &&& 31)) ^^^ (-1)))) = G197 at hE ⊢
    refine w_zeq (p3 := 28) rfl rfl (fun h => ?_) (fun h => ?_)
    · have h1 : G197 = 0 := h
      rw [if_pos h1] at hE
      refine w_n 2 (pc1 := 2) (ls1 := [some (.ref 67), some (.int (y1 + 1))]) (st1 := []) (hp1 := (hz F A L)) rfl ?_
      subst T
      have hb2 := i_up (B := (F 67 3)) hb
      have hb3 : y1.toInt < (F 67 3).toInt := hb
      exact ih (show m = ((F 67 3).toInt - (y1 + 1).toInt).toNat by rw [hb2]; omega) (cvQ rfl rfl rfl K)
    · have h1 : ¬ G197 = 0 := h
      rw [if_neg h1] at hE
      refine w_n 1 (pc1 := 29) (ls1 := [some (.ref 67), some (.int y1)]) (st1 := [.int y1]) (hp1 := (hz F A L)) rfl ?_
      subst T
      exact w_ri rfl (cvQ rfl rfl rfl K)
noncomputable def km_best (f67_3 : Int32) (a68 : List Int32) : Int32 := (km_best_2 f67_3 a68 f67_3.toInt.toNat 0)
theorem t_km_best {f D : Nat} {F : Nat → Nat → Int32} {A : Nat → List Int32} {L : Nat → List Int64} {Q : Option Value → sm_H → Prop} (K : Q (some (.int (km_best (F 67 3) (A 68)))) (hz F A L)) : wl_M f D 211 [.ref 67] (hz F A L) Q := by
  generalize hT : (km_best (F 67 3) (A 68)) = T at K
  have hE : T = (km_best_2 (F 67 3) (A 68) (F 67 3).toInt.toNat 0) := hT.symm
  clear hT
  refine w_m (E := mm211) rfl ?_
  show wl_E f f (D - 1) mm211.2.2.2.2.2.2.2.2 0 [some (.ref 67), none] [] (hz F A L) Q
  refine w_n 2 (pc1 := 2) (ls1 := [some (.ref 67), some (.int 0)]) (st1 := []) (hp1 := (hz F A L)) rfl ?_
  subst T
  exact t_km_best_2 _ (show (F 67 3).toInt.toNat = ((F 67 3).toInt - (0 : Int32).toInt).toNat by have e0 : (0 : Int32).toInt = 0 := rfl; first | rfl | omega) (cvQ rfl rfl rfl K)
noncomputable def kji_bitCount (x0 : Int32) : Int32 := ((((((((x0 - (((x0.toUInt32 >>> ((1 : Int32).toUInt32 &&& Int32.toUInt32 31)).toInt32) &&& 1431655765)) &&& 858993459) + ((((x0 - (((x0.toUInt32 >>> ((1 : Int32).toUInt32 &&& Int32.toUInt32 31)).toInt32) &&& 1431655765)).toUInt32 >>> ((2 : Int32).toUInt32 &&& Int32.toUInt32 31)).toInt32) &&& 858993459)) + (((((x0 - (((x0.toUInt32 >>> ((1 : Int32).toUInt32 &&& Int32.toUInt32 31)).toInt32) &&& 1431655765)) &&& 858993459) + ((((x0 - (((x0.toUInt32 >>> ((1 : Int32).toUInt32 &&& Int32.toUInt32 31)).toInt32) &&& 1431655765)).toUInt32 >>> ((2 : Int32).toUInt32 &&& Int32.toUInt32 31)).toInt32) &&& 858993459)).toUInt32 >>> ((4 : Int32).toUInt32 &&& Int32.toUInt32 31)).toInt32)) &&& 252645135) + (((((((x0 - (((x0.toUInt32 >>> ((1 : Int32).toUInt32 &&& Int32.toUInt32 31)).toInt32) &&& 1431655765)) &&& 858993459) + ((((x0 - (((x0.toUInt32 >>> ((1 : Int32).toUInt32 &&& Int32.toUInt32 31)).toInt32) &&& 1431655765)).toUInt32 >>> ((2 : Int32).toUInt32 &&& Int32.toUInt32 31)).toInt32) &&& 858993459)) + (((((x0 - (((x0.toUInt32 >>> ((1 : Int32).toUInt32 &&& Int32.toUInt32 31)).toInt32) &&& 1431655765)) &&& 858993459) + ((((x0 - (((x0.toUInt32 >>> ((1 : Int32).toUInt32 &&& Int32.toUInt32 31)).toInt32) &&& 1431655765)).toUInt32 >>> ((2 : Int32).toUInt32 &&& Int32.toUInt32 31)).toInt32) &&& 858993459)).toUInt32 >>> ((4 : Int32).toUInt32 &&& Int32.toUInt32 31)).toInt32)) &&& 252645135).toUInt32 >>> ((8 : Int32).toUInt32 &&& Int32.toUInt32 31)).toInt32)) + ((((((((x0 - (((x0.toUInt32 >>> ((1 : Int32).toUInt32 &&& Int32.toUInt32 31)).toInt32) &&& 1431655765)) &&& 858993459) + ((((x0 - (((x0.toUInt32 >>> ((1 : Int32).toUInt32 &&& Int32.toUInt32 31)).toInt32) &&& 1431655765)).toUInt32 >>> ((2 : Int32).toUInt32 &&& Int32.toUInt32 31)).toInt32) &&& 858993459)) + (((((x0 - (((x0.toUInt32 >>> ((1 : Int32).toUInt32 &&& Int32.toUInt32 31)).toInt32) &&& 1431655765)) &&& 858993459) + ((((x0 - (((x0.toUInt32 >>> ((1 : Int32).toUInt32 &&& Int32.toUInt32 31)).toInt32) &&& 1431655765)).toUInt32 >>> ((2 : Int32).toUInt32 &&& Int32.toUInt32 31)).toInt32) &&& 858993459)).toUInt32 >>> ((4 : Int32).toUInt32 &&& Int32.toUInt32 31)).toInt32)) &&& 252645135) + (((((((x0 - (((x0.toUInt32 >>> ((1 : Int32).toUInt32 &&& Int32.toUInt32 31)).toInt32) &&& 1431655765)) &&& 858993459) + ((((x0 - (((x0.toUInt32 >>> ((1 : Int32).toUInt32 &&& Int32.toUInt32 31)).toInt32) &&& 1431655765)).toUInt32 >>> ((2 : Int32).toUInt32 &&& Int32.toUInt32 31)).toInt32) &&& 858993459)) + (((((x0 - (((x0.toUInt32 >>> ((1 : Int32).toUInt32 &&& Int32.toUInt32 31)).toInt32) &&& 1431655765)) &&& 858993459) + ((((x0 - (((x0.toUInt32 >>> ((1 : Int32).toUInt32 &&& Int32.toUInt32 31)).toInt32) &&& 1431655765)).toUInt32 >>> ((2 : Int32).toUInt32 &&& Int32.toUInt32 31)).toInt32) &&& 858993459)).toUInt32 >>> ((4 : Int32).toUInt32 &&& Int32.toUInt32 31)).toInt32)) &&& 252645135).toUInt32 >>> ((8 : Int32).toUInt32 &&& Int32.toUInt32 31)).toInt32)).toUInt32 >>> ((16 : Int32).toUInt32 &&& Int32.toUInt32 31)).toInt32)) &&& 63)
theorem t_kji_bitCount {f D : Nat} {F : Nat → Nat → Int32} {A : Nat → List Int32} {L : Nat → List Int64} {Q : Option Value → sm_H → Prop} {x0 : Int32} (K : Q (some (.int (kji_bitCount x0))) (hz F A L)) : wl_M f D 72 [.int x0] (hz F A L) Q := by
  generalize hT : (kji_bitCount x0) = T at K
  have hE : T = ((((((((x0 - (((x0.toUInt32 >>> ((1 : Int32).toUInt32 &&& Int32.toUInt32 31)).toInt32) &&& 1431655765)) &&& 858993459) + ((((x0 - (((x0.toUInt32 >>> ((1 : Int32).toUInt32 &&& Int32.toUInt32 31)).toInt32) &&& 1431655765)).toUInt32 >>> ((2 : Int32).toUInt32 &&& Int32.toUInt32 31)).toInt32) &&& 858993459)) + (((((x0 - (((x0.toUInt32 >>> ((1 : Int32).toUInt32 &&& Int32.toUInt32 31)).toInt32) &&& 1431655765)) &&& 858993459) + ((((x0 - (((x0.toUInt32 >>> ((1 : Int32).toUInt32 &&& Int32.toUInt32 31)).toInt32) &&& 1431655765)).toUInt32 >>> ((2 : Int32).toUInt32 &&& Int32.toUInt32 31)).toInt32) &&& 858993459)).toUInt32 >>> ((4 : Int32).toUInt32 &&& Int32.toUInt32 31)).toInt32)) &&& 252645135) + (((((((x0 - (((x0.toUInt32 >>> ((1 : Int32).toUInt32 &&& Int32.toUInt32 31)).toInt32) &&& 1431655765)) &&& 858993459) + ((((x0 - (((x0.toUInt32 >>> ((1 : Int32).toUInt32 &&& Int32.toUInt32 31)).toInt32) &&& 1431655765)).toUInt32 >>> ((2 : Int32).toUInt32 &&& Int32.toUInt32 31)).toInt32) &&& 858993459)) + (((((x0 - (((x0.toUInt32 >>> ((1 : Int32).toUInt32 &&& Int32.toUInt32 31)).toInt32) &&& 1431655765)) &&& 858993459) + ((((x0 - (((x0.toUInt32 >>> ((1 : Int32).toUInt32 &&& Int32.toUInt32 31)).toInt32) &&& 1431655765)).toUInt32 >>> ((2 : Int32).toUInt32 &&& Int32.toUInt32 31)).toInt32) &&& 858993459)).toUInt32 >>> ((4 : Int32).toUInt32 &&& Int32.toUInt32 31)).toInt32)) &&& 252645135).toUInt32 >>> ((8 : Int32).toUInt32 &&& Int32.toUInt32 31)).toInt32)) + ((((((((x0 - (((x0.toUInt32 >>> ((1 : Int32).toUInt32 &&& Int32.toUInt32 31)).toInt32) &&& 1431655765)) &&& 858993459) + ((((x0 - (((x0.toUInt32 >>> ((1 : Int32).toUInt32 &&& Int32.toUInt32 31)).toInt32) &&& 1431655765)).toUInt32 >>> ((2 : Int32).toUInt32 &&& Int32.toUInt32 31)).toInt32) &&& 858993459)) + (((((x0 - (((x0.toUInt32 >>> ((1 : Int32).toUInt32 &&& Int32.toUInt32 31)).toInt32) &&& 1431655765)) &&& 858993459) + ((((x0 - (((x0.toUInt32 >>> ((1 : Int32).toUInt32 &&& Int32.toUInt32 31)).toInt32) &&& 1431655765)).toUInt32 >>> ((2 : Int32).toUInt32 &&& Int32.toUInt32 31)).toInt32) &&& 858993459)).toUInt32 >>> ((4 : Int32).toUInt32 &&& Int32.toUInt32 31)).toInt32)) &&& 252645135) + (((((((x0 - (((x0.toUInt32 >>> ((1 : Int32).toUInt32 &&& Int32.toUInt32 31)).toInt32) &&& 1431655765)) &&& 858993459) + ((((x0 - (((x0.toUInt32 >>> ((1 : Int32).toUInt32 &&& Int32.toUInt32 31)).toInt32) &&& 1431655765)).toUInt32 >>> ((2 : Int32).toUInt32 &&& Int32.toUInt32 31)).toInt32) &&& 858993459)) + (((((x0 - (((x0.toUInt32 >>> ((1 : Int32).toUInt32 &&& Int32.toUInt32 31)).toInt32) &&& 1431655765)) &&& 858993459) + ((((x0 - (((x0.toUInt32 >>> ((1 : Int32).toUInt32 &&& Int32.toUInt32 31)).toInt32) &&& 1431655765)).toUInt32 >>> ((2 : Int32).toUInt32 &&& Int32.toUInt32 31)).toInt32) &&& 858993459)).toUInt32 >>> ((4 : Int32).toUInt32 &&& Int32.toUInt32 31)).toInt32)) &&& 252645135).toUInt32 >>> ((8 : Int32).toUInt32 &&& Int32.toUInt32 31)).toInt32)).toUInt32 >>> ((16 : Int32).toUInt32 &&& Int32.toUInt32 31)).toInt32)) &&& 63) := hT.symm
  clear hT
  refine w_m (E := mm72) rfl ?_
  show wl_E f f (D - 1) mm72.2.2.2.2.2.2.2.2 0 [some (.int x0)] [] (hz F A L) Q
  refine w_n 41 (pc1 := 52) (ls1 := [some (.int (((((((x0 - (((x0.toUInt32 >>> ((1 : Int32).toUInt32 &&& Int32.toUInt32 31)).toInt32) &&& 1431655765)) &&& 858993459) + ((((x0 - (((x0.toUInt32 >>> ((1 : Int32).toUInt32 &&& Int32.toUInt32 31)).toInt32) &&& 1431655765)).toUInt32 >>> ((2 : Int32).toUInt32 &&& Int32.toUInt32 31)).toInt32) &&& 858993459)) + (((((x0 - (((x0.toUInt32 >>> ((1 : Int32).toUInt32 &&& Int32.toUInt32 31)).toInt32) &&& 1431655765)) &&& 858993459) + ((((x0 - (((x0.toUInt32 >>> ((1 : Int32).toUInt32 &&& Int32.toUInt32 31)).toInt32) &&& 1431655765)).toUInt32 >>> ((2 : Int32).toUInt32 &&& Int32.toUInt32 31)).toInt32) &&& 858993459)).toUInt32 >>> ((4 : Int32).toUInt32 &&& Int32.toUInt32 31)).toInt32)) &&& 252645135) + (((((((x0 - (((x0.toUInt32 >>> ((1 : Int32).toUInt32 &&& Int32.toUInt32 31)).toInt32) &&& 1431655765)) &&& 858993459) + ((((x0 - (((x0.toUInt32 >>> ((1 : Int32).toUInt32 &&& Int32.toUInt32 31)).toInt32) &&& 1431655765)).toUInt32 >>> ((2 : Int32).toUInt32 &&& Int32.toUInt32 31)).toInt32) &&& 858993459)) + (((((x0 - (((x0.toUInt32 >>> ((1 : Int32).toUInt32 &&& Int32.toUInt32 31)).toInt32) &&& 1431655765)) &&& 858993459) + ((((x0 - (((x0.toUInt32 >>> ((1 : Int32).toUInt32 &&& Int32.toUInt32 31)).toInt32) &&& 1431655765)).toUInt32 >>> ((2 : Int32).toUInt32 &&& Int32.toUInt32 31)).toInt32) &&& 858993459)).toUInt32 >>> ((4 : Int32).toUInt32 &&& Int32.toUInt32 31)).toInt32)) &&& 252645135).toUInt32 >>> ((8 : Int32).toUInt32 &&& Int32.toUInt32 31)).toInt32)) + ((((((((x0 - (((x0.toUInt32 >>> ((1 : Int32).toUInt32 &&& Int32.toUInt32 31)).toInt32) &&& 1431655765)) &&& 858993459) + ((((x0 - (((x0.toUInt32 >>> ((1 : Int32).toUInt32 &&& Int32.toUInt32 31)).toInt32) &&& 1431655765)).toUInt32 >>> ((2 : Int32).toUInt32 &&& Int32.toUInt32 31)).toInt32) &&& 858993459)) + (((((x0 - (((x0.toUInt32 >>> ((1 : Int32).toUInt32 &&& Int32.toUInt32 31)).toInt32) &&& 1431655765)) &&& 858993459) + ((((x0 - (((x0.toUInt32 >>> ((1 : Int32).toUInt32 &&& Int32.toUInt32 31)).toInt32) &&& 1431655765)).toUInt32 >>> ((2 : Int32).toUInt32 &&& Int32.toUInt32 31)).toInt32) &&& 858993459)).toUInt32 >>> ((4 : Int32).toUInt32 &&& Int32.toUInt32 31)).toInt32)) &&& 252645135) + (((((((x0 - (((x0.toUInt32 >>> ((1 : Int32).toUInt32 &&& Int32.toUInt32 31)).toInt32) &&& 1431655765)) &&& 858993459) + ((((x0 - (((x0.toUInt32 >>> ((1 : Int32).toUInt32 &&& Int32.toUInt32 31)).toInt32) &&& 1431655765)).toUInt32 >>> ((2 : Int32).toUInt32 &&& Int32.toUInt32 31)).toInt32) &&& 858993459)) + (((((x0 - (((x0.toUInt32 >>> ((1 : Int32).toUInt32 &&& Int32.toUInt32 31)).toInt32) &&& 1431655765)) &&& 858993459) + ((((x0 - (((x0.toUInt32 >>> ((1 : Int32).toUInt32 &&& Int32.toUInt32 31)).toInt32) &&& 1431655765)).toUInt32 >>> ((2 : Int32).toUInt32 &&& Int32.toUInt32 31)).toInt32) &&& 858993459)).toUInt32 >>> ((4 : Int32).toUInt32 &&& Int32.toUInt32 31)).toInt32)) &&& 252645135).toUInt32 >>> ((8 : Int32).toUInt32 &&& Int32.toUInt32 31)).toInt32)).toUInt32 >>> ((16 : Int32).toUInt32 &&& Int32.toUInt32 31)).toInt32)))]) (st1 := [.int ((((((((x0 - (((x0.toUInt32 >>> ((1 : Int32).toUInt32 &&& Int32.toUInt32 31)).toInt32) &&& 1431655765)) &&& 858993459) + ((((x0 - (((x0.toUInt32 >>> ((1 : Int32).toUInt32 &&& Int32.toUInt32 31)).toInt32) &&& 1431655765)).toUInt32 >>> ((2 : Int32).toUInt32 &&& Int32.toUInt32 31)).toInt32) &&& 858993459)) + (((((x0 - (((x0.toUInt32 >>> ((1 : Int32).toUInt32 &&& Int32.toUInt32 31)).toInt32) &&& 1431655765)) &&& 858993459) + ((((x0 - (((x0.toUInt32 >>> ((1 : Int32).toUInt32 &&& Int32.toUInt32 31)).toInt32) &&& 1431655765)).toUInt32 >>> ((2 : Int32).toUInt32 &&& Int32.toUInt32 31)).toInt32) &&& 858993459)).toUInt32 >>> ((4 : Int32).toUInt32 &&& Int32.toUInt32 31)).toInt32)) &&& 252645135) + (((((((x0 - (((x0.toUInt32 >>> ((1 : Int32).toUInt32 &&& Int32.toUInt32 31)).toInt32) &&& 1431655765)) &&& 858993459) + ((((x0 - (((x0.toUInt32 >>> ((1 : Int32).toUInt32 &&& Int32.toUInt32 31)).toInt32) &&& 1431655765)).toUInt32 >>> ((2 : Int32).toUInt32 &&& Int32.toUInt32 31)).toInt32) &&& 858993459)) + (((((x0 - (((x0.toUInt32 >>> ((1 : Int32).toUInt32 &&& Int32.toUInt32 31)).toInt32) &&& 1431655765)) &&& 858993459) + ((((x0 - (((x0.toUInt32 >>> ((1 : Int32).toUInt32 &&& Int32.toUInt32 31)).toInt32) &&& 1431655765)).toUInt32 >>> ((2 : Int32).toUInt32 &&& Int32.toUInt32 31)).toInt32) &&& 858993459)).toUInt32 >>> ((4 : Int32).toUInt32 &&& Int32.toUInt32 31)).toInt32)) &&& 252645135).toUInt32 >>> ((8 : Int32).toUInt32 &&& Int32.toUInt32 31)).toInt32)) + ((((((((x0 - (((x0.toUInt32 >>> ((1 : Int32).toUInt32 &&& Int32.toUInt32 31)).toInt32) &&& 1431655765)) &&& 858993459) + ((((x0 - (((x0.toUInt32 >>> ((1 : Int32).toUInt32 &&& Int32.toUInt32 31)).toInt32) &&& 1431655765)).toUInt32 >>> ((2 : Int32).toUInt32 &&& Int32.toUInt32 31)).toInt32) &&& 858993459)) + (((((x0 - (((x0.toUInt32 >>> ((1 : Int32).toUInt32 &&& Int32.toUInt32 31)).toInt32) &&& 1431655765)) &&& 858993459) + ((((x0 - (((x0.toUInt32 >>> ((1 : Int32).toUInt32 &&& Int32.toUInt32 31)).toInt32) &&& 1431655765)).toUInt32 >>> ((2 : Int32).toUInt32 &&& Int32.toUInt32 31)).toInt32) &&& 858993459)).toUInt32 >>> ((4 : Int32).toUInt32 &&& Int32.toUInt32 31)).toInt32)) &&& 252645135) + (((((((x0 - (((x0.toUInt32 >>> ((1 : Int32).toUInt32 &&& Int32.toUInt32 31)).toInt32) &&& 1431655765)) &&& 858993459) + ((((x0 - (((x0.toUInt32 >>> ((1 : Int32).toUInt32 &&& Int32.toUInt32 31)).toInt32) &&& 1431655765)).toUInt32 >>> ((2 : Int32).toUInt32 &&& Int32.toUInt32 31)).toInt32) &&& 858993459)) + (((((x0 - (((x0.toUInt32 >>> ((1 : Int32).toUInt32 &&& Int32.toUInt32 31)).toInt32) &&& 1431655765)) &&& 858993459) + ((((x0 - (((x0.toUInt32 >>> ((1 : Int32).toUInt32 &&& Int32.toUInt32 31)).toInt32) &&& 1431655765)).toUInt32 >>> ((2 : Int32).toUInt32 &&& Int32.toUInt32 31)).toInt32) &&& 858993459)).toUInt32 >>> ((4 : Int32).toUInt32 &&& Int32.toUInt32 31)).toInt32)) &&& 252645135).toUInt32 >>> ((8 : Int32).toUInt32 &&& Int32.toUInt32 31)).toInt32)).toUInt32 >>> ((16 : Int32).toUInt32 &&& Int32.toUInt32 31)).toInt32)) &&& 63)]) (hp1 := (hz F A L)) rfl ?_
  subst T
  exact w_ri rfl (cvQ rfl rfl rfl K)
noncomputable def kv_beatsTheRest_14 (a33 : List Int32) (x1 : Int32) (x2 : Int32) : Nat → Int32 → Int32
  | 0, _ => 1
  | m + 1, y3 => (if ((x1 >>> (y3 &&& 31)) &&& 1) = 0 then (kv_beatsTheRest_14 a33 x1 x2 m (y3 + 1)) else (if (x2 &&& ((a33.getD y3.toInt.toNat 0) ^^^ (-1))) = 0 then (kv_beatsTheRest_14 a33 x1 x2 m (y3 + 1)) else 0))
theorem t_kv_beatsTheRest_14 {f : Nat} {Q : Option Value → sm_H → Prop} : ∀ (m : Nat) {B D : Nat} {F : Nat → Nat → Int32} {A : Nat → List Int32} {L : Nat → List Int64} {x1 : Int32} {x2 : Int32} {y3 : Int32}, m = ((F 3 0).toInt - y3.toInt).toNat → (Q (some (.int (kv_beatsTheRest_14 (A 33) x1 x2 m y3))) (hz F A L)) → wl_E f B D mm89.2.2.2.2.2.2.2.2 14 [some (.ref 30), some (.int x1), some (.int x2), some (.int y3)] [] (hz F A L) Q := by
  intro m
  induction m with
  | zero =>
    intro B D F A L x1 x2 y3 hm K
    generalize hT : (kv_beatsTheRest_14 (A 33) x1 x2 0 y3) = T at K
    have hE : T = 1 := hT.symm
    clear hT
    refine w_n 4 (pc1 := 22) (ls1 := [some (.ref 30), some (.int x1), some (.int x2), some (.int y3)]) (st1 := [.int (F 3 0), .int y3]) (hp1 := (hz F A L)) rfl ?_
    refine w_ge (p3 := 25) rfl rfl (fun hb => ?_) (fun h => False.elim (by have h : y3.toInt < (F 3 0).toInt := h; omega))
    refine w_n 1 (pc1 := 55) (ls1 := [some (.ref 30), some (.int x1), some (.int x2), some (.int y3)]) (st1 := [.int 1]) (hp1 := (hz F A L)) rfl ?_
    subst T
    exact w_ri rfl (cvQ rfl rfl rfl K)
  | succ m ih =>
    intro B D F A L x1 x2 y3 hm K
    generalize hT : (kv_beatsTheRest_14 (A 33) x1 x2 (m + 1) y3) = T at K
    have hE : T = (if ((x1 >>> (y3 &&& 31)) &&& 1) = 0 then (kv_beatsTheRest_14 (A 33) x1 x2 m (y3 + 1)) else (if (x2 &&& (((A 33).getD y3.toInt.toNat 0) ^^^ (-1))) = 0 then (kv_beatsTheRest_14 (A 33) x1 x2 m (y3 + 1)) else 0)) := hT.symm
    clear hT
    refine w_n 4 (pc1 := 22) (ls1 := [some (.ref 30), some (.int x1), some (.int x2), some (.int y3)]) (st1 := [.int (F 3 0), .int y3]) (hp1 := (hz F A L)) rfl ?_
    refine w_ge (p3 := 25) rfl rfl (fun h => False.elim (by have h : (F 3 0).toInt ≤ y3.toInt := h; omega)) (fun hb => ?_)
    refine w_n 5 (pc1 := 30) (ls1 := [some (.ref 30), some (.int x1), some (.int x2), some (.int y3)]) (st1 := [.int ((x1 >>> (y3 &&& 31)) &&& 1)]) (hp1 := (hz F A L)) rfl ?_
    refine w_zeq (p3 := 33) rfl rfl (fun h => ?_) (fun h => ?_)
    · have h1 : ((x1 >>> (y3 &&& 31)) &&& 1) = 0 := h
      rw [if_pos h1] at hE
      refine w_n 2 (pc1 := 14) (ls1 := [some (.ref 30), some (.int x1), some (.int x2), some (.int (y3 + 1))]) (st1 := []) (hp1 := (hz F A L)) rfl ?_
      subst T
      have hb2 := i_up (B := (F 3 0)) hb
      have hb3 : y3.toInt < (F 3 0).toInt := hb
      exact ih (show m = ((F 3 0).toInt - (y3 + 1).toInt).toNat by rw [hb2]; omega) (cvQ rfl rfl rfl K)
    · have h1 : ¬ ((x1 >>> (y3 &&& 31)) &&& 1) = 0 := h
      rw [if_neg h1] at hE
      refine w_n 4 (pc1 := 39) (ls1 := [some (.ref 30), some (.int x1), some (.int x2), some (.int y3)]) (st1 := [.int y3, .ref 33, .int x2]) (hp1 := (hz F A L)) rfl ?_
      refine w_al (k := 33) (l := (A 33)) rfl rfl rfl (fun ab => ?_)
      refine w_n 3 (pc1 := 43) (ls1 := [some (.ref 30), some (.int x1), some (.int x2), some (.int y3)]) (st1 := [.int (x2 &&& (((A 33).getD y3.toInt.toNat 0) ^^^ (-1)))]) (hp1 := (hz F A L)) rfl ?_
      refine w_zeq (p3 := 46) rfl rfl (fun h => ?_) (fun h => ?_)
      · have h2 : (x2 &&& (((A 33).getD y3.toInt.toNat 0) ^^^ (-1))) = 0 := h
        rw [if_pos h2] at hE
        refine w_n 2 (pc1 := 14) (ls1 := [some (.ref 30), some (.int x1), some (.int x2), some (.int (y3 + 1))]) (st1 := []) (hp1 := (hz F A L)) rfl ?_
        subst T
        have hb2 := i_up (B := (F 3 0)) hb
        have hb3 : y3.toInt < (F 3 0).toInt := hb
        exact ih (show m = ((F 3 0).toInt - (y3 + 1).toInt).toNat by rw [hb2]; omega) (cvQ rfl rfl rfl K)
      · have h2 : ¬ (x2 &&& (((A 33).getD y3.toInt.toNat 0) ^^^ (-1))) = 0 := h
        rw [if_neg h2] at hE
        refine w_n 1 (pc1 := 47) (ls1 := [some (.ref 30), some (.int x1), some (.int x2), some (.int y3)]) (st1 := [.int 0]) (hp1 := (hz F A L)) rfl ?_
        subst T
        exact w_ri rfl (cvQ rfl rfl rfl K)
noncomputable def kv_beatsTheRest (f3_0 : Int32) (a33 : List Int32) (x1 : Int32) : Int32 := (kv_beatsTheRest_14 a33 x1 ((kt_allMeasures f3_0) &&& (x1 ^^^ (-1))) f3_0.toInt.toNat 0)
theorem t_kv_beatsTheRest {f D : Nat} {F : Nat → Nat → Int32} {A : Nat → List Int32} {L : Nat → List Int64} {Q : Option Value → sm_H → Prop} {x1 : Int32} (K : Q (some (.int (kv_beatsTheRest (F 3 0) (A 33) x1))) (hz F A L)) : wl_M f D 89 [.ref 30, .int x1] (hz F A L) Q := by
  generalize hT : (kv_beatsTheRest (F 3 0) (A 33) x1) = T at K
  have hE : T = (kv_beatsTheRest_14 (A 33) x1 ((kt_allMeasures (F 3 0)) &&& (x1 ^^^ (-1))) (F 3 0).toInt.toNat 0) := hT.symm
  clear hT
  refine w_m (E := mm89) rfl ?_
  show wl_E f f (D - 1) mm89.2.2.2.2.2.2.2.2 0 [some (.ref 30), some (.int x1), none, none] [] (hz F A L) Q
  refine w_n 2 (pc1 := 4) (ls1 := [some (.ref 30), some (.int x1), none, none]) (st1 := [.ref 3]) (hp1 := (hz F A L)) rfl ?_
  refine w_c rfl rfl (t_kt_allMeasures ?_)
  show wl_E f _ _ mm89.2.2.2.2.2.2.2.2 7 [some (.ref 30), some (.int x1), none, none] [.int (kt_allMeasures (F 3 0))] (hz F A L) _
  generalize hG202 : (kt_allMeasures (F 3 0)) = G202 at hE ⊢
  refine w_n 7 (pc1 := 14) (ls1 := [some (.ref 30), some (.int x1), some (.int (G202 &&& (x1 ^^^ (-1)))), some (.int 0)]) (st1 := []) (hp1 := (hz F A L)) rfl ?_
  subst T
  exact t_kv_beatsTheRest_14 _ (show (F 3 0).toInt.toNat = ((F 3 0).toInt - (0 : Int32).toInt).toNat by have e0 : (0 : Int32).toInt = 0 := rfl; first | rfl | omega) (cvQ rfl rfl rfl K)
noncomputable def kv_leastBeatingSet_10 (f3_0 : Int32) (a33 : List Int32)  : Nat → Int32 → Int32 → Int32
  | 0, y1, _ => y1
  | m + 1, y1, y2 => (if (kji_bitCount y2).toInt < (kji_bitCount y1).toInt then (if (kv_beatsTheRest f3_0 a33 y2) = 0 then (kv_leastBeatingSet_10 f3_0 a33 m y1 (y2 + 1)) else (kv_leastBeatingSet_10 f3_0 a33 m y2 (y2 + 1))) else (kv_leastBeatingSet_10 f3_0 a33 m y1 (y2 + 1)))
theorem t_kv_leastBeatingSet_10 {f : Nat} {Q : Option Value → sm_H → Prop} : ∀ (m : Nat) {B D : Nat} {F : Nat → Nat → Int32} {A : Nat → List Int32} {L : Nat → List Int64} {y1 : Int32} {y2 : Int32}, m = ((kt_allMeasures (F 3 0)).toInt + 1 - y2.toInt).toNat → (_ : (kt_allMeasures (F 3 0)).toInt < 2147483647) → (∀ q2 : Int32, wl_E f B D mm88.2.2.2.2.2.2.2.2 48 [some (.ref 30), some (.int (kv_leastBeatingSet_10 (F 3 0) (A 33) m y1 y2)), some (.int q2)] [] (hz F A L) Q) → wl_E f B D mm88.2.2.2.2.2.2.2.2 10 [some (.ref 30), some (.int y1), some (.int y2)] [] (hz F A L) Q := by
  intro m
  induction m with
  | zero =>
    intro B D F A L y1 y2 hm hh0 K
    generalize hT : (kv_leastBeatingSet_10 (F 3 0) (A 33) 0 y1 y2) = T at K
    have hE : T = y1 := hT.symm
    clear hT
    refine w_n 3 (pc1 := 15) (ls1 := [some (.ref 30), some (.int y1), some (.int y2)]) (st1 := [.ref 3, .int y2]) (hp1 := (hz F A L)) rfl ?_
    refine w_c rfl rfl (t_kt_allMeasures ?_)
    show wl_E f _ _ mm88.2.2.2.2.2.2.2.2 18 [some (.ref 30), some (.int y1), some (.int y2)] [.int (kt_allMeasures (F 3 0)), .int y2] (hz F A L) _
    refine w_gt (p3 := 21) rfl rfl (fun hb => ?_) (fun h => False.elim (by have h : y2.toInt ≤ (kt_allMeasures (F 3 0)).toInt := h; omega))
    subst T
    exact cvE rfl rfl rfl (K _)
  | succ m ih =>
    intro B D F A L y1 y2 hm hh0 K
    generalize hT : (kv_leastBeatingSet_10 (F 3 0) (A 33) (m + 1) y1 y2) = T at K
    have hE : T = (if (kji_bitCount y2).toInt < (kji_bitCount y1).toInt then (if (kv_beatsTheRest (F 3 0) (A 33) y2) = 0 then (kv_leastBeatingSet_10 (F 3 0) (A 33) m y1 (y2 + 1)) else (kv_leastBeatingSet_10 (F 3 0) (A 33) m y2 (y2 + 1))) else (kv_leastBeatingSet_10 (F 3 0) (A 33) m y1 (y2 + 1))) := hT.symm
    clear hT
    refine w_n 3 (pc1 := 15) (ls1 := [some (.ref 30), some (.int y1), some (.int y2)]) (st1 := [.ref 3, .int y2]) (hp1 := (hz F A L)) rfl ?_
    refine w_c rfl rfl (t_kt_allMeasures ?_)
    show wl_E f _ _ mm88.2.2.2.2.2.2.2.2 18 [some (.ref 30), some (.int y1), some (.int y2)] [.int (kt_allMeasures (F 3 0)), .int y2] (hz F A L) _
    refine w_gt (p3 := 21) rfl rfl (fun h => False.elim (by have h : (kt_allMeasures (F 3 0)).toInt < y2.toInt := h; omega)) (fun hb => ?_)
    refine w_n 1 (pc1 := 22) (ls1 := [some (.ref 30), some (.int y1), some (.int y2)]) (st1 := [.int y2]) (hp1 := (hz F A L)) rfl ?_
    refine w_c rfl rfl (t_kji_bitCount ?_)
    show wl_E f _ _ mm88.2.2.2.2.2.2.2.2 25 [some (.ref 30), some (.int y1), some (.int y2)] [.int (kji_bitCount y2)] (hz F A L) _
    generalize hG200 : (kji_bitCount y2) = G200 at hE ⊢
    refine w_n 1 (pc1 := 26) (ls1 := [some (.ref 30), some (.int y1), some (.int y2)]) (st1 := [.int y1, .int G200]) (hp1 := (hz F A L)) rfl ?_
    refine w_c rfl rfl (t_kji_bitCount ?_)
    show wl_E f _ _ mm88.2.2.2.2.2.2.2.2 29 [some (.ref 30), some (.int y1), some (.int y2)] [.int (kji_bitCount y1), .int G200] (hz F A L) _
    generalize hG201 : (kji_bitCount y1) = G201 at hE ⊢
    refine w_ge (p3 := 32) rfl rfl (fun h => ?_) (fun h => ?_)
    · have h1 : G201.toInt ≤ G200.toInt := h
      rw [if_neg (Int.not_lt.mpr h1)] at hE
      refine w_n 2 (pc1 := 10) (ls1 := [some (.ref 30), some (.int y1), some (.int (y2 + 1))]) (st1 := []) (hp1 := (hz F A L)) rfl ?_
      subst T
      have hb2 := i_up2 (B := (kt_allMeasures (F 3 0))) hb (by first | decide | exact hB | assumption)
      have hb3 : y2.toInt ≤ (kt_allMeasures (F 3 0)).toInt := hb
      exact ih (show m = ((kt_allMeasures (F 3 0)).toInt + 1 - (y2 + 1).toInt).toNat by rw [hb2]; omega) hh0 (fun q2 => cvE rfl rfl rfl (K q2))
    · have h1 : G200.toInt < G201.toInt := h
      rw [if_pos h1] at hE
      refine w_n 2 (pc1 := 34) (ls1 := [some (.ref 30), some (.int y1), some (.int y2)]) (st1 := [.int y2, .ref 30]) (hp1 := (hz F A L)) rfl ?_
      refine w_c rfl rfl (t_kv_beatsTheRest ?_)
      show wl_E f _ _ mm88.2.2.2.2.2.2.2.2 37 [some (.ref 30), some (.int y1), some (.int y2)] [.int (kv_beatsTheRest (F 3 0) (A 33) y2)] (hz F A L) _
      generalize hG203 : (kv_beatsTheRest (F 3 0) (A 33) y2) = G203 at hE ⊢
      refine w_zeq (p3 := 40) rfl rfl (fun h => ?_) (fun h => ?_)
      · have h2 : G203 = 0 := h
        rw [if_pos h2] at hE
        refine w_n 2 (pc1 := 10) (ls1 := [some (.ref 30), some (.int y1), some (.int (y2 + 1))]) (st1 := []) (hp1 := (hz F A L)) rfl ?_
        subst T
        have hb2 := i_up2 (B := (kt_allMeasures (F 3 0))) hb (by first | decide | exact hB | assumption)
        have hb3 : y2.toInt ≤ (kt_allMeasures (F 3 0)).toInt := hb
        exact ih (show m = ((kt_allMeasures (F 3 0)).toInt + 1 - (y2 + 1).toInt).toNat by rw [hb2]; omega) hh0 (fun q2 => cvE rfl rfl rfl (K q2))
      · have h2 : ¬ G203 = 0 := h
        rw [if_neg h2] at hE
        refine w_n 4 (pc1 := 10) (ls1 := [some (.ref 30), some (.int y2), some (.int (y2 + 1))]) (st1 := []) (hp1 := (hz F A L)) rfl ?_
        subst T
        have hb2 := i_up2 (B := (kt_allMeasures (F 3 0))) hb (by first | decide | exact hB | assumption)
        have hb3 : y2.toInt ≤ (kt_allMeasures (F 3 0)).toInt := hb
        exact ih (show m = ((kt_allMeasures (F 3 0)).toInt + 1 - (y2 + 1).toInt).toNat by rw [hb2]; omega) hh0 (fun q2 => cvE rfl rfl rfl (K q2))
noncomputable def kv_leastBeatingSet (f3_0 : Int32) (a33 : List Int32) : Int32 := (kv_leastBeatingSet_10 f3_0 a33 ((kt_allMeasures f3_0).toInt + 1 - 1).toNat (kt_allMeasures f3_0) 1)
theorem t_kv_leastBeatingSet {f D : Nat} {F : Nat → Nat → Int32} {A : Nat → List Int32} {L : Nat → List Int64} {Q : Option Value → sm_H → Prop} (hh0 : (kt_allMeasures (F 3 0)).toInt < 2147483647) (K : Q (some (.int (kv_leastBeatingSet (F 3 0) (A 33)))) (hz F A L)) : wl_M f D 88 [.ref 30] (hz F A L) Q := by
  generalize hT : (kv_leastBeatingSet (F 3 0) (A 33)) = T at K
  have hE : T = (kv_leastBeatingSet_10 (F 3 0) (A 33) ((kt_allMeasures (F 3 0)).toInt + 1 - 1).toNat (kt_allMeasures (F 3 0)) 1) := hT.symm
  clear hT
  refine w_m (E := mm88) rfl ?_
  show wl_E f f (D - 1) mm88.2.2.2.2.2.2.2.2 0 [some (.ref 30), none, none] [] (hz F A L) Q
  refine w_n 2 (pc1 := 4) (ls1 := [some (.ref 30), none, none]) (st1 := [.ref 3]) (hp1 := (hz F A L)) rfl ?_
  refine w_c rfl rfl (t_kt_allMeasures ?_)
  show wl_E f _ _ mm88.2.2.2.2.2.2.2.2 7 [some (.ref 30), none, none] [.int (kt_allMeasures (F 3 0))] (hz F A L) _
  generalize hG199 : (kt_allMeasures (F 3 0)) = G199 at hE ⊢
  refine w_n 3 (pc1 := 10) (ls1 := [some (.ref 30), some (.int G199), some (.int 1)]) (st1 := []) (hp1 := (hz F A L)) rfl ?_
  refine t_kv_leastBeatingSet_10 ((G199.toInt + 1 - 1).toNat) (show (G199.toInt + 1 - 1).toNat = ((kt_allMeasures (F 3 0)).toInt + 1 - (1 : Int32).toInt).toNat by rw [hG199]; have e0 : (1 : Int32).toInt = 1 := rfl; first | rfl | omega) hh0 ?_
  intro r1
  show wl_E f _ _ mm88.2.2.2.2.2.2.2.2 48 [some (.ref 30), some (.int (kv_leastBeatingSet_10 (F 3 0) (A 33) (G199.toInt + 1 - 1).toNat G199 1)), some (.int r1)] [] (hz F A L) _
  generalize hG204 : (kv_leastBeatingSet_10 (F 3 0) (A 33) (G199.toInt + 1 - 1).toNat G199 1) = G204 at hE ⊢
  refine w_n 1 (pc1 := 49) (ls1 := [some (.ref 30), some (.int G204), some (.int r1)]) (st1 := [.int G204]) (hp1 := (hz F A L)) rfl ?_
  subst T
  exact w_ri rfl (cvQ rfl rfl rfl K)
noncomputable def kc_set (f3_0 : Int32) (f3_1 : Int32) (a6 : List Int32) (a32 : List Int32) (a33 : List Int32) (l11 : List Int64) : Int32 × List Int32 × List Int32 := ((kv_leastBeatingSet f3_0 (kv_weighPairs f3_0 f3_1 a6 a32 a33 l11).2), (kv_weighPairs f3_0 f3_1 a6 a32 a33 l11).1, (kv_weighPairs f3_0 f3_1 a6 a32 a33 l11).2)
theorem t_kc_set {f D : Nat} {F : Nat → Nat → Int32} {A : Nat → List Int32} {L : Nat → List Int64} {Q : Option Value → sm_H → Prop} (hh0 : (kt_allMeasures (F 3 0)).toInt < 2147483647) (K : Q (some (.int ((kc_set (F 3 0) (F 3 1) (A 6) (A 32) (A 33) (L 11)).1))) (hz F (uA (uA A 32 ((kc_set (F 3 0) (F 3 1) (A 6) (A 32) (A 33) (L 11)).2.1)) 33 ((kc_set (F 3 0) (F 3 1) (A 6) (A 32) (A 33) (L 11)).2.2)) L)) : wl_M f D 87 [.ref 0] (hz F A L) Q := by
  generalize hT : (kc_set (F 3 0) (F 3 1) (A 6) (A 32) (A 33) (L 11)) = T at K
  have hE : T = ((kv_leastBeatingSet (F 3 0) (kv_weighPairs (F 3 0) (F 3 1) (A 6) (A 32) (A 33) (L 11)).2), (kv_weighPairs (F 3 0) (F 3 1) (A 6) (A 32) (A 33) (L 11)).1, (kv_weighPairs (F 3 0) (F 3 1) (A 6) (A 32) (A 33) (L 11)).2) := hT.symm
  clear hT
  refine w_m (E := mm87) rfl ?_
  show wl_E f f (D - 1) mm87.2.2.2.2.2.2.2.2 0 [some (.ref 0)] [] (hz F A L) Q
  refine w_n 2 (pc1 := 4) (ls1 := [some (.ref 0)]) (st1 := [.ref 30]) (hp1 := (hz F A L)) rfl ?_
  refine w_c rfl rfl (t_kv_weighPairs ?_)
  show wl_E f _ _ mm87.2.2.2.2.2.2.2.2 7 [some (.ref 0)] [] (hz F (uA (uA A 32 (kv_weighPairs (F 3 0) (F 3 1) (A 6) (A 32) (A 33) (L 11)).1) 33 (kv_weighPairs (F 3 0) (F 3 1) (A 6) (A 32) (A 33) (L 11)).2) L) _
  generalize hG198 : (kv_weighPairs (F 3 0) (F 3 1) (A 6) (A 32) (A 33) (L 11)) = G198 at hE ⊢
  refine w_n 2 (pc1 := 11) (ls1 := [some (.ref 0)]) (st1 := [.ref 30]) (hp1 := (hz F (uA (uA A 32 G198.1) 33 G198.2) L)) rfl ?_
  refine w_c rfl rfl (t_kv_leastBeatingSet hh0 ?_)
  show wl_E f _ _ mm87.2.2.2.2.2.2.2.2 14 [some (.ref 0)] [.int (kv_leastBeatingSet (F 3 0) G198.2)] (hz F (uA (uA A 32 G198.1) 33 G198.2) L) _
  generalize hG205 : (kv_leastBeatingSet (F 3 0) G198.2) = G205 at hE ⊢
  subst T
  exact w_ri rfl (cvQ rfl rfl rfl K)
noncomputable def km_bits_4  (x0 : Int32) : Nat → Int32 → Int32 → Int32
  | 0, y1, _ => y1
  | m + 1, y1, y2 => (km_bits_4 x0 m (y1 + ((x0 >>> (y2 &&& 31)) &&& 1)) (y2 + 1))
theorem t_km_bits_4 {f : Nat} {Q : Option Value → sm_H → Prop} : ∀ (m : Nat) {B D : Nat} {F : Nat → Nat → Int32} {A : Nat → List Int32} {L : Nat → List Int64} {x0 : Int32} {y1 : Int32} {y2 : Int32}, m = (12 - y2.toInt).toNat → (∀ q2 : Int32, wl_E f B D mm215.2.2.2.2.2.2.2.2 24 [some (.int x0), some (.int (km_bits_4 x0 m y1 y2)), some (.int q2)] [] (hz F A L) Q) → wl_E f B D mm215.2.2.2.2.2.2.2.2 4 [some (.int x0), some (.int y1), some (.int y2)] [] (hz F A L) Q := by
  intro m
  induction m with
  | zero =>
    intro B D F A L x0 y1 y2 hm K
    generalize hT : (km_bits_4 x0 0 y1 y2) = T at K
    have hE : T = y1 := hT.symm
    clear hT
    refine w_n 2 (pc1 := 7) (ls1 := [some (.int x0), some (.int y1), some (.int y2)]) (st1 := [.int 12, .int y2]) (hp1 := (hz F A L)) rfl ?_
    refine w_ge (p3 := 10) rfl rfl (fun hb => ?_) (fun h => False.elim (by have h : y2.toInt < 12 := h; omega))
    subst T
    exact cvE rfl rfl rfl (K _)
  | succ m ih =>
    intro B D F A L x0 y1 y2 hm K
    generalize hT : (km_bits_4 x0 (m + 1) y1 y2) = T at K
    have hE : T = (km_bits_4 x0 m (y1 + ((x0 >>> (y2 &&& 31)) &&& 1)) (y2 + 1)) := hT.symm
    clear hT
    refine w_n 2 (pc1 := 7) (ls1 := [some (.int x0), some (.int y1), some (.int y2)]) (st1 := [.int 12, .int y2]) (hp1 := (hz F A L)) rfl ?_
    refine w_ge (p3 := 10) rfl rfl (fun h => False.elim (by have h : 12 ≤ y2.toInt := h; omega)) (fun hb => ?_)
    refine w_n 10 (pc1 := 4) (ls1 := [some (.int x0), some (.int (y1 + ((x0 >>> (y2 &&& 31)) &&& 1))), some (.int (y2 + 1))]) (st1 := []) (hp1 := (hz F A L)) rfl ?_
    subst T
    have hb2 := i_up (B := (12 : Int32)) hb
    have hb3 : y2.toInt < 12 := hb
    exact ih (show m = (12 - (y2 + 1).toInt).toNat by rw [hb2]; omega) (fun q2 => cvE rfl rfl rfl (K q2))
noncomputable def km_bits (x0 : Int32) : Int32 := (km_bits_4 x0 12 0 0)
theorem t_km_bits {f D : Nat} {F : Nat → Nat → Int32} {A : Nat → List Int32} {L : Nat → List Int64} {Q : Option Value → sm_H → Prop} {x0 : Int32} (K : Q (some (.int (km_bits x0))) (hz F A L)) : wl_M f D 215 [.int x0] (hz F A L) Q := by
  generalize hT : (km_bits x0) = T at K
  have hE : T = (km_bits_4 x0 12 0 0) := hT.symm
  clear hT
  refine w_m (E := mm215) rfl ?_
  show wl_E f f (D - 1) mm215.2.2.2.2.2.2.2.2 0 [some (.int x0), none, none] [] (hz F A L) Q
  refine w_n 4 (pc1 := 4) (ls1 := [some (.int x0), some (.int 0), some (.int 0)]) (st1 := []) (hp1 := (hz F A L)) rfl ?_
  refine t_km_bits_4 12 (show (12 : Nat) = (12 - (0 : Int32).toInt).toNat by have e0 : (0 : Int32).toInt = 0 := rfl; first | rfl | omega) ?_
  intro r1
  show wl_E f _ _ mm215.2.2.2.2.2.2.2.2 24 [some (.int x0), some (.int (km_bits_4 x0 12 0 0)), some (.int r1)] [] (hz F A L) _
  generalize hG207 : (km_bits_4 x0 12 0 0) = G207 at hE ⊢
  refine w_n 1 (pc1 := 25) (ls1 := [some (.int x0), some (.int G207), some (.int r1)]) (st1 := [.int G207]) (hp1 := (hz F A L)) rfl ?_
  subst T
  exact w_ri rfl (cvQ rfl rfl rfl K)
noncomputable def km_isSet_2 (f67_3 : Int32) (a68 : List Int32) (x1 : Int32) : Nat → Int32 → Int32
  | 0, _ => 1
  | m + 1, y2 => (if (km_has x1 y2) = 0 then (km_isSet_2 f67_3 a68 x1 m (y2 + 1)) else (if (km_beatsAll f67_3 a68 y2 ((km_allMeasures f67_3) &&& (x1 ^^^ (-1)))) = 0 then 0 else (km_isSet_2 f67_3 a68 x1 m (y2 + 1))))
theorem t_km_isSet_2 {f : Nat} {Q : Option Value → sm_H → Prop} : ∀ (m : Nat) {B D : Nat} {F : Nat → Nat → Int32} {A : Nat → List Int32} {L : Nat → List Int64} {x1 : Int32} {y2 : Int32}, m = ((F 67 3).toInt - y2.toInt).toNat → (Q (some (.int (km_isSet_2 (F 67 3) (A 68) x1 m y2))) (hz F A L)) → wl_E f B D mm216.2.2.2.2.2.2.2.2 2 [some (.ref 67), some (.int x1), some (.int y2)] [] (hz F A L) Q := by
  intro m
  induction m with
  | zero =>
    intro B D F A L x1 y2 hm K
    generalize hT : (km_isSet_2 (F 67 3) (A 68) x1 0 y2) = T at K
    have hE : T = 1 := hT.symm
    clear hT
    refine w_n 3 (pc1 := 7) (ls1 := [some (.ref 67), some (.int x1), some (.int y2)]) (st1 := [.int (F 67 3), .int y2]) (hp1 := (hz F A L)) rfl ?_
    refine w_ge (p3 := 10) rfl rfl (fun hb => ?_) (fun h => False.elim (by have h : y2.toInt < (F 67 3).toInt := h; omega))
    refine w_n 1 (pc1 := 43) (ls1 := [some (.ref 67), some (.int x1), some (.int y2)]) (st1 := [.int 1]) (hp1 := (hz F A L)) rfl ?_
    subst T
    exact w_ri rfl (cvQ rfl rfl rfl K)
  | succ m ih =>
    intro B D F A L x1 y2 hm K
    generalize hT : (km_isSet_2 (F 67 3) (A 68) x1 (m + 1) y2) = T at K
    have hE : T = (if (km_has x1 y2) = 0 then (km_isSet_2 (F 67 3) (A 68) x1 m (y2 + 1)) else (if (km_beatsAll (F 67 3) (A 68) y2 ((km_allMeasures (F 67 3)) &&& (x1 ^^^ (-1)))) = 0 then 0 else (km_isSet_2 (F 67 3) (A 68) x1 m (y2 + 1)))) := hT.symm
    clear hT
    refine w_n 3 (pc1 := 7) (ls1 := [some (.ref 67), some (.int x1), some (.int y2)]) (st1 := [.int (F 67 3), .int y2]) (hp1 := (hz F A L)) rfl ?_
    refine w_ge (p3 := 10) rfl rfl (fun h => False.elim (by have h : (F 67 3).toInt ≤ y2.toInt := h; omega)) (fun hb => ?_)
    refine w_n 2 (pc1 := 12) (ls1 := [some (.ref 67), some (.int x1), some (.int y2)]) (st1 := [.int y2, .int x1]) (hp1 := (hz F A L)) rfl ?_
    refine w_c rfl rfl (t_km_has ?_)
    show wl_E f _ _ mm216.2.2.2.2.2.2.2.2 15 [some (.ref 67), some (.int x1), some (.int y2)] [.int (km_has x1 y2)] (hz F A L) _
    generalize hG210 : (km_has x1 y2) = G210 at hE ⊢
    refine w_zeq (p3 := 18) rfl rfl (fun h => ?_) (fun h => ?_)
    · have h1 : G210 = 0 := h
      rw [if_pos h1] at hE
      refine w_n 2 (pc1 := 2) (ls1 := [some (.ref 67), some (.int x1), some (.int (y2 + 1))]) (st1 := []) (hp1 := (hz F A L)) rfl ?_
      subst T
      have hb2 := i_up (B := (F 67 3)) hb
      have hb3 : y2.toInt < (F 67 3).toInt := hb
      exact ih (show m = ((F 67 3).toInt - (y2 + 1).toInt).toNat by rw [hb2]; omega) (cvQ rfl rfl rfl K)
    · have h1 : ¬ G210 = 0 := h
      rw [if_neg h1] at hE
      refine w_n 3 (pc1 := 21) (ls1 := [some (.ref 67), some (.int x1), some (.int y2)]) (st1 := [.ref 67, .int y2, .ref 67]) (hp1 := (hz F A L)) rfl ?_
      refine w_c rfl rfl (t_km_allMeasures ?_)
      show wl_E f _ _ mm216.2.2.2.2.2.2.2.2 24 [some (.ref 67), some (.int x1), some (.int y2)] [.int (km_allMeasures (F 67 3)), .int y2, .ref 67] (hz F A L) _
      generalize hG211 : (km_allMeasures (F 67 3)) = G211 at hE ⊢
      refine w_n 4 (pc1 := 28) (ls1 := [some (.ref 67), some (.int x1), some (.int y2)]) (st1 := [.int (G211 &&& (x1 ^^^ (-1))), .int y2, .ref 67]) (hp1 := (hz F A L)) rfl ?_
      refine w_c rfl rfl (t_km_beatsAll ?_)
      show wl_E f _ _ mm216.2.2.2.2.2.2.2.2 31 [some (.ref 67), some (.int x1), some (.int y2)] [.int (km_beatsAll (F 67 3) (A 68) y2 (G211 &&& (x1 ^^^ (-1))))] (hz F A L) _
      generalize hG212 : (km_beatsAll (F 67 3) (A 68) y2 (G211 &&& (x1 ^^^ (-1)))) = G212 at hE ⊢
      refine w_zne (p3 := 34) rfl rfl (fun h => ?_) (fun h => ?_)
      · have h2 : ¬ G212 = 0 := h
        rw [if_neg h2] at hE
        refine w_n 2 (pc1 := 2) (ls1 := [some (.ref 67), some (.int x1), some (.int (y2 + 1))]) (st1 := []) (hp1 := (hz F A L)) rfl ?_
        subst T
        have hb2 := i_up (B := (F 67 3)) hb
        have hb3 : y2.toInt < (F 67 3).toInt := hb
        exact ih (show m = ((F 67 3).toInt - (y2 + 1).toInt).toNat by rw [hb2]; omega) (cvQ rfl rfl rfl K)
      · have h2 : G212 = 0 := h
        rw [if_pos h2] at hE
        refine w_n 1 (pc1 := 35) (ls1 := [some (.ref 67), some (.int x1), some (.int y2)]) (st1 := [.int 0]) (hp1 := (hz F A L)) rfl ?_
        subst T
        exact w_ri rfl (cvQ rfl rfl rfl K)
noncomputable def km_isSet (f67_3 : Int32) (a68 : List Int32) (x1 : Int32) : Int32 := (km_isSet_2 f67_3 a68 x1 f67_3.toInt.toNat 0)
theorem t_km_isSet {f D : Nat} {F : Nat → Nat → Int32} {A : Nat → List Int32} {L : Nat → List Int64} {Q : Option Value → sm_H → Prop} {x1 : Int32} (K : Q (some (.int (km_isSet (F 67 3) (A 68) x1))) (hz F A L)) : wl_M f D 216 [.ref 67, .int x1] (hz F A L) Q := by
  generalize hT : (km_isSet (F 67 3) (A 68) x1) = T at K
  have hE : T = (km_isSet_2 (F 67 3) (A 68) x1 (F 67 3).toInt.toNat 0) := hT.symm
  clear hT
  refine w_m (E := mm216) rfl ?_
  show wl_E f f (D - 1) mm216.2.2.2.2.2.2.2.2 0 [some (.ref 67), some (.int x1), none] [] (hz F A L) Q
  refine w_n 2 (pc1 := 2) (ls1 := [some (.ref 67), some (.int x1), some (.int 0)]) (st1 := []) (hp1 := (hz F A L)) rfl ?_
  subst T
  exact t_km_isSet_2 _ (show (F 67 3).toInt.toNat = ((F 67 3).toInt - (0 : Int32).toInt).toNat by have e0 : (0 : Int32).toInt = 0 := rfl; first | rfl | omega) (cvQ rfl rfl rfl K)
noncomputable def km_set_7 (f67_3 : Int32) (a68 : List Int32)  : Nat → Int32 → Int32 → Int32
  | 0, y1, _ => y1
  | m + 1, y1, y2 => (if (km_bits y2).toInt < (km_bits y1).toInt then (if (km_isSet f67_3 a68 y2) = 0 then (km_set_7 f67_3 a68 m y1 (y2 + 1)) else (km_set_7 f67_3 a68 m y2 (y2 + 1))) else (km_set_7 f67_3 a68 m y1 (y2 + 1)))
theorem t_km_set_7 {f : Nat} {Q : Option Value → sm_H → Prop} : ∀ (m : Nat) {B D : Nat} {F : Nat → Nat → Int32} {A : Nat → List Int32} {L : Nat → List Int64} {y1 : Int32} {y2 : Int32}, m = ((km_allMeasures (F 67 3)).toInt - y2.toInt).toNat → (∀ q2 : Int32, wl_E f B D mm214.2.2.2.2.2.2.2.2 42 [some (.ref 67), some (.int (km_set_7 (F 67 3) (A 68) m y1 y2)), some (.int q2)] [] (hz F A L) Q) → wl_E f B D mm214.2.2.2.2.2.2.2.2 7 [some (.ref 67), some (.int y1), some (.int y2)] [] (hz F A L) Q := by
  intro m
  induction m with
  | zero =>
    intro B D F A L y1 y2 hm K
    generalize hT : (km_set_7 (F 67 3) (A 68) 0 y1 y2) = T at K
    have hE : T = y1 := hT.symm
    clear hT
    refine w_n 2 (pc1 := 9) (ls1 := [some (.ref 67), some (.int y1), some (.int y2)]) (st1 := [.ref 67, .int y2]) (hp1 := (hz F A L)) rfl ?_
    refine w_c rfl rfl (t_km_allMeasures ?_)
    show wl_E f _ _ mm214.2.2.2.2.2.2.2.2 12 [some (.ref 67), some (.int y1), some (.int y2)] [.int (km_allMeasures (F 67 3)), .int y2] (hz F A L) _
    refine w_ge (p3 := 15) rfl rfl (fun hb => ?_) (fun h => False.elim (by have h : y2.toInt < (km_allMeasures (F 67 3)).toInt := h; omega))
    subst T
    exact cvE rfl rfl rfl (K _)
  | succ m ih =>
    intro B D F A L y1 y2 hm K
    generalize hT : (km_set_7 (F 67 3) (A 68) (m + 1) y1 y2) = T at K
    have hE : T = (if (km_bits y2).toInt < (km_bits y1).toInt then (if (km_isSet (F 67 3) (A 68) y2) = 0 then (km_set_7 (F 67 3) (A 68) m y1 (y2 + 1)) else (km_set_7 (F 67 3) (A 68) m y2 (y2 + 1))) else (km_set_7 (F 67 3) (A 68) m y1 (y2 + 1))) := hT.symm
    clear hT
    refine w_n 2 (pc1 := 9) (ls1 := [some (.ref 67), some (.int y1), some (.int y2)]) (st1 := [.ref 67, .int y2]) (hp1 := (hz F A L)) rfl ?_
    refine w_c rfl rfl (t_km_allMeasures ?_)
    show wl_E f _ _ mm214.2.2.2.2.2.2.2.2 12 [some (.ref 67), some (.int y1), some (.int y2)] [.int (km_allMeasures (F 67 3)), .int y2] (hz F A L) _
    refine w_ge (p3 := 15) rfl rfl (fun h => False.elim (by have h : (km_allMeasures (F 67 3)).toInt ≤ y2.toInt := h; omega)) (fun hb => ?_)
    refine w_n 1 (pc1 := 16) (ls1 := [some (.ref 67), some (.int y1), some (.int y2)]) (st1 := [.int y2]) (hp1 := (hz F A L)) rfl ?_
    refine w_c rfl rfl (t_km_bits ?_)
    show wl_E f _ _ mm214.2.2.2.2.2.2.2.2 19 [some (.ref 67), some (.int y1), some (.int y2)] [.int (km_bits y2)] (hz F A L) _
    generalize hG208 : (km_bits y2) = G208 at hE ⊢
    refine w_n 1 (pc1 := 20) (ls1 := [some (.ref 67), some (.int y1), some (.int y2)]) (st1 := [.int y1, .int G208]) (hp1 := (hz F A L)) rfl ?_
    refine w_c rfl rfl (t_km_bits ?_)
    show wl_E f _ _ mm214.2.2.2.2.2.2.2.2 23 [some (.ref 67), some (.int y1), some (.int y2)] [.int (km_bits y1), .int G208] (hz F A L) _
    generalize hG209 : (km_bits y1) = G209 at hE ⊢
    refine w_ge (p3 := 26) rfl rfl (fun h => ?_) (fun h => ?_)
    · have h1 : G209.toInt ≤ G208.toInt := h
      rw [if_neg (Int.not_lt.mpr h1)] at hE
      refine w_n 2 (pc1 := 7) (ls1 := [some (.ref 67), some (.int y1), some (.int (y2 + 1))]) (st1 := []) (hp1 := (hz F A L)) rfl ?_
      subst T
      have hb2 := i_up (B := (km_allMeasures (F 67 3))) hb
      have hb3 : y2.toInt < (km_allMeasures (F 67 3)).toInt := hb
      exact ih (show m = ((km_allMeasures (F 67 3)).toInt - (y2 + 1).toInt).toNat by rw [hb2]; omega) (fun q2 => cvE rfl rfl rfl (K q2))
    · have h1 : G208.toInt < G209.toInt := h
      rw [if_pos h1] at hE
      refine w_n 2 (pc1 := 28) (ls1 := [some (.ref 67), some (.int y1), some (.int y2)]) (st1 := [.int y2, .ref 67]) (hp1 := (hz F A L)) rfl ?_
      refine w_c rfl rfl (t_km_isSet ?_)
      show wl_E f _ _ mm214.2.2.2.2.2.2.2.2 31 [some (.ref 67), some (.int y1), some (.int y2)] [.int (km_isSet (F 67 3) (A 68) y2)] (hz F A L) _
      generalize hG213 : (km_isSet (F 67 3) (A 68) y2) = G213 at hE ⊢
      refine w_zeq (p3 := 34) rfl rfl (fun h => ?_) (fun h => ?_)
      · have h2 : G213 = 0 := h
        rw [if_pos h2] at hE
        refine w_n 2 (pc1 := 7) (ls1 := [some (.ref 67), some (.int y1), some (.int (y2 + 1))]) (st1 := []) (hp1 := (hz F A L)) rfl ?_
        subst T
        have hb2 := i_up (B := (km_allMeasures (F 67 3))) hb
        have hb3 : y2.toInt < (km_allMeasures (F 67 3)).toInt := hb
        exact ih (show m = ((km_allMeasures (F 67 3)).toInt - (y2 + 1).toInt).toNat by rw [hb2]; omega) (fun q2 => cvE rfl rfl rfl (K q2))
      · have h2 : ¬ G213 = 0 := h
        rw [if_neg h2] at hE
        refine w_n 4 (pc1 := 7) (ls1 := [some (.ref 67), some (.int y2), some (.int (y2 + 1))]) (st1 := []) (hp1 := (hz F A L)) rfl ?_
        subst T
        have hb2 := i_up (B := (km_allMeasures (F 67 3))) hb
        have hb3 : y2.toInt < (km_allMeasures (F 67 3)).toInt := hb
        exact ih (show m = ((km_allMeasures (F 67 3)).toInt - (y2 + 1).toInt).toNat by rw [hb2]; omega) (fun q2 => cvE rfl rfl rfl (K q2))
noncomputable def km_set (f67_3 : Int32) (a68 : List Int32) : Int32 := (km_set_7 f67_3 a68 ((km_allMeasures f67_3).toInt - 1).toNat (km_allMeasures f67_3) 1)
theorem t_km_set {f D : Nat} {F : Nat → Nat → Int32} {A : Nat → List Int32} {L : Nat → List Int64} {Q : Option Value → sm_H → Prop} (K : Q (some (.int (km_set (F 67 3) (A 68)))) (hz F A L)) : wl_M f D 214 [.ref 67] (hz F A L) Q := by
  generalize hT : (km_set (F 67 3) (A 68)) = T at K
  have hE : T = (km_set_7 (F 67 3) (A 68) ((km_allMeasures (F 67 3)).toInt - 1).toNat (km_allMeasures (F 67 3)) 1) := hT.symm
  clear hT
  refine w_m (E := mm214) rfl ?_
  show wl_E f f (D - 1) mm214.2.2.2.2.2.2.2.2 0 [some (.ref 67), none, none] [] (hz F A L) Q
  refine w_n 1 (pc1 := 1) (ls1 := [some (.ref 67), none, none]) (st1 := [.ref 67]) (hp1 := (hz F A L)) rfl ?_
  refine w_c rfl rfl (t_km_allMeasures ?_)
  show wl_E f _ _ mm214.2.2.2.2.2.2.2.2 4 [some (.ref 67), none, none] [.int (km_allMeasures (F 67 3))] (hz F A L) _
  generalize hG206 : (km_allMeasures (F 67 3)) = G206 at hE ⊢
  refine w_n 3 (pc1 := 7) (ls1 := [some (.ref 67), some (.int G206), some (.int 1)]) (st1 := []) (hp1 := (hz F A L)) rfl ?_
  refine t_km_set_7 ((G206.toInt - 1).toNat) (show (G206.toInt - 1).toNat = ((km_allMeasures (F 67 3)).toInt - (1 : Int32).toInt).toNat by rw [hG206]; have e0 : (1 : Int32).toInt = 1 := rfl; first | rfl | omega) ?_
  intro r1
  show wl_E f _ _ mm214.2.2.2.2.2.2.2.2 42 [some (.ref 67), some (.int (km_set_7 (F 67 3) (A 68) (G206.toInt - 1).toNat G206 1)), some (.int r1)] [] (hz F A L) _
  generalize hG214 : (km_set_7 (F 67 3) (A 68) (G206.toInt - 1).toNat G206 1) = G214 at hE ⊢
  refine w_n 1 (pc1 := 43) (ls1 := [some (.ref 67), some (.int G214), some (.int r1)]) (st1 := [.int G214]) (hp1 := (hz F A L)) rfl ?_
  subst T
  exact w_ri rfl (cvQ rfl rfl rfl K)
noncomputable def kja_fill_37_5  (x1 : Int32) : Nat → Int32 → List Int32 → List Int32
  | 0, _, a37 => a37
  | m + 1, y2, a37 => (kja_fill_37_5 x1 m (y2 + 1) (a37.set y2.toInt.toNat x1))
theorem t_kja_fill_37_5 {f : Nat} {Q : Option Value → sm_H → Prop} : ∀ (m : Nat) {B D : Nat} {F : Nat → Nat → Int32} {A : Nat → List Int32} {L : Nat → List Int64} {x1 : Int32} {y2 : Int32} {x3 : Int32}, m = (x3.toInt - y2.toInt).toNat → (∀ q2 : Int32, wl_E f B D mm3.2.2.2.2.2.2.2.2 20 [some (.ref 37), some (.int x1), some (.int q2), some (.int x3)] [] (hz F (uA A 37 (kja_fill_37_5 x1 m y2 (A 37))) L) Q) → wl_E f B D mm3.2.2.2.2.2.2.2.2 5 [some (.ref 37), some (.int x1), some (.int y2), some (.int x3)] [] (hz F A L) Q := by
  intro m
  induction m with
  | zero =>
    intro B D F A L x1 y2 x3 hm K
    generalize hT : (kja_fill_37_5 x1 0 y2 (A 37)) = T at K
    have hE : T = (A 37) := hT.symm
    clear hT
    refine w_n 2 (pc1 := 7) (ls1 := [some (.ref 37), some (.int x1), some (.int y2), some (.int x3)]) (st1 := [.int x3, .int y2]) (hp1 := (hz F A L)) rfl ?_
    refine w_ge (p3 := 10) rfl rfl (fun hb => ?_) (fun h => False.elim (by have h : y2.toInt < x3.toInt := h; omega))
    subst T
    exact cvE rfl (funext fun q => if k0 : q = 37 then by subst k0; exact Eq.trans (b := (A 37)) rfl rfl else by unfold uA; simp only [nb1 k0, cond_false]) rfl (K _)
  | succ m ih =>
    intro B D F A L x1 y2 x3 hm K
    generalize hT : (kja_fill_37_5 x1 (m + 1) y2 (A 37)) = T at K
    have hE : T = (kja_fill_37_5 x1 m (y2 + 1) ((A 37).set y2.toInt.toNat x1)) := hT.symm
    clear hT
    refine w_n 2 (pc1 := 7) (ls1 := [some (.ref 37), some (.int x1), some (.int y2), some (.int x3)]) (st1 := [.int x3, .int y2]) (hp1 := (hz F A L)) rfl ?_
    refine w_ge (p3 := 10) rfl rfl (fun h => False.elim (by have h : x3.toInt ≤ y2.toInt := h; omega)) (fun hb => ?_)
    refine w_n 3 (pc1 := 13) (ls1 := [some (.ref 37), some (.int x1), some (.int y2), some (.int x3)]) (st1 := [.int x1, .int y2, .ref 37]) (hp1 := (hz F A L)) rfl ?_
    refine w_as (k := 37) (l := (A 37)) (hp1 := (hz F (uA A 37 ((A 37).set y2.toInt.toNat x1)) L)) rfl rfl rfl (hz_s37 _) (fun ab => ?_)
    refine w_n 2 (pc1 := 5) (ls1 := [some (.ref 37), some (.int x1), some (.int (y2 + 1)), some (.int x3)]) (st1 := []) (hp1 := (hz F (uA A 37 ((A 37).set y2.toInt.toNat x1)) L)) rfl ?_
    subst T
    have hb2 := i_up (B := x3) hb
    have hb3 : y2.toInt < x3.toInt := hb
    exact ih (show m = (x3.toInt - (y2 + 1).toInt).toNat by rw [hb2]; omega) (fun q2 => cvE rfl (funext fun q => if k0 : q = 37 then by subst k0; exact Eq.trans (b := (kja_fill_37_5 x1 m (y2 + 1) ((A 37).set y2.toInt.toNat x1))) rfl rfl else by unfold uA; simp only [nb1 k0, cond_false]) rfl (K q2))
