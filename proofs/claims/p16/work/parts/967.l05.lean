/-! lifts, printed by genlift.py: 5 -/
noncomputable def kv_goesOut (f3_0 : Int32) (a35 : List Int32) (x1 : Int32) (x2 : Int32) (x3 : Int32) : Int32 := (kv_goesOut_11 a35 x1 x2 x3 f3_0.toInt.toNat 240 0 0)
theorem t_kv_goesOut {f D : Nat} {F : Nat → Nat → Int32} {A : Nat → List Int32} {L : Nat → List Int64} {Q : Option Value → sm_H → Prop} {x1 : Int32} {x2 : Int32} {x3 : Int32} (K : Q (some (.int (kv_goesOut (F 3 0) (A 35) x1 x2 x3))) (hz F A L)) : wl_M f D 84 [.ref 30, .int x1, .int x2, .int x3] (hz F A L) Q := by
  generalize hT : (kv_goesOut (F 3 0) (A 35) x1 x2 x3) = T at K
  have hE : T = (kv_goesOut_11 (A 35) x1 x2 x3 (F 3 0).toInt.toNat 240 0 0) := hT.symm
  clear hT
  refine w_m (E := mm84) rfl ?_
  show wl_E f f (D - 1) mm84.2.2.2.2.2.2.2.2 0 [some (.ref 30), some (.int x1), some (.int x2), some (.int x3), none, none, none, none] [] (hz F A L) Q
  refine w_n 6 (pc1 := 11) (ls1 := [some (.ref 30), some (.int x1), some (.int x2), some (.int x3), some (.int 240), some (.int 0), some (.int 0), none]) (st1 := []) (hp1 := (hz F A L)) rfl ?_
  refine t_kv_goesOut_11 (F 3 0).toInt.toNat (show (F 3 0).toInt.toNat = ((F 3 0).toInt - (0 : Int32).toInt).toNat by have e0 : (0 : Int32).toInt = 0 := rfl; first | rfl | omega) ?_
  intro r1 r2 r3
  show wl_E f _ _ mm84.2.2.2.2.2.2.2.2 79 [some (.ref 30), some (.int x1), some (.int x2), some (.int x3), some (.int r1), some (.int (kv_goesOut_11 (A 35) x1 x2 x3 (F 3 0).toInt.toNat 240 0 0)), some (.int r2), r3] [] (hz F A L) _
  generalize hG139 : (kv_goesOut_11 (A 35) x1 x2 x3 (F 3 0).toInt.toNat 240 0 0) = G139 at hE ⊢
  refine w_n 1 (pc1 := 81) (ls1 := [some (.ref 30), some (.int x1), some (.int x2), some (.int x3), some (.int r1), some (.int G139), some (.int r2), r3]) (st1 := [.int G139]) (hp1 := (hz F A L)) rfl ?_
  subst T
  exact w_ri rfl (cvQ rfl rfl rfl K)
noncomputable def kv_countRunOff_10 (f3_0 : Int32) (f3_1 : Int32) (a6 : List Int32) (l11 : List Int64)  : Nat → Int32 → Int32 → List Int32 → List Int32 → List Int32 × List Int32
  | 0, _, _, a35, a36 => (a35, a36)
  | m + 1, y1, y2, a35, a36 => (kv_countRunOff_10 f3_0 f3_1 a6 l11 m (y1 &&& (((1 : Int32) <<< (((a36.set y2.toInt.toNat (kv_goesOut f3_0 (kv_tallyFirsts f3_0 f3_1 a6 a35 l11 y1 (-1)) y1 (-1) 0)).getD y2.toInt.toNat 0) &&& 31)) ^^^ (-1))) (y2 + 1) (kv_tallyFirsts f3_0 f3_1 a6 a35 l11 y1 (-1)) (a36.set y2.toInt.toNat (kv_goesOut f3_0 (kv_tallyFirsts f3_0 f3_1 a6 a35 l11 y1 (-1)) y1 (-1) 0)))
theorem t_kv_countRunOff_10 {f : Nat} {Q : Option Value → sm_H → Prop} : ∀ (m : Nat) {B D : Nat} {F : Nat → Nat → Int32} {A : Nat → List Int32} {L : Nat → List Int64} {y1 : Int32} {y2 : Int32}, m = ((F 3 0).toInt - y2.toInt).toNat → (∀ q1 : Int32, ∀ q2 : Int32, wl_E f B D mm83.2.2.2.2.2.2.2.2 59 [some (.ref 30), some (.int q1), some (.int q2)] [] (hz F (uA (uA A 35 ((kv_countRunOff_10 (F 3 0) (F 3 1) (A 6) (L 11) m y1 y2 (A 35) (A 36)).1)) 36 ((kv_countRunOff_10 (F 3 0) (F 3 1) (A 6) (L 11) m y1 y2 (A 35) (A 36)).2)) L) Q) → wl_E f B D mm83.2.2.2.2.2.2.2.2 10 [some (.ref 30), some (.int y1), some (.int y2)] [] (hz F A L) Q := by
  intro m
  induction m with
  | zero =>
    intro B D F A L y1 y2 hm K
    generalize hT : (kv_countRunOff_10 (F 3 0) (F 3 1) (A 6) (L 11) 0 y1 y2 (A 35) (A 36)) = T at K
    have hE : T = ((A 35), (A 36)) := hT.symm
    clear hT
    refine w_n 4 (pc1 := 18) (ls1 := [some (.ref 30), some (.int y1), some (.int y2)]) (st1 := [.int (F 3 0), .int y2]) (hp1 := (hz F A L)) rfl ?_
    refine w_ge (p3 := 21) rfl rfl (fun hb => ?_) (fun h => False.elim (by have h : y2.toInt < (F 3 0).toInt := h; omega))
    subst T
    exact cvE rfl (funext fun q => if k0 : q = 35 then by subst k0; exact Eq.trans (b := (A 35)) rfl rfl else if k1 : q = 36 then by subst k1; exact Eq.trans (b := (A 36)) rfl rfl else by unfold uA; simp only [nb1 k0, nb1 k1, cond_false]) rfl (K _ _)
  | succ m ih =>
    intro B D F A L y1 y2 hm K
    generalize hT : (kv_countRunOff_10 (F 3 0) (F 3 1) (A 6) (L 11) (m + 1) y1 y2 (A 35) (A 36)) = T at K
    have hE : T = (kv_countRunOff_10 (F 3 0) (F 3 1) (A 6) (L 11) m (y1 &&& (((1 : Int32) <<< ((((A 36).set y2.toInt.toNat (kv_goesOut (F 3 0) (kv_tallyFirsts (F 3 0) (F 3 1) (A 6) (A 35) (L 11) y1 (-1)) y1 (-1) 0)).getD y2.toInt.toNat 0) &&& 31)) ^^^ (-1))) (y2 + 1) (kv_tallyFirsts (F 3 0) (F 3 1) (A 6) (A 35) (L 11) y1 (-1)) ((A 36).set y2.toInt.toNat (kv_goesOut (F 3 0) (kv_tallyFirsts (F 3 0) (F 3 1) (A 6) (A 35) (L 11) y1 (-1)) y1 (-1) 0))) := hT.symm
    clear hT
    refine w_n 4 (pc1 := 18) (ls1 := [some (.ref 30), some (.int y1), some (.int y2)]) (st1 := [.int (F 3 0), .int y2]) (hp1 := (hz F A L)) rfl ?_
    refine w_ge (p3 := 21) rfl rfl (fun h => False.elim (by have h : (F 3 0).toInt ≤ y2.toInt := h; omega)) (fun hb => ?_)
    refine w_n 3 (pc1 := 24) (ls1 := [some (.ref 30), some (.int y1), some (.int y2)]) (st1 := [.int (-1), .int y1, .ref 30]) (hp1 := (hz F A L)) rfl ?_
    refine w_c rfl rfl (t_kv_tallyFirsts ?_)
    show wl_E f _ _ mm83.2.2.2.2.2.2.2.2 27 [some (.ref 30), some (.int y1), some (.int y2)] [] (hz F (uA A 35 (kv_tallyFirsts (F 3 0) (F 3 1) (A 6) (A 35) (L 11) y1 (-1))) L) _
    generalize hG138 : (kv_tallyFirsts (F 3 0) (F 3 1) (A 6) (A 35) (L 11) y1 (-1)) = G138 at hE ⊢
    refine w_n 7 (pc1 := 36) (ls1 := [some (.ref 30), some (.int y1), some (.int y2)]) (st1 := [.int 0, .int (-1), .int y1, .ref 30, .int y2, .ref 36]) (hp1 := (hz F (uA A 35 G138) L)) rfl ?_
    refine w_c rfl rfl (t_kv_goesOut ?_)
    show wl_E f _ _ mm83.2.2.2.2.2.2.2.2 39 [some (.ref 30), some (.int y1), some (.int y2)] [.int (kv_goesOut (F 3 0) G138 y1 (-1) 0), .int y2, .ref 36] (hz F (uA A 35 G138) L) _
    generalize hG140 : (kv_goesOut (F 3 0) G138 y1 (-1) 0) = G140 at hE ⊢
    refine w_as (k := 36) (l := (A 36)) (hp1 := (hz F (uA (uA A 35 G138) 36 ((A 36).set y2.toInt.toNat G140)) L)) rfl rfl rfl (hz_s36 _) (fun ab => ?_)
    refine w_n 5 (pc1 := 47) (ls1 := [some (.ref 30), some (.int y1), some (.int y2)]) (st1 := [.int y2, .ref 36, .int 1, .int y1]) (hp1 := (hz F (uA (uA A 35 G138) 36 ((A 36).set y2.toInt.toNat G140)) L)) rfl ?_
    refine w_al (k := 36) (l := ((A 36).set y2.toInt.toNat G140)) rfl rfl rfl (fun ab => ?_)
    refine w_n 7 (pc1 := 10) (ls1 := [some (.ref 30), some (.int (y1 &&& (((1 : Int32) <<< ((((A 36).set y2.toInt.toNat G140).getD y2.toInt.toNat 0) &&& 31)) ^^^ (-1)))), some (.int (y2 + 1))]) (st1 := []) (hp1 := (hz F (uA (uA A 35 G138) 36 ((A 36).set y2.toInt.toNat G140)) L)) rfl ?_
    subst T
    have hb2 := i_up (B := (F 3 0)) hb
    have hb3 : y2.toInt < (F 3 0).toInt := hb
    exact ih (show m = ((F 3 0).toInt - (y2 + 1).toInt).toNat by rw [hb2]; omega) (fun q1 q2 => cvE rfl (funext fun q => if k0 : q = 35 then by subst k0; exact Eq.trans (b := (kv_countRunOff_10 (F 3 0) (F 3 1) (A 6) (L 11) m (y1 &&& (((1 : Int32) <<< ((((A 36).set y2.toInt.toNat G140).getD y2.toInt.toNat 0) &&& 31)) ^^^ (-1))) (y2 + 1) G138 ((A 36).set y2.toInt.toNat G140)).1) rfl rfl else if k1 : q = 36 then by subst k1; exact Eq.trans (b := (kv_countRunOff_10 (F 3 0) (F 3 1) (A 6) (L 11) m (y1 &&& (((1 : Int32) <<< ((((A 36).set y2.toInt.toNat G140).getD y2.toInt.toNat 0) &&& 31)) ^^^ (-1))) (y2 + 1) G138 ((A 36).set y2.toInt.toNat G140)).2) rfl rfl else by unfold uA; simp only [nb1 k0, nb1 k1, cond_false]) rfl (K q1 q2))
noncomputable def kv_countRunOff (f3_0 : Int32) (f3_1 : Int32) (a6 : List Int32) (a35 : List Int32) (a36 : List Int32) (l11 : List Int64) : List Int32 × List Int32 := ((kv_countRunOff_10 f3_0 f3_1 a6 l11 f3_0.toInt.toNat (kt_allMeasures f3_0) 0 a35 a36).1, (kv_countRunOff_10 f3_0 f3_1 a6 l11 f3_0.toInt.toNat (kt_allMeasures f3_0) 0 a35 a36).2)
theorem t_kv_countRunOff {f D : Nat} {F : Nat → Nat → Int32} {A : Nat → List Int32} {L : Nat → List Int64} {Q : Option Value → sm_H → Prop} (K : Q none (hz F (uA (uA A 35 ((kv_countRunOff (F 3 0) (F 3 1) (A 6) (A 35) (A 36) (L 11)).1)) 36 ((kv_countRunOff (F 3 0) (F 3 1) (A 6) (A 35) (A 36) (L 11)).2)) L)) : wl_M f D 83 [.ref 30] (hz F A L) Q := by
  generalize hT : (kv_countRunOff (F 3 0) (F 3 1) (A 6) (A 35) (A 36) (L 11)) = T at K
  have hE : T = ((kv_countRunOff_10 (F 3 0) (F 3 1) (A 6) (L 11) (F 3 0).toInt.toNat (kt_allMeasures (F 3 0)) 0 (A 35) (A 36)).1, (kv_countRunOff_10 (F 3 0) (F 3 1) (A 6) (L 11) (F 3 0).toInt.toNat (kt_allMeasures (F 3 0)) 0 (A 35) (A 36)).2) := hT.symm
  clear hT
  refine w_m (E := mm83) rfl ?_
  show wl_E f f (D - 1) mm83.2.2.2.2.2.2.2.2 0 [some (.ref 30), none, none] [] (hz F A L) Q
  refine w_n 2 (pc1 := 4) (ls1 := [some (.ref 30), none, none]) (st1 := [.ref 3]) (hp1 := (hz F A L)) rfl ?_
  refine w_c rfl rfl (t_kt_allMeasures ?_)
  show wl_E f _ _ mm83.2.2.2.2.2.2.2.2 7 [some (.ref 30), none, none] [.int (kt_allMeasures (F 3 0))] (hz F A L) _
  generalize hG137 : (kt_allMeasures (F 3 0)) = G137 at hE ⊢
  refine w_n 3 (pc1 := 10) (ls1 := [some (.ref 30), some (.int G137), some (.int 0)]) (st1 := []) (hp1 := (hz F A L)) rfl ?_
  refine t_kv_countRunOff_10 (F 3 0).toInt.toNat (show (F 3 0).toInt.toNat = ((F 3 0).toInt - (0 : Int32).toInt).toNat by have e0 : (0 : Int32).toInt = 0 := rfl; first | rfl | omega) ?_
  intro r1 r2
  show wl_E f _ _ mm83.2.2.2.2.2.2.2.2 59 [some (.ref 30), some (.int r1), some (.int r2)] [] (hz F (uA (uA A 35 (kv_countRunOff_10 (F 3 0) (F 3 1) (A 6) (L 11) (F 3 0).toInt.toNat G137 0 (A 35) (A 36)).1) 36 (kv_countRunOff_10 (F 3 0) (F 3 1) (A 6) (L 11) (F 3 0).toInt.toNat G137 0 (A 35) (A 36)).2) L) _
  generalize hG141 : (kv_countRunOff_10 (F 3 0) (F 3 1) (A 6) (L 11) (F 3 0).toInt.toNat G137 0 (A 35) (A 36)) = G141 at hE ⊢
  subst T
  exact w_r rfl rfl (cvQ rfl rfl rfl K)
noncomputable def kc_runOff (f3_0 : Int32) (f3_1 : Int32) (a6 : List Int32) (a35 : List Int32) (a36 : List Int32) (l11 : List Int64) (x1 : Int32) : Int32 × List Int32 × List Int32 := (if x1 = 10 then (((kv_countRunOff f3_0 f3_1 a6 a35 a36 l11).2.getD (f3_0 - 1).toInt.toNat 0), (kv_countRunOff f3_0 f3_1 a6 a35 a36 l11).1, (kv_countRunOff f3_0 f3_1 a6 a35 a36 l11).2) else (if (kc_within x1 0 ((f3_0 - 1) - 1)) = 0 then ((-1), a35, a36) else (((kv_countRunOff f3_0 f3_1 a6 a35 a36 l11).2.getD x1.toInt.toNat 0), (kv_countRunOff f3_0 f3_1 a6 a35 a36 l11).1, (kv_countRunOff f3_0 f3_1 a6 a35 a36 l11).2)))
theorem t_kc_runOff {f D : Nat} {F : Nat → Nat → Int32} {A : Nat → List Int32} {L : Nat → List Int64} {Q : Option Value → sm_H → Prop} {x1 : Int32} (K : Q (some (.int ((kc_runOff (F 3 0) (F 3 1) (A 6) (A 35) (A 36) (L 11) x1).1))) (hz F (uA (uA A 35 ((kc_runOff (F 3 0) (F 3 1) (A 6) (A 35) (A 36) (L 11) x1).2.1)) 36 ((kc_runOff (F 3 0) (F 3 1) (A 6) (A 35) (A 36) (L 11) x1).2.2)) L)) : wl_M f D 82 [.ref 0, .int x1] (hz F A L) Q := by
  generalize hT : (kc_runOff (F 3 0) (F 3 1) (A 6) (A 35) (A 36) (L 11) x1) = T at K
  have hE : T = (if x1 = 10 then (((kv_countRunOff (F 3 0) (F 3 1) (A 6) (A 35) (A 36) (L 11)).2.getD ((F 3 0) - 1).toInt.toNat 0), (kv_countRunOff (F 3 0) (F 3 1) (A 6) (A 35) (A 36) (L 11)).1, (kv_countRunOff (F 3 0) (F 3 1) (A 6) (A 35) (A 36) (L 11)).2) else (if (kc_within x1 0 (((F 3 0) - 1) - 1)) = 0 then ((-1), (A 35), (A 36)) else (((kv_countRunOff (F 3 0) (F 3 1) (A 6) (A 35) (A 36) (L 11)).2.getD x1.toInt.toNat 0), (kv_countRunOff (F 3 0) (F 3 1) (A 6) (A 35) (A 36) (L 11)).1, (kv_countRunOff (F 3 0) (F 3 1) (A 6) (A 35) (A 36) (L 11)).2))) := hT.symm
  clear hT
  refine w_m (E := mm82) rfl ?_
  show wl_E f f (D - 1) mm82.2.2.2.2.2.2.2.2 0 [some (.ref 0), some (.int x1), none] [] (hz F A L) Q
  refine w_n 8 (pc1 := 13) (ls1 := [some (.ref 0), some (.int x1), some (.int ((F 3 0) - 1))]) (st1 := [.int 10, .int x1]) (hp1 := (hz F A L)) rfl ?_
  refine w_eq (p3 := 16) rfl rfl (fun h => ?_) (fun h => ?_)
  · have h1 : x1 = 10 := h
    rw [if_pos h1] at hE
    refine w_n 2 (pc1 := 33) (ls1 := [some (.ref 0), some (.int x1), some (.int ((F 3 0) - 1))]) (st1 := [.ref 30]) (hp1 := (hz F A L)) rfl ?_
    refine w_c rfl rfl (t_kv_countRunOff ?_)
    show wl_E f _ _ mm82.2.2.2.2.2.2.2.2 36 [some (.ref 0), some (.int x1), some (.int ((F 3 0) - 1))] [] (hz F (uA (uA A 35 (kv_countRunOff (F 3 0) (F 3 1) (A 6) (A 35) (A 36) (L 11)).1) 36 (kv_countRunOff (F 3 0) (F 3 1) (A 6) (A 35) (A 36) (L 11)).2) L) _
    generalize hG142 : (kv_countRunOff (F 3 0) (F 3 1) (A 6) (A 35) (A 36) (L 11)) = G142 at hE ⊢
    refine w_n 5 (pc1 := 46) (ls1 := [some (.ref 0), some (.int x1), some (.int ((F 3 0) - 1))]) (st1 := [.int 10, .int x1, .ref 36]) (hp1 := (hz F (uA (uA A 35 G142.1) 36 G142.2) L)) rfl ?_
    refine w_ne (p3 := 49) rfl rfl (fun h => absurd h1 h) (fun _ => ?_)
    refine w_n 2 (pc1 := 54) (ls1 := [some (.ref 0), some (.int x1), some (.int ((F 3 0) - 1))]) (st1 := [.int ((F 3 0) - 1), .ref 36]) (hp1 := (hz F (uA (uA A 35 G142.1) 36 G142.2) L)) rfl ?_
    refine w_al (k := 36) (l := G142.2) rfl rfl rfl (fun _ => ?_)
    subst T
    exact w_ri rfl (cvQ rfl rfl rfl K)
  · have h1 : ¬ x1 = 10 := h
    rw [if_neg h1] at hE
    refine w_n 5 (pc1 := 21) (ls1 := [some (.ref 0), some (.int x1), some (.int ((F 3 0) - 1))]) (st1 := [.int (((F 3 0) - 1) - 1), .int 0, .int x1]) (hp1 := (hz F A L)) rfl ?_
    refine w_c rfl rfl (t_kc_within ?_)
    show wl_E f _ _ mm82.2.2.2.2.2.2.2.2 24 [some (.ref 0), some (.int x1), some (.int ((F 3 0) - 1))] [.int (kc_within x1 0 (((F 3 0) - 1) - 1))] (hz F A L) _
    generalize hG143 : (kc_within x1 0 (((F 3 0) - 1) - 1)) = G143 at hE ⊢
    refine w_zne (p3 := 27) rfl rfl (fun h => ?_) (fun h => ?_)
    · have h2 : ¬ G143 = 0 := h
      rw [if_neg h2] at hE
      refine w_n 2 (pc1 := 33) (ls1 := [some (.ref 0), some (.int x1), some (.int ((F 3 0) - 1))]) (st1 := [.ref 30]) (hp1 := (hz F A L)) rfl ?_
      refine w_c rfl rfl (t_kv_countRunOff ?_)
      show wl_E f _ _ mm82.2.2.2.2.2.2.2.2 36 [some (.ref 0), some (.int x1), some (.int ((F 3 0) - 1))] [] (hz F (uA (uA A 35 (kv_countRunOff (F 3 0) (F 3 1) (A 6) (A 35) (A 36) (L 11)).1) 36 (kv_countRunOff (F 3 0) (F 3 1) (A 6) (A 35) (A 36) (L 11)).2) L) _
      generalize hG144 : (kv_countRunOff (F 3 0) (F 3 1) (A 6) (A 35) (A 36) (L 11)) = G144 at hE ⊢
      refine w_n 5 (pc1 := 46) (ls1 := [some (.ref 0), some (.int x1), some (.int ((F 3 0) - 1))]) (st1 := [.int 10, .int x1, .ref 36]) (hp1 := (hz F (uA (uA A 35 G144.1) 36 G144.2) L)) rfl ?_
      refine w_ne (p3 := 49) rfl rfl (fun _ => ?_) (fun h => absurd h h1)
      refine w_n 1 (pc1 := 54) (ls1 := [some (.ref 0), some (.int x1), some (.int ((F 3 0) - 1))]) (st1 := [.int x1, .ref 36]) (hp1 := (hz F (uA (uA A 35 G144.1) 36 G144.2) L)) rfl ?_
      refine w_al (k := 36) (l := G144.2) rfl rfl rfl (fun _ => ?_)
      subst T
      exact w_ri rfl (cvQ rfl rfl rfl K)
    · have h2 : G143 = 0 := h
      rw [if_pos h2] at hE
      refine w_n 1 (pc1 := 28) (ls1 := [some (.ref 0), some (.int x1), some (.int ((F 3 0) - 1))]) (st1 := [.int (-1)]) (hp1 := (hz F A L)) rfl ?_
      subst T
      exact w_ri rfl (cvQ rfl (funext fun q => if k0 : q = 35 then by subst k0; exact Eq.trans (b := (A 35)) rfl rfl else if k1 : q = 36 then by subst k1; exact Eq.trans (b := (A 36)) rfl rfl else by unfold uA; simp only [nb1 k0, nb1 k1, cond_false]) rfl K)
noncomputable def km_runsOff_28 (a87 : List Int32) (x1 : Int32) : Nat → Int32 → Int32 → Int32
  | 0, y3, _ => y3
  | m + 1, y3, y4 => (if (km_has x1 y4) = 0 then (km_runsOff_28 a87 x1 m y3 (y4 + 1)) else (if y3 = (-1) then (km_runsOff_28 a87 x1 m y4 (y4 + 1)) else (if (a87.getD y3.toInt.toNat 0).toInt < (a87.getD y4.toInt.toNat 0).toInt then (km_runsOff_28 a87 x1 m y3 (y4 + 1)) else (km_runsOff_28 a87 x1 m y4 (y4 + 1)))))
theorem t_km_runsOff_28 {f : Nat} {Q : Option Value → sm_H → Prop} : ∀ (m : Nat) {B D : Nat} {F : Nat → Nat → Int32} {A : Nat → List Int32} {L : Nat → List Int64} {x1 : Int32} {x2 : Int32} {y3 : Int32} {y4 : Int32}, m = ((F 67 3).toInt - y4.toInt).toNat → (∀ q4 : Int32, wl_E f B D mm210.2.2.2.2.2.2.2.2 76 [some (.ref 67), some (.int x1), some (.int x2), some (.int (km_runsOff_28 (A 87) x1 m y3 y4)), some (.int q4)] [] (hz F A L) Q) → wl_E f B D mm210.2.2.2.2.2.2.2.2 28 [some (.ref 67), some (.int x1), some (.int x2), some (.int y3), some (.int y4)] [] (hz F A L) Q := by
  intro m
  induction m with
  | zero =>
    intro B D F A L x1 x2 y3 y4 hm K
    generalize hT : (km_runsOff_28 (A 87) x1 0 y3 y4) = T at K
    have hE : T = y3 := hT.symm
    clear hT
    refine w_n 3 (pc1 := 34) (ls1 := [some (.ref 67), some (.int x1), some (.int x2), some (.int y3), some (.int y4)]) (st1 := [.int (F 67 3), .int y4]) (hp1 := (hz F A L)) rfl ?_
    refine w_ge (p3 := 37) rfl rfl (fun hb => ?_) (fun h => False.elim (by have h : y4.toInt < (F 67 3).toInt := h; omega))
    subst T
    exact cvE rfl rfl rfl (K _)
  | succ m ih =>
    intro B D F A L x1 x2 y3 y4 hm K
    generalize hT : (km_runsOff_28 (A 87) x1 (m + 1) y3 y4) = T at K
    have hE : T = (if (km_has x1 y4) = 0 then (km_runsOff_28 (A 87) x1 m y3 (y4 + 1)) else (if y3 = (-1) then (km_runsOff_28 (A 87) x1 m y4 (y4 + 1)) else (if ((A 87).getD y3.toInt.toNat 0).toInt < ((A 87).getD y4.toInt.toNat 0).toInt then (km_runsOff_28 (A 87) x1 m y3 (y4 + 1)) else (km_runsOff_28 (A 87) x1 m y4 (y4 + 1))))) := hT.symm
    clear hT
    refine w_n 3 (pc1 := 34) (ls1 := [some (.ref 67), some (.int x1), some (.int x2), some (.int y3), some (.int y4)]) (st1 := [.int (F 67 3), .int y4]) (hp1 := (hz F A L)) rfl ?_
    refine w_ge (p3 := 37) rfl rfl (fun h => False.elim (by have h : (F 67 3).toInt ≤ y4.toInt := h; omega)) (fun hb => ?_)
    refine w_n 2 (pc1 := 40) (ls1 := [some (.ref 67), some (.int x1), some (.int x2), some (.int y3), some (.int y4)]) (st1 := [.int y4, .int x1]) (hp1 := (hz F A L)) rfl ?_
    refine w_c rfl rfl (t_km_has ?_)
    show wl_E f _ _ mm210.2.2.2.2.2.2.2.2 43 [some (.ref 67), some (.int x1), some (.int x2), some (.int y3), some (.int y4)] [.int (km_has x1 y4)] (hz F A L) _
    generalize hG147 : (km_has x1 y4) = G147 at hE ⊢
    refine w_zeq (p3 := 46) rfl rfl (fun h => ?_) (fun h => ?_)
    · have h1 : G147 = 0 := h
      rw [if_pos h1] at hE
      refine w_n 2 (pc1 := 28) (ls1 := [some (.ref 67), some (.int x1), some (.int x2), some (.int y3), some (.int (y4 + 1))]) (st1 := []) (hp1 := (hz F A L)) rfl ?_
      subst T
      have hb2 := i_up (B := (F 67 3)) hb
      have hb3 : y4.toInt < (F 67 3).toInt := hb
      exact ih (show m = ((F 67 3).toInt - (y4 + 1).toInt).toNat by rw [hb2]; omega) (fun q4 => cvE rfl rfl rfl (K q4))
    · have h1 : ¬ G147 = 0 := h
      rw [if_neg h1] at hE
      refine w_n 2 (pc1 := 48) (ls1 := [some (.ref 67), some (.int x1), some (.int x2), some (.int y3), some (.int y4)]) (st1 := [.int (-1), .int y3]) (hp1 := (hz F A L)) rfl ?_
      refine w_eq (p3 := 51) rfl rfl (fun h => ?_) (fun h => ?_)
      · have h2 : y3 = (-1) := h
        rw [if_pos h2] at hE
        refine w_n 4 (pc1 := 28) (ls1 := [some (.ref 67), some (.int x1), some (.int x2), some (.int y4), some (.int (y4 + 1))]) (st1 := []) (hp1 := (hz F A L)) rfl ?_
        subst T
        have hb2 := i_up (B := (F 67 3)) hb
        have hb3 : y4.toInt < (F 67 3).toInt := hb
        exact ih (show m = ((F 67 3).toInt - (y4 + 1).toInt).toNat by rw [hb2]; omega) (fun q4 => cvE rfl rfl rfl (K q4))
      · have h2 : ¬ y3 = (-1) := h
        rw [if_neg h2] at hE
        refine w_n 3 (pc1 := 57) (ls1 := [some (.ref 67), some (.int x1), some (.int x2), some (.int y3), some (.int y4)]) (st1 := [.int y4, .ref 87]) (hp1 := (hz F A L)) rfl ?_
        refine w_al (k := 87) (l := (A 87)) rfl rfl rfl (fun ab => ?_)
        refine w_n 3 (pc1 := 63) (ls1 := [some (.ref 67), some (.int x1), some (.int x2), some (.int y3), some (.int y4)]) (st1 := [.int y3, .ref 87, .int ((A 87).getD y4.toInt.toNat 0)]) (hp1 := (hz F A L)) rfl ?_
        refine w_al (k := 87) (l := (A 87)) rfl rfl rfl (fun _ => ?_)
        refine w_gt (p3 := 67) rfl rfl (fun h => ?_) (fun h => ?_)
        · have h3 : ((A 87).getD y3.toInt.toNat 0).toInt < ((A 87).getD y4.toInt.toNat 0).toInt := h
          rw [if_pos h3] at hE
          refine w_n 2 (pc1 := 28) (ls1 := [some (.ref 67), some (.int x1), some (.int x2), some (.int y3), some (.int (y4 + 1))]) (st1 := []) (hp1 := (hz F A L)) rfl ?_
          subst T
          have hb2 := i_up (B := (F 67 3)) hb
          have hb3 : y4.toInt < (F 67 3).toInt := hb
          exact ih (show m = ((F 67 3).toInt - (y4 + 1).toInt).toNat by rw [hb2]; omega) (fun q4 => cvE rfl rfl rfl (K q4))
        · have h3 : ((A 87).getD y4.toInt.toNat 0).toInt ≤ ((A 87).getD y3.toInt.toNat 0).toInt := h
          rw [if_neg (Int.not_lt.mpr h3)] at hE
          refine w_n 4 (pc1 := 28) (ls1 := [some (.ref 67), some (.int x1), some (.int x2), some (.int y4), some (.int (y4 + 1))]) (st1 := []) (hp1 := (hz F A L)) rfl ?_
          subst T
          have hb2 := i_up (B := (F 67 3)) hb
          have hb3 : y4.toInt < (F 67 3).toInt := hb
          exact ih (show m = ((F 67 3).toInt - (y4 + 1).toInt).toNat by rw [hb2]; omega) (fun q4 => cvE rfl rfl rfl (K q4))
noncomputable def km_runsOff_7 (f67_3 : Int32) (a68 : List Int32)  : Nat → Int32 → Int32 → List Int32 → List Int32 → Int32 × List Int32 × List Int32
  | 0, y1, _, a87, a89 => (y1, a87, a89)
  | m + 1, y1, y2, a87, a89 => (km_runsOff_7 f67_3 a68 m (y1 &&& (((1 : Int32) <<< ((km_runsOff_28 (km_laysFirsts f67_3 a68 a87 y1 0) y1 f67_3.toInt.toNat (-1) 0) &&& 31)) ^^^ (-1))) (y2 + 1) (km_laysFirsts f67_3 a68 a87 y1 0) (a89.set y2.toInt.toNat (km_runsOff_28 (km_laysFirsts f67_3 a68 a87 y1 0) y1 f67_3.toInt.toNat (-1) 0)))
theorem t_km_runsOff_7 {f : Nat} {Q : Option Value → sm_H → Prop} : ∀ (m : Nat) {B D : Nat} {F : Nat → Nat → Int32} {A : Nat → List Int32} {L : Nat → List Int64} {y1 : Int32} {y2 : Int32} {o3 : Option Value} {o4 : Option Value}, m = (((F 67 3) - 1).toInt - y2.toInt).toNat → (∀ q2 : Int32, ∀ q3 : Option Value, ∀ q4 : Option Value, wl_E f B D mm210.2.2.2.2.2.2.2.2 97 [some (.ref 67), some (.int ((km_runsOff_7 (F 67 3) (A 68) m y1 y2 (A 87) (A 89)).1)), some (.int q2), q3, q4] [] (hz F (uA (uA A 87 ((km_runsOff_7 (F 67 3) (A 68) m y1 y2 (A 87) (A 89)).2.1)) 89 ((km_runsOff_7 (F 67 3) (A 68) m y1 y2 (A 87) (A 89)).2.2)) L) Q) → wl_E f B D mm210.2.2.2.2.2.2.2.2 7 [some (.ref 67), some (.int y1), some (.int y2), o3, o4] [] (hz F A L) Q := by
  intro m
  induction m with
  | zero =>
    intro B D F A L y1 y2 o3 o4 hm K
    generalize hT : (km_runsOff_7 (F 67 3) (A 68) 0 y1 y2 (A 87) (A 89)) = T at K
    have hE : T = (y1, (A 87), (A 89)) := hT.symm
    clear hT
    refine w_n 5 (pc1 := 14) (ls1 := [some (.ref 67), some (.int y1), some (.int y2), o3, o4]) (st1 := [.int ((F 67 3) - 1), .int y2]) (hp1 := (hz F A L)) rfl ?_
    refine w_ge (p3 := 17) rfl rfl (fun hb => ?_) (fun h => False.elim (by have h : y2.toInt < ((F 67 3) - 1).toInt := h; omega))
    subst T
    exact cvE rfl (funext fun q => if k0 : q = 87 then by subst k0; exact Eq.trans (b := (A 87)) rfl rfl else if k1 : q = 89 then by subst k1; exact Eq.trans (b := (A 89)) rfl rfl else by unfold uA; simp only [nb1 k0, nb1 k1, cond_false]) rfl (K _ _ _)
  | succ m ih =>
    intro B D F A L y1 y2 o3 o4 hm K
    generalize hT : (km_runsOff_7 (F 67 3) (A 68) (m + 1) y1 y2 (A 87) (A 89)) = T at K
    have hE : T = (km_runsOff_7 (F 67 3) (A 68) m (y1 &&& (((1 : Int32) <<< ((km_runsOff_28 (km_laysFirsts (F 67 3) (A 68) (A 87) y1 0) y1 (F 67 3).toInt.toNat (-1) 0) &&& 31)) ^^^ (-1))) (y2 + 1) (km_laysFirsts (F 67 3) (A 68) (A 87) y1 0) ((A 89).set y2.toInt.toNat (km_runsOff_28 (km_laysFirsts (F 67 3) (A 68) (A 87) y1 0) y1 (F 67 3).toInt.toNat (-1) 0))) := hT.symm
    clear hT
    refine w_n 5 (pc1 := 14) (ls1 := [some (.ref 67), some (.int y1), some (.int y2), o3, o4]) (st1 := [.int ((F 67 3) - 1), .int y2]) (hp1 := (hz F A L)) rfl ?_
    refine w_ge (p3 := 17) rfl rfl (fun h => False.elim (by have h : ((F 67 3) - 1).toInt ≤ y2.toInt := h; omega)) (fun hb => ?_)
    refine w_n 3 (pc1 := 20) (ls1 := [some (.ref 67), some (.int y1), some (.int y2), o3, o4]) (st1 := [.int 0, .int y1, .ref 67]) (hp1 := (hz F A L)) rfl ?_
    refine w_c rfl rfl (t_km_laysFirsts ?_)
    show wl_E f _ _ mm210.2.2.2.2.2.2.2.2 23 [some (.ref 67), some (.int y1), some (.int y2), o3, o4] [] (hz F (uA A 87 (km_laysFirsts (F 67 3) (A 68) (A 87) y1 0)) L) _
    generalize hG146 : (km_laysFirsts (F 67 3) (A 68) (A 87) y1 0) = G146 at hE ⊢
    refine w_n 4 (pc1 := 28) (ls1 := [some (.ref 67), some (.int y1), some (.int y2), some (.int (-1)), some (.int 0)]) (st1 := []) (hp1 := (hz F (uA A 87 G146) L)) rfl ?_
    refine t_km_runsOff_28 (F 67 3).toInt.toNat (show (F 67 3).toInt.toNat = ((F 67 3).toInt - (0 : Int32).toInt).toNat by have e0 : (0 : Int32).toInt = 0 := rfl; first | rfl | omega) ?_
    intro r1
    show wl_E f _ _ mm210.2.2.2.2.2.2.2.2 76 [some (.ref 67), some (.int y1), some (.int y2), some (.int (km_runsOff_28 G146 y1 (F 67 3).toInt.toNat (-1) 0)), some (.int r1)] [] (hz F (uA A 87 G146) L) _
    generalize hG148 : (km_runsOff_28 G146 y1 (F 67 3).toInt.toNat (-1) 0) = G148 at hE ⊢
    refine w_n 4 (pc1 := 82) (ls1 := [some (.ref 67), some (.int y1), some (.int y2), some (.int G148), some (.int r1)]) (st1 := [.int G148, .int y2, .ref 89]) (hp1 := (hz F (uA A 87 G146) L)) rfl ?_
    refine w_as (k := 89) (l := (A 89)) (hp1 := (hz F (uA (uA A 87 G146) 89 ((A 89).set y2.toInt.toNat G148)) L)) rfl rfl rfl (hz_s89 _) (fun ab => ?_)
    refine w_n 10 (pc1 := 7) (ls1 := [some (.ref 67), some (.int (y1 &&& (((1 : Int32) <<< (G148 &&& 31)) ^^^ (-1)))), some (.int (y2 + 1)), some (.int G148), some (.int r1)]) (st1 := []) (hp1 := (hz F (uA (uA A 87 G146) 89 ((A 89).set y2.toInt.toNat G148)) L)) rfl ?_
    subst T
    have hb2 := i_up (B := ((F 67 3) - 1)) hb
    have hb3 : y2.toInt < ((F 67 3) - 1).toInt := hb
    exact ih (show m = (((F 67 3) - 1).toInt - (y2 + 1).toInt).toNat by rw [hb2]; omega) (fun q2 q3 q4 => cvE rfl (funext fun q => if k0 : q = 87 then by subst k0; exact Eq.trans (b := (km_runsOff_7 (F 67 3) (A 68) m (y1 &&& (((1 : Int32) <<< (G148 &&& 31)) ^^^ (-1))) (y2 + 1) G146 ((A 89).set y2.toInt.toNat G148)).2.1) rfl rfl else if k1 : q = 89 then by subst k1; exact Eq.trans (b := (km_runsOff_7 (F 67 3) (A 68) m (y1 &&& (((1 : Int32) <<< (G148 &&& 31)) ^^^ (-1))) (y2 + 1) G146 ((A 89).set y2.toInt.toNat G148)).2.2) rfl rfl else by unfold uA; simp only [nb1 k0, nb1 k1, cond_false]) rfl (K q2 q3 q4))
noncomputable def km_runsOff_99  (x1 : Int32) : Nat → Int32 → Int32
  | 0, y2 => y2
  | m + 1, y2 => (if (km_has x1 y2) = 0 then (km_runsOff_99 x1 m (y2 + 1)) else y2)
theorem t_km_runsOff_99 {f : Nat} {Q : Option Value → sm_H → Prop} : ∀ (m : Nat) (B : Nat) {D : Nat} {F : Nat → Nat → Int32} {A : Nat → List Int32} {L : Nat → List Int64} {x1 : Int32} {y2 : Int32} {o3 : Option Value} {o4 : Option Value}, B ≤ m → (wl_E f B D mm210.2.2.2.2.2.2.2.2 114 [some (.ref 67), some (.int x1), some (.int (km_runsOff_99 x1 m y2)), o3, o4] [] (hz F A L) Q) → wl_E f B D mm210.2.2.2.2.2.2.2.2 99 [some (.ref 67), some (.int x1), some (.int y2), o3, o4] [] (hz F A L) Q := by
  intro m
  induction m with
  | zero =>
    intro B D F A L x1 y2 o3 o4 hm K
    rw [show B = 0 by omega]
    exact w_0
  | succ m ih =>
    intro B D F A L x1 y2 o3 o4 hm K
    cases B with
    | zero => exact w_0
    | succ B =>
      generalize hT : (km_runsOff_99 x1 (m + 1) y2) = T at K
      have hE : T = (if (km_has x1 y2) = 0 then (km_runsOff_99 x1 m (y2 + 1)) else y2) := hT.symm
      clear hT
      refine w_n1 (pc1 := 100) (ls1 := [some (.ref 67), some (.int x1), some (.int y2), o3, o4]) (st1 := [.int x1]) (hp1 := (hz F A L)) rfl ?_
      refine w_n 1 (pc1 := 101) (ls1 := [some (.ref 67), some (.int x1), some (.int y2), o3, o4]) (st1 := [.int y2, .int x1]) (hp1 := (hz F A L)) rfl ?_
      refine w_c rfl rfl (t_km_has ?_)
      show wl_E f _ _ mm210.2.2.2.2.2.2.2.2 104 [some (.ref 67), some (.int x1), some (.int y2), o3, o4] [.int (km_has x1 y2)] (hz F A L) _
      generalize hG150 : (km_has x1 y2) = G150 at hE ⊢
      refine w_zne (p3 := 107) rfl rfl (fun h => ?_) (fun h => ?_)
      · have h1 : ¬ G150 = 0 := h
        rw [if_neg h1] at hE
        subst T
        exact cvE rfl rfl rfl (wl_le (Nat.le_succ _) (K))
      · have h1 : G150 = 0 := h
        rw [if_pos h1] at hE
        refine w_n 5 (pc1 := 99) (ls1 := [some (.ref 67), some (.int x1), some (.int (y2 + 1)), o3, o4]) (st1 := []) (hp1 := (hz F A L)) rfl ?_
        subst T
        exact ih _ (by omega) (cvE rfl rfl rfl (wl_le (Nat.le_succ _) (K)))
noncomputable def km_runsOff (f : Nat) (f67_3 : Int32) (a68 : List Int32) (a87 : List Int32) (a89 : List Int32) : Int32 × List Int32 × List Int32 := ((km_runsOff_99 (km_runsOff_7 f67_3 a68 ((f67_3 - 1).toInt).toNat (km_allMeasures f67_3) 0 a87 a89).1 f 0), (km_runsOff_7 f67_3 a68 ((f67_3 - 1).toInt).toNat (km_allMeasures f67_3) 0 a87 a89).2.1, (km_runsOff_7 f67_3 a68 ((f67_3 - 1).toInt).toNat (km_allMeasures f67_3) 0 a87 a89).2.2)
theorem t_km_runsOff {f D : Nat} {F : Nat → Nat → Int32} {A : Nat → List Int32} {L : Nat → List Int64} {Q : Option Value → sm_H → Prop} (K : Q (some (.int ((km_runsOff f (F 67 3) (A 68) (A 87) (A 89)).1))) (hz F (uA (uA A 87 ((km_runsOff f (F 67 3) (A 68) (A 87) (A 89)).2.1)) 89 ((km_runsOff f (F 67 3) (A 68) (A 87) (A 89)).2.2)) L)) : wl_M f D 210 [.ref 67] (hz F A L) Q := by
  generalize hT : (km_runsOff f (F 67 3) (A 68) (A 87) (A 89)) = T at K
  have hE : T = ((km_runsOff_99 (km_runsOff_7 (F 67 3) (A 68) (((F 67 3) - 1).toInt).toNat (km_allMeasures (F 67 3)) 0 (A 87) (A 89)).1 f 0), (km_runsOff_7 (F 67 3) (A 68) (((F 67 3) - 1).toInt).toNat (km_allMeasures (F 67 3)) 0 (A 87) (A 89)).2.1, (km_runsOff_7 (F 67 3) (A 68) (((F 67 3) - 1).toInt).toNat (km_allMeasures (F 67 3)) 0 (A 87) (A 89)).2.2) := hT.symm
  clear hT
  refine w_m (E := mm210) rfl ?_
  show wl_E f f (D - 1) mm210.2.2.2.2.2.2.2.2 0 [some (.ref 67), none, none, none, none] [] (hz F A L) Q
  refine w_n 1 (pc1 := 1) (ls1 := [some (.ref 67), none, none, none, none]) (st1 := [.ref 67]) (hp1 := (hz F A L)) rfl ?_
  refine w_c rfl rfl (t_km_allMeasures ?_)
  show wl_E f _ _ mm210.2.2.2.2.2.2.2.2 4 [some (.ref 67), none, none, none, none] [.int (km_allMeasures (F 67 3))] (hz F A L) _
  generalize hG145 : (km_allMeasures (F 67 3)) = G145 at hE ⊢
  refine w_n 3 (pc1 := 7) (ls1 := [some (.ref 67), some (.int G145), some (.int 0), none, none]) (st1 := []) (hp1 := (hz F A L)) rfl ?_
  refine t_km_runsOff_7 ((((F 67 3) - 1).toInt).toNat) (show (((F 67 3) - 1).toInt).toNat = (((F 67 3) - 1).toInt - (0 : Int32).toInt).toNat by have e0 : (0 : Int32).toInt = 0 := rfl; first | rfl | omega) ?_
  intro r1 r2 r3
  show wl_E f _ _ mm210.2.2.2.2.2.2.2.2 97 [some (.ref 67), some (.int (km_runsOff_7 (F 67 3) (A 68) (((F 67 3) - 1).toInt).toNat G145 0 (A 87) (A 89)).1), some (.int r1), r2, r3] [] (hz F (uA (uA A 87 (km_runsOff_7 (F 67 3) (A 68) (((F 67 3) - 1).toInt).toNat G145 0 (A 87) (A 89)).2.1) 89 (km_runsOff_7 (F 67 3) (A 68) (((F 67 3) - 1).toInt).toNat G145 0 (A 87) (A 89)).2.2) L) _
  generalize hG149 : (km_runsOff_7 (F 67 3) (A 68) (((F 67 3) - 1).toInt).toNat G145 0 (A 87) (A 89)) = G149 at hE ⊢
  refine w_n 2 (pc1 := 99) (ls1 := [some (.ref 67), some (.int G149.1), some (.int 0), r2, r3]) (st1 := []) (hp1 := (hz F (uA (uA A 87 G149.2.1) 89 G149.2.2) L)) rfl ?_
  refine t_km_runsOff_99 f _ (Nat.le_refl _) ?_
  show wl_E f _ _ mm210.2.2.2.2.2.2.2.2 114 [some (.ref 67), some (.int G149.1), some (.int (km_runsOff_99 G149.1 f 0)), r2, r3] [] (hz F (uA (uA A 87 G149.2.1) 89 G149.2.2) L) _
  generalize hG151 : (km_runsOff_99 G149.1 f 0) = G151 at hE ⊢
  refine w_n 1 (pc1 := 115) (ls1 := [some (.ref 67), some (.int G149.1), some (.int G151), r2, r3]) (st1 := [.int G151]) (hp1 := (hz F (uA (uA A 87 G149.2.1) 89 G149.2.2) L)) rfl ?_
  subst T
  exact w_ri rfl (cvQ rfl rfl rfl K)
noncomputable def km_runOff (f : Nat) (f67_3 : Int32) (a68 : List Int32) (a87 : List Int32) (a89 : List Int32) (x1 : Int32) : Int32 × List Int32 × List Int32 := (if x1 = 10 then ((km_runsOff f f67_3 a68 a87 a89).1, (km_runsOff f f67_3 a68 a87 a89).2.1, (km_runsOff f f67_3 a68 a87 a89).2.2) else (if (km_in x1 0 (f67_3 - 2)) = 0 then ((-1), a87, a89) else (((km_runsOff f f67_3 a68 a87 a89).2.2.getD x1.toInt.toNat 0), (km_runsOff f f67_3 a68 a87 a89).2.1, (km_runsOff f f67_3 a68 a87 a89).2.2)))
theorem t_km_runOff {f D : Nat} {F : Nat → Nat → Int32} {A : Nat → List Int32} {L : Nat → List Int64} {Q : Option Value → sm_H → Prop} {x1 : Int32} (K : Q (some (.int ((km_runOff f (F 67 3) (A 68) (A 87) (A 89) x1).1))) (hz F (uA (uA A 87 ((km_runOff f (F 67 3) (A 68) (A 87) (A 89) x1).2.1)) 89 ((km_runOff f (F 67 3) (A 68) (A 87) (A 89) x1).2.2)) L)) : wl_M f D 209 [.ref 67, .int x1] (hz F A L) Q := by
  generalize hT : (km_runOff f (F 67 3) (A 68) (A 87) (A 89) x1) = T at K
  have hE : T = (if x1 = 10 then ((km_runsOff f (F 67 3) (A 68) (A 87) (A 89)).1, (km_runsOff f (F 67 3) (A 68) (A 87) (A 89)).2.1, (km_runsOff f (F 67 3) (A 68) (A 87) (A 89)).2.2) else (if (km_in x1 0 ((F 67 3) - 2)) = 0 then ((-1), (A 87), (A 89)) else (((km_runsOff f (F 67 3) (A 68) (A 87) (A 89)).2.2.getD x1.toInt.toNat 0), (km_runsOff f (F 67 3) (A 68) (A 87) (A 89)).2.1, (km_runsOff f (F 67 3) (A 68) (A 87) (A 89)).2.2))) := hT.symm
  clear hT
  refine w_m (E := mm209) rfl ?_
  show wl_E f f (D - 1) mm209.2.2.2.2.2.2.2.2 0 [some (.ref 67), some (.int x1), none] [] (hz F A L) Q
  refine w_n 2 (pc1 := 3) (ls1 := [some (.ref 67), some (.int x1), none]) (st1 := [.int 10, .int x1]) (hp1 := (hz F A L)) rfl ?_
  refine w_eq (p3 := 6) rfl rfl (fun h => ?_) (fun h => ?_)
  · have h1 : x1 = 10 := h
    rw [if_pos h1] at hE
    refine w_n 1 (pc1 := 23) (ls1 := [some (.ref 67), some (.int x1), none]) (st1 := [.ref 67]) (hp1 := (hz F A L)) rfl ?_
    refine w_c rfl rfl (t_km_runsOff ?_)
    show wl_E f _ _ mm209.2.2.2.2.2.2.2.2 26 [some (.ref 67), some (.int x1), none] [.int (km_runsOff f (F 67 3) (A 68) (A 87) (A 89)).1] (hz F (uA (uA A 87 (km_runsOff f (F 67 3) (A 68) (A 87) (A 89)).2.1) 89 (km_runsOff f (F 67 3) (A 68) (A 87) (A 89)).2.2) L) _
    generalize hG152 : (km_runsOff f (F 67 3) (A 68) (A 87) (A 89)) = G152 at hE ⊢
    refine w_n 3 (pc1 := 30) (ls1 := [some (.ref 67), some (.int x1), some (.int G152.1)]) (st1 := [.int 10, .int x1]) (hp1 := (hz F (uA (uA A 87 G152.2.1) 89 G152.2.2) L)) rfl ?_
    refine w_ne (p3 := 33) rfl rfl (fun h => absurd h1 h) (fun _ => ?_)
    refine w_n 2 (pc1 := 43) (ls1 := [some (.ref 67), some (.int x1), some (.int G152.1)]) (st1 := [.int G152.1]) (hp1 := (hz F (uA (uA A 87 G152.2.1) 89 G152.2.2) L)) rfl ?_
    subst T
    exact w_ri rfl (cvQ rfl rfl rfl K)
  · have h1 : ¬ x1 = 10 := h
    rw [if_neg h1] at hE
    refine w_n 6 (pc1 := 14) (ls1 := [some (.ref 67), some (.int x1), none]) (st1 := [.int ((F 67 3) - 2), .int 0, .int x1]) (hp1 := (hz F A L)) rfl ?_
    refine w_c rfl rfl (t_km_in ?_)
    show wl_E f _ _ mm209.2.2.2.2.2.2.2.2 17 [some (.ref 67), some (.int x1), none] [.int (km_in x1 0 ((F 67 3) - 2))] (hz F A L) _
    generalize hG153 : (km_in x1 0 ((F 67 3) - 2)) = G153 at hE ⊢
    refine w_zne (p3 := 20) rfl rfl (fun h => ?_) (fun h => ?_)
    · have h2 : ¬ G153 = 0 := h
      rw [if_neg h2] at hE
      refine w_n 1 (pc1 := 23) (ls1 := [some (.ref 67), some (.int x1), none]) (st1 := [.ref 67]) (hp1 := (hz F A L)) rfl ?_
      refine w_c rfl rfl (t_km_runsOff ?_)
      show wl_E f _ _ mm209.2.2.2.2.2.2.2.2 26 [some (.ref 67), some (.int x1), none] [.int (km_runsOff f (F 67 3) (A 68) (A 87) (A 89)).1] (hz F (uA (uA A 87 (km_runsOff f (F 67 3) (A 68) (A 87) (A 89)).2.1) 89 (km_runsOff f (F 67 3) (A 68) (A 87) (A 89)).2.2) L) _
      generalize hG154 : (km_runsOff f (F 67 3) (A 68) (A 87) (A 89)) = G154 at hE ⊢
      refine w_n 3 (pc1 := 30) (ls1 := [some (.ref 67), some (.int x1), some (.int G154.1)]) (st1 := [.int 10, .int x1]) (hp1 := (hz F (uA (uA A 87 G154.2.1) 89 G154.2.2) L)) rfl ?_
      refine w_ne (p3 := 33) rfl rfl (fun _ => ?_) (fun h => absurd h h1)
      refine w_n 3 (pc1 := 42) (ls1 := [some (.ref 67), some (.int x1), some (.int G154.1)]) (st1 := [.int x1, .ref 89]) (hp1 := (hz F (uA (uA A 87 G154.2.1) 89 G154.2.2) L)) rfl ?_
      refine w_al (k := 89) (l := G154.2.2) rfl rfl rfl (fun _ => ?_)
      subst T
      exact w_ri rfl (cvQ rfl rfl rfl K)
    · have h2 : G153 = 0 := h
      rw [if_pos h2] at hE
      refine w_n 1 (pc1 := 21) (ls1 := [some (.ref 67), some (.int x1), none]) (st1 := [.int (-1)]) (hp1 := (hz F A L)) rfl ?_
      subst T
      exact w_ri rfl (cvQ rfl (funext fun q => if k0 : q = 87 then by subst k0; exact Eq.trans (b := (A 87)) rfl rfl else if k1 : q = 89 then by subst k1; exact Eq.trans (b := (A 89)) rfl rfl else by unfold uA; simp only [nb1 k0, nb1 k1, cond_false]) rfl K)
noncomputable def km_copies_68_69_2 (a68 : List Int32)  : Nat → Int32 → List Int32 → List Int32
  | 0, _, a69 => a69
  | m + 1, y2, a69 => (km_copies_68_69_2 a68 m (y2 + 1) (a69.set y2.toInt.toNat (a68.getD y2.toInt.toNat 0)))
theorem t_km_copies_68_69_2 {f : Nat} {Q : Option Value → sm_H → Prop} : ∀ (m : Nat) {B D : Nat} {F : Nat → Nat → Int32} {A : Nat → List Int32} {L : Nat → List Int64} {y2 : Int32}, m = (150 - y2.toInt).toNat → (∀ q2 : Int32, wl_E f B D mm199.2.2.2.2.2.2.2.2 21 [some (.ref 68), some (.ref 69), some (.int q2)] [] (hz F (uA A 69 (km_copies_68_69_2 (A 68) m y2 (A 69))) L) Q) → wl_E f B D mm199.2.2.2.2.2.2.2.2 2 [some (.ref 68), some (.ref 69), some (.int y2)] [] (hz F A L) Q := by
  intro m
  induction m with
  | zero =>
    intro B D F A L y2 hm K
    generalize hT : (km_copies_68_69_2 (A 68) 0 y2 (A 69)) = T at K
    have hE : T = (A 69) := hT.symm
    clear hT
    refine w_n 2 (pc1 := 6) (ls1 := [some (.ref 68), some (.ref 69), some (.int y2)]) (st1 := [.int 150, .int y2]) (hp1 := (hz F A L)) rfl ?_
    refine w_ge (p3 := 9) rfl rfl (fun hb => ?_) (fun h => False.elim (by have h : y2.toInt < 150 := h; omega))
    subst T
    exact cvE rfl (funext fun q => if k0 : q = 69 then by subst k0; exact Eq.trans (b := (A 69)) rfl rfl else by unfold uA; simp only [nb1 k0, cond_false]) rfl (K _)
  | succ m ih =>
    intro B D F A L y2 hm K
    generalize hT : (km_copies_68_69_2 (A 68) (m + 1) y2 (A 69)) = T at K
    have hE : T = (km_copies_68_69_2 (A 68) m (y2 + 1) ((A 69).set y2.toInt.toNat ((A 68).getD y2.toInt.toNat 0))) := hT.symm
    clear hT
    refine w_n 2 (pc1 := 6) (ls1 := [some (.ref 68), some (.ref 69), some (.int y2)]) (st1 := [.int 150, .int y2]) (hp1 := (hz F A L)) rfl ?_
    refine w_ge (p3 := 9) rfl rfl (fun h => False.elim (by have h : 150 ≤ y2.toInt := h; omega)) (fun hb => ?_)
    refine w_n 4 (pc1 := 13) (ls1 := [some (.ref 68), some (.ref 69), some (.int y2)]) (st1 := [.int y2, .ref 68, .int y2, .ref 69]) (hp1 := (hz F A L)) rfl ?_
    refine w_al (k := 68) (l := (A 68)) rfl rfl rfl (fun ab => ?_)
    refine w_as (k := 69) (l := (A 69)) (hp1 := (hz F (uA A 69 ((A 69).set y2.toInt.toNat ((A 68).getD y2.toInt.toNat 0))) L)) rfl rfl rfl (hz_s69 _) (fun ab => ?_)
    refine w_n 2 (pc1 := 2) (ls1 := [some (.ref 68), some (.ref 69), some (.int (y2 + 1))]) (st1 := []) (hp1 := (hz F (uA A 69 ((A 69).set y2.toInt.toNat ((A 68).getD y2.toInt.toNat 0))) L)) rfl ?_
    subst T
    have hb2 := i_up (B := (150 : Int32)) hb
    have hb3 : y2.toInt < 150 := hb
    exact ih (show m = (150 - (y2 + 1).toInt).toNat by rw [hb2]; omega) (fun q2 => cvE rfl (funext fun q => if k0 : q = 69 then by subst k0; exact Eq.trans (b := (km_copies_68_69_2 (A 68) m (y2 + 1) ((A 69).set y2.toInt.toNat ((A 68).getD y2.toInt.toNat 0)))) rfl rfl else by unfold uA; simp only [nb1 k0, cond_false]) rfl (K q2))
noncomputable def km_copies_68_69 (a68 : List Int32) (a69 : List Int32) : List Int32 := (km_copies_68_69_2 a68 150 0 a69)
theorem t_km_copies_68_69 {f D : Nat} {F : Nat → Nat → Int32} {A : Nat → List Int32} {L : Nat → List Int64} {Q : Option Value → sm_H → Prop} (K : Q none (hz F (uA A 69 (km_copies_68_69 (A 68) (A 69))) L)) : wl_M f D 199 [.ref 68, .ref 69] (hz F A L) Q := by
  generalize hT : (km_copies_68_69 (A 68) (A 69)) = T at K
  have hE : T = (km_copies_68_69_2 (A 68) 150 0 (A 69)) := hT.symm
  clear hT
  refine w_m (E := mm199) rfl ?_
  show wl_E f f (D - 1) mm199.2.2.2.2.2.2.2.2 0 [some (.ref 68), some (.ref 69), none] [] (hz F A L) Q
  refine w_n 2 (pc1 := 2) (ls1 := [some (.ref 68), some (.ref 69), some (.int 0)]) (st1 := []) (hp1 := (hz F A L)) rfl ?_
  refine t_km_copies_68_69_2 150 (show (150 : Nat) = (150 - (0 : Int32).toInt).toNat by have e0 : (0 : Int32).toInt = 0 := rfl; first | rfl | omega) ?_
  intro r1
  show wl_E f _ _ mm199.2.2.2.2.2.2.2.2 21 [some (.ref 68), some (.ref 69), some (.int r1)] [] (hz F (uA A 69 (km_copies_68_69_2 (A 68) 150 0 (A 69))) L) _
  generalize hG157 : (km_copies_68_69_2 (A 68) 150 0 (A 69)) = G157 at hE ⊢
  subst T
  exact w_r rfl rfl (cvQ rfl rfl rfl K)
noncomputable def km_feelsOne_2   : Nat → Int32 → List Int32 → List Int32
  | 0, _, a84 => a84
  | m + 1, y2, a84 => (km_feelsOne_2 m (y2 + 1) (a84.set y2.toInt.toNat 0))
theorem t_km_feelsOne_2 {f : Nat} {Q : Option Value → sm_H → Prop} : ∀ (m : Nat) {B D : Nat} {F : Nat → Nat → Int32} {A : Nat → List Int32} {L : Nat → List Int64} {x1 : Int32} {y2 : Int32}, m = (8 - y2.toInt).toNat → (∀ q2 : Int32, wl_E f B D mm179.2.2.2.2.2.2.2.2 21 [some (.ref 67), some (.int x1), some (.int q2)] [] (hz F (uA A 84 (km_feelsOne_2 m y2 (A 84))) L) Q) → wl_E f B D mm179.2.2.2.2.2.2.2.2 2 [some (.ref 67), some (.int x1), some (.int y2)] [] (hz F A L) Q := by
  intro m
  induction m with
  | zero =>
    intro B D F A L x1 y2 hm K
    generalize hT : (km_feelsOne_2 0 y2 (A 84)) = T at K
    have hE : T = (A 84) := hT.symm
    clear hT
    refine w_n 2 (pc1 := 5) (ls1 := [some (.ref 67), some (.int x1), some (.int y2)]) (st1 := [.int 8, .int y2]) (hp1 := (hz F A L)) rfl ?_
    refine w_ge (p3 := 8) rfl rfl (fun hb => ?_) (fun h => False.elim (by have h : y2.toInt < 8 := h; omega))
    subst T
    exact cvE rfl (funext fun q => if k0 : q = 84 then by subst k0; exact Eq.trans (b := (A 84)) rfl rfl else by unfold uA; simp only [nb1 k0, cond_false]) rfl (K _)
  | succ m ih =>
    intro B D F A L x1 y2 hm K
    generalize hT : (km_feelsOne_2 (m + 1) y2 (A 84)) = T at K
    have hE : T = (km_feelsOne_2 m (y2 + 1) ((A 84).set y2.toInt.toNat 0)) := hT.symm
    clear hT
    refine w_n 2 (pc1 := 5) (ls1 := [some (.ref 67), some (.int x1), some (.int y2)]) (st1 := [.int 8, .int y2]) (hp1 := (hz F A L)) rfl ?_
    refine w_ge (p3 := 8) rfl rfl (fun h => False.elim (by have h : 8 ≤ y2.toInt := h; omega)) (fun hb => ?_)
    refine w_n 4 (pc1 := 14) (ls1 := [some (.ref 67), some (.int x1), some (.int y2)]) (st1 := [.int 0, .int y2, .ref 84]) (hp1 := (hz F A L)) rfl ?_
    refine w_as (k := 84) (l := (A 84)) (hp1 := (hz F (uA A 84 ((A 84).set y2.toInt.toNat 0)) L)) rfl rfl rfl (hz_s84 _) (fun ab => ?_)
    refine w_n 2 (pc1 := 2) (ls1 := [some (.ref 67), some (.int x1), some (.int (y2 + 1))]) (st1 := []) (hp1 := (hz F (uA A 84 ((A 84).set y2.toInt.toNat 0)) L)) rfl ?_
    subst T
    have hb2 := i_up (B := (8 : Int32)) hb
    have hb3 : y2.toInt < 8 := hb
    exact ih (show m = (8 - (y2 + 1).toInt).toNat by rw [hb2]; omega) (fun q2 => cvE rfl (funext fun q => if k0 : q = 84 then by subst k0; exact Eq.trans (b := (km_feelsOne_2 m (y2 + 1) ((A 84).set y2.toInt.toNat 0))) rfl rfl else by unfold uA; simp only [nb1 k0, cond_false]) rfl (K q2))
noncomputable def km_feelsOne (a68 : List Int32) (a84 : List Int32) (x1 : Int32) : List Int32 := ((((((km_feelsOne_2 8 0 a84).set 0 x1).set 4 (a68.getD (12 + x1).toInt.toNat 0)).set 5 (a68.getD (36 + x1).toInt.toNat 0)).set 6 (a68.getD (60 + x1).toInt.toNat 0)).set 7 (a68.getD 147 0))
theorem t_km_feelsOne {f D : Nat} {F : Nat → Nat → Int32} {A : Nat → List Int32} {L : Nat → List Int64} {Q : Option Value → sm_H → Prop} {x1 : Int32} (K : Q none (hz F (uA A 84 (km_feelsOne (A 68) (A 84) x1)) L)) : wl_M f D 179 [.ref 67, .int x1] (hz F A L) Q := by
  generalize hT : (km_feelsOne (A 68) (A 84) x1) = T at K
  have hE : T = ((((((km_feelsOne_2 8 0 (A 84)).set 0 x1).set 4 ((A 68).getD (12 + x1).toInt.toNat 0)).set 5 ((A 68).getD (36 + x1).toInt.toNat 0)).set 6 ((A 68).getD (60 + x1).toInt.toNat 0)).set 7 ((A 68).getD 147 0)) := hT.symm
  clear hT
  refine w_m (E := mm179) rfl ?_
  show wl_E f f (D - 1) mm179.2.2.2.2.2.2.2.2 0 [some (.ref 67), some (.int x1), none] [] (hz F A L) Q
  refine w_n 2 (pc1 := 2) (ls1 := [some (.ref 67), some (.int x1), some (.int 0)]) (st1 := []) (hp1 := (hz F A L)) rfl ?_
  refine t_km_feelsOne_2 8 (show (8 : Nat) = (8 - (0 : Int32).toInt).toNat by have e0 : (0 : Int32).toInt = 0 := rfl; first | rfl | omega) ?_
  intro r1
  show wl_E f _ _ mm179.2.2.2.2.2.2.2.2 21 [some (.ref 67), some (.int x1), some (.int r1)] [] (hz F (uA A 84 (km_feelsOne_2 8 0 (A 84))) L) _
  generalize hG159 : (km_feelsOne_2 8 0 (A 84)) = G159 at hE ⊢
  refine w_n 4 (pc1 := 27) (ls1 := [some (.ref 67), some (.int x1), some (.int r1)]) (st1 := [.int x1, .int 0, .ref 84]) (hp1 := (hz F (uA A 84 G159) L)) rfl ?_
  refine w_as (k := 84) (l := G159) (hp1 := (hz F (uA (uA A 84 G159) 84 (G159.set 0 x1)) L)) rfl rfl rfl (hz_s84 _) (fun _ => ?_)
  refine w_n 8 (pc1 := 41) (ls1 := [some (.ref 67), some (.int x1), some (.int r1)]) (st1 := [.int (12 + x1), .ref 68, .int 4, .ref 84]) (hp1 := (hz F (uA (uA A 84 G159) 84 (G159.set 0 x1)) L)) rfl ?_
  refine w_al (k := 68) (l := (A 68)) rfl rfl rfl (fun _ => ?_)
  refine w_as (k := 84) (l := (G159.set 0 x1)) (hp1 := (hz F (uA (uA (uA A 84 G159) 84 (G159.set 0 x1)) 84 ((G159.set 0 x1).set 4 ((A 68).getD (12 + x1).toInt.toNat 0))) L)) rfl rfl rfl (hz_s84 _) (fun _ => ?_)
  refine w_n 8 (pc1 := 56) (ls1 := [some (.ref 67), some (.int x1), some (.int r1)]) (st1 := [.int (36 + x1), .ref 68, .int 5, .ref 84]) (hp1 := (hz F (uA (uA (uA A 84 G159) 84 (G159.set 0 x1)) 84 ((G159.set 0 x1).set 4 ((A 68).getD (12 + x1).toInt.toNat 0))) L)) rfl ?_
  refine w_al (k := 68) (l := (A 68)) rfl rfl rfl (fun _ => ?_)
  refine w_as (k := 84) (l := ((G159.set 0 x1).set 4 ((A 68).getD (12 + x1).toInt.toNat 0))) (hp1 := (hz F (uA (uA (uA (uA A 84 G159) 84 (G159.set 0 x1)) 84 ((G159.set 0 x1).set 4 ((A 68).getD (12 + x1).toInt.toNat 0))) 84 (((G159.set 0 x1).set 4 ((A 68).getD (12 + x1).toInt.toNat 0)).set 5 ((A 68).getD (36 + x1).toInt.toNat 0))) L)) rfl rfl rfl (hz_s84 _) (fun _ => ?_)
  refine w_n 8 (pc1 := 72) (ls1 := [some (.ref 67), some (.int x1), some (.int r1)]) (st1 := [.int (60 + x1), .ref 68, .int 6, .ref 84]) (hp1 := (hz F (uA (uA (uA (uA A 84 G159) 84 (G159.set 0 x1)) 84 ((G159.set 0 x1).set 4 ((A 68).getD (12 + x1).toInt.toNat 0))) 84 (((G159.set 0 x1).set 4 ((A 68).getD (12 + x1).toInt.toNat 0)).set 5 ((A 68).getD (36 + x1).toInt.toNat 0))) L)) rfl ?_
  refine w_al (k := 68) (l := (A 68)) rfl rfl rfl (fun _ => ?_)
  refine w_as (k := 84) (l := (((G159.set 0 x1).set 4 ((A 68).getD (12 + x1).toInt.toNat 0)).set 5 ((A 68).getD (36 + x1).toInt.toNat 0))) (hp1 := (hz F (uA (uA (uA (uA (uA A 84 G159) 84 (G159.set 0 x1)) 84 ((G159.set 0 x1).set 4 ((A 68).getD (12 + x1).toInt.toNat 0))) 84 (((G159.set 0 x1).set 4 ((A 68).getD (12 + x1).toInt.toNat 0)).set 5 ((A 68).getD (36 + x1).toInt.toNat 0))) 84 ((((G159.set 0 x1).set 4 ((A 68).getD (12 + x1).toInt.toNat 0)).set 5 ((A 68).getD (36 + x1).toInt.toNat 0)).set 6 ((A 68).getD (60 + x1).toInt.toNat 0))) L)) rfl rfl rfl (hz_s84 _) (fun _ => ?_)
  refine w_n 6 (pc1 := 87) (ls1 := [some (.ref 67), some (.int x1), some (.int r1)]) (st1 := [.int 147, .ref 68, .int 7, .ref 84]) (hp1 := (hz F (uA (uA (uA (uA (uA A 84 G159) 84 (G159.set 0 x1)) 84 ((G159.set 0 x1).set 4 ((A 68).getD (12 + x1).toInt.toNat 0))) 84 (((G159.set 0 x1).set 4 ((A 68).getD (12 + x1).toInt.toNat 0)).set 5 ((A 68).getD (36 + x1).toInt.toNat 0))) 84 ((((G159.set 0 x1).set 4 ((A 68).getD (12 + x1).toInt.toNat 0)).set 5 ((A 68).getD (36 + x1).toInt.toNat 0)).set 6 ((A 68).getD (60 + x1).toInt.toNat 0))) L)) rfl ?_
  refine w_al (k := 68) (l := (A 68)) rfl rfl rfl (fun _ => ?_)
  refine w_as (k := 84) (l := ((((G159.set 0 x1).set 4 ((A 68).getD (12 + x1).toInt.toNat 0)).set 5 ((A 68).getD (36 + x1).toInt.toNat 0)).set 6 ((A 68).getD (60 + x1).toInt.toNat 0))) (hp1 := (hz F (uA (uA (uA (uA (uA (uA A 84 G159) 84 (G159.set 0 x1)) 84 ((G159.set 0 x1).set 4 ((A 68).getD (12 + x1).toInt.toNat 0))) 84 (((G159.set 0 x1).set 4 ((A 68).getD (12 + x1).toInt.toNat 0)).set 5 ((A 68).getD (36 + x1).toInt.toNat 0))) 84 ((((G159.set 0 x1).set 4 ((A 68).getD (12 + x1).toInt.toNat 0)).set 5 ((A 68).getD (36 + x1).toInt.toNat 0)).set 6 ((A 68).getD (60 + x1).toInt.toNat 0))) 84 (((((G159.set 0 x1).set 4 ((A 68).getD (12 + x1).toInt.toNat 0)).set 5 ((A 68).getD (36 + x1).toInt.toNat 0)).set 6 ((A 68).getD (60 + x1).toInt.toNat 0)).set 7 ((A 68).getD 147 0))) L)) rfl rfl rfl (hz_s84 _) (fun _ => ?_)
  subst T
  exact w_r rfl rfl (cvQ rfl (funext fun q => if k0 : q = 84 then by subst k0; exact Eq.trans (b := (((((G159.set 0 x1).set 4 ((A 68).getD (12 + x1).toInt.toNat 0)).set 5 ((A 68).getD (36 + x1).toInt.toNat 0)).set 6 ((A 68).getD (60 + x1).toInt.toNat 0)).set 7 ((A 68).getD 147 0))) rfl rfl else by unfold uA; simp only [nb1 k0, cond_false]) rfl K)
noncomputable def km_reckon (x0 : Int32) (x1 : Int32) (x2 : Int32) : Int32 := (if x0 = 2 then (x1 + x2) else (if x0 = 3 then (x1 - x2) else (if x0 = 4 then (x1 * x2) else (if x0 = 5 then (x1 / x2) else (if x0 = 6 then (x1 - x1 / x2 * x2) else (if x0 = 7 then (if x1.toInt < x2.toInt then 1 else 0) else (if x0 = 8 then (if x2.toInt < x1.toInt then 1 else 0) else (if x1 = x2 then 1 else 0))))))))
theorem t_km_reckon {f D : Nat} {F : Nat → Nat → Int32} {A : Nat → List Int32} {L : Nat → List Int64} {Q : Option Value → sm_H → Prop} {x0 : Int32} {x1 : Int32} {x2 : Int32} (K : Q (some (.int (km_reckon x0 x1 x2))) (hz F A L)) : wl_M f D 182 [.int x0, .int x1, .int x2] (hz F A L) Q := by
  generalize hT : (km_reckon x0 x1 x2) = T at K
  have hE : T = (if x0 = 2 then (x1 + x2) else (if x0 = 3 then (x1 - x2) else (if x0 = 4 then (x1 * x2) else (if x0 = 5 then (x1 / x2) else (if x0 = 6 then (x1 - x1 / x2 * x2) else (if x0 = 7 then (if x1.toInt < x2.toInt then 1 else 0) else (if x0 = 8 then (if x2.toInt < x1.toInt then 1 else 0) else (if x1 = x2 then 1 else 0)))))))) := hT.symm
  clear hT
  refine w_m (E := mm182) rfl ?_
  show wl_E f f (D - 1) mm182.2.2.2.2.2.2.2.2 0 [some (.int x0), some (.int x1), some (.int x2)] [] (hz F A L) Q
  refine w_n 1 (pc1 := 1) (ls1 := [some (.int x0), some (.int x1), some (.int x2)]) (st1 := [.int x0]) (hp1 := (hz F A L)) rfl ?_
  by_cases h : x0 = 2
  · have h1 : x0 = 2 := h
    rw [if_pos h1] at hE
    refine w_k h1 ?_
    refine w_n 1 (pc1 := 44) (ls1 := [some (.int x0), some (.int x1), some (.int x2)]) (st1 := []) (hp1 := (hz F A L)) rfl ?_
    refine w_n 3 (pc1 := 47) (ls1 := [some (.int x0), some (.int x1), some (.int x2)]) (st1 := [.int (x1 + x2)]) (hp1 := (hz F A L)) rfl ?_
    subst T
    exact w_ri rfl (cvQ rfl rfl rfl K)
  · have h1 : ¬ x0 = 2 := h
    rw [if_neg h1] at hE
    by_cases h : x0 = 3
    · have h2 : x0 = 3 := h
      rw [if_pos h2] at hE
      refine w_k h2 ?_
      refine w_n 1 (pc1 := 48) (ls1 := [some (.int x0), some (.int x1), some (.int x2)]) (st1 := []) (hp1 := (hz F A L)) rfl ?_
      refine w_n 3 (pc1 := 51) (ls1 := [some (.int x0), some (.int x1), some (.int x2)]) (st1 := [.int (x1 - x2)]) (hp1 := (hz F A L)) rfl ?_
      subst T
      exact w_ri rfl (cvQ rfl rfl rfl K)
    · have h2 : ¬ x0 = 3 := h
      rw [if_neg h2] at hE
      by_cases h : x0 = 4
      · have h3 : x0 = 4 := h
        rw [if_pos h3] at hE
        refine w_k h3 ?_
        refine w_n 1 (pc1 := 52) (ls1 := [some (.int x0), some (.int x1), some (.int x2)]) (st1 := []) (hp1 := (hz F A L)) rfl ?_
        refine w_n 3 (pc1 := 55) (ls1 := [some (.int x0), some (.int x1), some (.int x2)]) (st1 := [.int (x1 * x2)]) (hp1 := (hz F A L)) rfl ?_
        subst T
        exact w_ri rfl (cvQ rfl rfl rfl K)
      · have h3 : ¬ x0 = 4 := h
        rw [if_neg h3] at hE
        by_cases h : x0 = 5
        · have h4 : x0 = 5 := h
          rw [if_pos h4] at hE
          refine w_k h4 ?_
          refine w_n 1 (pc1 := 56) (ls1 := [some (.int x0), some (.int x1), some (.int x2)]) (st1 := []) (hp1 := (hz F A L)) rfl ?_
          refine w_n 2 (pc1 := 58) (ls1 := [some (.int x0), some (.int x1), some (.int x2)]) (st1 := [.int x2, .int x1]) (hp1 := (hz F A L)) rfl ?_
          refine w_dv rfl rfl (fun _ => ?_)
          subst T
          exact w_ri rfl (cvQ rfl rfl rfl K)
        · have h4 : ¬ x0 = 5 := h
          rw [if_neg h4] at hE
          by_cases h : x0 = 6
          · have h5 : x0 = 6 := h
            rw [if_pos h5] at hE
            refine w_k h5 ?_
            refine w_n 1 (pc1 := 60) (ls1 := [some (.int x0), some (.int x1), some (.int x2)]) (st1 := []) (hp1 := (hz F A L)) rfl ?_
            refine w_n 2 (pc1 := 62) (ls1 := [some (.int x0), some (.int x1), some (.int x2)]) (st1 := [.int x2, .int x1]) (hp1 := (hz F A L)) rfl ?_
            refine w_rm rfl rfl (fun _ => ?_)
            subst T
            exact w_ri rfl (cvQ rfl rfl rfl K)
          · have h5 : ¬ x0 = 6 := h
            rw [if_neg h5] at hE
            by_cases h : x0 = 7
            · have h6 : x0 = 7 := h
              rw [if_pos h6] at hE
              refine w_k h6 ?_
              refine w_n 1 (pc1 := 64) (ls1 := [some (.int x0), some (.int x1), some (.int x2)]) (st1 := []) (hp1 := (hz F A L)) rfl ?_
              refine w_n 2 (pc1 := 66) (ls1 := [some (.int x0), some (.int x1), some (.int x2)]) (st1 := [.int x2, .int x1]) (hp1 := (hz F A L)) rfl ?_
              refine w_ge (p3 := 69) rfl rfl (fun h => ?_) (fun h => ?_)
              · have h7 : x2.toInt ≤ x1.toInt := h
                rw [if_neg (Int.not_lt.mpr h7)] at hE
                refine w_n 1 (pc1 := 74) (ls1 := [some (.int x0), some (.int x1), some (.int x2)]) (st1 := [.int 0]) (hp1 := (hz F A L)) rfl ?_
                subst T
                exact w_ri rfl (cvQ rfl rfl rfl K)
              · have h7 : x1.toInt < x2.toInt := h
                rw [if_pos h7] at hE
                refine w_n 2 (pc1 := 74) (ls1 := [some (.int x0), some (.int x1), some (.int x2)]) (st1 := [.int 1]) (hp1 := (hz F A L)) rfl ?_
                subst T
                exact w_ri rfl (cvQ rfl rfl rfl K)
            · have h6 : ¬ x0 = 7 := h
              rw [if_neg h6] at hE
              by_cases h : x0 = 8
              · have h8 : x0 = 8 := h
                rw [if_pos h8] at hE
                refine w_k h8 ?_
                refine w_n 1 (pc1 := 75) (ls1 := [some (.int x0), some (.int x1), some (.int x2)]) (st1 := []) (hp1 := (hz F A L)) rfl ?_
                refine w_n 2 (pc1 := 77) (ls1 := [some (.int x0), some (.int x1), some (.int x2)]) (st1 := [.int x2, .int x1]) (hp1 := (hz F A L)) rfl ?_
                refine w_le (p3 := 80) rfl rfl (fun h => ?_) (fun h => ?_)
                · have h9 : x1.toInt ≤ x2.toInt := h
                  rw [if_neg (Int.not_lt.mpr h9)] at hE
                  refine w_n 1 (pc1 := 85) (ls1 := [some (.int x0), some (.int x1), some (.int x2)]) (st1 := [.int 0]) (hp1 := (hz F A L)) rfl ?_
                  subst T
                  exact w_ri rfl (cvQ rfl rfl rfl K)
                · have h9 : x2.toInt < x1.toInt := h
                  rw [if_pos h9] at hE
                  refine w_n 2 (pc1 := 85) (ls1 := [some (.int x0), some (.int x1), some (.int x2)]) (st1 := [.int 1]) (hp1 := (hz F A L)) rfl ?_
                  subst T
                  exact w_ri rfl (cvQ rfl rfl rfl K)
              · have h8 : ¬ x0 = 8 := h
                rw [if_neg h8] at hE
                have n0 : ¬ x0.toInt = 2 := fun z => h1 (Int32.toInt_inj.mp (show _ = (2 : Int32).toInt from z))
                have n1 : ¬ x0.toInt = 3 := fun z => h2 (Int32.toInt_inj.mp (show _ = (3 : Int32).toInt from z))
                have n2 : ¬ x0.toInt = 4 := fun z => h3 (Int32.toInt_inj.mp (show _ = (4 : Int32).toInt from z))
                have n3 : ¬ x0.toInt = 5 := fun z => h4 (Int32.toInt_inj.mp (show _ = (5 : Int32).toInt from z))
                have n4 : ¬ x0.toInt = 6 := fun z => h5 (Int32.toInt_inj.mp (show _ = (6 : Int32).toInt from z))
                have n5 : ¬ x0.toInt = 7 := fun z => h6 (Int32.toInt_inj.mp (show _ = (7 : Int32).toInt from z))
                have n6 : ¬ x0.toInt = 8 := fun z => h8 (Int32.toInt_inj.mp (show _ = (8 : Int32).toInt from z))
                refine w_tsw rfl (by omega) (p1 := 86) (by decide) (by decide) ?_
                refine w_n 2 (pc1 := 88) (ls1 := [some (.int x0), some (.int x1), some (.int x2)]) (st1 := [.int x2, .int x1]) (hp1 := (hz F A L)) rfl ?_
                refine w_ne (p3 := 91) rfl rfl (fun h => ?_) (fun h => ?_)
                · have h10 : ¬ x1 = x2 := h
                  rw [if_neg h10] at hE
                  refine w_n 1 (pc1 := 96) (ls1 := [some (.int x0), some (.int x1), some (.int x2)]) (st1 := [.int 0]) (hp1 := (hz F A L)) rfl ?_
                  subst T
                  exact w_ri rfl (cvQ rfl rfl rfl K)
                · have h10 : x1 = x2 := h
                  rw [if_pos h10] at hE
                  refine w_n 2 (pc1 := 96) (ls1 := [some (.int x0), some (.int x1), some (.int x2)]) (st1 := [.int 1]) (hp1 := (hz F A L)) rfl ?_
                  subst T
                  exact w_ri rfl (cvQ rfl rfl rfl K)
noncomputable def km_comesTo_16 (a78 : List Int32) (a84 : List Int32) (x2 : Int32) (x4 : Int32) : Nat → Int32 → Int32 → List Int32 → Int32 × List Int32
  | 0, _, _, a83 => (0, a83)
  | m + 1, y3, y5, a83 => (if y5.toInt < x2.toInt then (if ((a78.getD y5.toInt.toNat 0) / 1048576) = 0 then (km_comesTo_16 a78 a84 x2 x4 m (y3 + 1) (y5 + 1) (a83.set y3.toInt.toNat ((a78.getD y5.toInt.toNat 0) - (a78.getD y5.toInt.toNat 0) / 1048576 * 1048576))) else (if ((a78.getD y5.toInt.toNat 0) / 1048576) = 1 then (km_comesTo_16 a78 a84 x2 x4 m (y3 + 1) (y5 + 1) (a83.set y3.toInt.toNat (a84.getD ((a78.getD y5.toInt.toNat 0) - (a78.getD y5.toInt.toNat 0) / 1048576 * 1048576).toInt.toNat 0))) else (if ((a78.getD y5.toInt.toNat 0) / 1048576) = 10 then (km_comesTo_16 a78 a84 x2 x4 m y3 (y5 + 1) (a83.set (y3 - 1).toInt.toNat (1 - (a83.getD (y3 - 1).toInt.toNat 0)))) else (if ((a78.getD y5.toInt.toNat 0) / 1048576) = 11 then (if ((a78.getD y5.toInt.toNat 0) / 1048576) = 12 then (if (a83.getD (y3 - 1).toInt.toNat 0) = 1 then (km_comesTo_16 a78 a84 x2 x4 m y3 (x4 + ((a78.getD y5.toInt.toNat 0) - (a78.getD y5.toInt.toNat 0) / 1048576 * 1048576)) a83) else (km_comesTo_16 a78 a84 x2 x4 m (y3 - 1) (y5 + 1) a83)) else (if (a83.getD (y3 - 1).toInt.toNat 0) = 0 then (km_comesTo_16 a78 a84 x2 x4 m y3 (x4 + ((a78.getD y5.toInt.toNat 0) - (a78.getD y5.toInt.toNat 0) / 1048576 * 1048576)) a83) else (km_comesTo_16 a78 a84 x2 x4 m (y3 - 1) (y5 + 1) a83))) else (if ((a78.getD y5.toInt.toNat 0) / 1048576) = 12 then (if (a83.getD (y3 - 1).toInt.toNat 0) = 1 then (km_comesTo_16 a78 a84 x2 x4 m y3 (x4 + ((a78.getD y5.toInt.toNat 0) - (a78.getD y5.toInt.toNat 0) / 1048576 * 1048576)) a83) else (km_comesTo_16 a78 a84 x2 x4 m (y3 - 1) (y5 + 1) a83)) else (if ((a78.getD y5.toInt.toNat 0) / 1048576) = 5 then (if (a83.getD (y3 - 1).toInt.toNat 0) = 0 then (0, a83) else (km_comesTo_16 a78 a84 x2 x4 m (y3 - 1) (y5 + 1) (a83.set ((y3 - 1) - 1).toInt.toNat (km_reckon ((a78.getD y5.toInt.toNat 0) / 1048576) (a83.getD ((y3 - 1) - 1).toInt.toNat 0) (a83.getD (y3 - 1).toInt.toNat 0))))) else (if ((a78.getD y5.toInt.toNat 0) / 1048576) = 6 then (if (a83.getD (y3 - 1).toInt.toNat 0) = 0 then (0, a83) else (km_comesTo_16 a78 a84 x2 x4 m (y3 - 1) (y5 + 1) (a83.set ((y3 - 1) - 1).toInt.toNat (km_reckon ((a78.getD y5.toInt.toNat 0) / 1048576) (a83.getD ((y3 - 1) - 1).toInt.toNat 0) (a83.getD (y3 - 1).toInt.toNat 0))))) else (km_comesTo_16 a78 a84 x2 x4 m (y3 - 1) (y5 + 1) (a83.set ((y3 - 1) - 1).toInt.toNat (km_reckon ((a78.getD y5.toInt.toNat 0) / 1048576) (a83.getD ((y3 - 1) - 1).toInt.toNat 0) (a83.getD (y3 - 1).toInt.toNat 0))))))))))) else ((a83.getD 0 0), a83))
theorem t_km_comesTo_16 {f : Nat} {Q : Option Value → sm_H → Prop} : ∀ (m : Nat) (B : Nat) {D : Nat} {F : Nat → Nat → Int32} {A : Nat → List Int32} {L : Nat → List Int64} {x1 : Int32} {x2 : Int32} {y3 : Int32} {x4 : Int32} {y5 : Int32} {o6 : Option Value} {o7 : Option Value}, B ≤ m → (Q (some (.int ((km_comesTo_16 (A 78) (A 84) x2 x4 m y3 y5 (A 83)).1))) (hz F (uA A 83 ((km_comesTo_16 (A 78) (A 84) x2 x4 m y3 y5 (A 83)).2)) L)) → wl_E f B D mm181.2.2.2.2.2.2.2.2 16 [some (.ref 67), some (.int x1), some (.int x2), some (.int y3), some (.int x4), some (.int y5), o6, o7] [] (hz F A L) Q := by
  intro m
  induction m with
  | zero =>
    intro B D F A L x1 x2 y3 x4 y5 o6 o7 hm K
    rw [show B = 0 by omega]
    exact w_0
  | succ m ih =>
    intro B D F A L x1 x2 y3 x4 y5 o6 o7 hm K
    cases B with
    | zero => exact w_0
    | succ B =>
      generalize hT : (km_comesTo_16 (A 78) (A 84) x2 x4 (m + 1) y3 y5 (A 83)) = T at K
      have hE : T = (if y5.toInt < x2.toInt then (if (((A 78).getD y5.toInt.toNat 0) / 1048576) = 0 then (km_comesTo_16 (A 78) (A 84) x2 x4 m (y3 + 1) (y5 + 1) ((A 83).set y3.toInt.toNat (((A 78).getD y5.toInt.toNat 0) - ((A 78).getD y5.toInt.toNat 0) / 1048576 * 1048576))) else (if (((A 78).getD y5.toInt.toNat 0) / 1048576) = 1 then (km_comesTo_16 (A 78) (A 84) x2 x4 m (y3 + 1) (y5 + 1) ((A 83).set y3.toInt.toNat ((A 84).getD (((A 78).getD y5.toInt.toNat 0) - ((A 78).getD y5.toInt.toNat 0) / 1048576 * 1048576).toInt.toNat 0))) else (if (((A 78).getD y5.toInt.toNat 0) / 1048576) = 10 then (km_comesTo_16 (A 78) (A 84) x2 x4 m y3 (y5 + 1) ((A 83).set (y3 - 1).toInt.toNat (1 - ((A 83).getD (y3 - 1).toInt.toNat 0)))) else (if (((A 78).getD y5.toInt.toNat 0) / 1048576) = 11 then (if (((A 78).getD y5.toInt.toNat 0) / 1048576) = 12 then (if ((A 83).getD (y3 - 1).toInt.toNat 0) = 1 then (km_comesTo_16 (A 78) (A 84) x2 x4 m y3 (x4 + (((A 78).getD y5.toInt.toNat 0) - ((A 78).getD y5.toInt.toNat 0) / 1048576 * 1048576)) (A 83)) else (km_comesTo_16 (A 78) (A 84) x2 x4 m (y3 - 1) (y5 + 1) (A 83))) else (if ((A 83).getD (y3 - 1).toInt.toNat 0) = 0 then (km_comesTo_16 (A 78) (A 84) x2 x4 m y3 (x4 + (((A 78).getD y5.toInt.toNat 0) - ((A 78).getD y5.toInt.toNat 0) / 1048576 * 1048576)) (A 83)) else (km_comesTo_16 (A 78) (A 84) x2 x4 m (y3 - 1) (y5 + 1) (A 83)))) else (if (((A 78).getD y5.toInt.toNat 0) / 1048576) = 12 then (if ((A 83).getD (y3 - 1).toInt.toNat 0) = 1 then (km_comesTo_16 (A 78) (A 84) x2 x4 m y3 (x4 + (((A 78).getD y5.toInt.toNat 0) - ((A 78).getD y5.toInt.toNat 0) / 1048576 * 1048576)) (A 83)) else (km_comesTo_16 (A 78) (A 84) x2 x4 m (y3 - 1) (y5 + 1) (A 83))) else (if (((A 78).getD y5.toInt.toNat 0) / 1048576) = 5 then (if ((A 83).getD (y3 - 1).toInt.toNat 0) = 0 then (0, (A 83)) else (km_comesTo_16 (A 78) (A 84) x2 x4 m (y3 - 1) (y5 + 1) ((A 83).set ((y3 - 1) - 1).toInt.toNat (km_reckon (((A 78).getD y5.toInt.toNat 0) / 1048576) ((A 83).getD ((y3 - 1) - 1).toInt.toNat 0) ((A 83).getD (y3 - 1).toInt.toNat 0))))) else (if (((A 78).getD y5.toInt.toNat 0) / 1048576) = 6 then (if ((A 83).getD (y3 - 1).toInt.toNat 0) = 0 then (0, (A 83)) else (km_comesTo_16 (A 78) (A 84) x2 x4 m (y3 - 1) (y5 + 1) ((A 83).set ((y3 - 1) - 1).toInt.toNat (km_reckon (((A 78).getD y5.toInt.toNat 0) / 1048576) ((A 83).getD ((y3 - 1) - 1).toInt.toNat 0) ((A 83).getD (y3 - 1).toInt.toNat 0))))) else (km_comesTo_16 (A 78) (A 84) x2 x4 m (y3 - 1) (y5 + 1) ((A 83).set ((y3 - 1) - 1).toInt.toNat (km_reckon (((A 78).getD y5.toInt.toNat 0) / 1048576) ((A 83).getD ((y3 - 1) - 1).toInt.toNat 0) ((A 83).getD (y3 - 1).toInt.toNat 0))))))))))) else (((A 83).getD 0 0), (A 83))) := hT.symm
      clear hT
      refine w_n1 (pc1 := 18) (ls1 := [some (.ref 67), some (.int x1), some (.int x2), some (.int y3), some (.int x4), some (.int y5), o6, o7]) (st1 := [.int y5]) (hp1 := (hz F A L)) rfl ?_
      refine w_n 1 (pc1 := 19) (ls1 := [some (.ref 67), some (.int x1), some (.int x2), some (.int y3), some (.int x4), some (.int y5), o6, o7]) (st1 := [.int x2, .int y5]) (hp1 := (hz F A L)) rfl ?_
      refine w_ge (p3 := 22) rfl rfl (fun h => ?_) (fun h => ?_)
      · have h1 : x2.toInt ≤ y5.toInt := h
        rw [if_neg (Int.not_lt.mpr h1)] at hE
        refine w_n 3 (pc1 := 238) (ls1 := [some (.ref 67), some (.int x1), some (.int x2), some (.int y3), some (.int x4), some (.int y5), o6, o7]) (st1 := [.int 0, .ref 83]) (hp1 := (hz F A L)) rfl ?_
        refine w_al (k := 83) (l := (A 83)) rfl rfl rfl (fun _ => ?_)
        subst T
        exact w_ri rfl (cvQ rfl (funext fun q => if k0 : q = 83 then by subst k0; exact Eq.trans (b := (A 83)) rfl rfl else by unfold uA; simp only [nb1 k0, cond_false]) rfl K)
      · have h1 : y5.toInt < x2.toInt := h
        rw [if_pos h1] at hE
        refine w_n 3 (pc1 := 28) (ls1 := [some (.ref 67), some (.int x1), some (.int x2), some (.int y3), some (.int x4), some (.int y5), o6, o7]) (st1 := [.int y5, .ref 78]) (hp1 := (hz F A L)) rfl ?_
        refine w_al (k := 78) (l := (A 78)) rfl rfl rfl (fun _ => ?_)
        refine w_n 1 (pc1 := 31) (ls1 := [some (.ref 67), some (.int x1), some (.int x2), some (.int y3), some (.int x4), some (.int y5), o6, o7]) (st1 := [.int 1048576, .int ((A 78).getD y5.toInt.toNat 0)]) (hp1 := (hz F A L)) rfl ?_
        refine w_dv rfl rfl (fun _ => ?_)
        refine w_n 4 (pc1 := 40) (ls1 := [some (.ref 67), some (.int x1), some (.int x2), some (.int y3), some (.int x4), some (.int y5), some (.int (((A 78).getD y5.toInt.toNat 0) / 1048576)), o7]) (st1 := [.int y5, .ref 78]) (hp1 := (hz F A L)) rfl ?_
        refine w_al (k := 78) (l := (A 78)) rfl rfl rfl (fun _ => ?_)
        refine w_n 1 (pc1 := 43) (ls1 := [some (.ref 67), some (.int x1), some (.int x2), some (.int y3), some (.int x4), some (.int y5), some (.int (((A 78).getD y5.toInt.toNat 0) / 1048576)), o7]) (st1 := [.int 1048576, .int ((A 78).getD y5.toInt.toNat 0)]) (hp1 := (hz F A L)) rfl ?_
        refine w_rm rfl rfl (fun _ => ?_)
        refine w_n 6 (pc1 := 54) (ls1 := [some (.ref 67), some (.int x1), some (.int x2), some (.int y3), some (.int x4), some (.int (y5 + 1)), some (.int (((A 78).getD y5.toInt.toNat 0) / 1048576)), some (.int (((A 78).getD y5.toInt.toNat 0) - ((A 78).getD y5.toInt.toNat 0) / 1048576 * 1048576))]) (st1 := [.int (((A 78).getD y5.toInt.toNat 0) / 1048576)]) (hp1 := (hz F A L)) rfl ?_
        refine w_zeq (p3 := 57) rfl rfl (fun h => ?_) (fun h => ?_)
        · have h2 : (((A 78).getD y5.toInt.toNat 0) / 1048576) = 0 := h
          rw [if_pos h2] at hE
          refine w_n 4 (pc1 := 70) (ls1 := [some (.ref 67), some (.int x1), some (.int x2), some (.int y3), some (.int x4), some (.int (y5 + 1)), some (.int (((A 78).getD y5.toInt.toNat 0) / 1048576)), some (.int (((A 78).getD y5.toInt.toNat 0) - ((A 78).getD y5.toInt.toNat 0) / 1048576 * 1048576))]) (st1 := [.int (((A 78).getD y5.toInt.toNat 0) / 1048576), .int y3, .ref 83]) (hp1 := (hz F A L)) rfl ?_
          refine w_zne (p3 := 73) rfl rfl (fun h => absurd h2 h) (fun _ => ?_)
          refine w_n 2 (pc1 := 85) (ls1 := [some (.ref 67), some (.int x1), some (.int x2), some (.int y3), some (.int x4), some (.int (y5 + 1)), some (.int (((A 78).getD y5.toInt.toNat 0) / 1048576)), some (.int (((A 78).getD y5.toInt.toNat 0) - ((A 78).getD y5.toInt.toNat 0) / 1048576 * 1048576))]) (st1 := [.int (((A 78).getD y5.toInt.toNat 0) - ((A 78).getD y5.toInt.toNat 0) / 1048576 * 1048576), .int y3, .ref 83]) (hp1 := (hz F A L)) rfl ?_
          refine w_as (k := 83) (l := (A 83)) (hp1 := (hz F (uA A 83 ((A 83).set y3.toInt.toNat (((A 78).getD y5.toInt.toNat 0) - ((A 78).getD y5.toInt.toNat 0) / 1048576 * 1048576))) L)) rfl rfl rfl (hz_s83 _) (fun _ => ?_)
          refine w_n 6 (pc1 := 16) (ls1 := [some (.ref 67), some (.int x1), some (.int x2), some (.int (y3 + 1)), some (.int x4), some (.int (y5 + 1)), some (.int (((A 78).getD y5.toInt.toNat 0) / 1048576)), some (.int (((A 78).getD y5.toInt.toNat 0) - ((A 78).getD y5.toInt.toNat 0) / 1048576 * 1048576))]) (st1 := []) (hp1 := (hz F (uA A 83 ((A 83).set y3.toInt.toNat (((A 78).getD y5.toInt.toNat 0) - ((A 78).getD y5.toInt.toNat 0) / 1048576 * 1048576))) L)) rfl ?_
          subst T
          exact ih _ (by omega) (cvQ rfl (funext fun q => if k0 : q = 83 then by subst k0; exact Eq.trans (b := (km_comesTo_16 (A 78) (A 84) x2 x4 m (y3 + 1) (y5 + 1) ((A 83).set y3.toInt.toNat (((A 78).getD y5.toInt.toNat 0) - ((A 78).getD y5.toInt.toNat 0) / 1048576 * 1048576))).2) rfl rfl else by unfold uA; simp only [nb1 k0, cond_false]) rfl K)
        · have h2 : ¬ (((A 78).getD y5.toInt.toNat 0) / 1048576) = 0 := h
          rw [if_neg h2] at hE
          refine w_n 2 (pc1 := 60) (ls1 := [some (.ref 67), some (.int x1), some (.int x2), some (.int y3), some (.int x4), some (.int (y5 + 1)), some (.int (((A 78).getD y5.toInt.toNat 0) / 1048576)), some (.int (((A 78).getD y5.toInt.toNat 0) - ((A 78).getD y5.toInt.toNat 0) / 1048576 * 1048576))]) (st1 := [.int 1, .int (((A 78).getD y5.toInt.toNat 0) / 1048576)]) (hp1 := (hz F A L)) rfl ?_
          refine w_ne (p3 := 63) rfl rfl (fun h => ?_) (fun h => ?_)
          · have h3 : ¬ (((A 78).getD y5.toInt.toNat 0) / 1048576) = 1 := h
            rw [if_neg h3] at hE
            refine w_n 2 (pc1 := 97) (ls1 := [some (.ref 67), some (.int x1), some (.int x2), some (.int y3), some (.int x4), some (.int (y5 + 1)), some (.int (((A 78).getD y5.toInt.toNat 0) / 1048576)), some (.int (((A 78).getD y5.toInt.toNat 0) - ((A 78).getD y5.toInt.toNat 0) / 1048576 * 1048576))]) (st1 := [.int 10, .int (((A 78).getD y5.toInt.toNat 0) / 1048576)]) (hp1 := (hz F A L)) rfl ?_
            refine w_ne (p3 := 100) rfl rfl (fun h => ?_) (fun h => ?_)
            · have h4 : ¬ (((A 78).getD y5.toInt.toNat 0) / 1048576) = 10 := h
              rw [if_neg h4] at hE
              refine w_n 2 (pc1 := 125) (ls1 := [some (.ref 67), some (.int x1), some (.int x2), some (.int y3), some (.int x4), some (.int (y5 + 1)), some (.int (((A 78).getD y5.toInt.toNat 0) / 1048576)), some (.int (((A 78).getD y5.toInt.toNat 0) - ((A 78).getD y5.toInt.toNat 0) / 1048576 * 1048576))]) (st1 := [.int 11, .int (((A 78).getD y5.toInt.toNat 0) / 1048576)]) (hp1 := (hz F A L)) rfl ?_
              refine w_eq (p3 := 128) rfl rfl (fun h => ?_) (fun h => ?_)
              · have h5 : (((A 78).getD y5.toInt.toNat 0) / 1048576) = 11 := h
                rw [if_pos h5] at hE
                refine w_n 5 (pc1 := 142) (ls1 := [some (.ref 67), some (.int x1), some (.int x2), some (.int y3), some (.int x4), some (.int (y5 + 1)), some (.int (((A 78).getD y5.toInt.toNat 0) / 1048576)), some (.int (((A 78).getD y5.toInt.toNat 0) - ((A 78).getD y5.toInt.toNat 0) / 1048576 * 1048576))]) (st1 := [.int (y3 - 1), .ref 83]) (hp1 := (hz F A L)) rfl ?_
                refine w_al (k := 83) (l := (A 83)) rfl rfl rfl (fun _ => ?_)
                refine w_n 2 (pc1 := 147) (ls1 := [some (.ref 67), some (.int x1), some (.int x2), some (.int y3), some (.int x4), some (.int (y5 + 1)), some (.int (((A 78).getD y5.toInt.toNat 0) / 1048576)), some (.int (((A 78).getD y5.toInt.toNat 0) - ((A 78).getD y5.toInt.toNat 0) / 1048576 * 1048576))]) (st1 := [.int 12, .int (((A 78).getD y5.toInt.toNat 0) / 1048576), .int ((A 83).getD (y3 - 1).toInt.toNat 0)]) (hp1 := (hz F A L)) rfl ?_
                refine w_ne (p3 := 150) rfl rfl (fun h => ?_) (fun h => ?_)
                · have h6 : ¬ (((A 78).getD y5.toInt.toNat 0) / 1048576) = 12 := h
                  rw [if_neg h6] at hE
                  refine w_n 1 (pc1 := 155) (ls1 := [some (.ref 67), some (.int x1), some (.int x2), some (.int y3), some (.int x4), some (.int (y5 + 1)), some (.int (((A 78).getD y5.toInt.toNat 0) / 1048576)), some (.int (((A 78).getD y5.toInt.toNat 0) - ((A 78).getD y5.toInt.toNat 0) / 1048576 * 1048576))]) (st1 := [.int 0, .int ((A 83).getD (y3 - 1).toInt.toNat 0)]) (hp1 := (hz F A L)) rfl ?_
                  refine w_ne (p3 := 158) rfl rfl (fun h => ?_) (fun h => ?_)
                  · have h7 : ¬ ((A 83).getD (y3 - 1).toInt.toNat 0) = 0 := h
                    rw [if_neg h7] at hE
                    refine w_n 6 (pc1 := 16) (ls1 := [some (.ref 67), some (.int x1), some (.int x2), some (.int (y3 - 1)), some (.int x4), some (.int (y5 + 1)), some (.int (((A 78).getD y5.toInt.toNat 0) / 1048576)), some (.int (((A 78).getD y5.toInt.toNat 0) - ((A 78).getD y5.toInt.toNat 0) / 1048576 * 1048576))]) (st1 := []) (hp1 := (hz F A L)) rfl ?_
                    subst T
                    exact ih _ (by omega) (cvQ rfl (funext fun q => if k0 : q = 83 then by subst k0; exact Eq.trans (b := (km_comesTo_16 (A 78) (A 84) x2 x4 m (y3 - 1) (y5 + 1) (A 83)).2) rfl rfl else by unfold uA; simp only [nb1 k0, cond_false]) rfl K)
                  · have h7 : ((A 83).getD (y3 - 1).toInt.toNat 0) = 0 := h
                    rw [if_pos h7] at hE
                    refine w_n 6 (pc1 := 16) (ls1 := [some (.ref 67), some (.int x1), some (.int x2), some (.int y3), some (.int x4), some (.int (x4 + (((A 78).getD y5.toInt.toNat 0) - ((A 78).getD y5.toInt.toNat 0) / 1048576 * 1048576))), some (.int (((A 78).getD y5.toInt.toNat 0) / 1048576)), some (.int (((A 78).getD y5.toInt.toNat 0) - ((A 78).getD y5.toInt.toNat 0) / 1048576 * 1048576))]) (st1 := []) (hp1 := (hz F A L)) rfl ?_
                    subst T
                    exact ih _ (by omega) (cvQ rfl (funext fun q => if k0 : q = 83 then by subst k0; exact Eq.trans (b := (km_comesTo_16 (A 78) (A 84) x2 x4 m y3 (x4 + (((A 78).getD y5.toInt.toNat 0) - ((A 78).getD y5.toInt.toNat 0) / 1048576 * 1048576)) (A 83)).2) rfl rfl else by unfold uA; simp only [nb1 k0, cond_false]) rfl K)
                · have h6 : (((A 78).getD y5.toInt.toNat 0) / 1048576) = 12 := h
                  rw [if_pos h6] at hE
                  refine w_n 2 (pc1 := 155) (ls1 := [some (.ref 67), some (.int x1), some (.int x2), some (.int y3), some (.int x4), some (.int (y5 + 1)), some (.int (((A 78).getD y5.toInt.toNat 0) / 1048576)), some (.int (((A 78).getD y5.toInt.toNat 0) - ((A 78).getD y5.toInt.toNat 0) / 1048576 * 1048576))]) (st1 := [.int 1, .int ((A 83).getD (y3 - 1).toInt.toNat 0)]) (hp1 := (hz F A L)) rfl ?_
                  refine w_ne (p3 := 158) rfl rfl (fun h => ?_) (fun h => ?_)
                  · have h8 : ¬ ((A 83).getD (y3 - 1).toInt.toNat 0) = 1 := h
                    rw [if_neg h8] at hE
                    refine w_n 6 (pc1 := 16) (ls1 := [some (.ref 67), some (.int x1), some (.int x2), some (.int (y3 - 1)), some (.int x4), some (.int (y5 + 1)), some (.int (((A 78).getD y5.toInt.toNat 0) / 1048576)), some (.int (((A 78).getD y5.toInt.toNat 0) - ((A 78).getD y5.toInt.toNat 0) / 1048576 * 1048576))]) (st1 := []) (hp1 := (hz F A L)) rfl ?_
                    subst T
                    exact ih _ (by omega) (cvQ rfl (funext fun q => if k0 : q = 83 then by subst k0; exact Eq.trans (b := (km_comesTo_16 (A 78) (A 84) x2 x4 m (y3 - 1) (y5 + 1) (A 83)).2) rfl rfl else by unfold uA; simp only [nb1 k0, cond_false]) rfl K)
                  · have h8 : ((A 83).getD (y3 - 1).toInt.toNat 0) = 1 := h
                    rw [if_pos h8] at hE
                    refine w_n 6 (pc1 := 16) (ls1 := [some (.ref 67), some (.int x1), some (.int x2), some (.int y3), some (.int x4), some (.int (x4 + (((A 78).getD y5.toInt.toNat 0) - ((A 78).getD y5.toInt.toNat 0) / 1048576 * 1048576))), some (.int (((A 78).getD y5.toInt.toNat 0) / 1048576)), some (.int (((A 78).getD y5.toInt.toNat 0) - ((A 78).getD y5.toInt.toNat 0) / 1048576 * 1048576))]) (st1 := []) (hp1 := (hz F A L)) rfl ?_
                    subst T
                    exact ih _ (by omega) (cvQ rfl (funext fun q => if k0 : q = 83 then by subst k0; exact Eq.trans (b := (km_comesTo_16 (A 78) (A 84) x2 x4 m y3 (x4 + (((A 78).getD y5.toInt.toNat 0) - ((A 78).getD y5.toInt.toNat 0) / 1048576 * 1048576)) (A 83)).2) rfl rfl else by unfold uA; simp only [nb1 k0, cond_false]) rfl K)
              · have h5 : ¬ (((A 78).getD y5.toInt.toNat 0) / 1048576) = 11 := h
                rw [if_neg h5] at hE
                refine w_n 2 (pc1 := 132) (ls1 := [some (.ref 67), some (.int x1), some (.int x2), some (.int y3), some (.int x4), some (.int (y5 + 1)), some (.int (((A 78).getD y5.toInt.toNat 0) / 1048576)), some (.int (((A 78).getD y5.toInt.toNat 0) - ((A 78).getD y5.toInt.toNat 0) / 1048576 * 1048576))]) (st1 := [.int 12, .int (((A 78).getD y5.toInt.toNat 0) / 1048576)]) (hp1 := (hz F A L)) rfl ?_
                refine w_ne (p3 := 135) rfl rfl (fun h => ?_) (fun h => ?_)
                · have h9 : ¬ (((A 78).getD y5.toInt.toNat 0) / 1048576) = 12 := h
                  rw [if_neg h9] at hE
                  refine w_n 6 (pc1 := 182) (ls1 := [some (.ref 67), some (.int x1), some (.int x2), some (.int (y3 - 1)), some (.int x4), some (.int (y5 + 1)), some (.int (((A 78).getD y5.toInt.toNat 0) / 1048576)), some (.int (((A 78).getD y5.toInt.toNat 0) - ((A 78).getD y5.toInt.toNat 0) / 1048576 * 1048576))]) (st1 := [.int 5, .int (((A 78).getD y5.toInt.toNat 0) / 1048576)]) (hp1 := (hz F A L)) rfl ?_
                  refine w_eq (p3 := 185) rfl rfl (fun h => ?_) (fun h => ?_)
                  · have h10 : (((A 78).getD y5.toInt.toNat 0) / 1048576) = 5 := h
                    rw [if_pos h10] at hE
                    refine w_n 3 (pc1 := 197) (ls1 := [some (.ref 67), some (.int x1), some (.int x2), some (.int (y3 - 1)), some (.int x4), some (.int (y5 + 1)), some (.int (((A 78).getD y5.toInt.toNat 0) / 1048576)), some (.int (((A 78).getD y5.toInt.toNat 0) - ((A 78).getD y5.toInt.toNat 0) / 1048576 * 1048576))]) (st1 := [.int (y3 - 1), .ref 83]) (hp1 := (hz F A L)) rfl ?_
                    refine w_al (k := 83) (l := (A 83)) rfl rfl rfl (fun _ => ?_)
                    refine w_zne (p3 := 201) rfl rfl (fun h => ?_) (fun h => ?_)
                    · have h11 : ¬ ((A 83).getD (y3 - 1).toInt.toNat 0) = 0 := h
                      rw [if_neg h11] at hE
                      refine w_n 11 (pc1 := 219) (ls1 := [some (.ref 67), some (.int x1), some (.int x2), some (.int (y3 - 1)), some (.int x4), some (.int (y5 + 1)), some (.int (((A 78).getD y5.toInt.toNat 0) / 1048576)), some (.int (((A 78).getD y5.toInt.toNat 0) - ((A 78).getD y5.toInt.toNat 0) / 1048576 * 1048576))]) (st1 := [.int ((y3 - 1) - 1), .ref 83, .int (((A 78).getD y5.toInt.toNat 0) / 1048576), .int ((y3 - 1) - 1), .ref 83]) (hp1 := (hz F A L)) rfl ?_
                      refine w_al (k := 83) (l := (A 83)) rfl rfl rfl (fun _ => ?_)
                      refine w_n 3 (pc1 := 225) (ls1 := [some (.ref 67), some (.int x1), some (.int x2), some (.int (y3 - 1)), some (.int x4), some (.int (y5 + 1)), some (.int (((A 78).getD y5.toInt.toNat 0) / 1048576)), some (.int (((A 78).getD y5.toInt.toNat 0) - ((A 78).getD y5.toInt.toNat 0) / 1048576 * 1048576))]) (st1 := [.int (y3 - 1), .ref 83, .int ((A 83).getD ((y3 - 1) - 1).toInt.toNat 0), .int (((A 78).getD y5.toInt.toNat 0) / 1048576), .int ((y3 - 1) - 1), .ref 83]) (hp1 := (hz F A L)) rfl ?_
                      refine w_al (k := 83) (l := (A 83)) rfl rfl rfl (fun _ => ?_)
                      refine w_c rfl rfl (t_km_reckon ?_)
                      show wl_E f _ _ mm181.2.2.2.2.2.2.2.2 229 [some (.ref 67), some (.int x1), some (.int x2), some (.int (y3 - 1)), some (.int x4), some (.int (y5 + 1)), some (.int (((A 78).getD y5.toInt.toNat 0) / 1048576)), some (.int (((A 78).getD y5.toInt.toNat 0) - ((A 78).getD y5.toInt.toNat 0) / 1048576 * 1048576))] [.int (km_reckon (((A 78).getD y5.toInt.toNat 0) / 1048576) ((A 83).getD ((y3 - 1) - 1).toInt.toNat 0) ((A 83).getD (y3 - 1).toInt.toNat 0)), .int ((y3 - 1) - 1), .ref 83] (hz F A L) _
                      generalize hG161 : (km_reckon (((A 78).getD y5.toInt.toNat 0) / 1048576) ((A 83).getD ((y3 - 1) - 1).toInt.toNat 0) ((A 83).getD (y3 - 1).toInt.toNat 0)) = G161 at hE ⊢
                      refine w_as (k := 83) (l := (A 83)) (hp1 := (hz F (uA A 83 ((A 83).set ((y3 - 1) - 1).toInt.toNat G161)) L)) rfl rfl rfl (hz_s83 _) (fun _ => ?_)
                      refine w_n 1 (pc1 := 16) (ls1 := [some (.ref 67), some (.int x1), some (.int x2), some (.int (y3 - 1)), some (.int x4), some (.int (y5 + 1)), some (.int (((A 78).getD y5.toInt.toNat 0) / 1048576)), some (.int (((A 78).getD y5.toInt.toNat 0) - ((A 78).getD y5.toInt.toNat 0) / 1048576 * 1048576))]) (st1 := []) (hp1 := (hz F (uA A 83 ((A 83).set ((y3 - 1) - 1).toInt.toNat G161)) L)) rfl ?_
                      subst T
                      exact ih _ (by omega) (cvQ rfl (funext fun q => if k0 : q = 83 then by subst k0; exact Eq.trans (b := (km_comesTo_16 (A 78) (A 84) x2 x4 m (y3 - 1) (y5 + 1) ((A 83).set ((y3 - 1) - 1).toInt.toNat G161)).2) rfl rfl else by unfold uA; simp only [nb1 k0, cond_false]) rfl K)
                    · have h11 : ((A 83).getD (y3 - 1).toInt.toNat 0) = 0 := h
                      rw [if_pos h11] at hE
                      refine w_n 1 (pc1 := 202) (ls1 := [some (.ref 67), some (.int x1), some (.int x2), some (.int (y3 - 1)), some (.int x4), some (.int (y5 + 1)), some (.int (((A 78).getD y5.toInt.toNat 0) / 1048576)), some (.int (((A 78).getD y5.toInt.toNat 0) - ((A 78).getD y5.toInt.toNat 0) / 1048576 * 1048576))]) (st1 := [.int 0]) (hp1 := (hz F A L)) rfl ?_
                      subst T
                      exact w_ri rfl (cvQ rfl (funext fun q => if k0 : q = 83 then by subst k0; exact Eq.trans (b := (A 83)) rfl rfl else by unfold uA; simp only [nb1 k0, cond_false]) rfl K)
                  · have h10 : ¬ (((A 78).getD y5.toInt.toNat 0) / 1048576) = 5 := h
                    rw [if_neg h10] at hE
                    refine w_n 2 (pc1 := 189) (ls1 := [some (.ref 67), some (.int x1), some (.int x2), some (.int (y3 - 1)), some (.int x4), some (.int (y5 + 1)), some (.int (((A 78).getD y5.toInt.toNat 0) / 1048576)), some (.int (((A 78).getD y5.toInt.toNat 0) - ((A 78).getD y5.toInt.toNat 0) / 1048576 * 1048576))]) (st1 := [.int 6, .int (((A 78).getD y5.toInt.toNat 0) / 1048576)]) (hp1 := (hz F A L)) rfl ?_
                    refine w_ne (p3 := 192) rfl rfl (fun h => ?_) (fun h => ?_)
                    · have h12 : ¬ (((A 78).getD y5.toInt.toNat 0) / 1048576) = 6 := h
                      rw [if_neg h12] at hE
                      refine w_n 11 (pc1 := 219) (ls1 := [some (.ref 67), some (.int x1), some (.int x2), some (.int (y3 - 1)), some (.int x4), some (.int (y5 + 1)), some (.int (((A 78).getD y5.toInt.toNat 0) / 1048576)), some (.int (((A 78).getD y5.toInt.toNat 0) - ((A 78).getD y5.toInt.toNat 0) / 1048576 * 1048576))]) (st1 := [.int ((y3 - 1) - 1), .ref 83, .int (((A 78).getD y5.toInt.toNat 0) / 1048576), .int ((y3 - 1) - 1), .ref 83]) (hp1 := (hz F A L)) rfl ?_
                      refine w_al (k := 83) (l := (A 83)) rfl rfl rfl (fun _ => ?_)
                      refine w_n 3 (pc1 := 225) (ls1 := [some (.ref 67), some (.int x1), some (.int x2), some (.int (y3 - 1)), some (.int x4), some (.int (y5 + 1)), some (.int (((A 78).getD y5.toInt.toNat 0) / 1048576)), some (.int (((A 78).getD y5.toInt.toNat 0) - ((A 78).getD y5.toInt.toNat 0) / 1048576 * 1048576))]) (st1 := [.int (y3 - 1), .ref 83, .int ((A 83).getD ((y3 - 1) - 1).toInt.toNat 0), .int (((A 78).getD y5.toInt.toNat 0) / 1048576), .int ((y3 - 1) - 1), .ref 83]) (hp1 := (hz F A L)) rfl ?_
                      refine w_al (k := 83) (l := (A 83)) rfl rfl rfl (fun _ => ?_)
                      refine w_c rfl rfl (t_km_reckon ?_)
                      show wl_E f _ _ mm181.2.2.2.2.2.2.2.2 229 [some (.ref 67), some (.int x1), some (.int x2), some (.int (y3 - 1)), some (.int x4), some (.int (y5 + 1)), some (.int (((A 78).getD y5.toInt.toNat 0) / 1048576)), some (.int (((A 78).getD y5.toInt.toNat 0) - ((A 78).getD y5.toInt.toNat 0) / 1048576 * 1048576))] [.int (km_reckon (((A 78).getD y5.toInt.toNat 0) / 1048576) ((A 83).getD ((y3 - 1) - 1).toInt.toNat 0) ((A 83).getD (y3 - 1).toInt.toNat 0)), .int ((y3 - 1) - 1), .ref 83] (hz F A L) _
                      generalize hG162 : (km_reckon (((A 78).getD y5.toInt.toNat 0) / 1048576) ((A 83).getD ((y3 - 1) - 1).toInt.toNat 0) ((A 83).getD (y3 - 1).toInt.toNat 0)) = G162 at hE ⊢
                      refine w_as (k := 83) (l := (A 83)) (hp1 := (hz F (uA A 83 ((A 83).set ((y3 - 1) - 1).toInt.toNat G162)) L)) rfl rfl rfl (hz_s83 _) (fun _ => ?_)
                      refine w_n 1 (pc1 := 16) (ls1 := [some (.ref 67), some (.int x1), some (.int x2), some (.int (y3 - 1)), some (.int x4), some (.int (y5 + 1)), some (.int (((A 78).getD y5.toInt.toNat 0) / 1048576)), some (.int (((A 78).getD y5.toInt.toNat 0) - ((A 78).getD y5.toInt.toNat 0) / 1048576 * 1048576))]) (st1 := []) (hp1 := (hz F (uA A 83 ((A 83).set ((y3 - 1) - 1).toInt.toNat G162)) L)) rfl ?_
                      subst T
                      exact ih _ (by omega) (cvQ rfl (funext fun q => if k0 : q = 83 then by subst k0; exact Eq.trans (b := (km_comesTo_16 (A 78) (A 84) x2 x4 m (y3 - 1) (y5 + 1) ((A 83).set ((y3 - 1) - 1).toInt.toNat G162)).2) rfl rfl else by unfold uA; simp only [nb1 k0, cond_false]) rfl K)
                    · have h12 : (((A 78).getD y5.toInt.toNat 0) / 1048576) = 6 := h
                      rw [if_pos h12] at hE
                      refine w_n 3 (pc1 := 197) (ls1 := [some (.ref 67), some (.int x1), some (.int x2), some (.int (y3 - 1)), some (.int x4), some (.int (y5 + 1)), some (.int (((A 78).getD y5.toInt.toNat 0) / 1048576)), some (.int (((A 78).getD y5.toInt.toNat 0) - ((A 78).getD y5.toInt.toNat 0) / 1048576 * 1048576))]) (st1 := [.int (y3 - 1), .ref 83]) (hp1 := (hz F A L)) rfl ?_
                      refine w_al (k := 83) (l := (A 83)) rfl rfl rfl (fun _ => ?_)
                      refine w_zne (p3 := 201) rfl rfl (fun h => ?_) (fun h => ?_)
                      · have h13 : ¬ ((A 83).getD (y3 - 1).toInt.toNat 0) = 0 := h
                        rw [if_neg h13] at hE
                        refine w_n 11 (pc1 := 219) (ls1 := [some (.ref 67), some (.int x1), some (.int x2), some (.int (y3 - 1)), some (.int x4), some (.int (y5 + 1)), some (.int (((A 78).getD y5.toInt.toNat 0) / 1048576)), some (.int (((A 78).getD y5.toInt.toNat 0) - ((A 78).getD y5.toInt.toNat 0) / 1048576 * 1048576))]) (st1 := [.int ((y3 - 1) - 1), .ref 83, .int (((A 78).getD y5.toInt.toNat 0) / 1048576), .int ((y3 - 1) - 1), .ref 83]) (hp1 := (hz F A L)) rfl ?_
                        refine w_al (k := 83) (l := (A 83)) rfl rfl rfl (fun _ => ?_)
                        refine w_n 3 (pc1 := 225) (ls1 := [some (.ref 67), some (.int x1), some (.int x2), some (.int (y3 - 1)), some (.int x4), some (.int (y5 + 1)), some (.int (((A 78).getD y5.toInt.toNat 0) / 1048576)), some (.int (((A 78).getD y5.toInt.toNat 0) - ((A 78).getD y5.toInt.toNat 0) / 1048576 * 1048576))]) (st1 := [.int (y3 - 1), .ref 83, .int ((A 83).getD ((y3 - 1) - 1).toInt.toNat 0), .int (((A 78).getD y5.toInt.toNat 0) / 1048576), .int ((y3 - 1) - 1), .ref 83]) (hp1 := (hz F A L)) rfl ?_
                        refine w_al (k := 83) (l := (A 83)) rfl rfl rfl (fun _ => ?_)
                        refine w_c rfl rfl (t_km_reckon ?_)
                        show wl_E f _ _ mm181.2.2.2.2.2.2.2.2 229 [some (.ref 67), some (.int x1), some (.int x2), some (.int (y3 - 1)), some (.int x4), some (.int (y5 + 1)), some (.int (((A 78).getD y5.toInt.toNat 0) / 1048576)), some (.int (((A 78).getD y5.toInt.toNat 0) - ((A 78).getD y5.toInt.toNat 0) / 1048576 * 1048576))] [.int (km_reckon (((A 78).getD y5.toInt.toNat 0) / 1048576) ((A 83).getD ((y3 - 1) - 1).toInt.toNat 0) ((A 83).getD (y3 - 1).toInt.toNat 0)), .int ((y3 - 1) - 1), .ref 83] (hz F A L) _
                        generalize hG163 : (km_reckon (((A 78).getD y5.toInt.toNat 0) / 1048576) ((A 83).getD ((y3 - 1) - 1).toInt.toNat 0) ((A 83).getD (y3 - 1).toInt.toNat 0)) = G163 at hE ⊢
                        refine w_as (k := 83) (l := (A 83)) (hp1 := (hz F (uA A 83 ((A 83).set ((y3 - 1) - 1).toInt.toNat G163)) L)) rfl rfl rfl (hz_s83 _) (fun _ => ?_)
                        refine w_n 1 (pc1 := 16) (ls1 := [some (.ref 67), some (.int x1), some (.int x2), some (.int (y3 - 1)), some (.int x4), some (.int (y5 + 1)), some (.int (((A 78).getD y5.toInt.toNat 0) / 1048576)), some (.int (((A 78).getD y5.toInt.toNat 0) - ((A 78).getD y5.toInt.toNat 0) / 1048576 * 1048576))]) (st1 := []) (hp1 := (hz F (uA A 83 ((A 83).set ((y3 - 1) - 1).toInt.toNat G163)) L)) rfl ?_
                        subst T
                        exact ih _ (by omega) (cvQ rfl (funext fun q => if k0 : q = 83 then by subst k0; exact Eq.trans (b := (km_comesTo_16 (A 78) (A 84) x2 x4 m (y3 - 1) (y5 + 1) ((A 83).set ((y3 - 1) - 1).toInt.toNat G163)).2) rfl rfl else by unfold uA; simp only [nb1 k0, cond_false]) rfl K)
                      · have h13 : ((A 83).getD (y3 - 1).toInt.toNat 0) = 0 := h
                        rw [if_pos h13] at hE
                        refine w_n 1 (pc1 := 202) (ls1 := [some (.ref 67), some (.int x1), some (.int x2), some (.int (y3 - 1)), some (.int x4), some (.int (y5 + 1)), some (.int (((A 78).getD y5.toInt.toNat 0) / 1048576)), some (.int (((A 78).getD y5.toInt.toNat 0) - ((A 78).getD y5.toInt.toNat 0) / 1048576 * 1048576))]) (st1 := [.int 0]) (hp1 := (hz F A L)) rfl ?_
                        subst T
                        exact w_ri rfl (cvQ rfl (funext fun q => if k0 : q = 83 then by subst k0; exact Eq.trans (b := (A 83)) rfl rfl else by unfold uA; simp only [nb1 k0, cond_false]) rfl K)
                · have h9 : (((A 78).getD y5.toInt.toNat 0) / 1048576) = 12 := h
                  rw [if_pos h9] at hE
                  refine w_n 5 (pc1 := 142) (ls1 := [some (.ref 67), some (.int x1), some (.int x2), some (.int y3), some (.int x4), some (.int (y5 + 1)), some (.int (((A 78).getD y5.toInt.toNat 0) / 1048576)), some (.int (((A 78).getD y5.toInt.toNat 0) - ((A 78).getD y5.toInt.toNat 0) / 1048576 * 1048576))]) (st1 := [.int (y3 - 1), .ref 83]) (hp1 := (hz F A L)) rfl ?_
                  refine w_al (k := 83) (l := (A 83)) rfl rfl rfl (fun _ => ?_)
                  refine w_n 2 (pc1 := 147) (ls1 := [some (.ref 67), some (.int x1), some (.int x2), some (.int y3), some (.int x4), some (.int (y5 + 1)), some (.int (((A 78).getD y5.toInt.toNat 0) / 1048576)), some (.int (((A 78).getD y5.toInt.toNat 0) - ((A 78).getD y5.toInt.toNat 0) / 1048576 * 1048576))]) (st1 := [.int 12, .int (((A 78).getD y5.toInt.toNat 0) / 1048576), .int ((A 83).getD (y3 - 1).toInt.toNat 0)]) (hp1 := (hz F A L)) rfl ?_
                  refine w_ne (p3 := 150) rfl rfl (fun h => absurd h9 h) (fun _ => ?_)
                  refine w_n 2 (pc1 := 155) (ls1 := [some (.ref 67), some (.int x1), some (.int x2), some (.int y3), some (.int x4), some (.int (y5 + 1)), some (.int (((A 78).getD y5.toInt.toNat 0) / 1048576)), some (.int (((A 78).getD y5.toInt.toNat 0) - ((A 78).getD y5.toInt.toNat 0) / 1048576 * 1048576))]) (st1 := [.int 1, .int ((A 83).getD (y3 - 1).toInt.toNat 0)]) (hp1 := (hz F A L)) rfl ?_
                  refine w_ne (p3 := 158) rfl rfl (fun h => ?_) (fun h => ?_)
                  · have h14 : ¬ ((A 83).getD (y3 - 1).toInt.toNat 0) = 1 := h
                    rw [if_neg h14] at hE
                    refine w_n 6 (pc1 := 16) (ls1 := [some (.ref 67), some (.int x1), some (.int x2), some (.int (y3 - 1)), some (.int x4), some (.int (y5 + 1)), some (.int (((A 78).getD y5.toInt.toNat 0) / 1048576)), some (.int (((A 78).getD y5.toInt.toNat 0) - ((A 78).getD y5.toInt.toNat 0) / 1048576 * 1048576))]) (st1 := []) (hp1 := (hz F A L)) rfl ?_
                    subst T
                    exact ih _ (by omega) (cvQ rfl (funext fun q => if k0 : q = 83 then by subst k0; exact Eq.trans (b := (km_comesTo_16 (A 78) (A 84) x2 x4 m (y3 - 1) (y5 + 1) (A 83)).2) rfl rfl else by unfold uA; simp only [nb1 k0, cond_false]) rfl K)
                  · have h14 : ((A 83).getD (y3 - 1).toInt.toNat 0) = 1 := h
                    rw [if_pos h14] at hE
                    refine w_n 6 (pc1 := 16) (ls1 := [some (.ref 67), some (.int x1), some (.int x2), some (.int y3), some (.int x4), some (.int (x4 + (((A 78).getD y5.toInt.toNat 0) - ((A 78).getD y5.toInt.toNat 0) / 1048576 * 1048576))), some (.int (((A 78).getD y5.toInt.toNat 0) / 1048576)), some (.int (((A 78).getD y5.toInt.toNat 0) - ((A 78).getD y5.toInt.toNat 0) / 1048576 * 1048576))]) (st1 := []) (hp1 := (hz F A L)) rfl ?_
                    subst T
                    exact ih _ (by omega) (cvQ rfl (funext fun q => if k0 : q = 83 then by subst k0; exact Eq.trans (b := (km_comesTo_16 (A 78) (A 84) x2 x4 m y3 (x4 + (((A 78).getD y5.toInt.toNat 0) - ((A 78).getD y5.toInt.toNat 0) / 1048576 * 1048576)) (A 83)).2) rfl rfl else by unfold uA; simp only [nb1 k0, cond_false]) rfl K)
            · have h4 : (((A 78).getD y5.toInt.toNat 0) / 1048576) = 10 := h
              rw [if_pos h4] at hE
              refine w_n 11 (pc1 := 115) (ls1 := [some (.ref 67), some (.int x1), some (.int x2), some (.int y3), some (.int x4), some (.int (y5 + 1)), some (.int (((A 78).getD y5.toInt.toNat 0) / 1048576)), some (.int (((A 78).getD y5.toInt.toNat 0) - ((A 78).getD y5.toInt.toNat 0) / 1048576 * 1048576))]) (st1 := [.int (y3 - 1), .ref 83, .int 1, .int (y3 - 1), .ref 83]) (hp1 := (hz F A L)) rfl ?_
              refine w_al (k := 83) (l := (A 83)) rfl rfl rfl (fun _ => ?_)
              refine w_n 1 (pc1 := 117) (ls1 := [some (.ref 67), some (.int x1), some (.int x2), some (.int y3), some (.int x4), some (.int (y5 + 1)), some (.int (((A 78).getD y5.toInt.toNat 0) / 1048576)), some (.int (((A 78).getD y5.toInt.toNat 0) - ((A 78).getD y5.toInt.toNat 0) / 1048576 * 1048576))]) (st1 := [.int (1 - ((A 83).getD (y3 - 1).toInt.toNat 0)), .int (y3 - 1), .ref 83]) (hp1 := (hz F A L)) rfl ?_
              refine w_as (k := 83) (l := (A 83)) (hp1 := (hz F (uA A 83 ((A 83).set (y3 - 1).toInt.toNat (1 - ((A 83).getD (y3 - 1).toInt.toNat 0)))) L)) rfl rfl rfl (hz_s83 _) (fun _ => ?_)
              refine w_n 2 (pc1 := 16) (ls1 := [some (.ref 67), some (.int x1), some (.int x2), some (.int y3), some (.int x4), some (.int (y5 + 1)), some (.int (((A 78).getD y5.toInt.toNat 0) / 1048576)), some (.int (((A 78).getD y5.toInt.toNat 0) - ((A 78).getD y5.toInt.toNat 0) / 1048576 * 1048576))]) (st1 := []) (hp1 := (hz F (uA A 83 ((A 83).set (y3 - 1).toInt.toNat (1 - ((A 83).getD (y3 - 1).toInt.toNat 0)))) L)) rfl ?_
              subst T
              exact ih _ (by omega) (cvQ rfl (funext fun q => if k0 : q = 83 then by subst k0; exact Eq.trans (b := (km_comesTo_16 (A 78) (A 84) x2 x4 m y3 (y5 + 1) ((A 83).set (y3 - 1).toInt.toNat (1 - ((A 83).getD (y3 - 1).toInt.toNat 0)))).2) rfl rfl else by unfold uA; simp only [nb1 k0, cond_false]) rfl K)
          · have h3 : (((A 78).getD y5.toInt.toNat 0) / 1048576) = 1 := h
            rw [if_pos h3] at hE
            refine w_n 4 (pc1 := 70) (ls1 := [some (.ref 67), some (.int x1), some (.int x2), some (.int y3), some (.int x4), some (.int (y5 + 1)), some (.int (((A 78).getD y5.toInt.toNat 0) / 1048576)), some (.int (((A 78).getD y5.toInt.toNat 0) - ((A 78).getD y5.toInt.toNat 0) / 1048576 * 1048576))]) (st1 := [.int (((A 78).getD y5.toInt.toNat 0) / 1048576), .int y3, .ref 83]) (hp1 := (hz F A L)) rfl ?_
            refine w_zne (p3 := 73) rfl rfl (fun _ => ?_) (fun h => absurd h h2)
            refine w_n 3 (pc1 := 84) (ls1 := [some (.ref 67), some (.int x1), some (.int x2), some (.int y3), some (.int x4), some (.int (y5 + 1)), some (.int (((A 78).getD y5.toInt.toNat 0) / 1048576)), some (.int (((A 78).getD y5.toInt.toNat 0) - ((A 78).getD y5.toInt.toNat 0) / 1048576 * 1048576))]) (st1 := [.int (((A 78).getD y5.toInt.toNat 0) - ((A 78).getD y5.toInt.toNat 0) / 1048576 * 1048576), .ref 84, .int y3, .ref 83]) (hp1 := (hz F A L)) rfl ?_
            refine w_al (k := 84) (l := (A 84)) rfl rfl rfl (fun _ => ?_)
            refine w_as (k := 83) (l := (A 83)) (hp1 := (hz F (uA A 83 ((A 83).set y3.toInt.toNat ((A 84).getD (((A 78).getD y5.toInt.toNat 0) - ((A 78).getD y5.toInt.toNat 0) / 1048576 * 1048576).toInt.toNat 0))) L)) rfl rfl rfl (hz_s83 _) (fun _ => ?_)
            refine w_n 6 (pc1 := 16) (ls1 := [some (.ref 67), some (.int x1), some (.int x2), some (.int (y3 + 1)), some (.int x4), some (.int (y5 + 1)), some (.int (((A 78).getD y5.toInt.toNat 0) / 1048576)), some (.int (((A 78).getD y5.toInt.toNat 0) - ((A 78).getD y5.toInt.toNat 0) / 1048576 * 1048576))]) (st1 := []) (hp1 := (hz F (uA A 83 ((A 83).set y3.toInt.toNat ((A 84).getD (((A 78).getD y5.toInt.toNat 0) - ((A 78).getD y5.toInt.toNat 0) / 1048576 * 1048576).toInt.toNat 0))) L)) rfl ?_
            subst T
            exact ih _ (by omega) (cvQ rfl (funext fun q => if k0 : q = 83 then by subst k0; exact Eq.trans (b := (km_comesTo_16 (A 78) (A 84) x2 x4 m (y3 + 1) (y5 + 1) ((A 83).set y3.toInt.toNat ((A 84).getD (((A 78).getD y5.toInt.toNat 0) - ((A 78).getD y5.toInt.toNat 0) / 1048576 * 1048576).toInt.toNat 0))).2) rfl rfl else by unfold uA; simp only [nb1 k0, cond_false]) rfl K)
