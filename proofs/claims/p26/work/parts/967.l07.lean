/-! lifts, printed by genlift.py: 7 -/
noncomputable def km_wonOver (f67_3 : Int32) (a68 : List Int32) (a87 : List Int32) (x1 : Int32) (x2 : Int32) : Int32 × List Int32 := (if (km_isMeasure f67_3 x1) = 0 then ((-1), a87) else (if (km_in x2 0 1) = 0 then ((-1), a87) else (if x2 = 1 then ((km_wonOver_25 f67_3 a68 x1 ((a68.getD 144 0).toInt + 1).toNat (-2) 0 a87).1, (km_wonOver_25 f67_3 a68 x1 ((a68.getD 144 0).toInt + 1).toNat (-2) 0 a87).2) else (if (km_wonOver_25 f67_3 a68 x1 ((a68.getD 144 0).toInt + 1).toNat (-2) 0 a87).1 = (-2) then ((km_wonOver_25 f67_3 a68 x1 ((a68.getD 144 0).toInt + 1).toNat (-2) 0 a87).1, (km_wonOver_25 f67_3 a68 x1 ((a68.getD 144 0).toInt + 1).toNat (-2) 0 a87).2) else ((km_bits (km_wonOver_25 f67_3 a68 x1 ((a68.getD 144 0).toInt + 1).toNat (-2) 0 a87).1), (km_wonOver_25 f67_3 a68 x1 ((a68.getD 144 0).toInt + 1).toNat (-2) 0 a87).2)))))
theorem t_km_wonOver {f D : Nat} {F : Nat → Nat → Int32} {A : Nat → List Int32} {L : Nat → List Int64} {Q : Option Value → sm_H → Prop} {x1 : Int32} {x2 : Int32} (hh0 : ((A 68).getD 144 0).toInt < 2147483647) (K : Q (some (.int ((km_wonOver (F 67 3) (A 68) (A 87) x1 x2).1))) (hz F (uA A 87 ((km_wonOver (F 67 3) (A 68) (A 87) x1 x2).2)) L)) : wl_M f D 232 [.ref 67, .int x1, .int x2] (hz F A L) Q := by
  generalize hT : (km_wonOver (F 67 3) (A 68) (A 87) x1 x2) = T at K
  have hE : T = (if (km_isMeasure (F 67 3) x1) = 0 then ((-1), (A 87)) else (if (km_in x2 0 1) = 0 then ((-1), (A 87)) else (if x2 = 1 then ((km_wonOver_25 (F 67 3) (A 68) x1 (((A 68).getD 144 0).toInt + 1).toNat (-2) 0 (A 87)).1, (km_wonOver_25 (F 67 3) (A 68) x1 (((A 68).getD 144 0).toInt + 1).toNat (-2) 0 (A 87)).2) else (if (km_wonOver_25 (F 67 3) (A 68) x1 (((A 68).getD 144 0).toInt + 1).toNat (-2) 0 (A 87)).1 = (-2) then ((km_wonOver_25 (F 67 3) (A 68) x1 (((A 68).getD 144 0).toInt + 1).toNat (-2) 0 (A 87)).1, (km_wonOver_25 (F 67 3) (A 68) x1 (((A 68).getD 144 0).toInt + 1).toNat (-2) 0 (A 87)).2) else ((km_bits (km_wonOver_25 (F 67 3) (A 68) x1 (((A 68).getD 144 0).toInt + 1).toNat (-2) 0 (A 87)).1), (km_wonOver_25 (F 67 3) (A 68) x1 (((A 68).getD 144 0).toInt + 1).toNat (-2) 0 (A 87)).2))))) := hT.symm
  clear hT
  refine w_m (E := mm232) rfl ?_
  show wl_E f f (D - 1) mm232.2.2.2.2.2.2.2.2 0 [some (.ref 67), some (.int x1), some (.int x2), none, none] [] (hz F A L) Q
  refine w_n 2 (pc1 := 2) (ls1 := [some (.ref 67), some (.int x1), some (.int x2), none, none]) (st1 := [.int x1, .ref 67]) (hp1 := (hz F A L)) rfl ?_
  refine w_c rfl rfl (t_km_isMeasure ?_)
  show wl_E f _ _ mm232.2.2.2.2.2.2.2.2 5 [some (.ref 67), some (.int x1), some (.int x2), none, none] [.int (km_isMeasure (F 67 3) x1)] (hz F A L) _
  generalize hG197 : (km_isMeasure (F 67 3) x1) = G197 at hE ⊢
  refine w_zeq (p3 := 8) rfl rfl (fun h => ?_) (fun h => ?_)
  · have h1 : G197 = 0 := h
    rw [if_pos h1] at hE
    refine w_n 1 (pc1 := 18) (ls1 := [some (.ref 67), some (.int x1), some (.int x2), none, none]) (st1 := [.int (-1)]) (hp1 := (hz F A L)) rfl ?_
    subst T
    exact w_ri rfl (cvQ rfl (funext fun q => if k0 : q = 87 then by subst k0; exact Eq.trans (b := (A 87)) rfl rfl else by unfold uA; simp only [nb1 k0, cond_false]) rfl K)
  · have h1 : ¬ G197 = 0 := h
    rw [if_neg h1] at hE
    refine w_n 3 (pc1 := 11) (ls1 := [some (.ref 67), some (.int x1), some (.int x2), none, none]) (st1 := [.int 1, .int 0, .int x2]) (hp1 := (hz F A L)) rfl ?_
    refine w_c rfl rfl (t_km_in ?_)
    show wl_E f _ _ mm232.2.2.2.2.2.2.2.2 14 [some (.ref 67), some (.int x1), some (.int x2), none, none] [.int (km_in x2 0 1)] (hz F A L) _
    generalize hG198 : (km_in x2 0 1) = G198 at hE ⊢
    refine w_zne (p3 := 17) rfl rfl (fun h => ?_) (fun h => ?_)
    · have h2 : ¬ G198 = 0 := h
      rw [if_neg h2] at hE
      refine w_n 4 (pc1 := 25) (ls1 := [some (.ref 67), some (.int x1), some (.int x2), some (.int (-2)), some (.int 0)]) (st1 := []) (hp1 := (hz F A L)) rfl ?_
      refine t_km_wonOver_25 ((((A 68).getD 144 0).toInt + 1).toNat) (show (((A 68).getD 144 0).toInt + 1).toNat = (((A 68).getD 144 0).toInt + 1 - (0 : Int32).toInt).toNat by have e0 : (0 : Int32).toInt = 0 := rfl; first | rfl | omega) hh0 ?_
      intro r1
      show wl_E f _ _ mm232.2.2.2.2.2.2.2.2 94 [some (.ref 67), some (.int x1), some (.int x2), some (.int (km_wonOver_25 (F 67 3) (A 68) x1 (((A 68).getD 144 0).toInt + 1).toNat (-2) 0 (A 87)).1), some (.int r1)] [] (hz F (uA A 87 (km_wonOver_25 (F 67 3) (A 68) x1 (((A 68).getD 144 0).toInt + 1).toNat (-2) 0 (A 87)).2) L) _
      generalize hG209 : (km_wonOver_25 (F 67 3) (A 68) x1 (((A 68).getD 144 0).toInt + 1).toNat (-2) 0 (A 87)) = G209 at hE ⊢
      refine w_n 2 (pc1 := 96) (ls1 := [some (.ref 67), some (.int x1), some (.int x2), some (.int G209.1), some (.int r1)]) (st1 := [.int 1, .int x2]) (hp1 := (hz F (uA A 87 G209.2) L)) rfl ?_
      refine w_eq (p3 := 99) rfl rfl (fun h => ?_) (fun h => ?_)
      · have h3 : x2 = 1 := h
        rw [if_pos h3] at hE
        refine w_n 2 (pc1 := 113) (ls1 := [some (.ref 67), some (.int x1), some (.int x2), some (.int G209.1), some (.int r1)]) (st1 := [.int G209.1]) (hp1 := (hz F (uA A 87 G209.2) L)) rfl ?_
        subst T
        exact w_ri rfl (cvQ rfl rfl rfl K)
      · have h3 : ¬ x2 = 1 := h
        rw [if_neg h3] at hE
        refine w_n 2 (pc1 := 102) (ls1 := [some (.ref 67), some (.int x1), some (.int x2), some (.int G209.1), some (.int r1)]) (st1 := [.int (-2), .int G209.1]) (hp1 := (hz F (uA A 87 G209.2) L)) rfl ?_
        refine w_ne (p3 := 105) rfl rfl (fun h => ?_) (fun h => ?_)
        · have h4 : ¬ G209.1 = (-2) := h
          rw [if_neg h4] at hE
          refine w_n 1 (pc1 := 110) (ls1 := [some (.ref 67), some (.int x1), some (.int x2), some (.int G209.1), some (.int r1)]) (st1 := [.int G209.1]) (hp1 := (hz F (uA A 87 G209.2) L)) rfl ?_
          refine w_c rfl rfl (t_km_bits ?_)
          show wl_E f _ _ mm232.2.2.2.2.2.2.2.2 113 [some (.ref 67), some (.int x1), some (.int x2), some (.int G209.1), some (.int r1)] [.int (km_bits G209.1)] (hz F (uA A 87 G209.2) L) _
          generalize hG210 : (km_bits G209.1) = G210 at hE ⊢
          subst T
          exact w_ri rfl (cvQ rfl rfl rfl K)
        · have h4 : G209.1 = (-2) := h
          rw [if_pos h4] at hE
          refine w_n 2 (pc1 := 113) (ls1 := [some (.ref 67), some (.int x1), some (.int x2), some (.int G209.1), some (.int r1)]) (st1 := [.int G209.1]) (hp1 := (hz F (uA A 87 G209.2) L)) rfl ?_
          subst T
          exact w_ri rfl (cvQ rfl rfl rfl K)
    · have h2 : G198 = 0 := h
      rw [if_pos h2] at hE
      refine w_n 1 (pc1 := 18) (ls1 := [some (.ref 67), some (.int x1), some (.int x2), none, none]) (st1 := [.int (-1)]) (hp1 := (hz F A L)) rfl ?_
      subst T
      exact w_ri rfl (cvQ rfl (funext fun q => if k0 : q = 87 then by subst k0; exact Eq.trans (b := (A 87)) rfl rfl else by unfold uA; simp only [nb1 k0, cond_false]) rfl K)
noncomputable def kv_possibleWinners_8 (f3_0 : Int32) (a6 : List Int32) (l11 : List Int64) (x1 : Int32) : Nat → Int32 → Int32 → List Int32 → Int32 × List Int32
  | 0, y2, _, a31 => (y2, a31)
  | m + 1, y2, y3, a31 => (if ((x1 >>> (y3 &&& 31)) &&& 1) = 0 then (kv_possibleWinners_8 f3_0 a6 l11 x1 m y2 (y3 + 1) a31) else (if (kt_favourite f3_0 l11 y3 (kt_allMeasures f3_0)) = (-1) then (kv_possibleWinners_8 f3_0 a6 l11 x1 m (y2 + (a6.getD y3.toInt.toNat 0)) (y3 + 1) a31) else (kv_possibleWinners_8 f3_0 a6 l11 x1 m (y2 + (a6.getD y3.toInt.toNat 0)) (y3 + 1) (a31.set (kt_favourite f3_0 l11 y3 (kt_allMeasures f3_0)).toInt.toNat ((a31.getD (kt_favourite f3_0 l11 y3 (kt_allMeasures f3_0)).toInt.toNat 0) - (a6.getD y3.toInt.toNat 0))))))
theorem t_kv_possibleWinners_8 {f : Nat} {Q : Option Value → sm_H → Prop} : ∀ (m : Nat) {B D : Nat} {F : Nat → Nat → Int32} {A : Nat → List Int32} {L : Nat → List Int64} {x1 : Int32} {y2 : Int32} {y3 : Int32} {o4 : Option Value}, m = (12 - y3.toInt).toNat → (∀ q3 : Int32, ∀ q4 : Option Value, wl_E f B D mm121.2.2.2.2.2.2.2.2 85 [some (.ref 30), some (.int x1), some (.int ((kv_possibleWinners_8 (F 3 0) (A 6) (L 11) x1 m y2 y3 (A 31)).1)), some (.int q3), q4] [] (hz F (uA A 31 ((kv_possibleWinners_8 (F 3 0) (A 6) (L 11) x1 m y2 y3 (A 31)).2)) L) Q) → wl_E f B D mm121.2.2.2.2.2.2.2.2 8 [some (.ref 30), some (.int x1), some (.int y2), some (.int y3), o4] [] (hz F A L) Q := by
  intro m
  induction m with
  | zero =>
    intro B D F A L x1 y2 y3 o4 hm K
    generalize hT : (kv_possibleWinners_8 (F 3 0) (A 6) (L 11) x1 0 y2 y3 (A 31)) = T at K
    have hE : T = (y2, (A 31)) := hT.symm
    clear hT
    refine w_n 2 (pc1 := 11) (ls1 := [some (.ref 30), some (.int x1), some (.int y2), some (.int y3), o4]) (st1 := [.int 12, .int y3]) (hp1 := (hz F A L)) rfl ?_
    refine w_ge (p3 := 14) rfl rfl (fun hb => ?_) (fun h => False.elim (by have h : y3.toInt < 12 := h; omega))
    subst T
    exact cvE rfl (funext fun q => if k0 : q = 31 then by subst k0; exact Eq.trans (b := (A 31)) rfl rfl else by unfold uA; simp only [nb1 k0, cond_false]) rfl (K _ _)
  | succ m ih =>
    intro B D F A L x1 y2 y3 o4 hm K
    generalize hT : (kv_possibleWinners_8 (F 3 0) (A 6) (L 11) x1 (m + 1) y2 y3 (A 31)) = T at K
    have hE : T = (if ((x1 >>> (y3 &&& 31)) &&& 1) = 0 then (kv_possibleWinners_8 (F 3 0) (A 6) (L 11) x1 m y2 (y3 + 1) (A 31)) else (if (kt_favourite (F 3 0) (L 11) y3 (kt_allMeasures (F 3 0))) = (-1) then (kv_possibleWinners_8 (F 3 0) (A 6) (L 11) x1 m (y2 + ((A 6).getD y3.toInt.toNat 0)) (y3 + 1) (A 31)) else (kv_possibleWinners_8 (F 3 0) (A 6) (L 11) x1 m (y2 + ((A 6).getD y3.toInt.toNat 0)) (y3 + 1) ((A 31).set (kt_favourite (F 3 0) (L 11) y3 (kt_allMeasures (F 3 0))).toInt.toNat (((A 31).getD (kt_favourite (F 3 0) (L 11) y3 (kt_allMeasures (F 3 0))).toInt.toNat 0) - ((A 6).getD y3.toInt.toNat 0)))))) := hT.symm
    clear hT
    refine w_n 2 (pc1 := 11) (ls1 := [some (.ref 30), some (.int x1), some (.int y2), some (.int y3), o4]) (st1 := [.int 12, .int y3]) (hp1 := (hz F A L)) rfl ?_
    refine w_ge (p3 := 14) rfl rfl (fun h => False.elim (by have h : 12 ≤ y3.toInt := h; omega)) (fun hb => ?_)
    refine w_n 5 (pc1 := 19) (ls1 := [some (.ref 30), some (.int x1), some (.int y2), some (.int y3), o4]) (st1 := [.int ((x1 >>> (y3 &&& 31)) &&& 1)]) (hp1 := (hz F A L)) rfl ?_
    refine w_zne (p3 := 22) rfl rfl (fun h => ?_) (fun h => ?_)
    · have h1 : ¬ ((x1 >>> (y3 &&& 31)) &&& 1) = 0 := h
      rw [if_neg h1] at hE
      refine w_n 5 (pc1 := 34) (ls1 := [some (.ref 30), some (.int x1), some (.int y2), some (.int y3), o4]) (st1 := [.ref 3, .int y3, .ref 3]) (hp1 := (hz F A L)) rfl ?_
      refine w_c rfl rfl (t_kt_allMeasures ?_)
      show wl_E f _ _ mm121.2.2.2.2.2.2.2.2 37 [some (.ref 30), some (.int x1), some (.int y2), some (.int y3), o4] [.int (kt_allMeasures (F 3 0)), .int y3, .ref 3] (hz F A L) _
      generalize hG214 : (kt_allMeasures (F 3 0)) = G214 at hE ⊢
      refine w_c rfl rfl (t_kt_favourite ?_)
      show wl_E f _ _ mm121.2.2.2.2.2.2.2.2 40 [some (.ref 30), some (.int x1), some (.int y2), some (.int y3), o4] [.int (kt_favourite (F 3 0) (L 11) y3 G214)] (hz F A L) _
      generalize hG215 : (kt_favourite (F 3 0) (L 11) y3 G214) = G215 at hE ⊢
      refine w_n 3 (pc1 := 45) (ls1 := [some (.ref 30), some (.int x1), some (.int y2), some (.int y3), some (.int G215)]) (st1 := [.int (-1), .int G215]) (hp1 := (hz F A L)) rfl ?_
      refine w_eq (p3 := 48) rfl rfl (fun h => ?_) (fun h => ?_)
      · have h2 : G215 = (-1) := h
        rw [if_pos h2] at hE
        refine w_n 5 (pc1 := 76) (ls1 := [some (.ref 30), some (.int x1), some (.int y2), some (.int y3), some (.int G215)]) (st1 := [.int y3, .ref 6, .int y2]) (hp1 := (hz F A L)) rfl ?_
        refine w_al (k := 6) (l := (A 6)) rfl rfl rfl (fun ab => ?_)
        refine w_n 4 (pc1 := 8) (ls1 := [some (.ref 30), some (.int x1), some (.int (y2 + ((A 6).getD y3.toInt.toNat 0))), some (.int (y3 + 1)), some (.int G215)]) (st1 := []) (hp1 := (hz F A L)) rfl ?_
        subst T
        have hb2 := i_up (B := (12 : Int32)) hb
        have hb3 : y3.toInt < 12 := hb
        exact ih (show m = (12 - (y3 + 1).toInt).toNat by rw [hb2]; omega) (fun q3 q4 => cvE rfl (funext fun q => if k0 : q = 31 then by subst k0; exact Eq.trans (b := (kv_possibleWinners_8 (F 3 0) (A 6) (L 11) x1 m (y2 + ((A 6).getD y3.toInt.toNat 0)) (y3 + 1) (A 31)).2) rfl rfl else by unfold uA; simp only [nb1 k0, cond_false]) rfl (K q3 q4))
      · have h2 : ¬ G215 = (-1) := h
        rw [if_neg h2] at hE
        refine w_n 4 (pc1 := 55) (ls1 := [some (.ref 30), some (.int x1), some (.int y2), some (.int y3), some (.int G215)]) (st1 := [.int G215, .ref 31, .int G215, .ref 31]) (hp1 := (hz F A L)) rfl ?_
        refine w_al (k := 31) (l := (A 31)) rfl rfl rfl (fun _ => ?_)
        refine w_n 4 (pc1 := 64) (ls1 := [some (.ref 30), some (.int x1), some (.int y2), some (.int y3), some (.int G215)]) (st1 := [.int y3, .ref 6, .int ((A 31).getD G215.toInt.toNat 0), .int G215, .ref 31]) (hp1 := (hz F A L)) rfl ?_
        refine w_al (k := 6) (l := (A 6)) rfl rfl rfl (fun ab => ?_)
        refine w_n 1 (pc1 := 66) (ls1 := [some (.ref 30), some (.int x1), some (.int y2), some (.int y3), some (.int G215)]) (st1 := [.int (((A 31).getD G215.toInt.toNat 0) - ((A 6).getD y3.toInt.toNat 0)), .int G215, .ref 31]) (hp1 := (hz F A L)) rfl ?_
        refine w_as (k := 31) (l := (A 31)) (hp1 := (hz F (uA A 31 ((A 31).set G215.toInt.toNat (((A 31).getD G215.toInt.toNat 0) - ((A 6).getD y3.toInt.toNat 0)))) L)) rfl rfl rfl (hz_s31 _) (fun _ => ?_)
        refine w_n 5 (pc1 := 76) (ls1 := [some (.ref 30), some (.int x1), some (.int y2), some (.int y3), some (.int G215)]) (st1 := [.int y3, .ref 6, .int y2]) (hp1 := (hz F (uA A 31 ((A 31).set G215.toInt.toNat (((A 31).getD G215.toInt.toNat 0) - ((A 6).getD y3.toInt.toNat 0)))) L)) rfl ?_
        refine w_al (k := 6) (l := (A 6)) rfl rfl rfl (fun ab => ?_)
        refine w_n 4 (pc1 := 8) (ls1 := [some (.ref 30), some (.int x1), some (.int (y2 + ((A 6).getD y3.toInt.toNat 0))), some (.int (y3 + 1)), some (.int G215)]) (st1 := []) (hp1 := (hz F (uA A 31 ((A 31).set G215.toInt.toNat (((A 31).getD G215.toInt.toNat 0) - ((A 6).getD y3.toInt.toNat 0)))) L)) rfl ?_
        subst T
        have hb2 := i_up (B := (12 : Int32)) hb
        have hb3 : y3.toInt < 12 := hb
        exact ih (show m = (12 - (y3 + 1).toInt).toNat by rw [hb2]; omega) (fun q3 q4 => cvE rfl (funext fun q => if k0 : q = 31 then by subst k0; exact Eq.trans (b := (kv_possibleWinners_8 (F 3 0) (A 6) (L 11) x1 m (y2 + ((A 6).getD y3.toInt.toNat 0)) (y3 + 1) ((A 31).set G215.toInt.toNat (((A 31).getD G215.toInt.toNat 0) - ((A 6).getD y3.toInt.toNat 0)))).2) rfl rfl else by unfold uA; simp only [nb1 k0, cond_false]) rfl (K q3 q4))
    · have h1 : ((x1 >>> (y3 &&& 31)) &&& 1) = 0 := h
      rw [if_pos h1] at hE
      refine w_n 3 (pc1 := 8) (ls1 := [some (.ref 30), some (.int x1), some (.int y2), some (.int (y3 + 1)), o4]) (st1 := []) (hp1 := (hz F A L)) rfl ?_
      subst T
      have hb2 := i_up (B := (12 : Int32)) hb
      have hb3 : y3.toInt < 12 := hb
      exact ih (show m = (12 - (y3 + 1).toInt).toNat by rw [hb2]; omega) (fun q3 q4 => cvE rfl (funext fun q => if k0 : q = 31 then by subst k0; exact Eq.trans (b := (kv_possibleWinners_8 (F 3 0) (A 6) (L 11) x1 m y2 (y3 + 1) (A 31)).2) rfl rfl else by unfold uA; simp only [nb1 k0, cond_false]) rfl (K q3 q4))
noncomputable def kv_possibleWinners_90  (x2 : Int32) : Nat → Int32 → Int32 → List Int32 → Int32 × List Int32
  | 0, y3, _, a31 => (y3, a31)
  | m + 1, y3, y4, a31 => (if (kc_most_31 (a31.set y4.toInt.toNat ((a31.getD y4.toInt.toNat 0) + x2))) = y4 then (kv_possibleWinners_90 x2 m (y3 ||| ((1 : Int32) <<< (y4 &&& 31))) (y4 + 1) ((a31.set y4.toInt.toNat ((a31.getD y4.toInt.toNat 0) + x2)).set y4.toInt.toNat (((a31.set y4.toInt.toNat ((a31.getD y4.toInt.toNat 0) + x2)).getD y4.toInt.toNat 0) - x2))) else (kv_possibleWinners_90 x2 m y3 (y4 + 1) ((a31.set y4.toInt.toNat ((a31.getD y4.toInt.toNat 0) + x2)).set y4.toInt.toNat (((a31.set y4.toInt.toNat ((a31.getD y4.toInt.toNat 0) + x2)).getD y4.toInt.toNat 0) - x2))))
theorem t_kv_possibleWinners_90 {f : Nat} {Q : Option Value → sm_H → Prop} : ∀ (m : Nat) {B D : Nat} {F : Nat → Nat → Int32} {A : Nat → List Int32} {L : Nat → List Int64} {x1 : Int32} {x2 : Int32} {y3 : Int32} {y4 : Int32}, m = ((F 3 0).toInt - y4.toInt).toNat → (∀ q4 : Int32, wl_E f B D mm121.2.2.2.2.2.2.2.2 149 [some (.ref 30), some (.int x1), some (.int x2), some (.int ((kv_possibleWinners_90 x2 m y3 y4 (A 31)).1)), some (.int q4)] [] (hz F (uA A 31 ((kv_possibleWinners_90 x2 m y3 y4 (A 31)).2)) L) Q) → wl_E f B D mm121.2.2.2.2.2.2.2.2 90 [some (.ref 30), some (.int x1), some (.int x2), some (.int y3), some (.int y4)] [] (hz F A L) Q := by
  intro m
  induction m with
  | zero =>
    intro B D F A L x1 x2 y3 y4 hm K
    generalize hT : (kv_possibleWinners_90 x2 0 y3 y4 (A 31)) = T at K
    have hE : T = (y3, (A 31)) := hT.symm
    clear hT
    refine w_n 4 (pc1 := 99) (ls1 := [some (.ref 30), some (.int x1), some (.int x2), some (.int y3), some (.int y4)]) (st1 := [.int (F 3 0), .int y4]) (hp1 := (hz F A L)) rfl ?_
    refine w_ge (p3 := 102) rfl rfl (fun hb => ?_) (fun h => False.elim (by have h : y4.toInt < (F 3 0).toInt := h; omega))
    subst T
    exact cvE rfl (funext fun q => if k0 : q = 31 then by subst k0; exact Eq.trans (b := (A 31)) rfl rfl else by unfold uA; simp only [nb1 k0, cond_false]) rfl (K _)
  | succ m ih =>
    intro B D F A L x1 x2 y3 y4 hm K
    generalize hT : (kv_possibleWinners_90 x2 (m + 1) y3 y4 (A 31)) = T at K
    have hE : T = (if (kc_most_31 ((A 31).set y4.toInt.toNat (((A 31).getD y4.toInt.toNat 0) + x2))) = y4 then (kv_possibleWinners_90 x2 m (y3 ||| ((1 : Int32) <<< (y4 &&& 31))) (y4 + 1) (((A 31).set y4.toInt.toNat (((A 31).getD y4.toInt.toNat 0) + x2)).set y4.toInt.toNat ((((A 31).set y4.toInt.toNat (((A 31).getD y4.toInt.toNat 0) + x2)).getD y4.toInt.toNat 0) - x2))) else (kv_possibleWinners_90 x2 m y3 (y4 + 1) (((A 31).set y4.toInt.toNat (((A 31).getD y4.toInt.toNat 0) + x2)).set y4.toInt.toNat ((((A 31).set y4.toInt.toNat (((A 31).getD y4.toInt.toNat 0) + x2)).getD y4.toInt.toNat 0) - x2)))) := hT.symm
    clear hT
    refine w_n 4 (pc1 := 99) (ls1 := [some (.ref 30), some (.int x1), some (.int x2), some (.int y3), some (.int y4)]) (st1 := [.int (F 3 0), .int y4]) (hp1 := (hz F A L)) rfl ?_
    refine w_ge (p3 := 102) rfl rfl (fun h => False.elim (by have h : (F 3 0).toInt ≤ y4.toInt := h; omega)) (fun hb => ?_)
    refine w_n 4 (pc1 := 109) (ls1 := [some (.ref 30), some (.int x1), some (.int x2), some (.int y3), some (.int y4)]) (st1 := [.int y4, .ref 31, .int y4, .ref 31]) (hp1 := (hz F A L)) rfl ?_
    refine w_al (k := 31) (l := (A 31)) rfl rfl rfl (fun ab => ?_)
    refine w_n 2 (pc1 := 112) (ls1 := [some (.ref 30), some (.int x1), some (.int x2), some (.int y3), some (.int y4)]) (st1 := [.int (((A 31).getD y4.toInt.toNat 0) + x2), .int y4, .ref 31]) (hp1 := (hz F A L)) rfl ?_
    refine w_as (k := 31) (l := (A 31)) (hp1 := (hz F (uA A 31 ((A 31).set y4.toInt.toNat (((A 31).getD y4.toInt.toNat 0) + x2))) L)) rfl rfl rfl (hz_s31 _) (fun ab => ?_)
    refine w_n 2 (pc1 := 117) (ls1 := [some (.ref 30), some (.int x1), some (.int x2), some (.int y3), some (.int y4)]) (st1 := [.ref 31]) (hp1 := (hz F (uA A 31 ((A 31).set y4.toInt.toNat (((A 31).getD y4.toInt.toNat 0) + x2))) L)) rfl ?_
    refine w_c rfl rfl (t_kc_most_31 ?_)
    show wl_E f _ _ mm121.2.2.2.2.2.2.2.2 120 [some (.ref 30), some (.int x1), some (.int x2), some (.int y3), some (.int y4)] [.int (kc_most_31 ((A 31).set y4.toInt.toNat (((A 31).getD y4.toInt.toNat 0) + x2)))] (hz F (uA A 31 ((A 31).set y4.toInt.toNat (((A 31).getD y4.toInt.toNat 0) + x2))) L) _
    generalize hG217 : (kc_most_31 ((A 31).set y4.toInt.toNat (((A 31).getD y4.toInt.toNat 0) + x2))) = G217 at hE ⊢
    refine w_n 1 (pc1 := 122) (ls1 := [some (.ref 30), some (.int x1), some (.int x2), some (.int y3), some (.int y4)]) (st1 := [.int y4, .int G217]) (hp1 := (hz F (uA A 31 ((A 31).set y4.toInt.toNat (((A 31).getD y4.toInt.toNat 0) + x2))) L)) rfl ?_
    refine w_ne (p3 := 125) rfl rfl (fun h => ?_) (fun h => ?_)
    · have h1 : ¬ G217 = y4 := h
      rw [if_neg h1] at hE
      refine w_n 4 (pc1 := 139) (ls1 := [some (.ref 30), some (.int x1), some (.int x2), some (.int y3), some (.int y4)]) (st1 := [.int y4, .ref 31, .int y4, .ref 31]) (hp1 := (hz F (uA A 31 ((A 31).set y4.toInt.toNat (((A 31).getD y4.toInt.toNat 0) + x2))) L)) rfl ?_
      refine w_al (k := 31) (l := ((A 31).set y4.toInt.toNat (((A 31).getD y4.toInt.toNat 0) + x2))) rfl rfl rfl (fun ab => ?_)
      refine w_n 2 (pc1 := 142) (ls1 := [some (.ref 30), some (.int x1), some (.int x2), some (.int y3), some (.int y4)]) (st1 := [.int ((((A 31).set y4.toInt.toNat (((A 31).getD y4.toInt.toNat 0) + x2)).getD y4.toInt.toNat 0) - x2), .int y4, .ref 31]) (hp1 := (hz F (uA A 31 ((A 31).set y4.toInt.toNat (((A 31).getD y4.toInt.toNat 0) + x2))) L)) rfl ?_
      refine w_as (k := 31) (l := ((A 31).set y4.toInt.toNat (((A 31).getD y4.toInt.toNat 0) + x2))) (hp1 := (hz F (uA (uA A 31 ((A 31).set y4.toInt.toNat (((A 31).getD y4.toInt.toNat 0) + x2))) 31 (((A 31).set y4.toInt.toNat (((A 31).getD y4.toInt.toNat 0) + x2)).set y4.toInt.toNat ((((A 31).set y4.toInt.toNat (((A 31).getD y4.toInt.toNat 0) + x2)).getD y4.toInt.toNat 0) - x2))) L)) rfl rfl rfl (hz_s31 _) (fun ab => ?_)
      refine w_n 2 (pc1 := 90) (ls1 := [some (.ref 30), some (.int x1), some (.int x2), some (.int y3), some (.int (y4 + 1))]) (st1 := []) (hp1 := (hz F (uA (uA A 31 ((A 31).set y4.toInt.toNat (((A 31).getD y4.toInt.toNat 0) + x2))) 31 (((A 31).set y4.toInt.toNat (((A 31).getD y4.toInt.toNat 0) + x2)).set y4.toInt.toNat ((((A 31).set y4.toInt.toNat (((A 31).getD y4.toInt.toNat 0) + x2)).getD y4.toInt.toNat 0) - x2))) L)) rfl ?_
      subst T
      have hb2 := i_up (B := (F 3 0)) hb
      have hb3 : y4.toInt < (F 3 0).toInt := hb
      exact ih (show m = ((F 3 0).toInt - (y4 + 1).toInt).toNat by rw [hb2]; omega) (fun q4 => cvE rfl (funext fun q => if k0 : q = 31 then by subst k0; exact Eq.trans (b := (kv_possibleWinners_90 x2 m y3 (y4 + 1) (((A 31).set y4.toInt.toNat (((A 31).getD y4.toInt.toNat 0) + x2)).set y4.toInt.toNat ((((A 31).set y4.toInt.toNat (((A 31).getD y4.toInt.toNat 0) + x2)).getD y4.toInt.toNat 0) - x2))).2) rfl rfl else by unfold uA; simp only [nb1 k0, cond_false]) rfl (K q4))
    · have h1 : G217 = y4 := h
      rw [if_pos h1] at hE
      refine w_n 10 (pc1 := 139) (ls1 := [some (.ref 30), some (.int x1), some (.int x2), some (.int (y3 ||| ((1 : Int32) <<< (y4 &&& 31)))), some (.int y4)]) (st1 := [.int y4, .ref 31, .int y4, .ref 31]) (hp1 := (hz F (uA A 31 ((A 31).set y4.toInt.toNat (((A 31).getD y4.toInt.toNat 0) + x2))) L)) rfl ?_
      refine w_al (k := 31) (l := ((A 31).set y4.toInt.toNat (((A 31).getD y4.toInt.toNat 0) + x2))) rfl rfl rfl (fun ab => ?_)
      refine w_n 2 (pc1 := 142) (ls1 := [some (.ref 30), some (.int x1), some (.int x2), some (.int (y3 ||| ((1 : Int32) <<< (y4 &&& 31)))), some (.int y4)]) (st1 := [.int ((((A 31).set y4.toInt.toNat (((A 31).getD y4.toInt.toNat 0) + x2)).getD y4.toInt.toNat 0) - x2), .int y4, .ref 31]) (hp1 := (hz F (uA A 31 ((A 31).set y4.toInt.toNat (((A 31).getD y4.toInt.toNat 0) + x2))) L)) rfl ?_
      refine w_as (k := 31) (l := ((A 31).set y4.toInt.toNat (((A 31).getD y4.toInt.toNat 0) + x2))) (hp1 := (hz F (uA (uA A 31 ((A 31).set y4.toInt.toNat (((A 31).getD y4.toInt.toNat 0) + x2))) 31 (((A 31).set y4.toInt.toNat (((A 31).getD y4.toInt.toNat 0) + x2)).set y4.toInt.toNat ((((A 31).set y4.toInt.toNat (((A 31).getD y4.toInt.toNat 0) + x2)).getD y4.toInt.toNat 0) - x2))) L)) rfl rfl rfl (hz_s31 _) (fun ab => ?_)
      refine w_n 2 (pc1 := 90) (ls1 := [some (.ref 30), some (.int x1), some (.int x2), some (.int (y3 ||| ((1 : Int32) <<< (y4 &&& 31)))), some (.int (y4 + 1))]) (st1 := []) (hp1 := (hz F (uA (uA A 31 ((A 31).set y4.toInt.toNat (((A 31).getD y4.toInt.toNat 0) + x2))) 31 (((A 31).set y4.toInt.toNat (((A 31).getD y4.toInt.toNat 0) + x2)).set y4.toInt.toNat ((((A 31).set y4.toInt.toNat (((A 31).getD y4.toInt.toNat 0) + x2)).getD y4.toInt.toNat 0) - x2))) L)) rfl ?_
      subst T
      have hb2 := i_up (B := (F 3 0)) hb
      have hb3 : y4.toInt < (F 3 0).toInt := hb
      exact ih (show m = ((F 3 0).toInt - (y4 + 1).toInt).toNat by rw [hb2]; omega) (fun q4 => cvE rfl (funext fun q => if k0 : q = 31 then by subst k0; exact Eq.trans (b := (kv_possibleWinners_90 x2 m (y3 ||| ((1 : Int32) <<< (y4 &&& 31))) (y4 + 1) (((A 31).set y4.toInt.toNat (((A 31).getD y4.toInt.toNat 0) + x2)).set y4.toInt.toNat ((((A 31).set y4.toInt.toNat (((A 31).getD y4.toInt.toNat 0) + x2)).getD y4.toInt.toNat 0) - x2))).2) rfl rfl else by unfold uA; simp only [nb1 k0, cond_false]) rfl (K q4))
noncomputable def kv_possibleWinners (f3_0 : Int32) (f3_1 : Int32) (a6 : List Int32) (a31 : List Int32) (a35 : List Int32) (l11 : List Int64) (x1 : Int32) : Int32 × List Int32 × List Int32 := ((kv_possibleWinners_90 (kv_possibleWinners_8 f3_0 a6 l11 x1 12 0 0 (kv_countFirsts f3_0 f3_1 a6 a31 a35 l11).1).1 f3_0.toInt.toNat 0 0 (kv_possibleWinners_8 f3_0 a6 l11 x1 12 0 0 (kv_countFirsts f3_0 f3_1 a6 a31 a35 l11).1).2).1, (kv_possibleWinners_90 (kv_possibleWinners_8 f3_0 a6 l11 x1 12 0 0 (kv_countFirsts f3_0 f3_1 a6 a31 a35 l11).1).1 f3_0.toInt.toNat 0 0 (kv_possibleWinners_8 f3_0 a6 l11 x1 12 0 0 (kv_countFirsts f3_0 f3_1 a6 a31 a35 l11).1).2).2, (kv_countFirsts f3_0 f3_1 a6 a31 a35 l11).2)
theorem t_kv_possibleWinners {f D : Nat} {F : Nat → Nat → Int32} {A : Nat → List Int32} {L : Nat → List Int64} {Q : Option Value → sm_H → Prop} {x1 : Int32} (K : Q (some (.int ((kv_possibleWinners (F 3 0) (F 3 1) (A 6) (A 31) (A 35) (L 11) x1).1))) (hz F (uA (uA A 31 ((kv_possibleWinners (F 3 0) (F 3 1) (A 6) (A 31) (A 35) (L 11) x1).2.1)) 35 ((kv_possibleWinners (F 3 0) (F 3 1) (A 6) (A 31) (A 35) (L 11) x1).2.2)) L)) : wl_M f D 121 [.ref 30, .int x1] (hz F A L) Q := by
  generalize hT : (kv_possibleWinners (F 3 0) (F 3 1) (A 6) (A 31) (A 35) (L 11) x1) = T at K
  have hE : T = ((kv_possibleWinners_90 (kv_possibleWinners_8 (F 3 0) (A 6) (L 11) x1 12 0 0 (kv_countFirsts (F 3 0) (F 3 1) (A 6) (A 31) (A 35) (L 11)).1).1 (F 3 0).toInt.toNat 0 0 (kv_possibleWinners_8 (F 3 0) (A 6) (L 11) x1 12 0 0 (kv_countFirsts (F 3 0) (F 3 1) (A 6) (A 31) (A 35) (L 11)).1).2).1, (kv_possibleWinners_90 (kv_possibleWinners_8 (F 3 0) (A 6) (L 11) x1 12 0 0 (kv_countFirsts (F 3 0) (F 3 1) (A 6) (A 31) (A 35) (L 11)).1).1 (F 3 0).toInt.toNat 0 0 (kv_possibleWinners_8 (F 3 0) (A 6) (L 11) x1 12 0 0 (kv_countFirsts (F 3 0) (F 3 1) (A 6) (A 31) (A 35) (L 11)).1).2).2, (kv_countFirsts (F 3 0) (F 3 1) (A 6) (A 31) (A 35) (L 11)).2) := hT.symm
  clear hT
  refine w_m (E := mm121) rfl ?_
  show wl_E f f (D - 1) mm121.2.2.2.2.2.2.2.2 0 [some (.ref 30), some (.int x1), none, none, none] [] (hz F A L) Q
  refine w_n 1 (pc1 := 1) (ls1 := [some (.ref 30), some (.int x1), none, none, none]) (st1 := [.ref 30]) (hp1 := (hz F A L)) rfl ?_
  refine w_c rfl rfl (t_kv_countFirsts ?_)
  show wl_E f _ _ mm121.2.2.2.2.2.2.2.2 4 [some (.ref 30), some (.int x1), none, none, none] [] (hz F (uA (uA A 31 (kv_countFirsts (F 3 0) (F 3 1) (A 6) (A 31) (A 35) (L 11)).1) 35 (kv_countFirsts (F 3 0) (F 3 1) (A 6) (A 31) (A 35) (L 11)).2) L) _
  generalize hG213 : (kv_countFirsts (F 3 0) (F 3 1) (A 6) (A 31) (A 35) (L 11)) = G213 at hE ⊢
  refine w_n 4 (pc1 := 8) (ls1 := [some (.ref 30), some (.int x1), some (.int 0), some (.int 0), none]) (st1 := []) (hp1 := (hz F (uA (uA A 31 G213.1) 35 G213.2) L)) rfl ?_
  refine t_kv_possibleWinners_8 12 (show (12 : Nat) = (12 - (0 : Int32).toInt).toNat by have e0 : (0 : Int32).toInt = 0 := rfl; first | rfl | omega) ?_
  intro r1 r2
  show wl_E f _ _ mm121.2.2.2.2.2.2.2.2 85 [some (.ref 30), some (.int x1), some (.int (kv_possibleWinners_8 (F 3 0) (A 6) (L 11) x1 12 0 0 G213.1).1), some (.int r1), r2] [] (hz F (uA (uA (uA A 31 G213.1) 35 G213.2) 31 (kv_possibleWinners_8 (F 3 0) (A 6) (L 11) x1 12 0 0 G213.1).2) L) _
  generalize hG216 : (kv_possibleWinners_8 (F 3 0) (A 6) (L 11) x1 12 0 0 G213.1) = G216 at hE ⊢
  refine w_n 4 (pc1 := 90) (ls1 := [some (.ref 30), some (.int x1), some (.int G216.1), some (.int 0), some (.int 0)]) (st1 := []) (hp1 := (hz F (uA (uA (uA A 31 G213.1) 35 G213.2) 31 G216.2) L)) rfl ?_
  refine t_kv_possibleWinners_90 (F 3 0).toInt.toNat (show (F 3 0).toInt.toNat = ((F 3 0).toInt - (0 : Int32).toInt).toNat by have e0 : (0 : Int32).toInt = 0 := rfl; first | rfl | omega) ?_
  intro r3
  show wl_E f _ _ mm121.2.2.2.2.2.2.2.2 149 [some (.ref 30), some (.int x1), some (.int G216.1), some (.int (kv_possibleWinners_90 G216.1 (F 3 0).toInt.toNat 0 0 G216.2).1), some (.int r3)] [] (hz F (uA (uA (uA (uA A 31 G213.1) 35 G213.2) 31 G216.2) 31 (kv_possibleWinners_90 G216.1 (F 3 0).toInt.toNat 0 0 G216.2).2) L) _
  generalize hG218 : (kv_possibleWinners_90 G216.1 (F 3 0).toInt.toNat 0 0 G216.2) = G218 at hE ⊢
  refine w_n 1 (pc1 := 150) (ls1 := [some (.ref 30), some (.int x1), some (.int G216.1), some (.int G218.1), some (.int r3)]) (st1 := [.int G218.1]) (hp1 := (hz F (uA (uA (uA (uA A 31 G213.1) 35 G213.2) 31 G216.2) 31 G218.2) L)) rfl ?_
  subst T
  exact w_ri rfl (cvQ rfl (funext fun q => if k0 : q = 31 then by subst k0; exact Eq.trans (b := G218.2) rfl rfl else if k1 : q = 35 then by subst k1; exact Eq.trans (b := G213.2) rfl rfl else by unfold uA; simp only [nb1 k0, nb1 k1, cond_false]) rfl K)
noncomputable def kc_sure (f3_0 : Int32) (f3_1 : Int32) (a6 : List Int32) (a31 : List Int32) (a35 : List Int32) (l11 : List Int64) (x1 : Int32) (x2 : Int32) : Int32 × List Int32 × List Int32 := (if (x1 &&& (f3_1 ^^^ (-1))) = 0 then (if 6 < (kji_bitCount x1).toInt then ((-1), a31, a35) else (if (kc_within x2 0 1) = 0 then ((-1), a31, a35) else (if x2 = 1 then ((kv_possibleWinners f3_0 f3_1 a6 a31 a35 l11 x1).1, (kv_possibleWinners f3_0 f3_1 a6 a31 a35 l11 x1).2.1, (kv_possibleWinners f3_0 f3_1 a6 a31 a35 l11 x1).2.2) else (if (kji_bitCount (kv_possibleWinners f3_0 f3_1 a6 a31 a35 l11 x1).1) = 1 then ((kv_possibleWinners f3_0 f3_1 a6 a31 a35 l11 x1).1, (kv_possibleWinners f3_0 f3_1 a6 a31 a35 l11 x1).2.1, (kv_possibleWinners f3_0 f3_1 a6 a31 a35 l11 x1).2.2) else (0, (kv_possibleWinners f3_0 f3_1 a6 a31 a35 l11 x1).2.1, (kv_possibleWinners f3_0 f3_1 a6 a31 a35 l11 x1).2.2))))) else ((-1), a31, a35))
theorem t_kc_sure {f D : Nat} {F : Nat → Nat → Int32} {A : Nat → List Int32} {L : Nat → List Int64} {Q : Option Value → sm_H → Prop} {x1 : Int32} {x2 : Int32} (K : Q (some (.int ((kc_sure (F 3 0) (F 3 1) (A 6) (A 31) (A 35) (L 11) x1 x2).1))) (hz F (uA (uA A 31 ((kc_sure (F 3 0) (F 3 1) (A 6) (A 31) (A 35) (L 11) x1 x2).2.1)) 35 ((kc_sure (F 3 0) (F 3 1) (A 6) (A 31) (A 35) (L 11) x1 x2).2.2)) L)) : wl_M f D 120 [.ref 0, .int x1, .int x2] (hz F A L) Q := by
  generalize hT : (kc_sure (F 3 0) (F 3 1) (A 6) (A 31) (A 35) (L 11) x1 x2) = T at K
  have hE : T = (if (x1 &&& ((F 3 1) ^^^ (-1))) = 0 then (if 6 < (kji_bitCount x1).toInt then ((-1), (A 31), (A 35)) else (if (kc_within x2 0 1) = 0 then ((-1), (A 31), (A 35)) else (if x2 = 1 then ((kv_possibleWinners (F 3 0) (F 3 1) (A 6) (A 31) (A 35) (L 11) x1).1, (kv_possibleWinners (F 3 0) (F 3 1) (A 6) (A 31) (A 35) (L 11) x1).2.1, (kv_possibleWinners (F 3 0) (F 3 1) (A 6) (A 31) (A 35) (L 11) x1).2.2) else (if (kji_bitCount (kv_possibleWinners (F 3 0) (F 3 1) (A 6) (A 31) (A 35) (L 11) x1).1) = 1 then ((kv_possibleWinners (F 3 0) (F 3 1) (A 6) (A 31) (A 35) (L 11) x1).1, (kv_possibleWinners (F 3 0) (F 3 1) (A 6) (A 31) (A 35) (L 11) x1).2.1, (kv_possibleWinners (F 3 0) (F 3 1) (A 6) (A 31) (A 35) (L 11) x1).2.2) else (0, (kv_possibleWinners (F 3 0) (F 3 1) (A 6) (A 31) (A 35) (L 11) x1).2.1, (kv_possibleWinners (F 3 0) (F 3 1) (A 6) (A 31) (A 35) (L 11) x1).2.2))))) else ((-1), (A 31), (A 35))) := hT.symm
  clear hT
  refine w_m (E := mm120) rfl ?_
  show wl_E f f (D - 1) mm120.2.2.2.2.2.2.2.2 0 [some (.ref 0), some (.int x1), some (.int x2), none] [] (hz F A L) Q
  refine w_n 7 (pc1 := 11) (ls1 := [some (.ref 0), some (.int x1), some (.int x2), none]) (st1 := [.int (x1 &&& ((F 3 1) ^^^ (-1)))]) (hp1 := (hz F A L)) rfl ?_
  refine w_zne (p3 := 14) rfl rfl (fun h => ?_) (fun h => ?_)
  · have h1 : ¬ (x1 &&& ((F 3 1) ^^^ (-1))) = 0 := h
    rw [if_neg h1] at hE
    refine w_n 1 (pc1 := 24) (ls1 := [some (.ref 0), some (.int x1), some (.int x2), none]) (st1 := [.int (-1)]) (hp1 := (hz F A L)) rfl ?_
    subst T
    exact w_ri rfl (cvQ rfl (funext fun q => if k0 : q = 31 then by subst k0; exact Eq.trans (b := (A 31)) rfl rfl else if k1 : q = 35 then by subst k1; exact Eq.trans (b := (A 35)) rfl rfl else by unfold uA; simp only [nb1 k0, nb1 k1, cond_false]) rfl K)
  · have h1 : (x1 &&& ((F 3 1) ^^^ (-1))) = 0 := h
    rw [if_pos h1] at hE
    refine w_n 1 (pc1 := 15) (ls1 := [some (.ref 0), some (.int x1), some (.int x2), none]) (st1 := [.int x1]) (hp1 := (hz F A L)) rfl ?_
    refine w_c rfl rfl (t_kji_bitCount ?_)
    show wl_E f _ _ mm120.2.2.2.2.2.2.2.2 18 [some (.ref 0), some (.int x1), some (.int x2), none] [.int (kji_bitCount x1)] (hz F A L) _
    generalize hG211 : (kji_bitCount x1) = G211 at hE ⊢
    refine w_n 1 (pc1 := 20) (ls1 := [some (.ref 0), some (.int x1), some (.int x2), none]) (st1 := [.int 6, .int G211]) (hp1 := (hz F A L)) rfl ?_
    refine w_le (p3 := 23) rfl rfl (fun h => ?_) (fun h => ?_)
    · have h2 : G211.toInt ≤ 6 := h
      rw [if_neg (Int.not_lt.mpr h2)] at hE
      refine w_n 3 (pc1 := 28) (ls1 := [some (.ref 0), some (.int x1), some (.int x2), none]) (st1 := [.int 1, .int 0, .int x2]) (hp1 := (hz F A L)) rfl ?_
      refine w_c rfl rfl (t_kc_within ?_)
      show wl_E f _ _ mm120.2.2.2.2.2.2.2.2 31 [some (.ref 0), some (.int x1), some (.int x2), none] [.int (kc_within x2 0 1)] (hz F A L) _
      generalize hG212 : (kc_within x2 0 1) = G212 at hE ⊢
      refine w_zne (p3 := 34) rfl rfl (fun h => ?_) (fun h => ?_)
      · have h3 : ¬ G212 = 0 := h
        rw [if_neg h3] at hE
        refine w_n 3 (pc1 := 41) (ls1 := [some (.ref 0), some (.int x1), some (.int x2), none]) (st1 := [.int x1, .ref 30]) (hp1 := (hz F A L)) rfl ?_
        refine w_c rfl rfl (t_kv_possibleWinners ?_)
        show wl_E f _ _ mm120.2.2.2.2.2.2.2.2 44 [some (.ref 0), some (.int x1), some (.int x2), none] [.int (kv_possibleWinners (F 3 0) (F 3 1) (A 6) (A 31) (A 35) (L 11) x1).1] (hz F (uA (uA A 31 (kv_possibleWinners (F 3 0) (F 3 1) (A 6) (A 31) (A 35) (L 11) x1).2.1) 35 (kv_possibleWinners (F 3 0) (F 3 1) (A 6) (A 31) (A 35) (L 11) x1).2.2) L) _
        generalize hG219 : (kv_possibleWinners (F 3 0) (F 3 1) (A 6) (A 31) (A 35) (L 11) x1) = G219 at hE ⊢
        refine w_n 3 (pc1 := 47) (ls1 := [some (.ref 0), some (.int x1), some (.int x2), some (.int G219.1)]) (st1 := [.int 1, .int x2]) (hp1 := (hz F (uA (uA A 31 G219.2.1) 35 G219.2.2) L)) rfl ?_
        refine w_ne (p3 := 50) rfl rfl (fun h => ?_) (fun h => ?_)
        · have h4 : ¬ x2 = 1 := h
          rw [if_neg h4] at hE
          refine w_n 1 (pc1 := 53) (ls1 := [some (.ref 0), some (.int x1), some (.int x2), some (.int G219.1)]) (st1 := [.int G219.1]) (hp1 := (hz F (uA (uA A 31 G219.2.1) 35 G219.2.2) L)) rfl ?_
          refine w_c rfl rfl (t_kji_bitCount ?_)
          show wl_E f _ _ mm120.2.2.2.2.2.2.2.2 56 [some (.ref 0), some (.int x1), some (.int x2), some (.int G219.1)] [.int (kji_bitCount G219.1)] (hz F (uA (uA A 31 G219.2.1) 35 G219.2.2) L) _
          generalize hG220 : (kji_bitCount G219.1) = G220 at hE ⊢
          refine w_n 1 (pc1 := 57) (ls1 := [some (.ref 0), some (.int x1), some (.int x2), some (.int G219.1)]) (st1 := [.int 1, .int G220]) (hp1 := (hz F (uA (uA A 31 G219.2.1) 35 G219.2.2) L)) rfl ?_
          refine w_ne (p3 := 60) rfl rfl (fun h => ?_) (fun h => ?_)
          · have h5 : ¬ G220 = 1 := h
            rw [if_neg h5] at hE
            refine w_n 1 (pc1 := 65) (ls1 := [some (.ref 0), some (.int x1), some (.int x2), some (.int G219.1)]) (st1 := [.int 0]) (hp1 := (hz F (uA (uA A 31 G219.2.1) 35 G219.2.2) L)) rfl ?_
            subst T
            exact w_ri rfl (cvQ rfl rfl rfl K)
          · have h5 : G220 = 1 := h
            rw [if_pos h5] at hE
            refine w_n 2 (pc1 := 65) (ls1 := [some (.ref 0), some (.int x1), some (.int x2), some (.int G219.1)]) (st1 := [.int G219.1]) (hp1 := (hz F (uA (uA A 31 G219.2.1) 35 G219.2.2) L)) rfl ?_
            subst T
            exact w_ri rfl (cvQ rfl rfl rfl K)
        · have h4 : x2 = 1 := h
          rw [if_pos h4] at hE
          refine w_n 1 (pc1 := 51) (ls1 := [some (.ref 0), some (.int x1), some (.int x2), some (.int G219.1)]) (st1 := [.int G219.1]) (hp1 := (hz F (uA (uA A 31 G219.2.1) 35 G219.2.2) L)) rfl ?_
          subst T
          exact w_ri rfl (cvQ rfl rfl rfl K)
      · have h3 : G212 = 0 := h
        rw [if_pos h3] at hE
        refine w_n 1 (pc1 := 35) (ls1 := [some (.ref 0), some (.int x1), some (.int x2), none]) (st1 := [.int (-1)]) (hp1 := (hz F A L)) rfl ?_
        subst T
        exact w_ri rfl (cvQ rfl (funext fun q => if k0 : q = 31 then by subst k0; exact Eq.trans (b := (A 31)) rfl rfl else if k1 : q = 35 then by subst k1; exact Eq.trans (b := (A 35)) rfl rfl else by unfold uA; simp only [nb1 k0, nb1 k1, cond_false]) rfl K)
    · have h2 : 6 < G211.toInt := h
      rw [if_pos h2] at hE
      refine w_n 1 (pc1 := 24) (ls1 := [some (.ref 0), some (.int x1), some (.int x2), none]) (st1 := [.int (-1)]) (hp1 := (hz F A L)) rfl ?_
      subst T
      exact w_ri rfl (cvQ rfl (funext fun q => if k0 : q = 31 then by subst k0; exact Eq.trans (b := (A 31)) rfl rfl else if k1 : q = 35 then by subst k1; exact Eq.trans (b := (A 35)) rfl rfl else by unfold uA; simp only [nb1 k0, nb1 k1, cond_false]) rfl K)
noncomputable def km_sure_47 (f67_3 : Int32) (x1 : Int32) : Nat → Int32 → Int32 → Int32 → List Int32 → Int32 × Int32 × List Int32
  | 0, y3, y4, _, a95 => (y3, y4, a95)
  | m + 1, y3, y4, y5, a95 => (if (km_has x1 y5) = 0 then (km_sure_47 f67_3 x1 m y3 y4 (y5 + 1) a95) else (km_sure_47 f67_3 x1 m (y3 + 1) (y4 * f67_3) (y5 + 1) (a95.set y3.toInt.toNat y5)))
theorem t_km_sure_47 {f : Nat} {Q : Option Value → sm_H → Prop} : ∀ (m : Nat) {B D : Nat} {F : Nat → Nat → Int32} {A : Nat → List Int32} {L : Nat → List Int64} {x1 : Int32} {x2 : Int32} {y3 : Int32} {y4 : Int32} {y5 : Int32} {o6 : Option Value} {o7 : Option Value} {o8 : Option Value}, m = (12 - y5.toInt).toNat → (∀ q5 : Int32, wl_E f B D mm235.2.2.2.2.2.2.2.2 93 [some (.ref 67), some (.int x1), some (.int x2), some (.int ((km_sure_47 (F 67 3) x1 m y3 y4 y5 (A 95)).1)), some (.int ((km_sure_47 (F 67 3) x1 m y3 y4 y5 (A 95)).2.1)), some (.int q5), o6, o7, o8] [] (hz F (uA A 95 ((km_sure_47 (F 67 3) x1 m y3 y4 y5 (A 95)).2.2)) L) Q) → wl_E f B D mm235.2.2.2.2.2.2.2.2 47 [some (.ref 67), some (.int x1), some (.int x2), some (.int y3), some (.int y4), some (.int y5), o6, o7, o8] [] (hz F A L) Q := by
  intro m
  induction m with
  | zero =>
    intro B D F A L x1 x2 y3 y4 y5 o6 o7 o8 hm K
    generalize hT : (km_sure_47 (F 67 3) x1 0 y3 y4 y5 (A 95)) = T at K
    have hE : T = (y3, y4, (A 95)) := hT.symm
    clear hT
    refine w_n 2 (pc1 := 51) (ls1 := [some (.ref 67), some (.int x1), some (.int x2), some (.int y3), some (.int y4), some (.int y5), o6, o7, o8]) (st1 := [.int 12, .int y5]) (hp1 := (hz F A L)) rfl ?_
    refine w_ge (p3 := 54) rfl rfl (fun hb => ?_) (fun h => False.elim (by have h : y5.toInt < 12 := h; omega))
    subst T
    exact cvE rfl (funext fun q => if k0 : q = 95 then by subst k0; exact Eq.trans (b := (A 95)) rfl rfl else by unfold uA; simp only [nb1 k0, cond_false]) rfl (K _)
  | succ m ih =>
    intro B D F A L x1 x2 y3 y4 y5 o6 o7 o8 hm K
    generalize hT : (km_sure_47 (F 67 3) x1 (m + 1) y3 y4 y5 (A 95)) = T at K
    have hE : T = (if (km_has x1 y5) = 0 then (km_sure_47 (F 67 3) x1 m y3 y4 (y5 + 1) (A 95)) else (km_sure_47 (F 67 3) x1 m (y3 + 1) (y4 * (F 67 3)) (y5 + 1) ((A 95).set y3.toInt.toNat y5))) := hT.symm
    clear hT
    refine w_n 2 (pc1 := 51) (ls1 := [some (.ref 67), some (.int x1), some (.int x2), some (.int y3), some (.int y4), some (.int y5), o6, o7, o8]) (st1 := [.int 12, .int y5]) (hp1 := (hz F A L)) rfl ?_
    refine w_ge (p3 := 54) rfl rfl (fun h => False.elim (by have h : 12 ≤ y5.toInt := h; omega)) (fun hb => ?_)
    refine w_n 2 (pc1 := 57) (ls1 := [some (.ref 67), some (.int x1), some (.int x2), some (.int y3), some (.int y4), some (.int y5), o6, o7, o8]) (st1 := [.int y5, .int x1]) (hp1 := (hz F A L)) rfl ?_
    refine w_c rfl rfl (t_km_has ?_)
    show wl_E f _ _ mm235.2.2.2.2.2.2.2.2 60 [some (.ref 67), some (.int x1), some (.int x2), some (.int y3), some (.int y4), some (.int y5), o6, o7, o8] [.int (km_has x1 y5)] (hz F A L) _
    generalize hG223 : (km_has x1 y5) = G223 at hE ⊢
    refine w_zne (p3 := 63) rfl rfl (fun h => ?_) (fun h => ?_)
    · have h1 : ¬ G223 = 0 := h
      rw [if_neg h1] at hE
      refine w_n 4 (pc1 := 73) (ls1 := [some (.ref 67), some (.int x1), some (.int x2), some (.int y3), some (.int y4), some (.int y5), o6, o7, o8]) (st1 := [.int y5, .int y3, .ref 95]) (hp1 := (hz F A L)) rfl ?_
      refine w_as (k := 95) (l := (A 95)) (hp1 := (hz F (uA A 95 ((A 95).set y3.toInt.toNat y5)) L)) rfl rfl rfl (hz_s95 _) (fun _ => ?_)
      refine w_n 11 (pc1 := 47) (ls1 := [some (.ref 67), some (.int x1), some (.int x2), some (.int (y3 + 1)), some (.int (y4 * (F 67 3))), some (.int (y5 + 1)), o6, o7, o8]) (st1 := []) (hp1 := (hz F (uA A 95 ((A 95).set y3.toInt.toNat y5)) L)) rfl ?_
      subst T
      have hb2 := i_up (B := (12 : Int32)) hb
      have hb3 : y5.toInt < 12 := hb
      exact ih (show m = (12 - (y5 + 1).toInt).toNat by rw [hb2]; omega) (fun q5 => cvE rfl (funext fun q => if k0 : q = 95 then by subst k0; exact Eq.trans (b := (km_sure_47 (F 67 3) x1 m (y3 + 1) (y4 * (F 67 3)) (y5 + 1) ((A 95).set y3.toInt.toNat y5)).2.2) rfl rfl else by unfold uA; simp only [nb1 k0, cond_false]) rfl (K q5))
    · have h1 : G223 = 0 := h
      rw [if_pos h1] at hE
      refine w_n 3 (pc1 := 47) (ls1 := [some (.ref 67), some (.int x1), some (.int x2), some (.int y3), some (.int y4), some (.int (y5 + 1)), o6, o7, o8]) (st1 := []) (hp1 := (hz F A L)) rfl ?_
      subst T
      have hb2 := i_up (B := (12 : Int32)) hb
      have hb3 : y5.toInt < 12 := hb
      exact ih (show m = (12 - (y5 + 1).toInt).toNat by rw [hb2]; omega) (fun q5 => cvE rfl (funext fun q => if k0 : q = 95 then by subst k0; exact Eq.trans (b := (km_sure_47 (F 67 3) x1 m y3 y4 (y5 + 1) (A 95)).2.2) rfl rfl else by unfold uA; simp only [nb1 k0, cond_false]) rfl (K q5))
noncomputable def km_sure_118 (a87 : List Int32)  : Nat → Int32 → List Int32 → List Int32
  | 0, _, a96 => a96
  | m + 1, y7, a96 => (km_sure_118 a87 m (y7 + 1) (a96.set y7.toInt.toNat (a87.getD y7.toInt.toNat 0)))
theorem t_km_sure_118 {f : Nat} {Q : Option Value → sm_H → Prop} : ∀ (m : Nat) {B D : Nat} {F : Nat → Nat → Int32} {A : Nat → List Int32} {L : Nat → List Int64} {x1 : Int32} {x2 : Int32} {x3 : Int32} {x4 : Int32} {x5 : Int32} {x6 : Int32} {y7 : Int32} {o8 : Option Value}, m = ((F 67 3).toInt - y7.toInt).toNat → (∀ q7 : Int32, wl_E f B D mm235.2.2.2.2.2.2.2.2 147 [some (.ref 67), some (.int x1), some (.int x2), some (.int x3), some (.int x4), some (.int x5), some (.int x6), some (.int q7), o8] [] (hz F (uA A 96 (km_sure_118 (A 87) m y7 (A 96))) L) Q) → wl_E f B D mm235.2.2.2.2.2.2.2.2 118 [some (.ref 67), some (.int x1), some (.int x2), some (.int x3), some (.int x4), some (.int x5), some (.int x6), some (.int y7), o8] [] (hz F A L) Q := by
  intro m
  induction m with
  | zero =>
    intro B D F A L x1 x2 x3 x4 x5 x6 y7 o8 hm K
    generalize hT : (km_sure_118 (A 87) 0 y7 (A 96)) = T at K
    have hE : T = (A 96) := hT.symm
    clear hT
    refine w_n 3 (pc1 := 124) (ls1 := [some (.ref 67), some (.int x1), some (.int x2), some (.int x3), some (.int x4), some (.int x5), some (.int x6), some (.int y7), o8]) (st1 := [.int (F 67 3), .int y7]) (hp1 := (hz F A L)) rfl ?_
    refine w_ge (p3 := 127) rfl rfl (fun hb => ?_) (fun h => False.elim (by have h : y7.toInt < (F 67 3).toInt := h; omega))
    subst T
    exact cvE rfl (funext fun q => if k0 : q = 96 then by subst k0; exact Eq.trans (b := (A 96)) rfl rfl else by unfold uA; simp only [nb1 k0, cond_false]) rfl (K _)
  | succ m ih =>
    intro B D F A L x1 x2 x3 x4 x5 x6 y7 o8 hm K
    generalize hT : (km_sure_118 (A 87) (m + 1) y7 (A 96)) = T at K
    have hE : T = (km_sure_118 (A 87) m (y7 + 1) ((A 96).set y7.toInt.toNat ((A 87).getD y7.toInt.toNat 0))) := hT.symm
    clear hT
    refine w_n 3 (pc1 := 124) (ls1 := [some (.ref 67), some (.int x1), some (.int x2), some (.int x3), some (.int x4), some (.int x5), some (.int x6), some (.int y7), o8]) (st1 := [.int (F 67 3), .int y7]) (hp1 := (hz F A L)) rfl ?_
    refine w_ge (p3 := 127) rfl rfl (fun h => False.elim (by have h : (F 67 3).toInt ≤ y7.toInt := h; omega)) (fun hb => ?_)
    refine w_n 6 (pc1 := 139) (ls1 := [some (.ref 67), some (.int x1), some (.int x2), some (.int x3), some (.int x4), some (.int x5), some (.int x6), some (.int y7), o8]) (st1 := [.int y7, .ref 87, .int y7, .ref 96]) (hp1 := (hz F A L)) rfl ?_
    refine w_al (k := 87) (l := (A 87)) rfl rfl rfl (fun ab => ?_)
    refine w_as (k := 96) (l := (A 96)) (hp1 := (hz F (uA A 96 ((A 96).set y7.toInt.toNat ((A 87).getD y7.toInt.toNat 0))) L)) rfl rfl rfl (hz_s96 _) (fun ab => ?_)
    refine w_n 2 (pc1 := 118) (ls1 := [some (.ref 67), some (.int x1), some (.int x2), some (.int x3), some (.int x4), some (.int x5), some (.int x6), some (.int (y7 + 1)), o8]) (st1 := []) (hp1 := (hz F (uA A 96 ((A 96).set y7.toInt.toNat ((A 87).getD y7.toInt.toNat 0))) L)) rfl ?_
    subst T
    have hb2 := i_up (B := (F 67 3)) hb
    have hb3 : y7.toInt < (F 67 3).toInt := hb
    exact ih (show m = ((F 67 3).toInt - (y7 + 1).toInt).toNat by rw [hb2]; omega) (fun q7 => cvE rfl (funext fun q => if k0 : q = 96 then by subst k0; exact Eq.trans (b := (km_sure_118 (A 87) m (y7 + 1) ((A 96).set y7.toInt.toNat ((A 87).getD y7.toInt.toNat 0)))) rfl rfl else by unfold uA; simp only [nb1 k0, cond_false]) rfl (K q7))
noncomputable def km_sure_154 (f67_3 : Int32) (a68 : List Int32) (a95 : List Int32)  : Nat → Int32 → Int32 → List Int32 → List Int32
  | 0, _, _, a96 => a96
  | m + 1, y7, y8, a96 => (km_sure_154 f67_3 a68 a95 m (y7 / f67_3) (y8 + 1) (a96.set (y7 - y7 / f67_3 * f67_3).toInt.toNat ((a96.getD (y7 - y7 / f67_3 * f67_3).toInt.toNat 0) + (a68.getD (12 + (a95.getD y8.toInt.toNat 0)).toInt.toNat 0))))
theorem t_km_sure_154 {f : Nat} {Q : Option Value → sm_H → Prop} : ∀ (m : Nat) {B D : Nat} {F : Nat → Nat → Int32} {A : Nat → List Int32} {L : Nat → List Int64} {x1 : Int32} {x2 : Int32} {x3 : Int32} {x4 : Int32} {x5 : Int32} {x6 : Int32} {y7 : Int32} {y8 : Int32}, m = (x3.toInt - y8.toInt).toNat → (∀ q7 : Int32, ∀ q8 : Int32, wl_E f B D mm235.2.2.2.2.2.2.2.2 215 [some (.ref 67), some (.int x1), some (.int x2), some (.int x3), some (.int x4), some (.int x5), some (.int x6), some (.int q7), some (.int q8)] [] (hz F (uA A 96 (km_sure_154 (F 67 3) (A 68) (A 95) m y7 y8 (A 96))) L) Q) → wl_E f B D mm235.2.2.2.2.2.2.2.2 154 [some (.ref 67), some (.int x1), some (.int x2), some (.int x3), some (.int x4), some (.int x5), some (.int x6), some (.int y7), some (.int y8)] [] (hz F A L) Q := by
  intro m
  induction m with
  | zero =>
    intro B D F A L x1 x2 x3 x4 x5 x6 y7 y8 hm K
    generalize hT : (km_sure_154 (F 67 3) (A 68) (A 95) 0 y7 y8 (A 96)) = T at K
    have hE : T = (A 96) := hT.symm
    clear hT
    refine w_n 2 (pc1 := 157) (ls1 := [some (.ref 67), some (.int x1), some (.int x2), some (.int x3), some (.int x4), some (.int x5), some (.int x6), some (.int y7), some (.int y8)]) (st1 := [.int x3, .int y8]) (hp1 := (hz F A L)) rfl ?_
    refine w_ge (p3 := 160) rfl rfl (fun hb => ?_) (fun h => False.elim (by have h : y8.toInt < x3.toInt := h; omega))
    subst T
    exact cvE rfl (funext fun q => if k0 : q = 96 then by subst k0; exact Eq.trans (b := (A 96)) rfl rfl else by unfold uA; simp only [nb1 k0, cond_false]) rfl (K _ _)
  | succ m ih =>
    intro B D F A L x1 x2 x3 x4 x5 x6 y7 y8 hm K
    generalize hT : (km_sure_154 (F 67 3) (A 68) (A 95) (m + 1) y7 y8 (A 96)) = T at K
    have hE : T = (km_sure_154 (F 67 3) (A 68) (A 95) m (y7 / (F 67 3)) (y8 + 1) ((A 96).set (y7 - y7 / (F 67 3) * (F 67 3)).toInt.toNat (((A 96).getD (y7 - y7 / (F 67 3) * (F 67 3)).toInt.toNat 0) + ((A 68).getD (12 + ((A 95).getD y8.toInt.toNat 0)).toInt.toNat 0)))) := hT.symm
    clear hT
    refine w_n 2 (pc1 := 157) (ls1 := [some (.ref 67), some (.int x1), some (.int x2), some (.int x3), some (.int x4), some (.int x5), some (.int x6), some (.int y7), some (.int y8)]) (st1 := [.int x3, .int y8]) (hp1 := (hz F A L)) rfl ?_
    refine w_ge (p3 := 160) rfl rfl (fun h => False.elim (by have h : x3.toInt ≤ y8.toInt := h; omega)) (fun hb => ?_)
    refine w_n 5 (pc1 := 170) (ls1 := [some (.ref 67), some (.int x1), some (.int x2), some (.int x3), some (.int x4), some (.int x5), some (.int x6), some (.int y7), some (.int y8)]) (st1 := [.int (F 67 3), .int y7, .ref 96]) (hp1 := (hz F A L)) rfl ?_
    refine w_rm rfl rfl (fun _ => ?_)
    refine w_n 5 (pc1 := 181) (ls1 := [some (.ref 67), some (.int x1), some (.int x2), some (.int x3), some (.int x4), some (.int x5), some (.int x6), some (.int y7), some (.int y8)]) (st1 := [.int (F 67 3), .int y7, .ref 96, .int (y7 - y7 / (F 67 3) * (F 67 3)), .ref 96]) (hp1 := (hz F A L)) rfl ?_
    refine w_rm rfl rfl (fun _ => ?_)
    refine w_al (k := 96) (l := (A 96)) rfl rfl rfl (fun _ => ?_)
    refine w_n 6 (pc1 := 195) (ls1 := [some (.ref 67), some (.int x1), some (.int x2), some (.int x3), some (.int x4), some (.int x5), some (.int x6), some (.int y7), some (.int y8)]) (st1 := [.int y8, .ref 95, .int 12, .ref 68, .int ((A 96).getD (y7 - y7 / (F 67 3) * (F 67 3)).toInt.toNat 0), .int (y7 - y7 / (F 67 3) * (F 67 3)), .ref 96]) (hp1 := (hz F A L)) rfl ?_
    refine w_al (k := 95) (l := (A 95)) rfl rfl rfl (fun ab => ?_)
    refine w_n 1 (pc1 := 197) (ls1 := [some (.ref 67), some (.int x1), some (.int x2), some (.int x3), some (.int x4), some (.int x5), some (.int x6), some (.int y7), some (.int y8)]) (st1 := [.int (12 + ((A 95).getD y8.toInt.toNat 0)), .ref 68, .int ((A 96).getD (y7 - y7 / (F 67 3) * (F 67 3)).toInt.toNat 0), .int (y7 - y7 / (F 67 3) * (F 67 3)), .ref 96]) (hp1 := (hz F A L)) rfl ?_
    refine w_al (k := 68) (l := (A 68)) rfl rfl rfl (fun _ => ?_)
    refine w_n 1 (pc1 := 199) (ls1 := [some (.ref 67), some (.int x1), some (.int x2), some (.int x3), some (.int x4), some (.int x5), some (.int x6), some (.int y7), some (.int y8)]) (st1 := [.int (((A 96).getD (y7 - y7 / (F 67 3) * (F 67 3)).toInt.toNat 0) + ((A 68).getD (12 + ((A 95).getD y8.toInt.toNat 0)).toInt.toNat 0)), .int (y7 - y7 / (F 67 3) * (F 67 3)), .ref 96]) (hp1 := (hz F A L)) rfl ?_
    refine w_as (k := 96) (l := (A 96)) (hp1 := (hz F (uA A 96 ((A 96).set (y7 - y7 / (F 67 3) * (F 67 3)).toInt.toNat (((A 96).getD (y7 - y7 / (F 67 3) * (F 67 3)).toInt.toNat 0) + ((A 68).getD (12 + ((A 95).getD y8.toInt.toNat 0)).toInt.toNat 0)))) L)) rfl rfl rfl (hz_s96 _) (fun _ => ?_)
    refine w_n 3 (pc1 := 206) (ls1 := [some (.ref 67), some (.int x1), some (.int x2), some (.int x3), some (.int x4), some (.int x5), some (.int x6), some (.int y7), some (.int y8)]) (st1 := [.int (F 67 3), .int y7]) (hp1 := (hz F (uA A 96 ((A 96).set (y7 - y7 / (F 67 3) * (F 67 3)).toInt.toNat (((A 96).getD (y7 - y7 / (F 67 3) * (F 67 3)).toInt.toNat 0) + ((A 68).getD (12 + ((A 95).getD y8.toInt.toNat 0)).toInt.toNat 0)))) L)) rfl ?_
    refine w_dv rfl rfl (fun _ => ?_)
    refine w_n 3 (pc1 := 154) (ls1 := [some (.ref 67), some (.int x1), some (.int x2), some (.int x3), some (.int x4), some (.int x5), some (.int x6), some (.int (y7 / (F 67 3))), some (.int (y8 + 1))]) (st1 := []) (hp1 := (hz F (uA A 96 ((A 96).set (y7 - y7 / (F 67 3) * (F 67 3)).toInt.toNat (((A 96).getD (y7 - y7 / (F 67 3) * (F 67 3)).toInt.toNat 0) + ((A 68).getD (12 + ((A 95).getD y8.toInt.toNat 0)).toInt.toNat 0)))) L)) rfl ?_
    subst T
    have hb2 := i_up (B := x3) hb
    have hb3 : y8.toInt < x3.toInt := hb
    exact ih (show m = (x3.toInt - (y8 + 1).toInt).toNat by rw [hb2]; omega) (fun q7 q8 => cvE rfl (funext fun q => if k0 : q = 96 then by subst k0; exact Eq.trans (b := (km_sure_154 (F 67 3) (A 68) (A 95) m (y7 / (F 67 3)) (y8 + 1) ((A 96).set (y7 - y7 / (F 67 3) * (F 67 3)).toInt.toNat (((A 96).getD (y7 - y7 / (F 67 3) * (F 67 3)).toInt.toNat 0) + ((A 68).getD (12 + ((A 95).getD y8.toInt.toNat 0)).toInt.toNat 0))))) rfl rfl else by unfold uA; simp only [nb1 k0, cond_false]) rfl (K q7 q8))
noncomputable def km_mostVotes_67_96_4 (a96 : List Int32)  : Nat → Int32 → Int32 → Int32
  | 0, y2, _ => y2
  | m + 1, y2, y3 => (if (a96.getD y2.toInt.toNat 0).toInt < (a96.getD y3.toInt.toNat 0).toInt then (km_mostVotes_67_96_4 a96 m y3 (y3 + 1)) else (km_mostVotes_67_96_4 a96 m y2 (y3 + 1)))
theorem t_km_mostVotes_67_96_4 {f : Nat} {Q : Option Value → sm_H → Prop} : ∀ (m : Nat) {B D : Nat} {F : Nat → Nat → Int32} {A : Nat → List Int32} {L : Nat → List Int64} {y2 : Int32} {y3 : Int32}, m = ((F 67 3).toInt - y3.toInt).toNat → (∀ q3 : Int32, wl_E f B D mm207.2.2.2.2.2.2.2.2 29 [some (.ref 67), some (.ref 96), some (.int (km_mostVotes_67_96_4 (A 96) m y2 y3)), some (.int q3)] [] (hz F A L) Q) → wl_E f B D mm207.2.2.2.2.2.2.2.2 4 [some (.ref 67), some (.ref 96), some (.int y2), some (.int y3)] [] (hz F A L) Q := by
  intro m
  induction m with
  | zero =>
    intro B D F A L y2 y3 hm K
    generalize hT : (km_mostVotes_67_96_4 (A 96) 0 y2 y3) = T at K
    have hE : T = y2 := hT.symm
    clear hT
    refine w_n 3 (pc1 := 9) (ls1 := [some (.ref 67), some (.ref 96), some (.int y2), some (.int y3)]) (st1 := [.int (F 67 3), .int y3]) (hp1 := (hz F A L)) rfl ?_
    refine w_ge (p3 := 12) rfl rfl (fun hb => ?_) (fun h => False.elim (by have h : y3.toInt < (F 67 3).toInt := h; omega))
    subst T
    exact cvE rfl rfl rfl (K _)
  | succ m ih =>
    intro B D F A L y2 y3 hm K
    generalize hT : (km_mostVotes_67_96_4 (A 96) (m + 1) y2 y3) = T at K
    have hE : T = (if ((A 96).getD y2.toInt.toNat 0).toInt < ((A 96).getD y3.toInt.toNat 0).toInt then (km_mostVotes_67_96_4 (A 96) m y3 (y3 + 1)) else (km_mostVotes_67_96_4 (A 96) m y2 (y3 + 1))) := hT.symm
    clear hT
    refine w_n 3 (pc1 := 9) (ls1 := [some (.ref 67), some (.ref 96), some (.int y2), some (.int y3)]) (st1 := [.int (F 67 3), .int y3]) (hp1 := (hz F A L)) rfl ?_
    refine w_ge (p3 := 12) rfl rfl (fun h => False.elim (by have h : (F 67 3).toInt ≤ y3.toInt := h; omega)) (fun hb => ?_)
    refine w_n 2 (pc1 := 14) (ls1 := [some (.ref 67), some (.ref 96), some (.int y2), some (.int y3)]) (st1 := [.int y3, .ref 96]) (hp1 := (hz F A L)) rfl ?_
    refine w_al (k := 96) (l := (A 96)) rfl rfl rfl (fun ab => ?_)
    refine w_n 2 (pc1 := 17) (ls1 := [some (.ref 67), some (.ref 96), some (.int y2), some (.int y3)]) (st1 := [.int y2, .ref 96, .int ((A 96).getD y3.toInt.toNat 0)]) (hp1 := (hz F A L)) rfl ?_
    refine w_al (k := 96) (l := (A 96)) rfl rfl rfl (fun _ => ?_)
    refine w_le (p3 := 21) rfl rfl (fun h => ?_) (fun h => ?_)
    · have h1 : ((A 96).getD y3.toInt.toNat 0).toInt ≤ ((A 96).getD y2.toInt.toNat 0).toInt := h
      rw [if_neg (Int.not_lt.mpr h1)] at hE
      refine w_n 2 (pc1 := 4) (ls1 := [some (.ref 67), some (.ref 96), some (.int y2), some (.int (y3 + 1))]) (st1 := []) (hp1 := (hz F A L)) rfl ?_
      subst T
      have hb2 := i_up (B := (F 67 3)) hb
      have hb3 : y3.toInt < (F 67 3).toInt := hb
      exact ih (show m = ((F 67 3).toInt - (y3 + 1).toInt).toNat by rw [hb2]; omega) (fun q3 => cvE rfl rfl rfl (K q3))
    · have h1 : ((A 96).getD y2.toInt.toNat 0).toInt < ((A 96).getD y3.toInt.toNat 0).toInt := h
      rw [if_pos h1] at hE
      refine w_n 4 (pc1 := 4) (ls1 := [some (.ref 67), some (.ref 96), some (.int y3), some (.int (y3 + 1))]) (st1 := []) (hp1 := (hz F A L)) rfl ?_
      subst T
      have hb2 := i_up (B := (F 67 3)) hb
      have hb3 : y3.toInt < (F 67 3).toInt := hb
      exact ih (show m = ((F 67 3).toInt - (y3 + 1).toInt).toNat by rw [hb2]; omega) (fun q3 => cvE rfl rfl rfl (K q3))
noncomputable def km_mostVotes_67_96 (f67_3 : Int32) (a96 : List Int32) : Int32 := (km_mostVotes_67_96_4 a96 (f67_3.toInt - 1).toNat 0 1)
theorem t_km_mostVotes_67_96 {f D : Nat} {F : Nat → Nat → Int32} {A : Nat → List Int32} {L : Nat → List Int64} {Q : Option Value → sm_H → Prop} (K : Q (some (.int (km_mostVotes_67_96 (F 67 3) (A 96)))) (hz F A L)) : wl_M f D 207 [.ref 67, .ref 96] (hz F A L) Q := by
  generalize hT : (km_mostVotes_67_96 (F 67 3) (A 96)) = T at K
  have hE : T = (km_mostVotes_67_96_4 (A 96) ((F 67 3).toInt - 1).toNat 0 1) := hT.symm
  clear hT
  refine w_m (E := mm207) rfl ?_
  show wl_E f f (D - 1) mm207.2.2.2.2.2.2.2.2 0 [some (.ref 67), some (.ref 96), none, none] [] (hz F A L) Q
  refine w_n 4 (pc1 := 4) (ls1 := [some (.ref 67), some (.ref 96), some (.int 0), some (.int 1)]) (st1 := []) (hp1 := (hz F A L)) rfl ?_
  refine t_km_mostVotes_67_96_4 (((F 67 3).toInt - 1).toNat) (show ((F 67 3).toInt - 1).toNat = ((F 67 3).toInt - (1 : Int32).toInt).toNat by have e0 : (1 : Int32).toInt = 1 := rfl; first | rfl | omega) ?_
  intro r1
  show wl_E f _ _ mm207.2.2.2.2.2.2.2.2 29 [some (.ref 67), some (.ref 96), some (.int (km_mostVotes_67_96_4 (A 96) ((F 67 3).toInt - 1).toNat 0 1)), some (.int r1)] [] (hz F A L) _
  generalize hG229 : (km_mostVotes_67_96_4 (A 96) ((F 67 3).toInt - 1).toNat 0 1) = G229 at hE ⊢
  refine w_n 1 (pc1 := 30) (ls1 := [some (.ref 67), some (.ref 96), some (.int G229), some (.int r1)]) (st1 := [.int G229]) (hp1 := (hz F A L)) rfl ?_
  subst T
  exact w_ri rfl (cvQ rfl rfl rfl K)
noncomputable def km_sure_108 (f67_3 : Int32) (a68 : List Int32) (a87 : List Int32) (a95 : List Int32) (x3 : Int32) : Nat → Int32 → Int32 → List Int32 → Int32 × List Int32
  | 0, y5, _, a96 => (y5, a96)
  | m + 1, y5, y6, a96 => (km_sure_108 f67_3 a68 a87 a95 x3 m (y5 ||| ((1 : Int32) <<< ((km_mostVotes_67_96 f67_3 (km_sure_154 f67_3 a68 a95 x3.toInt.toNat y6 0 (km_sure_118 a87 f67_3.toInt.toNat 0 a96))) &&& 31))) (y6 + 1) (km_sure_154 f67_3 a68 a95 x3.toInt.toNat y6 0 (km_sure_118 a87 f67_3.toInt.toNat 0 a96)))
theorem t_km_sure_108 {f : Nat} {Q : Option Value → sm_H → Prop} : ∀ (m : Nat) {B D : Nat} {F : Nat → Nat → Int32} {A : Nat → List Int32} {L : Nat → List Int64} {x1 : Int32} {x2 : Int32} {x3 : Int32} {x4 : Int32} {y5 : Int32} {y6 : Int32} {o7 : Option Value} {o8 : Option Value}, m = (x4.toInt - y6.toInt).toNat → (∀ q6 : Int32, ∀ q7 : Option Value, ∀ q8 : Option Value, wl_E f B D mm235.2.2.2.2.2.2.2.2 236 [some (.ref 67), some (.int x1), some (.int x2), some (.int x3), some (.int x4), some (.int ((km_sure_108 (F 67 3) (A 68) (A 87) (A 95) x3 m y5 y6 (A 96)).1)), some (.int q6), q7, q8] [] (hz F (uA A 96 ((km_sure_108 (F 67 3) (A 68) (A 87) (A 95) x3 m y5 y6 (A 96)).2)) L) Q) → wl_E f B D mm235.2.2.2.2.2.2.2.2 108 [some (.ref 67), some (.int x1), some (.int x2), some (.int x3), some (.int x4), some (.int y5), some (.int y6), o7, o8] [] (hz F A L) Q := by
  intro m
  induction m with
  | zero =>
    intro B D F A L x1 x2 x3 x4 y5 y6 o7 o8 hm K
    generalize hT : (km_sure_108 (F 67 3) (A 68) (A 87) (A 95) x3 0 y5 y6 (A 96)) = T at K
    have hE : T = (y5, (A 96)) := hT.symm
    clear hT
    refine w_n 2 (pc1 := 112) (ls1 := [some (.ref 67), some (.int x1), some (.int x2), some (.int x3), some (.int x4), some (.int y5), some (.int y6), o7, o8]) (st1 := [.int x4, .int y6]) (hp1 := (hz F A L)) rfl ?_
    refine w_ge (p3 := 115) rfl rfl (fun hb => ?_) (fun h => False.elim (by have h : y6.toInt < x4.toInt := h; omega))
    subst T
    exact cvE rfl (funext fun q => if k0 : q = 96 then by subst k0; exact Eq.trans (b := (A 96)) rfl rfl else by unfold uA; simp only [nb1 k0, cond_false]) rfl (K _ _ _)
  | succ m ih =>
    intro B D F A L x1 x2 x3 x4 y5 y6 o7 o8 hm K
    generalize hT : (km_sure_108 (F 67 3) (A 68) (A 87) (A 95) x3 (m + 1) y5 y6 (A 96)) = T at K
    have hE : T = (km_sure_108 (F 67 3) (A 68) (A 87) (A 95) x3 m (y5 ||| ((1 : Int32) <<< ((km_mostVotes_67_96 (F 67 3) (km_sure_154 (F 67 3) (A 68) (A 95) x3.toInt.toNat y6 0 (km_sure_118 (A 87) (F 67 3).toInt.toNat 0 (A 96)))) &&& 31))) (y6 + 1) (km_sure_154 (F 67 3) (A 68) (A 95) x3.toInt.toNat y6 0 (km_sure_118 (A 87) (F 67 3).toInt.toNat 0 (A 96)))) := hT.symm
    clear hT
    refine w_n 2 (pc1 := 112) (ls1 := [some (.ref 67), some (.int x1), some (.int x2), some (.int x3), some (.int x4), some (.int y5), some (.int y6), o7, o8]) (st1 := [.int x4, .int y6]) (hp1 := (hz F A L)) rfl ?_
    refine w_ge (p3 := 115) rfl rfl (fun h => False.elim (by have h : x4.toInt ≤ y6.toInt := h; omega)) (fun hb => ?_)
    refine w_n 2 (pc1 := 118) (ls1 := [some (.ref 67), some (.int x1), some (.int x2), some (.int x3), some (.int x4), some (.int y5), some (.int y6), some (.int 0), o8]) (st1 := []) (hp1 := (hz F A L)) rfl ?_
    refine t_km_sure_118 (F 67 3).toInt.toNat (show (F 67 3).toInt.toNat = ((F 67 3).toInt - (0 : Int32).toInt).toNat by have e0 : (0 : Int32).toInt = 0 := rfl; first | rfl | omega) ?_
    intro r1
    show wl_E f _ _ mm235.2.2.2.2.2.2.2.2 147 [some (.ref 67), some (.int x1), some (.int x2), some (.int x3), some (.int x4), some (.int y5), some (.int y6), some (.int r1), o8] [] (hz F (uA A 96 (km_sure_118 (A 87) (F 67 3).toInt.toNat 0 (A 96))) L) _
    generalize hG227 : (km_sure_118 (A 87) (F 67 3).toInt.toNat 0 (A 96)) = G227 at hE ⊢
    refine w_n 4 (pc1 := 154) (ls1 := [some (.ref 67), some (.int x1), some (.int x2), some (.int x3), some (.int x4), some (.int y5), some (.int y6), some (.int y6), some (.int 0)]) (st1 := []) (hp1 := (hz F (uA A 96 G227) L)) rfl ?_
    refine t_km_sure_154 x3.toInt.toNat (show x3.toInt.toNat = (x3.toInt - (0 : Int32).toInt).toNat by have e0 : (0 : Int32).toInt = 0 := rfl; first | rfl | omega) ?_
    intro r2 r3
    show wl_E f _ _ mm235.2.2.2.2.2.2.2.2 215 [some (.ref 67), some (.int x1), some (.int x2), some (.int x3), some (.int x4), some (.int y5), some (.int y6), some (.int r2), some (.int r3)] [] (hz F (uA (uA A 96 G227) 96 (km_sure_154 (F 67 3) (A 68) (A 95) x3.toInt.toNat y6 0 G227)) L) _
    generalize hG228 : (km_sure_154 (F 67 3) (A 68) (A 95) x3.toInt.toNat y6 0 G227) = G228 at hE ⊢
    refine w_n 5 (pc1 := 223) (ls1 := [some (.ref 67), some (.int x1), some (.int x2), some (.int x3), some (.int x4), some (.int y5), some (.int y6), some (.int r2), some (.int r3)]) (st1 := [.ref 96, .ref 67, .int 1, .int y5]) (hp1 := (hz F (uA (uA A 96 G227) 96 G228) L)) rfl ?_
    refine w_c rfl rfl (t_km_mostVotes_67_96 ?_)
    show wl_E f _ _ mm235.2.2.2.2.2.2.2.2 226 [some (.ref 67), some (.int x1), some (.int x2), some (.int x3), some (.int x4), some (.int y5), some (.int y6), some (.int r2), some (.int r3)] [.int (km_mostVotes_67_96 (F 67 3) G228), .int 1, .int y5] (hz F (uA (uA A 96 G227) 96 G228) L) _
    generalize hG230 : (km_mostVotes_67_96 (F 67 3) G228) = G230 at hE ⊢
    refine w_n 5 (pc1 := 108) (ls1 := [some (.ref 67), some (.int x1), some (.int x2), some (.int x3), some (.int x4), some (.int (y5 ||| ((1 : Int32) <<< (G230 &&& 31)))), some (.int (y6 + 1)), some (.int r2), some (.int r3)]) (st1 := []) (hp1 := (hz F (uA (uA A 96 G227) 96 G228) L)) rfl ?_
    subst T
    have hb2 := i_up (B := x4) hb
    have hb3 : y6.toInt < x4.toInt := hb
    exact ih (show m = (x4.toInt - (y6 + 1).toInt).toNat by rw [hb2]; omega) (fun q6 q7 q8 => cvE rfl (funext fun q => if k0 : q = 96 then by subst k0; exact Eq.trans (b := (km_sure_108 (F 67 3) (A 68) (A 87) (A 95) x3 m (y5 ||| ((1 : Int32) <<< (G230 &&& 31))) (y6 + 1) G228).2) rfl rfl else by unfold uA; simp only [nb1 k0, cond_false]) rfl (K q6 q7 q8))
noncomputable def km_sure (f67_3 : Int32) (a68 : List Int32) (a87 : List Int32) (a95 : List Int32) (a96 : List Int32) (x1 : Int32) (x2 : Int32) : Int32 × List Int32 × List Int32 × List Int32 := (if (km_in x2 0 1) = 0 then ((-1), a87, a95, a96) else (if x1.toInt < 0 then ((-1), a87, a95, a96) else (if (x1 &&& ((a68.getD 144 0) ^^^ (-1))) = 0 then (if 6 < (km_bits x1).toInt then ((-1), a87, a95, a96) else (if x2 = 1 then ((km_sure_108 f67_3 a68 (km_laysFirsts f67_3 a68 a87 (km_allMeasures f67_3) x1) (km_sure_47 f67_3 x1 12 0 1 0 a95).2.2 (km_sure_47 f67_3 x1 12 0 1 0 a95).1 (km_sure_47 f67_3 x1 12 0 1 0 a95).2.1.toInt.toNat 0 0 a96).1, (km_laysFirsts f67_3 a68 a87 (km_allMeasures f67_3) x1), (km_sure_47 f67_3 x1 12 0 1 0 a95).2.2, (km_sure_108 f67_3 a68 (km_laysFirsts f67_3 a68 a87 (km_allMeasures f67_3) x1) (km_sure_47 f67_3 x1 12 0 1 0 a95).2.2 (km_sure_47 f67_3 x1 12 0 1 0 a95).1 (km_sure_47 f67_3 x1 12 0 1 0 a95).2.1.toInt.toNat 0 0 a96).2) else (if (km_bits (km_sure_108 f67_3 a68 (km_laysFirsts f67_3 a68 a87 (km_allMeasures f67_3) x1) (km_sure_47 f67_3 x1 12 0 1 0 a95).2.2 (km_sure_47 f67_3 x1 12 0 1 0 a95).1 (km_sure_47 f67_3 x1 12 0 1 0 a95).2.1.toInt.toNat 0 0 a96).1) = 1 then ((km_sure_108 f67_3 a68 (km_laysFirsts f67_3 a68 a87 (km_allMeasures f67_3) x1) (km_sure_47 f67_3 x1 12 0 1 0 a95).2.2 (km_sure_47 f67_3 x1 12 0 1 0 a95).1 (km_sure_47 f67_3 x1 12 0 1 0 a95).2.1.toInt.toNat 0 0 a96).1, (km_laysFirsts f67_3 a68 a87 (km_allMeasures f67_3) x1), (km_sure_47 f67_3 x1 12 0 1 0 a95).2.2, (km_sure_108 f67_3 a68 (km_laysFirsts f67_3 a68 a87 (km_allMeasures f67_3) x1) (km_sure_47 f67_3 x1 12 0 1 0 a95).2.2 (km_sure_47 f67_3 x1 12 0 1 0 a95).1 (km_sure_47 f67_3 x1 12 0 1 0 a95).2.1.toInt.toNat 0 0 a96).2) else (0, (km_laysFirsts f67_3 a68 a87 (km_allMeasures f67_3) x1), (km_sure_47 f67_3 x1 12 0 1 0 a95).2.2, (km_sure_108 f67_3 a68 (km_laysFirsts f67_3 a68 a87 (km_allMeasures f67_3) x1) (km_sure_47 f67_3 x1 12 0 1 0 a95).2.2 (km_sure_47 f67_3 x1 12 0 1 0 a95).1 (km_sure_47 f67_3 x1 12 0 1 0 a95).2.1.toInt.toNat 0 0 a96).2)))) else ((-1), a87, a95, a96))))
theorem t_km_sure {f D : Nat} {F : Nat → Nat → Int32} {A : Nat → List Int32} {L : Nat → List Int64} {Q : Option Value → sm_H → Prop} {x1 : Int32} {x2 : Int32} (K : Q (some (.int ((km_sure (F 67 3) (A 68) (A 87) (A 95) (A 96) x1 x2).1))) (hz F (uA (uA (uA A 87 ((km_sure (F 67 3) (A 68) (A 87) (A 95) (A 96) x1 x2).2.1)) 95 ((km_sure (F 67 3) (A 68) (A 87) (A 95) (A 96) x1 x2).2.2.1)) 96 ((km_sure (F 67 3) (A 68) (A 87) (A 95) (A 96) x1 x2).2.2.2)) L)) : wl_M f D 235 [.ref 67, .int x1, .int x2] (hz F A L) Q := by
  generalize hT : (km_sure (F 67 3) (A 68) (A 87) (A 95) (A 96) x1 x2) = T at K
  have hE : T = (if (km_in x2 0 1) = 0 then ((-1), (A 87), (A 95), (A 96)) else (if x1.toInt < 0 then ((-1), (A 87), (A 95), (A 96)) else (if (x1 &&& (((A 68).getD 144 0) ^^^ (-1))) = 0 then (if 6 < (km_bits x1).toInt then ((-1), (A 87), (A 95), (A 96)) else (if x2 = 1 then ((km_sure_108 (F 67 3) (A 68) (km_laysFirsts (F 67 3) (A 68) (A 87) (km_allMeasures (F 67 3)) x1) (km_sure_47 (F 67 3) x1 12 0 1 0 (A 95)).2.2 (km_sure_47 (F 67 3) x1 12 0 1 0 (A 95)).1 (km_sure_47 (F 67 3) x1 12 0 1 0 (A 95)).2.1.toInt.toNat 0 0 (A 96)).1, (km_laysFirsts (F 67 3) (A 68) (A 87) (km_allMeasures (F 67 3)) x1), (km_sure_47 (F 67 3) x1 12 0 1 0 (A 95)).2.2, (km_sure_108 (F 67 3) (A 68) (km_laysFirsts (F 67 3) (A 68) (A 87) (km_allMeasures (F 67 3)) x1) (km_sure_47 (F 67 3) x1 12 0 1 0 (A 95)).2.2 (km_sure_47 (F 67 3) x1 12 0 1 0 (A 95)).1 (km_sure_47 (F 67 3) x1 12 0 1 0 (A 95)).2.1.toInt.toNat 0 0 (A 96)).2) else (if (km_bits (km_sure_108 (F 67 3) (A 68) (km_laysFirsts (F 67 3) (A 68) (A 87) (km_allMeasures (F 67 3)) x1) (km_sure_47 (F 67 3) x1 12 0 1 0 (A 95)).2.2 (km_sure_47 (F 67 3) x1 12 0 1 0 (A 95)).1 (km_sure_47 (F 67 3) x1 12 0 1 0 (A 95)).2.1.toInt.toNat 0 0 (A 96)).1) = 1 then ((km_sure_108 (F 67 3) (A 68) (km_laysFirsts (F 67 3) (A 68) (A 87) (km_allMeasures (F 67 3)) x1) (km_sure_47 (F 67 3) x1 12 0 1 0 (A 95)).2.2 (km_sure_47 (F 67 3) x1 12 0 1 0 (A 95)).1 (km_sure_47 (F 67 3) x1 12 0 1 0 (A 95)).2.1.toInt.toNat 0 0 (A 96)).1, (km_laysFirsts (F 67 3) (A 68) (A 87) (km_allMeasures (F 67 3)) x1), (km_sure_47 (F 67 3) x1 12 0 1 0 (A 95)).2.2, (km_sure_108 (F 67 3) (A 68) (km_laysFirsts (F 67 3) (A 68) (A 87) (km_allMeasures (F 67 3)) x1) (km_sure_47 (F 67 3) x1 12 0 1 0 (A 95)).2.2 (km_sure_47 (F 67 3) x1 12 0 1 0 (A 95)).1 (km_sure_47 (F 67 3) x1 12 0 1 0 (A 95)).2.1.toInt.toNat 0 0 (A 96)).2) else (0, (km_laysFirsts (F 67 3) (A 68) (A 87) (km_allMeasures (F 67 3)) x1), (km_sure_47 (F 67 3) x1 12 0 1 0 (A 95)).2.2, (km_sure_108 (F 67 3) (A 68) (km_laysFirsts (F 67 3) (A 68) (A 87) (km_allMeasures (F 67 3)) x1) (km_sure_47 (F 67 3) x1 12 0 1 0 (A 95)).2.2 (km_sure_47 (F 67 3) x1 12 0 1 0 (A 95)).1 (km_sure_47 (F 67 3) x1 12 0 1 0 (A 95)).2.1.toInt.toNat 0 0 (A 96)).2)))) else ((-1), (A 87), (A 95), (A 96))))) := hT.symm
  clear hT
  refine w_m (E := mm235) rfl ?_
  show wl_E f f (D - 1) mm235.2.2.2.2.2.2.2.2 0 [some (.ref 67), some (.int x1), some (.int x2), none, none, none, none, none, none] [] (hz F A L) Q
  refine w_n 3 (pc1 := 3) (ls1 := [some (.ref 67), some (.int x1), some (.int x2), none, none, none, none, none, none]) (st1 := [.int 1, .int 0, .int x2]) (hp1 := (hz F A L)) rfl ?_
  refine w_c rfl rfl (t_km_in ?_)
  show wl_E f _ _ mm235.2.2.2.2.2.2.2.2 6 [some (.ref 67), some (.int x1), some (.int x2), none, none, none, none, none, none] [.int (km_in x2 0 1)] (hz F A L) _
  generalize hG221 : (km_in x2 0 1) = G221 at hE ⊢
  refine w_zeq (p3 := 9) rfl rfl (fun h => ?_) (fun h => ?_)
  · have h1 : G221 = 0 := h
    rw [if_pos h1] at hE
    refine w_n 1 (pc1 := 38) (ls1 := [some (.ref 67), some (.int x1), some (.int x2), none, none, none, none, none, none]) (st1 := [.int (-1)]) (hp1 := (hz F A L)) rfl ?_
    subst T
    exact w_ri rfl (cvQ rfl (funext fun q => if k0 : q = 87 then by subst k0; exact Eq.trans (b := (A 87)) rfl rfl else if k1 : q = 95 then by subst k1; exact Eq.trans (b := (A 95)) rfl rfl else if k2 : q = 96 then by subst k2; exact Eq.trans (b := (A 96)) rfl rfl else by unfold uA; simp only [nb1 k0, nb1 k1, nb1 k2, cond_false]) rfl K)
  · have h1 : ¬ G221 = 0 := h
    rw [if_neg h1] at hE
    refine w_n 1 (pc1 := 10) (ls1 := [some (.ref 67), some (.int x1), some (.int x2), none, none, none, none, none, none]) (st1 := [.int x1]) (hp1 := (hz F A L)) rfl ?_
    refine w_zlt (p3 := 13) rfl rfl (fun h => ?_) (fun h => ?_)
    · have h2 : x1.toInt < 0 := h
      rw [if_pos h2] at hE
      refine w_n 1 (pc1 := 38) (ls1 := [some (.ref 67), some (.int x1), some (.int x2), none, none, none, none, none, none]) (st1 := [.int (-1)]) (hp1 := (hz F A L)) rfl ?_
      subst T
      exact w_ri rfl (cvQ rfl (funext fun q => if k0 : q = 87 then by subst k0; exact Eq.trans (b := (A 87)) rfl rfl else if k1 : q = 95 then by subst k1; exact Eq.trans (b := (A 95)) rfl rfl else if k2 : q = 96 then by subst k2; exact Eq.trans (b := (A 96)) rfl rfl else by unfold uA; simp only [nb1 k0, nb1 k1, nb1 k2, cond_false]) rfl K)
    · have h2 : 0 ≤ x1.toInt := h
      rw [if_neg (Int.not_lt.mpr h2)] at hE
      refine w_n 4 (pc1 := 21) (ls1 := [some (.ref 67), some (.int x1), some (.int x2), none, none, none, none, none, none]) (st1 := [.int 144, .ref 68, .int x1]) (hp1 := (hz F A L)) rfl ?_
      refine w_al (k := 68) (l := (A 68)) rfl rfl rfl (fun _ => ?_)
      refine w_n 3 (pc1 := 25) (ls1 := [some (.ref 67), some (.int x1), some (.int x2), none, none, none, none, none, none]) (st1 := [.int (x1 &&& (((A 68).getD 144 0) ^^^ (-1)))]) (hp1 := (hz F A L)) rfl ?_
      refine w_zne (p3 := 28) rfl rfl (fun h => ?_) (fun h => ?_)
      · have h3 : ¬ (x1 &&& (((A 68).getD 144 0) ^^^ (-1))) = 0 := h
        rw [if_neg h3] at hE
        refine w_n 1 (pc1 := 38) (ls1 := [some (.ref 67), some (.int x1), some (.int x2), none, none, none, none, none, none]) (st1 := [.int (-1)]) (hp1 := (hz F A L)) rfl ?_
        subst T
        exact w_ri rfl (cvQ rfl (funext fun q => if k0 : q = 87 then by subst k0; exact Eq.trans (b := (A 87)) rfl rfl else if k1 : q = 95 then by subst k1; exact Eq.trans (b := (A 95)) rfl rfl else if k2 : q = 96 then by subst k2; exact Eq.trans (b := (A 96)) rfl rfl else by unfold uA; simp only [nb1 k0, nb1 k1, nb1 k2, cond_false]) rfl K)
      · have h3 : (x1 &&& (((A 68).getD 144 0) ^^^ (-1))) = 0 := h
        rw [if_pos h3] at hE
        refine w_n 1 (pc1 := 29) (ls1 := [some (.ref 67), some (.int x1), some (.int x2), none, none, none, none, none, none]) (st1 := [.int x1]) (hp1 := (hz F A L)) rfl ?_
        refine w_c rfl rfl (t_km_bits ?_)
        show wl_E f _ _ mm235.2.2.2.2.2.2.2.2 32 [some (.ref 67), some (.int x1), some (.int x2), none, none, none, none, none, none] [.int (km_bits x1)] (hz F A L) _
        generalize hG222 : (km_bits x1) = G222 at hE ⊢
        refine w_n 1 (pc1 := 34) (ls1 := [some (.ref 67), some (.int x1), some (.int x2), none, none, none, none, none, none]) (st1 := [.int 6, .int G222]) (hp1 := (hz F A L)) rfl ?_
        refine w_le (p3 := 37) rfl rfl (fun h => ?_) (fun h => ?_)
        · have h4 : G222.toInt ≤ 6 := h
          rw [if_neg (Int.not_lt.mpr h4)] at hE
          refine w_n 6 (pc1 := 47) (ls1 := [some (.ref 67), some (.int x1), some (.int x2), some (.int 0), some (.int 1), some (.int 0), none, none, none]) (st1 := []) (hp1 := (hz F A L)) rfl ?_
          refine t_km_sure_47 12 (show (12 : Nat) = (12 - (0 : Int32).toInt).toNat by have e0 : (0 : Int32).toInt = 0 := rfl; first | rfl | omega) ?_
          intro r1
          show wl_E f _ _ mm235.2.2.2.2.2.2.2.2 93 [some (.ref 67), some (.int x1), some (.int x2), some (.int (km_sure_47 (F 67 3) x1 12 0 1 0 (A 95)).1), some (.int (km_sure_47 (F 67 3) x1 12 0 1 0 (A 95)).2.1), some (.int r1), none, none, none] [] (hz F (uA A 95 (km_sure_47 (F 67 3) x1 12 0 1 0 (A 95)).2.2) L) _
          generalize hG224 : (km_sure_47 (F 67 3) x1 12 0 1 0 (A 95)) = G224 at hE ⊢
          refine w_n 2 (pc1 := 95) (ls1 := [some (.ref 67), some (.int x1), some (.int x2), some (.int G224.1), some (.int G224.2.1), some (.int r1), none, none, none]) (st1 := [.ref 67, .ref 67]) (hp1 := (hz F (uA A 95 G224.2.2) L)) rfl ?_
          refine w_c rfl rfl (t_km_allMeasures ?_)
          show wl_E f _ _ mm235.2.2.2.2.2.2.2.2 98 [some (.ref 67), some (.int x1), some (.int x2), some (.int G224.1), some (.int G224.2.1), some (.int r1), none, none, none] [.int (km_allMeasures (F 67 3)), .ref 67] (hz F (uA A 95 G224.2.2) L) _
          generalize hG225 : (km_allMeasures (F 67 3)) = G225 at hE ⊢
          refine w_n 1 (pc1 := 99) (ls1 := [some (.ref 67), some (.int x1), some (.int x2), some (.int G224.1), some (.int G224.2.1), some (.int r1), none, none, none]) (st1 := [.int x1, .int G225, .ref 67]) (hp1 := (hz F (uA A 95 G224.2.2) L)) rfl ?_
          refine w_c rfl rfl (t_km_laysFirsts ?_)
          show wl_E f _ _ mm235.2.2.2.2.2.2.2.2 102 [some (.ref 67), some (.int x1), some (.int x2), some (.int G224.1), some (.int G224.2.1), some (.int r1), none, none, none] [] (hz F (uA (uA A 95 G224.2.2) 87 (km_laysFirsts (F 67 3) (A 68) (A 87) G225 x1)) L) _
          generalize hG226 : (km_laysFirsts (F 67 3) (A 68) (A 87) G225 x1) = G226 at hE ⊢
          refine w_n 4 (pc1 := 108) (ls1 := [some (.ref 67), some (.int x1), some (.int x2), some (.int G224.1), some (.int G224.2.1), some (.int 0), some (.int 0), none, none]) (st1 := []) (hp1 := (hz F (uA (uA A 95 G224.2.2) 87 G226) L)) rfl ?_
          refine t_km_sure_108 G224.2.1.toInt.toNat (show G224.2.1.toInt.toNat = (G224.2.1.toInt - (0 : Int32).toInt).toNat by have e0 : (0 : Int32).toInt = 0 := rfl; first | rfl | omega) ?_
          intro r2 r3 r4
          show wl_E f _ _ mm235.2.2.2.2.2.2.2.2 236 [some (.ref 67), some (.int x1), some (.int x2), some (.int G224.1), some (.int G224.2.1), some (.int (km_sure_108 (F 67 3) (A 68) G226 G224.2.2 G224.1 G224.2.1.toInt.toNat 0 0 (A 96)).1), some (.int r2), r3, r4] [] (hz F (uA (uA (uA A 95 G224.2.2) 87 G226) 96 (km_sure_108 (F 67 3) (A 68) G226 G224.2.2 G224.1 G224.2.1.toInt.toNat 0 0 (A 96)).2) L) _
          generalize hG231 : (km_sure_108 (F 67 3) (A 68) G226 G224.2.2 G224.1 G224.2.1.toInt.toNat 0 0 (A 96)) = G231 at hE ⊢
          refine w_n 2 (pc1 := 238) (ls1 := [some (.ref 67), some (.int x1), some (.int x2), some (.int G224.1), some (.int G224.2.1), some (.int G231.1), some (.int r2), r3, r4]) (st1 := [.int 1, .int x2]) (hp1 := (hz F (uA (uA (uA A 95 G224.2.2) 87 G226) 96 G231.2) L)) rfl ?_
          refine w_ne (p3 := 241) rfl rfl (fun h => ?_) (fun h => ?_)
          · have h5 : ¬ x2 = 1 := h
            rw [if_neg h5] at hE
            refine w_n 1 (pc1 := 248) (ls1 := [some (.ref 67), some (.int x1), some (.int x2), some (.int G224.1), some (.int G224.2.1), some (.int G231.1), some (.int r2), r3, r4]) (st1 := [.int G231.1]) (hp1 := (hz F (uA (uA (uA A 95 G224.2.2) 87 G226) 96 G231.2) L)) rfl ?_
            refine w_c rfl rfl (t_km_bits ?_)
            show wl_E f _ _ mm235.2.2.2.2.2.2.2.2 251 [some (.ref 67), some (.int x1), some (.int x2), some (.int G224.1), some (.int G224.2.1), some (.int G231.1), some (.int r2), r3, r4] [.int (km_bits G231.1)] (hz F (uA (uA (uA A 95 G224.2.2) 87 G226) 96 G231.2) L) _
            generalize hG232 : (km_bits G231.1) = G232 at hE ⊢
            refine w_n 1 (pc1 := 252) (ls1 := [some (.ref 67), some (.int x1), some (.int x2), some (.int G224.1), some (.int G224.2.1), some (.int G231.1), some (.int r2), r3, r4]) (st1 := [.int 1, .int G232]) (hp1 := (hz F (uA (uA (uA A 95 G224.2.2) 87 G226) 96 G231.2) L)) rfl ?_
            refine w_ne (p3 := 255) rfl rfl (fun h => ?_) (fun h => ?_)
            · have h6 : ¬ G232 = 1 := h
              rw [if_neg h6] at hE
              refine w_n 1 (pc1 := 261) (ls1 := [some (.ref 67), some (.int x1), some (.int x2), some (.int G224.1), some (.int G224.2.1), some (.int G231.1), some (.int r2), r3, r4]) (st1 := [.int 0]) (hp1 := (hz F (uA (uA (uA A 95 G224.2.2) 87 G226) 96 G231.2) L)) rfl ?_
              subst T
              exact w_ri rfl (cvQ rfl (funext fun q => if k0 : q = 87 then by subst k0; exact Eq.trans (b := G226) rfl rfl else if k1 : q = 95 then by subst k1; exact Eq.trans (b := G224.2.2) rfl rfl else if k2 : q = 96 then by subst k2; exact Eq.trans (b := G231.2) rfl rfl else by unfold uA; simp only [nb1 k0, nb1 k1, nb1 k2, cond_false]) rfl K)
            · have h6 : G232 = 1 := h
              rw [if_pos h6] at hE
              refine w_n 2 (pc1 := 261) (ls1 := [some (.ref 67), some (.int x1), some (.int x2), some (.int G224.1), some (.int G224.2.1), some (.int G231.1), some (.int r2), r3, r4]) (st1 := [.int G231.1]) (hp1 := (hz F (uA (uA (uA A 95 G224.2.2) 87 G226) 96 G231.2) L)) rfl ?_
              subst T
              exact w_ri rfl (cvQ rfl (funext fun q => if k0 : q = 87 then by subst k0; exact Eq.trans (b := G226) rfl rfl else if k1 : q = 95 then by subst k1; exact Eq.trans (b := G224.2.2) rfl rfl else if k2 : q = 96 then by subst k2; exact Eq.trans (b := G231.2) rfl rfl else by unfold uA; simp only [nb1 k0, nb1 k1, nb1 k2, cond_false]) rfl K)
          · have h5 : x2 = 1 := h
            rw [if_pos h5] at hE
            refine w_n 2 (pc1 := 261) (ls1 := [some (.ref 67), some (.int x1), some (.int x2), some (.int G224.1), some (.int G224.2.1), some (.int G231.1), some (.int r2), r3, r4]) (st1 := [.int G231.1]) (hp1 := (hz F (uA (uA (uA A 95 G224.2.2) 87 G226) 96 G231.2) L)) rfl ?_
            subst T
            exact w_ri rfl (cvQ rfl (funext fun q => if k0 : q = 87 then by subst k0; exact Eq.trans (b := G226) rfl rfl else if k1 : q = 95 then by subst k1; exact Eq.trans (b := G224.2.2) rfl rfl else if k2 : q = 96 then by subst k2; exact Eq.trans (b := G231.2) rfl rfl else by unfold uA; simp only [nb1 k0, nb1 k1, nb1 k2, cond_false]) rfl K)
        · have h4 : 6 < G222.toInt := h
          rw [if_pos h4] at hE
          refine w_n 1 (pc1 := 38) (ls1 := [some (.ref 67), some (.int x1), some (.int x2), none, none, none, none, none, none]) (st1 := [.int (-1)]) (hp1 := (hz F A L)) rfl ?_
          subst T
          exact w_ri rfl (cvQ rfl (funext fun q => if k0 : q = 87 then by subst k0; exact Eq.trans (b := (A 87)) rfl rfl else if k1 : q = 95 then by subst k1; exact Eq.trans (b := (A 95)) rfl rfl else if k2 : q = 96 then by subst k2; exact Eq.trans (b := (A 96)) rfl rfl else by unfold uA; simp only [nb1 k0, nb1 k1, nb1 k2, cond_false]) rfl K)
noncomputable def km_copies_68_69_2 (a68 : List Int32)  : Nat → Int32 → List Int32 → List Int32
  | 0, _, a69 => a69
  | m + 1, y2, a69 => (km_copies_68_69_2 a68 m (y2 + 1) (a69.set y2.toInt.toNat (a68.getD y2.toInt.toNat 0)))
theorem t_km_copies_68_69_2 {f : Nat} {Q : Option Value → sm_H → Prop} : ∀ (m : Nat) {B D : Nat} {F : Nat → Nat → Int32} {A : Nat → List Int32} {L : Nat → List Int64} {y2 : Int32}, m = (150 - y2.toInt).toNat → (∀ q2 : Int32, wl_E f B D mm199.2.2.2.2.2.2.2.2 21 [some (.ref 68), some (.ref 69), some (.int q2)] [] (hz F (uA A 69 (km_copies_68_69_2 (A 68) m y2 (A 69))) L) Q) → wl_E f B D mm199.2.2.2.2.2.2.2.2 2 [some (.ref 68), some (.ref 69), some (.int y2)] [] (hz F A L) Q := by
  intro m
  induction m with
  | zero =>
    intro B D F A L y2 hm K
    generalize hT : (km_copies_68_69_2 (A 68) 0 y2 (A 69)) = T at K
    have hE : T = (A 69) := hT.symm
    clear hT
    refine w_n 2 (pc1 := 6) (ls1 := [some (.ref 68), some (.ref 69), some (.int y2)]) (st1 := [.int 150, .int y2]) (hp1 := (hz F A L)) rfl ?_
    refine w_ge (p3 := 9) rfl rfl (fun hb => ?_) (fun h => False.elim (by have h : y2.toInt < 150 := h; omega))
    subst T
    exact cvE rfl (funext fun q => if k0 : q = 69 then by subst k0; exact Eq.trans (b := (A 69)) rfl rfl else by unfold uA; simp only [nb1 k0, cond_false]) rfl (K _)
  | succ m ih =>
    intro B D F A L y2 hm K
    generalize hT : (km_copies_68_69_2 (A 68) (m + 1) y2 (A 69)) = T at K
    have hE : T = (km_copies_68_69_2 (A 68) m (y2 + 1) ((A 69).set y2.toInt.toNat ((A 68).getD y2.toInt.toNat 0))) := hT.symm
    clear hT
    refine w_n 2 (pc1 := 6) (ls1 := [some (.ref 68), some (.ref 69), some (.int y2)]) (st1 := [.int 150, .int y2]) (hp1 := (hz F A L)) rfl ?_
    refine w_ge (p3 := 9) rfl rfl (fun h => False.elim (by have h : 150 ≤ y2.toInt := h; omega)) (fun hb => ?_)
    refine w_n 4 (pc1 := 13) (ls1 := [some (.ref 68), some (.ref 69), some (.int y2)]) (st1 := [.int y2, .ref 68, .int y2, .ref 69]) (hp1 := (hz F A L)) rfl ?_
    refine w_al (k := 68) (l := (A 68)) rfl rfl rfl (fun ab => ?_)
    refine w_as (k := 69) (l := (A 69)) (hp1 := (hz F (uA A 69 ((A 69).set y2.toInt.toNat ((A 68).getD y2.toInt.toNat 0))) L)) rfl rfl rfl (hz_s69 _) (fun ab => ?_)
    refine w_n 2 (pc1 := 2) (ls1 := [some (.ref 68), some (.ref 69), some (.int (y2 + 1))]) (st1 := []) (hp1 := (hz F (uA A 69 ((A 69).set y2.toInt.toNat ((A 68).getD y2.toInt.toNat 0))) L)) rfl ?_
    subst T
    have hb2 := i_up (B := (150 : Int32)) hb
    have hb3 : y2.toInt < 150 := hb
    exact ih (show m = (150 - (y2 + 1).toInt).toNat by rw [hb2]; omega) (fun q2 => cvE rfl (funext fun q => if k0 : q = 69 then by subst k0; exact Eq.trans (b := (km_copies_68_69_2 (A 68) m (y2 + 1) ((A 69).set y2.toInt.toNat ((A 68).getD y2.toInt.toNat 0)))) rfl rfl else by unfold uA; simp only [nb1 k0, cond_false]) rfl (K q2))
noncomputable def km_copies_68_69 (a68 : List Int32) (a69 : List Int32) : List Int32 := (km_copies_68_69_2 a68 150 0 a69)
theorem t_km_copies_68_69 {f D : Nat} {F : Nat → Nat → Int32} {A : Nat → List Int32} {L : Nat → List Int64} {Q : Option Value → sm_H → Prop} (K : Q none (hz F (uA A 69 (km_copies_68_69 (A 68) (A 69))) L)) : wl_M f D 199 [.ref 68, .ref 69] (hz F A L) Q := by
  generalize hT : (km_copies_68_69 (A 68) (A 69)) = T at K
  have hE : T = (km_copies_68_69_2 (A 68) 150 0 (A 69)) := hT.symm
  clear hT
  refine w_m (E := mm199) rfl ?_
  show wl_E f f (D - 1) mm199.2.2.2.2.2.2.2.2 0 [some (.ref 68), some (.ref 69), none] [] (hz F A L) Q
  refine w_n 2 (pc1 := 2) (ls1 := [some (.ref 68), some (.ref 69), some (.int 0)]) (st1 := []) (hp1 := (hz F A L)) rfl ?_
  refine t_km_copies_68_69_2 150 (show (150 : Nat) = (150 - (0 : Int32).toInt).toNat by have e0 : (0 : Int32).toInt = 0 := rfl; first | rfl | omega) ?_
  intro r1
  show wl_E f _ _ mm199.2.2.2.2.2.2.2.2 21 [some (.ref 68), some (.ref 69), some (.int r1)] [] (hz F (uA A 69 (km_copies_68_69_2 (A 68) 150 0 (A 69))) L) _
  generalize hG235 : (km_copies_68_69_2 (A 68) 150 0 (A 69)) = G235 at hE ⊢
  subst T
  exact w_r rfl rfl (cvQ rfl rfl rfl K)
noncomputable def km_feelsOne_2   : Nat → Int32 → List Int32 → List Int32
  | 0, _, a84 => a84
  | m + 1, y2, a84 => (km_feelsOne_2 m (y2 + 1) (a84.set y2.toInt.toNat 0))
theorem t_km_feelsOne_2 {f : Nat} {Q : Option Value → sm_H → Prop} : ∀ (m : Nat) {B D : Nat} {F : Nat → Nat → Int32} {A : Nat → List Int32} {L : Nat → List Int64} {x1 : Int32} {y2 : Int32}, m = (8 - y2.toInt).toNat → (∀ q2 : Int32, wl_E f B D mm179.2.2.2.2.2.2.2.2 21 [some (.ref 67), some (.int x1), some (.int q2)] [] (hz F (uA A 84 (km_feelsOne_2 m y2 (A 84))) L) Q) → wl_E f B D mm179.2.2.2.2.2.2.2.2 2 [some (.ref 67), some (.int x1), some (.int y2)] [] (hz F A L) Q := by
  intro m
  induction m with
  | zero =>
    intro B D F A L x1 y2 hm K
    generalize hT : (km_feelsOne_2 0 y2 (A 84)) = T at K
    have hE : T = (A 84) := hT.symm
    clear hT
    refine w_n 2 (pc1 := 5) (ls1 := [some (.ref 67), some (.int x1), some (.int y2)]) (st1 := [.int 8, .int y2]) (hp1 := (hz F A L)) rfl ?_
    refine w_ge (p3 := 8) rfl rfl (fun hb => ?_) (fun h => False.elim (by have h : y2.toInt < 8 := h; omega))
    subst T
    exact cvE rfl (funext fun q => if k0 : q = 84 then by subst k0; exact Eq.trans (b := (A 84)) rfl rfl else by unfold uA; simp only [nb1 k0, cond_false]) rfl (K _)
  | succ m ih =>
    intro B D F A L x1 y2 hm K
    generalize hT : (km_feelsOne_2 (m + 1) y2 (A 84)) = T at K
    have hE : T = (km_feelsOne_2 m (y2 + 1) ((A 84).set y2.toInt.toNat 0)) := hT.symm
    clear hT
    refine w_n 2 (pc1 := 5) (ls1 := [some (.ref 67), some (.int x1), some (.int y2)]) (st1 := [.int 8, .int y2]) (hp1 := (hz F A L)) rfl ?_
    refine w_ge (p3 := 8) rfl rfl (fun h => False.elim (by have h : 8 ≤ y2.toInt := h; omega)) (fun hb => ?_)
    refine w_n 4 (pc1 := 14) (ls1 := [some (.ref 67), some (.int x1), some (.int y2)]) (st1 := [.int 0, .int y2, .ref 84]) (hp1 := (hz F A L)) rfl ?_
    refine w_as (k := 84) (l := (A 84)) (hp1 := (hz F (uA A 84 ((A 84).set y2.toInt.toNat 0)) L)) rfl rfl rfl (hz_s84 _) (fun ab => ?_)
    refine w_n 2 (pc1 := 2) (ls1 := [some (.ref 67), some (.int x1), some (.int (y2 + 1))]) (st1 := []) (hp1 := (hz F (uA A 84 ((A 84).set y2.toInt.toNat 0)) L)) rfl ?_
    subst T
    have hb2 := i_up (B := (8 : Int32)) hb
    have hb3 : y2.toInt < 8 := hb
    exact ih (show m = (8 - (y2 + 1).toInt).toNat by rw [hb2]; omega) (fun q2 => cvE rfl (funext fun q => if k0 : q = 84 then by subst k0; exact Eq.trans (b := (km_feelsOne_2 m (y2 + 1) ((A 84).set y2.toInt.toNat 0))) rfl rfl else by unfold uA; simp only [nb1 k0, cond_false]) rfl (K q2))
noncomputable def km_feelsOne (a68 : List Int32) (a84 : List Int32) (x1 : Int32) : List Int32 := ((((((km_feelsOne_2 8 0 a84).set 0 x1).set 4 (a68.getD (12 + x1).toInt.toNat 0)).set 5 (a68.getD (36 + x1).toInt.toNat 0)).set 6 (a68.getD (60 + x1).toInt.toNat 0)).set 7 (a68.getD 147 0))
theorem t_km_feelsOne {f D : Nat} {F : Nat → Nat → Int32} {A : Nat → List Int32} {L : Nat → List Int64} {Q : Option Value → sm_H → Prop} {x1 : Int32} (K : Q none (hz F (uA A 84 (km_feelsOne (A 68) (A 84) x1)) L)) : wl_M f D 179 [.ref 67, .int x1] (hz F A L) Q := by
  generalize hT : (km_feelsOne (A 68) (A 84) x1) = T at K
  have hE : T = ((((((km_feelsOne_2 8 0 (A 84)).set 0 x1).set 4 ((A 68).getD (12 + x1).toInt.toNat 0)).set 5 ((A 68).getD (36 + x1).toInt.toNat 0)).set 6 ((A 68).getD (60 + x1).toInt.toNat 0)).set 7 ((A 68).getD 147 0)) := hT.symm
  clear hT
  refine w_m (E := mm179) rfl ?_
  show wl_E f f (D - 1) mm179.2.2.2.2.2.2.2.2 0 [some (.ref 67), some (.int x1), none] [] (hz F A L) Q
  refine w_n 2 (pc1 := 2) (ls1 := [some (.ref 67), some (.int x1), some (.int 0)]) (st1 := []) (hp1 := (hz F A L)) rfl ?_
  refine t_km_feelsOne_2 8 (show (8 : Nat) = (8 - (0 : Int32).toInt).toNat by have e0 : (0 : Int32).toInt = 0 := rfl; first | rfl | omega) ?_
  intro r1
  show wl_E f _ _ mm179.2.2.2.2.2.2.2.2 21 [some (.ref 67), some (.int x1), some (.int r1)] [] (hz F (uA A 84 (km_feelsOne_2 8 0 (A 84))) L) _
  generalize hG237 : (km_feelsOne_2 8 0 (A 84)) = G237 at hE ⊢
  refine w_n 4 (pc1 := 27) (ls1 := [some (.ref 67), some (.int x1), some (.int r1)]) (st1 := [.int x1, .int 0, .ref 84]) (hp1 := (hz F (uA A 84 G237) L)) rfl ?_
  refine w_as (k := 84) (l := G237) (hp1 := (hz F (uA (uA A 84 G237) 84 (G237.set 0 x1)) L)) rfl rfl rfl (hz_s84 _) (fun _ => ?_)
  refine w_n 8 (pc1 := 41) (ls1 := [some (.ref 67), some (.int x1), some (.int r1)]) (st1 := [.int (12 + x1), .ref 68, .int 4, .ref 84]) (hp1 := (hz F (uA (uA A 84 G237) 84 (G237.set 0 x1)) L)) rfl ?_
  refine w_al (k := 68) (l := (A 68)) rfl rfl rfl (fun _ => ?_)
  refine w_as (k := 84) (l := (G237.set 0 x1)) (hp1 := (hz F (uA (uA (uA A 84 G237) 84 (G237.set 0 x1)) 84 ((G237.set 0 x1).set 4 ((A 68).getD (12 + x1).toInt.toNat 0))) L)) rfl rfl rfl (hz_s84 _) (fun _ => ?_)
  refine w_n 8 (pc1 := 56) (ls1 := [some (.ref 67), some (.int x1), some (.int r1)]) (st1 := [.int (36 + x1), .ref 68, .int 5, .ref 84]) (hp1 := (hz F (uA (uA (uA A 84 G237) 84 (G237.set 0 x1)) 84 ((G237.set 0 x1).set 4 ((A 68).getD (12 + x1).toInt.toNat 0))) L)) rfl ?_
  refine w_al (k := 68) (l := (A 68)) rfl rfl rfl (fun _ => ?_)
  refine w_as (k := 84) (l := ((G237.set 0 x1).set 4 ((A 68).getD (12 + x1).toInt.toNat 0))) (hp1 := (hz F (uA (uA (uA (uA A 84 G237) 84 (G237.set 0 x1)) 84 ((G237.set 0 x1).set 4 ((A 68).getD (12 + x1).toInt.toNat 0))) 84 (((G237.set 0 x1).set 4 ((A 68).getD (12 + x1).toInt.toNat 0)).set 5 ((A 68).getD (36 + x1).toInt.toNat 0))) L)) rfl rfl rfl (hz_s84 _) (fun _ => ?_)
  refine w_n 8 (pc1 := 72) (ls1 := [some (.ref 67), some (.int x1), some (.int r1)]) (st1 := [.int (60 + x1), .ref 68, .int 6, .ref 84]) (hp1 := (hz F (uA (uA (uA (uA A 84 G237) 84 (G237.set 0 x1)) 84 ((G237.set 0 x1).set 4 ((A 68).getD (12 + x1).toInt.toNat 0))) 84 (((G237.set 0 x1).set 4 ((A 68).getD (12 + x1).toInt.toNat 0)).set 5 ((A 68).getD (36 + x1).toInt.toNat 0))) L)) rfl ?_
  refine w_al (k := 68) (l := (A 68)) rfl rfl rfl (fun _ => ?_)
  refine w_as (k := 84) (l := (((G237.set 0 x1).set 4 ((A 68).getD (12 + x1).toInt.toNat 0)).set 5 ((A 68).getD (36 + x1).toInt.toNat 0))) (hp1 := (hz F (uA (uA (uA (uA (uA A 84 G237) 84 (G237.set 0 x1)) 84 ((G237.set 0 x1).set 4 ((A 68).getD (12 + x1).toInt.toNat 0))) 84 (((G237.set 0 x1).set 4 ((A 68).getD (12 + x1).toInt.toNat 0)).set 5 ((A 68).getD (36 + x1).toInt.toNat 0))) 84 ((((G237.set 0 x1).set 4 ((A 68).getD (12 + x1).toInt.toNat 0)).set 5 ((A 68).getD (36 + x1).toInt.toNat 0)).set 6 ((A 68).getD (60 + x1).toInt.toNat 0))) L)) rfl rfl rfl (hz_s84 _) (fun _ => ?_)
  refine w_n 6 (pc1 := 87) (ls1 := [some (.ref 67), some (.int x1), some (.int r1)]) (st1 := [.int 147, .ref 68, .int 7, .ref 84]) (hp1 := (hz F (uA (uA (uA (uA (uA A 84 G237) 84 (G237.set 0 x1)) 84 ((G237.set 0 x1).set 4 ((A 68).getD (12 + x1).toInt.toNat 0))) 84 (((G237.set 0 x1).set 4 ((A 68).getD (12 + x1).toInt.toNat 0)).set 5 ((A 68).getD (36 + x1).toInt.toNat 0))) 84 ((((G237.set 0 x1).set 4 ((A 68).getD (12 + x1).toInt.toNat 0)).set 5 ((A 68).getD (36 + x1).toInt.toNat 0)).set 6 ((A 68).getD (60 + x1).toInt.toNat 0))) L)) rfl ?_
  refine w_al (k := 68) (l := (A 68)) rfl rfl rfl (fun _ => ?_)
  refine w_as (k := 84) (l := ((((G237.set 0 x1).set 4 ((A 68).getD (12 + x1).toInt.toNat 0)).set 5 ((A 68).getD (36 + x1).toInt.toNat 0)).set 6 ((A 68).getD (60 + x1).toInt.toNat 0))) (hp1 := (hz F (uA (uA (uA (uA (uA (uA A 84 G237) 84 (G237.set 0 x1)) 84 ((G237.set 0 x1).set 4 ((A 68).getD (12 + x1).toInt.toNat 0))) 84 (((G237.set 0 x1).set 4 ((A 68).getD (12 + x1).toInt.toNat 0)).set 5 ((A 68).getD (36 + x1).toInt.toNat 0))) 84 ((((G237.set 0 x1).set 4 ((A 68).getD (12 + x1).toInt.toNat 0)).set 5 ((A 68).getD (36 + x1).toInt.toNat 0)).set 6 ((A 68).getD (60 + x1).toInt.toNat 0))) 84 (((((G237.set 0 x1).set 4 ((A 68).getD (12 + x1).toInt.toNat 0)).set 5 ((A 68).getD (36 + x1).toInt.toNat 0)).set 6 ((A 68).getD (60 + x1).toInt.toNat 0)).set 7 ((A 68).getD 147 0))) L)) rfl rfl rfl (hz_s84 _) (fun _ => ?_)
  subst T
  exact w_r rfl rfl (cvQ rfl (funext fun q => if k0 : q = 84 then by subst k0; exact Eq.trans (b := (((((G237.set 0 x1).set 4 ((A 68).getD (12 + x1).toInt.toNat 0)).set 5 ((A 68).getD (36 + x1).toInt.toNat 0)).set 6 ((A 68).getD (60 + x1).toInt.toNat 0)).set 7 ((A 68).getD 147 0))) rfl rfl else by unfold uA; simp only [nb1 k0, cond_false]) rfl K)
