/-! lifts, printed by genlift.py: 4 -/
noncomputable def kv_biscuitsFor_5 (f3_1 : Int32) (a6 : List Int32) (l11 : List Int64) (x1 : Int32) (x2 : Int32) : Nat → Int32 → Int32 → Int32
  | 0, y3, _ => y3
  | m + 1, y3, y4 => (if (kt_isTold f3_1 y4) = 0 then (kv_biscuitsFor_5 f3_1 a6 l11 x1 x2 m y3 (y4 + 1)) else (if (((kt_aheadOf l11 y4 x2) >>> (x1 &&& 31)) &&& 1) = 0 then (kv_biscuitsFor_5 f3_1 a6 l11 x1 x2 m y3 (y4 + 1)) else (kv_biscuitsFor_5 f3_1 a6 l11 x1 x2 m (y3 + (a6.getD y4.toInt.toNat 0)) (y4 + 1))))
theorem t_kv_biscuitsFor_5 {f : Nat} {Q : Option Value → sm_H → Prop} : ∀ (m : Nat) {B D : Nat} {F : Nat → Nat → Int32} {A : Nat → List Int32} {L : Nat → List Int64} {x1 : Int32} {x2 : Int32} {y3 : Int32} {y4 : Int32}, m = (12 - y4.toInt).toNat → (∀ q4 : Int32, wl_E f B D mm75.2.2.2.2.2.2.2.2 60 [some (.ref 30), some (.int x1), some (.int x2), some (.int (kv_biscuitsFor_5 (F 3 1) (A 6) (L 11) x1 x2 m y3 y4)), some (.int q4)] [] (hz F A L) Q) → wl_E f B D mm75.2.2.2.2.2.2.2.2 5 [some (.ref 30), some (.int x1), some (.int x2), some (.int y3), some (.int y4)] [] (hz F A L) Q := by
  intro m
  induction m with
  | zero =>
    intro B D F A L x1 x2 y3 y4 hm K
    generalize hT : (kv_biscuitsFor_5 (F 3 1) (A 6) (L 11) x1 x2 0 y3 y4) = T at K
    have hE : T = y3 := hT.symm
    clear hT
    refine w_n 2 (pc1 := 9) (ls1 := [some (.ref 30), some (.int x1), some (.int x2), some (.int y3), some (.int y4)]) (st1 := [.int 12, .int y4]) (hp1 := (hz F A L)) rfl ?_
    refine w_ge (p3 := 12) rfl rfl (fun hb => ?_) (fun h => False.elim (by have h : y4.toInt < 12 := h; omega))
    subst T
    exact cvE rfl rfl rfl (K _)
  | succ m ih =>
    intro B D F A L x1 x2 y3 y4 hm K
    generalize hT : (kv_biscuitsFor_5 (F 3 1) (A 6) (L 11) x1 x2 (m + 1) y3 y4) = T at K
    have hE : T = (if (kt_isTold (F 3 1) y4) = 0 then (kv_biscuitsFor_5 (F 3 1) (A 6) (L 11) x1 x2 m y3 (y4 + 1)) else (if (((kt_aheadOf (L 11) y4 x2) >>> (x1 &&& 31)) &&& 1) = 0 then (kv_biscuitsFor_5 (F 3 1) (A 6) (L 11) x1 x2 m y3 (y4 + 1)) else (kv_biscuitsFor_5 (F 3 1) (A 6) (L 11) x1 x2 m (y3 + ((A 6).getD y4.toInt.toNat 0)) (y4 + 1)))) := hT.symm
    clear hT
    refine w_n 2 (pc1 := 9) (ls1 := [some (.ref 30), some (.int x1), some (.int x2), some (.int y3), some (.int y4)]) (st1 := [.int 12, .int y4]) (hp1 := (hz F A L)) rfl ?_
    refine w_ge (p3 := 12) rfl rfl (fun h => False.elim (by have h : 12 ≤ y4.toInt := h; omega)) (fun hb => ?_)
    refine w_n 3 (pc1 := 18) (ls1 := [some (.ref 30), some (.int x1), some (.int x2), some (.int y3), some (.int y4)]) (st1 := [.int y4, .ref 3]) (hp1 := (hz F A L)) rfl ?_
    refine w_c rfl rfl (t_kt_isTold ?_)
    show wl_E f _ _ mm75.2.2.2.2.2.2.2.2 21 [some (.ref 30), some (.int x1), some (.int x2), some (.int y3), some (.int y4)] [.int (kt_isTold (F 3 1) y4)] (hz F A L) _
    generalize hG98 : (kt_isTold (F 3 1) y4) = G98 at hE ⊢
    refine w_zeq (p3 := 24) rfl rfl (fun h => ?_) (fun h => ?_)
    · have h1 : G98 = 0 := h
      rw [if_pos h1] at hE
      refine w_n 2 (pc1 := 5) (ls1 := [some (.ref 30), some (.int x1), some (.int x2), some (.int y3), some (.int (y4 + 1))]) (st1 := []) (hp1 := (hz F A L)) rfl ?_
      subst T
      have hb2 := i_up (B := (12 : Int32)) hb
      have hb3 : y4.toInt < 12 := hb
      exact ih (show m = (12 - (y4 + 1).toInt).toNat by rw [hb2]; omega) (fun q4 => cvE rfl rfl rfl (K q4))
    · have h1 : ¬ G98 = 0 := h
      rw [if_neg h1] at hE
      refine w_n 4 (pc1 := 31) (ls1 := [some (.ref 30), some (.int x1), some (.int x2), some (.int y3), some (.int y4)]) (st1 := [.int x2, .int y4, .ref 3]) (hp1 := (hz F A L)) rfl ?_
      refine w_c rfl rfl (t_kt_aheadOf ?_)
      show wl_E f _ _ mm75.2.2.2.2.2.2.2.2 34 [some (.ref 30), some (.int x1), some (.int x2), some (.int y3), some (.int y4)] [.int (kt_aheadOf (L 11) y4 x2)] (hz F A L) _
      generalize hG99 : (kt_aheadOf (L 11) y4 x2) = G99 at hE ⊢
      refine w_n 4 (pc1 := 38) (ls1 := [some (.ref 30), some (.int x1), some (.int x2), some (.int y3), some (.int y4)]) (st1 := [.int ((G99 >>> (x1 &&& 31)) &&& 1)]) (hp1 := (hz F A L)) rfl ?_
      refine w_zeq (p3 := 41) rfl rfl (fun h => ?_) (fun h => ?_)
      · have h2 : ((G99 >>> (x1 &&& 31)) &&& 1) = 0 := h
        rw [if_pos h2] at hE
        refine w_n 2 (pc1 := 5) (ls1 := [some (.ref 30), some (.int x1), some (.int x2), some (.int y3), some (.int (y4 + 1))]) (st1 := []) (hp1 := (hz F A L)) rfl ?_
        subst T
        have hb2 := i_up (B := (12 : Int32)) hb
        have hb3 : y4.toInt < 12 := hb
        exact ih (show m = (12 - (y4 + 1).toInt).toNat by rw [hb2]; omega) (fun q4 => cvE rfl rfl rfl (K q4))
      · have h2 : ¬ ((G99 >>> (x1 &&& 31)) &&& 1) = 0 := h
        rw [if_neg h2] at hE
        refine w_n 5 (pc1 := 51) (ls1 := [some (.ref 30), some (.int x1), some (.int x2), some (.int y3), some (.int y4)]) (st1 := [.int y4, .ref 6, .int y3]) (hp1 := (hz F A L)) rfl ?_
        refine w_al (k := 6) (l := (A 6)) rfl rfl rfl (fun ab => ?_)
        refine w_n 4 (pc1 := 5) (ls1 := [some (.ref 30), some (.int x1), some (.int x2), some (.int (y3 + ((A 6).getD y4.toInt.toNat 0))), some (.int (y4 + 1))]) (st1 := []) (hp1 := (hz F A L)) rfl ?_
        subst T
        have hb2 := i_up (B := (12 : Int32)) hb
        have hb3 : y4.toInt < 12 := hb
        exact ih (show m = (12 - (y4 + 1).toInt).toNat by rw [hb2]; omega) (fun q4 => cvE rfl rfl rfl (K q4))
noncomputable def kv_biscuitsFor (f3_1 : Int32) (a6 : List Int32) (l11 : List Int64) (x1 : Int32) (x2 : Int32) : Int32 := (kv_biscuitsFor_5 f3_1 a6 l11 x1 x2 12 0 0)
theorem t_kv_biscuitsFor {f D : Nat} {F : Nat → Nat → Int32} {A : Nat → List Int32} {L : Nat → List Int64} {Q : Option Value → sm_H → Prop} {x1 : Int32} {x2 : Int32} (K : Q (some (.int (kv_biscuitsFor (F 3 1) (A 6) (L 11) x1 x2))) (hz F A L)) : wl_M f D 75 [.ref 30, .int x1, .int x2] (hz F A L) Q := by
  generalize hT : (kv_biscuitsFor (F 3 1) (A 6) (L 11) x1 x2) = T at K
  have hE : T = (kv_biscuitsFor_5 (F 3 1) (A 6) (L 11) x1 x2 12 0 0) := hT.symm
  clear hT
  refine w_m (E := mm75) rfl ?_
  show wl_E f f (D - 1) mm75.2.2.2.2.2.2.2.2 0 [some (.ref 30), some (.int x1), some (.int x2), none, none] [] (hz F A L) Q
  refine w_n 4 (pc1 := 5) (ls1 := [some (.ref 30), some (.int x1), some (.int x2), some (.int 0), some (.int 0)]) (st1 := []) (hp1 := (hz F A L)) rfl ?_
  refine t_kv_biscuitsFor_5 12 (show (12 : Nat) = (12 - (0 : Int32).toInt).toNat by have e0 : (0 : Int32).toInt = 0 := rfl; first | rfl | omega) ?_
  intro r1
  show wl_E f _ _ mm75.2.2.2.2.2.2.2.2 60 [some (.ref 30), some (.int x1), some (.int x2), some (.int (kv_biscuitsFor_5 (F 3 1) (A 6) (L 11) x1 x2 12 0 0)), some (.int r1)] [] (hz F A L) _
  generalize hG100 : (kv_biscuitsFor_5 (F 3 1) (A 6) (L 11) x1 x2 12 0 0) = G100 at hE ⊢
  refine w_n 1 (pc1 := 61) (ls1 := [some (.ref 30), some (.int x1), some (.int x2), some (.int G100), some (.int r1)]) (st1 := [.int G100]) (hp1 := (hz F A L)) rfl ?_
  subst T
  exact w_ri rfl (cvQ rfl rfl rfl K)
noncomputable def kc_pair (f3_0 : Int32) (f3_1 : Int32) (a6 : List Int32) (l11 : List Int64) (x1 : Int32) (x2 : Int32) : Int32 := (if (kt_isMeasure f3_0 x1) = 0 then (-1) else (if (kt_isMeasure f3_0 x2) = 0 then (-1) else (if x1 = x2 then (-1) else (kv_biscuitsFor f3_1 a6 l11 x1 x2))))
theorem t_kc_pair {f D : Nat} {F : Nat → Nat → Int32} {A : Nat → List Int32} {L : Nat → List Int64} {Q : Option Value → sm_H → Prop} {x1 : Int32} {x2 : Int32} (K : Q (some (.int (kc_pair (F 3 0) (F 3 1) (A 6) (L 11) x1 x2))) (hz F A L)) : wl_M f D 74 [.ref 0, .int x1, .int x2] (hz F A L) Q := by
  generalize hT : (kc_pair (F 3 0) (F 3 1) (A 6) (L 11) x1 x2) = T at K
  have hE : T = (if (kt_isMeasure (F 3 0) x1) = 0 then (-1) else (if (kt_isMeasure (F 3 0) x2) = 0 then (-1) else (if x1 = x2 then (-1) else (kv_biscuitsFor (F 3 1) (A 6) (L 11) x1 x2)))) := hT.symm
  clear hT
  refine w_m (E := mm74) rfl ?_
  show wl_E f f (D - 1) mm74.2.2.2.2.2.2.2.2 0 [some (.ref 0), some (.int x1), some (.int x2)] [] (hz F A L) Q
  refine w_n 3 (pc1 := 5) (ls1 := [some (.ref 0), some (.int x1), some (.int x2)]) (st1 := [.int x1, .ref 3]) (hp1 := (hz F A L)) rfl ?_
  refine w_c rfl rfl (t_kt_isMeasure ?_)
  show wl_E f _ _ mm74.2.2.2.2.2.2.2.2 8 [some (.ref 0), some (.int x1), some (.int x2)] [.int (kt_isMeasure (F 3 0) x1)] (hz F A L) _
  generalize hG96 : (kt_isMeasure (F 3 0) x1) = G96 at hE ⊢
  refine w_zeq (p3 := 11) rfl rfl (fun h => ?_) (fun h => ?_)
  · have h1 : G96 = 0 := h
    rw [if_pos h1] at hE
    refine w_n 1 (pc1 := 28) (ls1 := [some (.ref 0), some (.int x1), some (.int x2)]) (st1 := [.int (-1)]) (hp1 := (hz F A L)) rfl ?_
    subst T
    exact w_ri rfl (cvQ rfl rfl rfl K)
  · have h1 : ¬ G96 = 0 := h
    rw [if_neg h1] at hE
    refine w_n 3 (pc1 := 16) (ls1 := [some (.ref 0), some (.int x1), some (.int x2)]) (st1 := [.int x2, .ref 3]) (hp1 := (hz F A L)) rfl ?_
    refine w_c rfl rfl (t_kt_isMeasure ?_)
    show wl_E f _ _ mm74.2.2.2.2.2.2.2.2 19 [some (.ref 0), some (.int x1), some (.int x2)] [.int (kt_isMeasure (F 3 0) x2)] (hz F A L) _
    generalize hG97 : (kt_isMeasure (F 3 0) x2) = G97 at hE ⊢
    refine w_zeq (p3 := 22) rfl rfl (fun h => ?_) (fun h => ?_)
    · have h2 : G97 = 0 := h
      rw [if_pos h2] at hE
      refine w_n 1 (pc1 := 28) (ls1 := [some (.ref 0), some (.int x1), some (.int x2)]) (st1 := [.int (-1)]) (hp1 := (hz F A L)) rfl ?_
      subst T
      exact w_ri rfl (cvQ rfl rfl rfl K)
    · have h2 : ¬ G97 = 0 := h
      rw [if_neg h2] at hE
      refine w_n 2 (pc1 := 24) (ls1 := [some (.ref 0), some (.int x1), some (.int x2)]) (st1 := [.int x2, .int x1]) (hp1 := (hz F A L)) rfl ?_
      refine w_ne (p3 := 27) rfl rfl (fun h => ?_) (fun h => ?_)
      · have h3 : ¬ x1 = x2 := h
        rw [if_neg h3] at hE
        refine w_n 4 (pc1 := 35) (ls1 := [some (.ref 0), some (.int x1), some (.int x2)]) (st1 := [.int x2, .int x1, .ref 30]) (hp1 := (hz F A L)) rfl ?_
        refine w_c rfl rfl (t_kv_biscuitsFor ?_)
        show wl_E f _ _ mm74.2.2.2.2.2.2.2.2 38 [some (.ref 0), some (.int x1), some (.int x2)] [.int (kv_biscuitsFor (F 3 1) (A 6) (L 11) x1 x2)] (hz F A L) _
        generalize hG101 : (kv_biscuitsFor (F 3 1) (A 6) (L 11) x1 x2) = G101 at hE ⊢
        subst T
        exact w_ri rfl (cvQ rfl rfl rfl K)
      · have h3 : x1 = x2 := h
        rw [if_pos h3] at hE
        refine w_n 1 (pc1 := 28) (ls1 := [some (.ref 0), some (.int x1), some (.int x2)]) (st1 := [.int (-1)]) (hp1 := (hz F A L)) rfl ?_
        subst T
        exact w_ri rfl (cvQ rfl rfl rfl K)
noncomputable def km_placeOf (a68 : List Int32) (x1 : Int32) (x2 : Int32) : Int32 := (a68.getD ((72 + (6 * x1)) + x2).toInt.toNat 0)
theorem t_km_placeOf {f D : Nat} {F : Nat → Nat → Int32} {A : Nat → List Int32} {L : Nat → List Int64} {Q : Option Value → sm_H → Prop} {x1 : Int32} {x2 : Int32} (K : Q (some (.int (km_placeOf (A 68) x1 x2))) (hz F A L)) : wl_M f D 192 [.ref 67, .int x1, .int x2] (hz F A L) Q := by
  generalize hT : (km_placeOf (A 68) x1 x2) = T at K
  have hE : T = ((A 68).getD ((72 + (6 * x1)) + x2).toInt.toNat 0) := hT.symm
  clear hT
  refine w_m (E := mm192) rfl ?_
  show wl_E f f (D - 1) mm192.2.2.2.2.2.2.2.2 0 [some (.ref 67), some (.int x1), some (.int x2)] [] (hz F A L) Q
  refine w_n 9 (pc1 := 13) (ls1 := [some (.ref 67), some (.int x1), some (.int x2)]) (st1 := [.int ((72 + (6 * x1)) + x2), .ref 68]) (hp1 := (hz F A L)) rfl ?_
  refine w_al (k := 68) (l := (A 68)) rfl rfl rfl (fun _ => ?_)
  subst T
  exact w_ri rfl (cvQ rfl rfl rfl K)
noncomputable def km_pairOf_5 (a68 : List Int32) (x1 : Int32) (x2 : Int32) : Nat → Int32 → Int32 → Int32
  | 0, y3, _ => y3
  | m + 1, y3, y4 => (if (km_isGuest a68 y4) = 0 then (km_pairOf_5 a68 x1 x2 m y3 (y4 + 1)) else (if (km_placeOf a68 y4 x1).toInt < (km_placeOf a68 y4 x2).toInt then (km_pairOf_5 a68 x1 x2 m (y3 + (a68.getD (12 + y4).toInt.toNat 0)) (y4 + 1)) else (km_pairOf_5 a68 x1 x2 m y3 (y4 + 1))))
theorem t_km_pairOf_5 {f : Nat} {Q : Option Value → sm_H → Prop} : ∀ (m : Nat) {B D : Nat} {F : Nat → Nat → Int32} {A : Nat → List Int32} {L : Nat → List Int64} {x1 : Int32} {x2 : Int32} {y3 : Int32} {y4 : Int32}, m = (12 - y4.toInt).toNat → (∀ q4 : Int32, wl_E f B D mm203.2.2.2.2.2.2.2.2 57 [some (.ref 67), some (.int x1), some (.int x2), some (.int (km_pairOf_5 (A 68) x1 x2 m y3 y4)), some (.int q4)] [] (hz F A L) Q) → wl_E f B D mm203.2.2.2.2.2.2.2.2 5 [some (.ref 67), some (.int x1), some (.int x2), some (.int y3), some (.int y4)] [] (hz F A L) Q := by
  intro m
  induction m with
  | zero =>
    intro B D F A L x1 x2 y3 y4 hm K
    generalize hT : (km_pairOf_5 (A 68) x1 x2 0 y3 y4) = T at K
    have hE : T = y3 := hT.symm
    clear hT
    refine w_n 2 (pc1 := 9) (ls1 := [some (.ref 67), some (.int x1), some (.int x2), some (.int y3), some (.int y4)]) (st1 := [.int 12, .int y4]) (hp1 := (hz F A L)) rfl ?_
    refine w_ge (p3 := 12) rfl rfl (fun hb => ?_) (fun h => False.elim (by have h : y4.toInt < 12 := h; omega))
    subst T
    exact cvE rfl rfl rfl (K _)
  | succ m ih =>
    intro B D F A L x1 x2 y3 y4 hm K
    generalize hT : (km_pairOf_5 (A 68) x1 x2 (m + 1) y3 y4) = T at K
    have hE : T = (if (km_isGuest (A 68) y4) = 0 then (km_pairOf_5 (A 68) x1 x2 m y3 (y4 + 1)) else (if (km_placeOf (A 68) y4 x1).toInt < (km_placeOf (A 68) y4 x2).toInt then (km_pairOf_5 (A 68) x1 x2 m (y3 + ((A 68).getD (12 + y4).toInt.toNat 0)) (y4 + 1)) else (km_pairOf_5 (A 68) x1 x2 m y3 (y4 + 1)))) := hT.symm
    clear hT
    refine w_n 2 (pc1 := 9) (ls1 := [some (.ref 67), some (.int x1), some (.int x2), some (.int y3), some (.int y4)]) (st1 := [.int 12, .int y4]) (hp1 := (hz F A L)) rfl ?_
    refine w_ge (p3 := 12) rfl rfl (fun h => False.elim (by have h : 12 ≤ y4.toInt := h; omega)) (fun hb => ?_)
    refine w_n 2 (pc1 := 15) (ls1 := [some (.ref 67), some (.int x1), some (.int x2), some (.int y3), some (.int y4)]) (st1 := [.int y4, .ref 67]) (hp1 := (hz F A L)) rfl ?_
    refine w_c rfl rfl (t_km_isGuest ?_)
    show wl_E f _ _ mm203.2.2.2.2.2.2.2.2 18 [some (.ref 67), some (.int x1), some (.int x2), some (.int y3), some (.int y4)] [.int (km_isGuest (A 68) y4)] (hz F A L) _
    generalize hG104 : (km_isGuest (A 68) y4) = G104 at hE ⊢
    refine w_zeq (p3 := 21) rfl rfl (fun h => ?_) (fun h => ?_)
    · have h1 : G104 = 0 := h
      rw [if_pos h1] at hE
      refine w_n 2 (pc1 := 5) (ls1 := [some (.ref 67), some (.int x1), some (.int x2), some (.int y3), some (.int (y4 + 1))]) (st1 := []) (hp1 := (hz F A L)) rfl ?_
      subst T
      have hb2 := i_up (B := (12 : Int32)) hb
      have hb3 : y4.toInt < 12 := hb
      exact ih (show m = (12 - (y4 + 1).toInt).toNat by rw [hb2]; omega) (fun q4 => cvE rfl rfl rfl (K q4))
    · have h1 : ¬ G104 = 0 := h
      rw [if_neg h1] at hE
      refine w_n 3 (pc1 := 25) (ls1 := [some (.ref 67), some (.int x1), some (.int x2), some (.int y3), some (.int y4)]) (st1 := [.int x1, .int y4, .ref 67]) (hp1 := (hz F A L)) rfl ?_
      refine w_c rfl rfl (t_km_placeOf ?_)
      show wl_E f _ _ mm203.2.2.2.2.2.2.2.2 28 [some (.ref 67), some (.int x1), some (.int x2), some (.int y3), some (.int y4)] [.int (km_placeOf (A 68) y4 x1)] (hz F A L) _
      generalize hG105 : (km_placeOf (A 68) y4 x1) = G105 at hE ⊢
      refine w_n 3 (pc1 := 32) (ls1 := [some (.ref 67), some (.int x1), some (.int x2), some (.int y3), some (.int y4)]) (st1 := [.int x2, .int y4, .ref 67, .int G105]) (hp1 := (hz F A L)) rfl ?_
      refine w_c rfl rfl (t_km_placeOf ?_)
      show wl_E f _ _ mm203.2.2.2.2.2.2.2.2 35 [some (.ref 67), some (.int x1), some (.int x2), some (.int y3), some (.int y4)] [.int (km_placeOf (A 68) y4 x2), .int G105] (hz F A L) _
      generalize hG106 : (km_placeOf (A 68) y4 x2) = G106 at hE ⊢
      refine w_ge (p3 := 38) rfl rfl (fun h => ?_) (fun h => ?_)
      · have h2 : G106.toInt ≤ G105.toInt := h
        rw [if_neg (Int.not_lt.mpr h2)] at hE
        refine w_n 2 (pc1 := 5) (ls1 := [some (.ref 67), some (.int x1), some (.int x2), some (.int y3), some (.int (y4 + 1))]) (st1 := []) (hp1 := (hz F A L)) rfl ?_
        subst T
        have hb2 := i_up (B := (12 : Int32)) hb
        have hb3 : y4.toInt < 12 := hb
        exact ih (show m = (12 - (y4 + 1).toInt).toNat by rw [hb2]; omega) (fun q4 => cvE rfl rfl rfl (K q4))
      · have h2 : G105.toInt < G106.toInt := h
        rw [if_pos h2] at hE
        refine w_n 6 (pc1 := 48) (ls1 := [some (.ref 67), some (.int x1), some (.int x2), some (.int y3), some (.int y4)]) (st1 := [.int (12 + y4), .ref 68, .int y3]) (hp1 := (hz F A L)) rfl ?_
        refine w_al (k := 68) (l := (A 68)) rfl rfl rfl (fun _ => ?_)
        refine w_n 4 (pc1 := 5) (ls1 := [some (.ref 67), some (.int x1), some (.int x2), some (.int (y3 + ((A 68).getD (12 + y4).toInt.toNat 0))), some (.int (y4 + 1))]) (st1 := []) (hp1 := (hz F A L)) rfl ?_
        subst T
        have hb2 := i_up (B := (12 : Int32)) hb
        have hb3 : y4.toInt < 12 := hb
        exact ih (show m = (12 - (y4 + 1).toInt).toNat by rw [hb2]; omega) (fun q4 => cvE rfl rfl rfl (K q4))
noncomputable def km_pairOf (a68 : List Int32) (x1 : Int32) (x2 : Int32) : Int32 := (km_pairOf_5 a68 x1 x2 12 0 0)
theorem t_km_pairOf {f D : Nat} {F : Nat → Nat → Int32} {A : Nat → List Int32} {L : Nat → List Int64} {Q : Option Value → sm_H → Prop} {x1 : Int32} {x2 : Int32} (K : Q (some (.int (km_pairOf (A 68) x1 x2))) (hz F A L)) : wl_M f D 203 [.ref 67, .int x1, .int x2] (hz F A L) Q := by
  generalize hT : (km_pairOf (A 68) x1 x2) = T at K
  have hE : T = (km_pairOf_5 (A 68) x1 x2 12 0 0) := hT.symm
  clear hT
  refine w_m (E := mm203) rfl ?_
  show wl_E f f (D - 1) mm203.2.2.2.2.2.2.2.2 0 [some (.ref 67), some (.int x1), some (.int x2), none, none] [] (hz F A L) Q
  refine w_n 4 (pc1 := 5) (ls1 := [some (.ref 67), some (.int x1), some (.int x2), some (.int 0), some (.int 0)]) (st1 := []) (hp1 := (hz F A L)) rfl ?_
  refine t_km_pairOf_5 12 (show (12 : Nat) = (12 - (0 : Int32).toInt).toNat by have e0 : (0 : Int32).toInt = 0 := rfl; first | rfl | omega) ?_
  intro r1
  show wl_E f _ _ mm203.2.2.2.2.2.2.2.2 57 [some (.ref 67), some (.int x1), some (.int x2), some (.int (km_pairOf_5 (A 68) x1 x2 12 0 0)), some (.int r1)] [] (hz F A L) _
  generalize hG107 : (km_pairOf_5 (A 68) x1 x2 12 0 0) = G107 at hE ⊢
  refine w_n 1 (pc1 := 58) (ls1 := [some (.ref 67), some (.int x1), some (.int x2), some (.int G107), some (.int r1)]) (st1 := [.int G107]) (hp1 := (hz F A L)) rfl ?_
  subst T
  exact w_ri rfl (cvQ rfl rfl rfl K)
noncomputable def km_pair (f67_3 : Int32) (a68 : List Int32) (x1 : Int32) (x2 : Int32) : Int32 := (if (km_isMeasure f67_3 x1) = 0 then (-1) else (if (km_isMeasure f67_3 x2) = 0 then (-1) else (if x1 = x2 then (-1) else (km_pairOf a68 x1 x2))))
theorem t_km_pair {f D : Nat} {F : Nat → Nat → Int32} {A : Nat → List Int32} {L : Nat → List Int64} {Q : Option Value → sm_H → Prop} {x1 : Int32} {x2 : Int32} (K : Q (some (.int (km_pair (F 67 3) (A 68) x1 x2))) (hz F A L)) : wl_M f D 202 [.ref 67, .int x1, .int x2] (hz F A L) Q := by
  generalize hT : (km_pair (F 67 3) (A 68) x1 x2) = T at K
  have hE : T = (if (km_isMeasure (F 67 3) x1) = 0 then (-1) else (if (km_isMeasure (F 67 3) x2) = 0 then (-1) else (if x1 = x2 then (-1) else (km_pairOf (A 68) x1 x2)))) := hT.symm
  clear hT
  refine w_m (E := mm202) rfl ?_
  show wl_E f f (D - 1) mm202.2.2.2.2.2.2.2.2 0 [some (.ref 67), some (.int x1), some (.int x2)] [] (hz F A L) Q
  refine w_n 2 (pc1 := 2) (ls1 := [some (.ref 67), some (.int x1), some (.int x2)]) (st1 := [.int x1, .ref 67]) (hp1 := (hz F A L)) rfl ?_
  refine w_c rfl rfl (t_km_isMeasure ?_)
  show wl_E f _ _ mm202.2.2.2.2.2.2.2.2 5 [some (.ref 67), some (.int x1), some (.int x2)] [.int (km_isMeasure (F 67 3) x1)] (hz F A L) _
  generalize hG102 : (km_isMeasure (F 67 3) x1) = G102 at hE ⊢
  refine w_zeq (p3 := 8) rfl rfl (fun h => ?_) (fun h => ?_)
  · have h1 : G102 = 0 := h
    rw [if_pos h1] at hE
    refine w_n 1 (pc1 := 31) (ls1 := [some (.ref 67), some (.int x1), some (.int x2)]) (st1 := [.int (-1)]) (hp1 := (hz F A L)) rfl ?_
    subst T
    exact w_ri rfl (cvQ rfl rfl rfl K)
  · have h1 : ¬ G102 = 0 := h
    rw [if_neg h1] at hE
    refine w_n 2 (pc1 := 10) (ls1 := [some (.ref 67), some (.int x1), some (.int x2)]) (st1 := [.int x2, .ref 67]) (hp1 := (hz F A L)) rfl ?_
    refine w_c rfl rfl (t_km_isMeasure ?_)
    show wl_E f _ _ mm202.2.2.2.2.2.2.2.2 13 [some (.ref 67), some (.int x1), some (.int x2)] [.int (km_isMeasure (F 67 3) x2)] (hz F A L) _
    generalize hG103 : (km_isMeasure (F 67 3) x2) = G103 at hE ⊢
    refine w_zeq (p3 := 16) rfl rfl (fun h => ?_) (fun h => ?_)
    · have h2 : G103 = 0 := h
      rw [if_pos h2] at hE
      refine w_n 1 (pc1 := 31) (ls1 := [some (.ref 67), some (.int x1), some (.int x2)]) (st1 := [.int (-1)]) (hp1 := (hz F A L)) rfl ?_
      subst T
      exact w_ri rfl (cvQ rfl rfl rfl K)
    · have h2 : ¬ G103 = 0 := h
      rw [if_neg h2] at hE
      refine w_n 2 (pc1 := 18) (ls1 := [some (.ref 67), some (.int x1), some (.int x2)]) (st1 := [.int x2, .int x1]) (hp1 := (hz F A L)) rfl ?_
      refine w_eq (p3 := 21) rfl rfl (fun h => ?_) (fun h => ?_)
      · have h3 : x1 = x2 := h
        rw [if_pos h3] at hE
        refine w_n 1 (pc1 := 31) (ls1 := [some (.ref 67), some (.int x1), some (.int x2)]) (st1 := [.int (-1)]) (hp1 := (hz F A L)) rfl ?_
        subst T
        exact w_ri rfl (cvQ rfl rfl rfl K)
      · have h3 : ¬ x1 = x2 := h
        rw [if_neg h3] at hE
        refine w_n 3 (pc1 := 24) (ls1 := [some (.ref 67), some (.int x1), some (.int x2)]) (st1 := [.int x2, .int x1, .ref 67]) (hp1 := (hz F A L)) rfl ?_
        refine w_c rfl rfl (t_km_pairOf ?_)
        show wl_E f _ _ mm202.2.2.2.2.2.2.2.2 27 [some (.ref 67), some (.int x1), some (.int x2)] [.int (km_pairOf (A 68) x1 x2)] (hz F A L) _
        generalize hG108 : (km_pairOf (A 68) x1 x2) = G108 at hE ⊢
        refine w_n 1 (pc1 := 31) (ls1 := [some (.ref 67), some (.int x1), some (.int x2)]) (st1 := [.int G108]) (hp1 := (hz F A L)) rfl ?_
        subst T
        exact w_ri rfl (cvQ rfl rfl rfl K)
noncomputable def kt_allMeasures (f3_0 : Int32) : Int32 := (((1 : Int32) <<< (f3_0 &&& 31)) - 1)
theorem t_kt_allMeasures {f D : Nat} {F : Nat → Nat → Int32} {A : Nat → List Int32} {L : Nat → List Int64} {Q : Option Value → sm_H → Prop} (K : Q (some (.int (kt_allMeasures (F 3 0)))) (hz F A L)) : wl_M f D 59 [.ref 3] (hz F A L) Q := by
  generalize hT : (kt_allMeasures (F 3 0)) = T at K
  have hE : T = (((1 : Int32) <<< ((F 3 0) &&& 31)) - 1) := hT.symm
  clear hT
  refine w_m (E := mm59) rfl ?_
  show wl_E f f (D - 1) mm59.2.2.2.2.2.2.2.2 0 [some (.ref 3)] [] (hz F A L) Q
  refine w_n 6 (pc1 := 8) (ls1 := [some (.ref 3)]) (st1 := [.int (((1 : Int32) <<< ((F 3 0) &&& 31)) - 1)]) (hp1 := (hz F A L)) rfl ?_
  subst T
  exact w_ri rfl (cvQ rfl rfl rfl K)
noncomputable def kv_tallyFirsts_8  (x3 : Int32) : Nat → Int32 → List Int32 → List Int32
  | 0, _, a35 => a35
  | m + 1, y4, a35 => (kv_tallyFirsts_8 x3 m (y4 + 1) (a35.set (x3 + y4).toInt.toNat 0))
theorem t_kv_tallyFirsts_8 {f : Nat} {Q : Option Value → sm_H → Prop} : ∀ (m : Nat) {B D : Nat} {F : Nat → Nat → Int32} {A : Nat → List Int32} {L : Nat → List Int64} {x1 : Int32} {x2 : Int32} {x3 : Int32} {y4 : Int32} {o5 : Option Value}, m = (6 - y4.toInt).toNat → (∀ q4 : Int32, wl_E f B D mm78.2.2.2.2.2.2.2.2 31 [some (.ref 30), some (.int x1), some (.int x2), some (.int x3), some (.int q4), o5] [] (hz F (uA A 35 (kv_tallyFirsts_8 x3 m y4 (A 35))) L) Q) → wl_E f B D mm78.2.2.2.2.2.2.2.2 8 [some (.ref 30), some (.int x1), some (.int x2), some (.int x3), some (.int y4), o5] [] (hz F A L) Q := by
  intro m
  induction m with
  | zero =>
    intro B D F A L x1 x2 x3 y4 o5 hm K
    generalize hT : (kv_tallyFirsts_8 x3 0 y4 (A 35)) = T at K
    have hE : T = (A 35) := hT.symm
    clear hT
    refine w_n 2 (pc1 := 12) (ls1 := [some (.ref 30), some (.int x1), some (.int x2), some (.int x3), some (.int y4), o5]) (st1 := [.int 6, .int y4]) (hp1 := (hz F A L)) rfl ?_
    refine w_ge (p3 := 15) rfl rfl (fun hb => ?_) (fun h => False.elim (by have h : y4.toInt < 6 := h; omega))
    subst T
    exact cvE rfl (funext fun q => if k0 : q = 35 then by subst k0; exact Eq.trans (b := (A 35)) rfl rfl else by unfold uA; simp only [nb1 k0, cond_false]) rfl (K _)
  | succ m ih =>
    intro B D F A L x1 x2 x3 y4 o5 hm K
    generalize hT : (kv_tallyFirsts_8 x3 (m + 1) y4 (A 35)) = T at K
    have hE : T = (kv_tallyFirsts_8 x3 m (y4 + 1) ((A 35).set (x3 + y4).toInt.toNat 0)) := hT.symm
    clear hT
    refine w_n 2 (pc1 := 12) (ls1 := [some (.ref 30), some (.int x1), some (.int x2), some (.int x3), some (.int y4), o5]) (st1 := [.int 6, .int y4]) (hp1 := (hz F A L)) rfl ?_
    refine w_ge (p3 := 15) rfl rfl (fun h => False.elim (by have h : 6 ≤ y4.toInt := h; omega)) (fun hb => ?_)
    refine w_n 6 (pc1 := 24) (ls1 := [some (.ref 30), some (.int x1), some (.int x2), some (.int x3), some (.int y4), o5]) (st1 := [.int 0, .int (x3 + y4), .ref 35]) (hp1 := (hz F A L)) rfl ?_
    refine w_as (k := 35) (l := (A 35)) (hp1 := (hz F (uA A 35 ((A 35).set (x3 + y4).toInt.toNat 0)) L)) rfl rfl rfl (hz_s35 _) (fun _ => ?_)
    refine w_n 2 (pc1 := 8) (ls1 := [some (.ref 30), some (.int x1), some (.int x2), some (.int x3), some (.int (y4 + 1)), o5]) (st1 := []) (hp1 := (hz F (uA A 35 ((A 35).set (x3 + y4).toInt.toNat 0)) L)) rfl ?_
    subst T
    have hb2 := i_up (B := (6 : Int32)) hb
    have hb3 : y4.toInt < 6 := hb
    exact ih (show m = (6 - (y4 + 1).toInt).toNat by rw [hb2]; omega) (fun q4 => cvE rfl (funext fun q => if k0 : q = 35 then by subst k0; exact Eq.trans (b := (kv_tallyFirsts_8 x3 m (y4 + 1) ((A 35).set (x3 + y4).toInt.toNat 0))) rfl rfl else by unfold uA; simp only [nb1 k0, cond_false]) rfl (K q4))
noncomputable def kt_favourite_2 (l11 : List Int64) (x1 : Int32) (x2 : Int32) : Nat → Int32 → Int32
  | 0, _ => (-1)
  | m + 1, y3 => (if ((x2 >>> (y3 &&& 31)) &&& 1) = 0 then (kt_favourite_2 l11 x1 x2 m (y3 + 1)) else (if ((kt_aheadOf l11 x1 y3) &&& x2) = 0 then y3 else (kt_favourite_2 l11 x1 x2 m (y3 + 1))))
theorem t_kt_favourite_2 {f : Nat} {Q : Option Value → sm_H → Prop} : ∀ (m : Nat) {B D : Nat} {F : Nat → Nat → Int32} {A : Nat → List Int32} {L : Nat → List Int64} {x1 : Int32} {x2 : Int32} {y3 : Int32}, m = ((F 3 0).toInt - y3.toInt).toNat → (Q (some (.int (kt_favourite_2 (L 11) x1 x2 m y3))) (hz F A L)) → wl_E f B D mm60.2.2.2.2.2.2.2.2 2 [some (.ref 3), some (.int x1), some (.int x2), some (.int y3)] [] (hz F A L) Q := by
  intro m
  induction m with
  | zero =>
    intro B D F A L x1 x2 y3 hm K
    generalize hT : (kt_favourite_2 (L 11) x1 x2 0 y3) = T at K
    have hE : T = (-1) := hT.symm
    clear hT
    refine w_n 3 (pc1 := 7) (ls1 := [some (.ref 3), some (.int x1), some (.int x2), some (.int y3)]) (st1 := [.int (F 3 0), .int y3]) (hp1 := (hz F A L)) rfl ?_
    refine w_ge (p3 := 10) rfl rfl (fun hb => ?_) (fun h => False.elim (by have h : y3.toInt < (F 3 0).toInt := h; omega))
    refine w_n 1 (pc1 := 38) (ls1 := [some (.ref 3), some (.int x1), some (.int x2), some (.int y3)]) (st1 := [.int (-1)]) (hp1 := (hz F A L)) rfl ?_
    subst T
    exact w_ri rfl (cvQ rfl rfl rfl K)
  | succ m ih =>
    intro B D F A L x1 x2 y3 hm K
    generalize hT : (kt_favourite_2 (L 11) x1 x2 (m + 1) y3) = T at K
    have hE : T = (if ((x2 >>> (y3 &&& 31)) &&& 1) = 0 then (kt_favourite_2 (L 11) x1 x2 m (y3 + 1)) else (if ((kt_aheadOf (L 11) x1 y3) &&& x2) = 0 then y3 else (kt_favourite_2 (L 11) x1 x2 m (y3 + 1)))) := hT.symm
    clear hT
    refine w_n 3 (pc1 := 7) (ls1 := [some (.ref 3), some (.int x1), some (.int x2), some (.int y3)]) (st1 := [.int (F 3 0), .int y3]) (hp1 := (hz F A L)) rfl ?_
    refine w_ge (p3 := 10) rfl rfl (fun h => False.elim (by have h : (F 3 0).toInt ≤ y3.toInt := h; omega)) (fun hb => ?_)
    refine w_n 5 (pc1 := 15) (ls1 := [some (.ref 3), some (.int x1), some (.int x2), some (.int y3)]) (st1 := [.int ((x2 >>> (y3 &&& 31)) &&& 1)]) (hp1 := (hz F A L)) rfl ?_
    refine w_zeq (p3 := 18) rfl rfl (fun h => ?_) (fun h => ?_)
    · have h1 : ((x2 >>> (y3 &&& 31)) &&& 1) = 0 := h
      rw [if_pos h1] at hE
      refine w_n 2 (pc1 := 2) (ls1 := [some (.ref 3), some (.int x1), some (.int x2), some (.int (y3 + 1))]) (st1 := []) (hp1 := (hz F A L)) rfl ?_
      subst T
      have hb2 := i_up (B := (F 3 0)) hb
      have hb3 : y3.toInt < (F 3 0).toInt := hb
      exact ih (show m = ((F 3 0).toInt - (y3 + 1).toInt).toNat by rw [hb2]; omega) (cvQ rfl rfl rfl K)
    · have h1 : ¬ ((x2 >>> (y3 &&& 31)) &&& 1) = 0 := h
      rw [if_neg h1] at hE
      refine w_n 3 (pc1 := 21) (ls1 := [some (.ref 3), some (.int x1), some (.int x2), some (.int y3)]) (st1 := [.int y3, .int x1, .ref 3]) (hp1 := (hz F A L)) rfl ?_
      refine w_c rfl rfl (t_kt_aheadOf ?_)
      show wl_E f _ _ mm60.2.2.2.2.2.2.2.2 24 [some (.ref 3), some (.int x1), some (.int x2), some (.int y3)] [.int (kt_aheadOf (L 11) x1 y3)] (hz F A L) _
      generalize hG112 : (kt_aheadOf (L 11) x1 y3) = G112 at hE ⊢
      refine w_n 2 (pc1 := 26) (ls1 := [some (.ref 3), some (.int x1), some (.int x2), some (.int y3)]) (st1 := [.int (G112 &&& x2)]) (hp1 := (hz F A L)) rfl ?_
      refine w_zne (p3 := 29) rfl rfl (fun h => ?_) (fun h => ?_)
      · have h2 : ¬ (G112 &&& x2) = 0 := h
        rw [if_neg h2] at hE
        refine w_n 2 (pc1 := 2) (ls1 := [some (.ref 3), some (.int x1), some (.int x2), some (.int (y3 + 1))]) (st1 := []) (hp1 := (hz F A L)) rfl ?_
        subst T
        have hb2 := i_up (B := (F 3 0)) hb
        have hb3 : y3.toInt < (F 3 0).toInt := hb
        exact ih (show m = ((F 3 0).toInt - (y3 + 1).toInt).toNat by rw [hb2]; omega) (cvQ rfl rfl rfl K)
      · have h2 : (G112 &&& x2) = 0 := h
        rw [if_pos h2] at hE
        refine w_n 1 (pc1 := 30) (ls1 := [some (.ref 3), some (.int x1), some (.int x2), some (.int y3)]) (st1 := [.int y3]) (hp1 := (hz F A L)) rfl ?_
        subst T
        exact w_ri rfl (cvQ rfl rfl rfl K)
noncomputable def kt_favourite (f3_0 : Int32) (l11 : List Int64) (x1 : Int32) (x2 : Int32) : Int32 := (kt_favourite_2 l11 x1 x2 f3_0.toInt.toNat 0)
theorem t_kt_favourite {f D : Nat} {F : Nat → Nat → Int32} {A : Nat → List Int32} {L : Nat → List Int64} {Q : Option Value → sm_H → Prop} {x1 : Int32} {x2 : Int32} (K : Q (some (.int (kt_favourite (F 3 0) (L 11) x1 x2))) (hz F A L)) : wl_M f D 60 [.ref 3, .int x1, .int x2] (hz F A L) Q := by
  generalize hT : (kt_favourite (F 3 0) (L 11) x1 x2) = T at K
  have hE : T = (kt_favourite_2 (L 11) x1 x2 (F 3 0).toInt.toNat 0) := hT.symm
  clear hT
  refine w_m (E := mm60) rfl ?_
  show wl_E f f (D - 1) mm60.2.2.2.2.2.2.2.2 0 [some (.ref 3), some (.int x1), some (.int x2), none] [] (hz F A L) Q
  refine w_n 2 (pc1 := 2) (ls1 := [some (.ref 3), some (.int x1), some (.int x2), some (.int 0)]) (st1 := []) (hp1 := (hz F A L)) rfl ?_
  subst T
  exact t_kt_favourite_2 _ (show (F 3 0).toInt.toNat = ((F 3 0).toInt - (0 : Int32).toInt).toNat by have e0 : (0 : Int32).toInt = 0 := rfl; first | rfl | omega) (cvQ rfl rfl rfl K)
noncomputable def kv_tallyFirsts_34 (f3_0 : Int32) (f3_1 : Int32) (a6 : List Int32) (l11 : List Int64) (x1 : Int32) (x2 : Int32) (x3 : Int32) : Nat → Int32 → List Int32 → List Int32
  | 0, _, a35 => a35
  | m + 1, y4, a35 => (if y4 = x2 then (kv_tallyFirsts_34 f3_0 f3_1 a6 l11 x1 x2 x3 m (y4 + 1) a35) else (if (kt_isTold f3_1 y4) = 0 then (kv_tallyFirsts_34 f3_0 f3_1 a6 l11 x1 x2 x3 m (y4 + 1) a35) else (if (kt_favourite f3_0 l11 y4 x1) = (-1) then (kv_tallyFirsts_34 f3_0 f3_1 a6 l11 x1 x2 x3 m (y4 + 1) a35) else (kv_tallyFirsts_34 f3_0 f3_1 a6 l11 x1 x2 x3 m (y4 + 1) (a35.set (x3 + (kt_favourite f3_0 l11 y4 x1)).toInt.toNat ((a35.getD (x3 + (kt_favourite f3_0 l11 y4 x1)).toInt.toNat 0) + (a6.getD y4.toInt.toNat 0)))))))
theorem t_kv_tallyFirsts_34 {f : Nat} {Q : Option Value → sm_H → Prop} : ∀ (m : Nat) {B D : Nat} {F : Nat → Nat → Int32} {A : Nat → List Int32} {L : Nat → List Int64} {x1 : Int32} {x2 : Int32} {x3 : Int32} {y4 : Int32} {o5 : Option Value}, m = (12 - y4.toInt).toNat → (∀ q4 : Int32, ∀ q5 : Option Value, wl_E f B D mm78.2.2.2.2.2.2.2.2 108 [some (.ref 30), some (.int x1), some (.int x2), some (.int x3), some (.int q4), q5] [] (hz F (uA A 35 (kv_tallyFirsts_34 (F 3 0) (F 3 1) (A 6) (L 11) x1 x2 x3 m y4 (A 35))) L) Q) → wl_E f B D mm78.2.2.2.2.2.2.2.2 34 [some (.ref 30), some (.int x1), some (.int x2), some (.int x3), some (.int y4), o5] [] (hz F A L) Q := by
  intro m
  induction m with
  | zero =>
    intro B D F A L x1 x2 x3 y4 o5 hm K
    generalize hT : (kv_tallyFirsts_34 (F 3 0) (F 3 1) (A 6) (L 11) x1 x2 x3 0 y4 (A 35)) = T at K
    have hE : T = (A 35) := hT.symm
    clear hT
    refine w_n 2 (pc1 := 38) (ls1 := [some (.ref 30), some (.int x1), some (.int x2), some (.int x3), some (.int y4), o5]) (st1 := [.int 12, .int y4]) (hp1 := (hz F A L)) rfl ?_
    refine w_ge (p3 := 41) rfl rfl (fun hb => ?_) (fun h => False.elim (by have h : y4.toInt < 12 := h; omega))
    subst T
    exact cvE rfl (funext fun q => if k0 : q = 35 then by subst k0; exact Eq.trans (b := (A 35)) rfl rfl else by unfold uA; simp only [nb1 k0, cond_false]) rfl (K _ _)
  | succ m ih =>
    intro B D F A L x1 x2 x3 y4 o5 hm K
    generalize hT : (kv_tallyFirsts_34 (F 3 0) (F 3 1) (A 6) (L 11) x1 x2 x3 (m + 1) y4 (A 35)) = T at K
    have hE : T = (if y4 = x2 then (kv_tallyFirsts_34 (F 3 0) (F 3 1) (A 6) (L 11) x1 x2 x3 m (y4 + 1) (A 35)) else (if (kt_isTold (F 3 1) y4) = 0 then (kv_tallyFirsts_34 (F 3 0) (F 3 1) (A 6) (L 11) x1 x2 x3 m (y4 + 1) (A 35)) else (if (kt_favourite (F 3 0) (L 11) y4 x1) = (-1) then (kv_tallyFirsts_34 (F 3 0) (F 3 1) (A 6) (L 11) x1 x2 x3 m (y4 + 1) (A 35)) else (kv_tallyFirsts_34 (F 3 0) (F 3 1) (A 6) (L 11) x1 x2 x3 m (y4 + 1) ((A 35).set (x3 + (kt_favourite (F 3 0) (L 11) y4 x1)).toInt.toNat (((A 35).getD (x3 + (kt_favourite (F 3 0) (L 11) y4 x1)).toInt.toNat 0) + ((A 6).getD y4.toInt.toNat 0))))))) := hT.symm
    clear hT
    refine w_n 2 (pc1 := 38) (ls1 := [some (.ref 30), some (.int x1), some (.int x2), some (.int x3), some (.int y4), o5]) (st1 := [.int 12, .int y4]) (hp1 := (hz F A L)) rfl ?_
    refine w_ge (p3 := 41) rfl rfl (fun h => False.elim (by have h : 12 ≤ y4.toInt := h; omega)) (fun hb => ?_)
    refine w_n 2 (pc1 := 44) (ls1 := [some (.ref 30), some (.int x1), some (.int x2), some (.int x3), some (.int y4), o5]) (st1 := [.int x2, .int y4]) (hp1 := (hz F A L)) rfl ?_
    refine w_eq (p3 := 47) rfl rfl (fun h => ?_) (fun h => ?_)
    · have h1 : y4 = x2 := h
      rw [if_pos h1] at hE
      refine w_n 2 (pc1 := 34) (ls1 := [some (.ref 30), some (.int x1), some (.int x2), some (.int x3), some (.int (y4 + 1)), o5]) (st1 := []) (hp1 := (hz F A L)) rfl ?_
      subst T
      have hb2 := i_up (B := (12 : Int32)) hb
      have hb3 : y4.toInt < 12 := hb
      exact ih (show m = (12 - (y4 + 1).toInt).toNat by rw [hb2]; omega) (fun q4 q5 => cvE rfl (funext fun q => if k0 : q = 35 then by subst k0; exact Eq.trans (b := (kv_tallyFirsts_34 (F 3 0) (F 3 1) (A 6) (L 11) x1 x2 x3 m (y4 + 1) (A 35))) rfl rfl else by unfold uA; simp only [nb1 k0, cond_false]) rfl (K q4 q5))
    · have h1 : ¬ y4 = x2 := h
      rw [if_neg h1] at hE
      refine w_n 3 (pc1 := 53) (ls1 := [some (.ref 30), some (.int x1), some (.int x2), some (.int x3), some (.int y4), o5]) (st1 := [.int y4, .ref 3]) (hp1 := (hz F A L)) rfl ?_
      refine w_c rfl rfl (t_kt_isTold ?_)
      show wl_E f _ _ mm78.2.2.2.2.2.2.2.2 56 [some (.ref 30), some (.int x1), some (.int x2), some (.int x3), some (.int y4), o5] [.int (kt_isTold (F 3 1) y4)] (hz F A L) _
      generalize hG111 : (kt_isTold (F 3 1) y4) = G111 at hE ⊢
      refine w_zne (p3 := 59) rfl rfl (fun h => ?_) (fun h => ?_)
      · have h2 : ¬ G111 = 0 := h
        rw [if_neg h2] at hE
        refine w_n 4 (pc1 := 69) (ls1 := [some (.ref 30), some (.int x1), some (.int x2), some (.int x3), some (.int y4), o5]) (st1 := [.int x1, .int y4, .ref 3]) (hp1 := (hz F A L)) rfl ?_
        refine w_c rfl rfl (t_kt_favourite ?_)
        show wl_E f _ _ mm78.2.2.2.2.2.2.2.2 72 [some (.ref 30), some (.int x1), some (.int x2), some (.int x3), some (.int y4), o5] [.int (kt_favourite (F 3 0) (L 11) y4 x1)] (hz F A L) _
        generalize hG113 : (kt_favourite (F 3 0) (L 11) y4 x1) = G113 at hE ⊢
        refine w_n 3 (pc1 := 77) (ls1 := [some (.ref 30), some (.int x1), some (.int x2), some (.int x3), some (.int y4), some (.int G113)]) (st1 := [.int (-1), .int G113]) (hp1 := (hz F A L)) rfl ?_
        refine w_eq (p3 := 80) rfl rfl (fun h => ?_) (fun h => ?_)
        · have h3 : G113 = (-1) := h
          rw [if_pos h3] at hE
          refine w_n 2 (pc1 := 34) (ls1 := [some (.ref 30), some (.int x1), some (.int x2), some (.int x3), some (.int (y4 + 1)), some (.int G113)]) (st1 := []) (hp1 := (hz F A L)) rfl ?_
          subst T
          have hb2 := i_up (B := (12 : Int32)) hb
          have hb3 : y4.toInt < 12 := hb
          exact ih (show m = (12 - (y4 + 1).toInt).toNat by rw [hb2]; omega) (fun q4 q5 => cvE rfl (funext fun q => if k0 : q = 35 then by subst k0; exact Eq.trans (b := (kv_tallyFirsts_34 (F 3 0) (F 3 1) (A 6) (L 11) x1 x2 x3 m (y4 + 1) (A 35))) rfl rfl else by unfold uA; simp only [nb1 k0, cond_false]) rfl (K q4 q5))
        · have h3 : ¬ G113 = (-1) := h
          rw [if_neg h3] at hE
          refine w_n 6 (pc1 := 89) (ls1 := [some (.ref 30), some (.int x1), some (.int x2), some (.int x3), some (.int y4), some (.int G113)]) (st1 := [.int (x3 + G113), .ref 35, .int (x3 + G113), .ref 35]) (hp1 := (hz F A L)) rfl ?_
          refine w_al (k := 35) (l := (A 35)) rfl rfl rfl (fun _ => ?_)
          refine w_n 4 (pc1 := 99) (ls1 := [some (.ref 30), some (.int x1), some (.int x2), some (.int x3), some (.int y4), some (.int G113)]) (st1 := [.int y4, .ref 6, .int ((A 35).getD (x3 + G113).toInt.toNat 0), .int (x3 + G113), .ref 35]) (hp1 := (hz F A L)) rfl ?_
          refine w_al (k := 6) (l := (A 6)) rfl rfl rfl (fun ab => ?_)
          refine w_n 1 (pc1 := 101) (ls1 := [some (.ref 30), some (.int x1), some (.int x2), some (.int x3), some (.int y4), some (.int G113)]) (st1 := [.int (((A 35).getD (x3 + G113).toInt.toNat 0) + ((A 6).getD y4.toInt.toNat 0)), .int (x3 + G113), .ref 35]) (hp1 := (hz F A L)) rfl ?_
          refine w_as (k := 35) (l := (A 35)) (hp1 := (hz F (uA A 35 ((A 35).set (x3 + G113).toInt.toNat (((A 35).getD (x3 + G113).toInt.toNat 0) + ((A 6).getD y4.toInt.toNat 0)))) L)) rfl rfl rfl (hz_s35 _) (fun _ => ?_)
          refine w_n 2 (pc1 := 34) (ls1 := [some (.ref 30), some (.int x1), some (.int x2), some (.int x3), some (.int (y4 + 1)), some (.int G113)]) (st1 := []) (hp1 := (hz F (uA A 35 ((A 35).set (x3 + G113).toInt.toNat (((A 35).getD (x3 + G113).toInt.toNat 0) + ((A 6).getD y4.toInt.toNat 0)))) L)) rfl ?_
          subst T
          have hb2 := i_up (B := (12 : Int32)) hb
          have hb3 : y4.toInt < 12 := hb
          exact ih (show m = (12 - (y4 + 1).toInt).toNat by rw [hb2]; omega) (fun q4 q5 => cvE rfl (funext fun q => if k0 : q = 35 then by subst k0; exact Eq.trans (b := (kv_tallyFirsts_34 (F 3 0) (F 3 1) (A 6) (L 11) x1 x2 x3 m (y4 + 1) ((A 35).set (x3 + G113).toInt.toNat (((A 35).getD (x3 + G113).toInt.toNat 0) + ((A 6).getD y4.toInt.toNat 0))))) rfl rfl else by unfold uA; simp only [nb1 k0, cond_false]) rfl (K q4 q5))
      · have h2 : G111 = 0 := h
        rw [if_pos h2] at hE
        refine w_n 3 (pc1 := 34) (ls1 := [some (.ref 30), some (.int x1), some (.int x2), some (.int x3), some (.int (y4 + 1)), o5]) (st1 := []) (hp1 := (hz F A L)) rfl ?_
        subst T
        have hb2 := i_up (B := (12 : Int32)) hb
        have hb3 : y4.toInt < 12 := hb
        exact ih (show m = (12 - (y4 + 1).toInt).toNat by rw [hb2]; omega) (fun q4 q5 => cvE rfl (funext fun q => if k0 : q = 35 then by subst k0; exact Eq.trans (b := (kv_tallyFirsts_34 (F 3 0) (F 3 1) (A 6) (L 11) x1 x2 x3 m (y4 + 1) (A 35))) rfl rfl else by unfold uA; simp only [nb1 k0, cond_false]) rfl (K q4 q5))
noncomputable def kv_tallyFirsts (f3_0 : Int32) (f3_1 : Int32) (a6 : List Int32) (a35 : List Int32) (l11 : List Int64) (x1 : Int32) (x2 : Int32) : List Int32 := (kv_tallyFirsts_34 f3_0 f3_1 a6 l11 x1 x2 (x1 * 6) 12 0 (kv_tallyFirsts_8 (x1 * 6) 6 0 a35))
theorem t_kv_tallyFirsts {f D : Nat} {F : Nat → Nat → Int32} {A : Nat → List Int32} {L : Nat → List Int64} {Q : Option Value → sm_H → Prop} {x1 : Int32} {x2 : Int32} (K : Q none (hz F (uA A 35 (kv_tallyFirsts (F 3 0) (F 3 1) (A 6) (A 35) (L 11) x1 x2)) L)) : wl_M f D 78 [.ref 30, .int x1, .int x2] (hz F A L) Q := by
  generalize hT : (kv_tallyFirsts (F 3 0) (F 3 1) (A 6) (A 35) (L 11) x1 x2) = T at K
  have hE : T = (kv_tallyFirsts_34 (F 3 0) (F 3 1) (A 6) (L 11) x1 x2 (x1 * 6) 12 0 (kv_tallyFirsts_8 (x1 * 6) 6 0 (A 35))) := hT.symm
  clear hT
  refine w_m (E := mm78) rfl ?_
  show wl_E f f (D - 1) mm78.2.2.2.2.2.2.2.2 0 [some (.ref 30), some (.int x1), some (.int x2), none, none, none] [] (hz F A L) Q
  refine w_n 6 (pc1 := 8) (ls1 := [some (.ref 30), some (.int x1), some (.int x2), some (.int (x1 * 6)), some (.int 0), none]) (st1 := []) (hp1 := (hz F A L)) rfl ?_
  refine t_kv_tallyFirsts_8 6 (show (6 : Nat) = (6 - (0 : Int32).toInt).toNat by have e0 : (0 : Int32).toInt = 0 := rfl; first | rfl | omega) ?_
  intro r1
  show wl_E f _ _ mm78.2.2.2.2.2.2.2.2 31 [some (.ref 30), some (.int x1), some (.int x2), some (.int (x1 * 6)), some (.int r1), none] [] (hz F (uA A 35 (kv_tallyFirsts_8 (x1 * 6) 6 0 (A 35))) L) _
  generalize hG110 : (kv_tallyFirsts_8 (x1 * 6) 6 0 (A 35)) = G110 at hE ⊢
  refine w_n 2 (pc1 := 34) (ls1 := [some (.ref 30), some (.int x1), some (.int x2), some (.int (x1 * 6)), some (.int 0), none]) (st1 := []) (hp1 := (hz F (uA A 35 G110) L)) rfl ?_
  refine t_kv_tallyFirsts_34 12 (show (12 : Nat) = (12 - (0 : Int32).toInt).toNat by have e0 : (0 : Int32).toInt = 0 := rfl; first | rfl | omega) ?_
  intro r2 r3
  show wl_E f _ _ mm78.2.2.2.2.2.2.2.2 108 [some (.ref 30), some (.int x1), some (.int x2), some (.int (x1 * 6)), some (.int r2), r3] [] (hz F (uA (uA A 35 G110) 35 (kv_tallyFirsts_34 (F 3 0) (F 3 1) (A 6) (L 11) x1 x2 (x1 * 6) 12 0 G110)) L) _
  generalize hG114 : (kv_tallyFirsts_34 (F 3 0) (F 3 1) (A 6) (L 11) x1 x2 (x1 * 6) 12 0 G110) = G114 at hE ⊢
  subst T
  exact w_r rfl rfl (cvQ rfl (funext fun q => if k0 : q = 35 then by subst k0; exact Eq.trans (b := G114) rfl rfl else by unfold uA; simp only [nb1 k0, cond_false]) rfl K)
noncomputable def kv_countFirsts (f3_0 : Int32) (f3_1 : Int32) (a6 : List Int32) (a31 : List Int32) (a35 : List Int32) (l11 : List Int64) : List Int32 × List Int32 := ((sm_cpy (kv_tallyFirsts f3_0 f3_1 a6 a35 l11 (kt_allMeasures f3_0) (-1)) a31 ((kt_allMeasures f3_0) * 6).toInt.toNat 0 6), (kv_tallyFirsts f3_0 f3_1 a6 a35 l11 (kt_allMeasures f3_0) (-1)))
theorem t_kv_countFirsts {f D : Nat} {F : Nat → Nat → Int32} {A : Nat → List Int32} {L : Nat → List Int64} {Q : Option Value → sm_H → Prop} (K : Q none (hz F (uA (uA A 31 ((kv_countFirsts (F 3 0) (F 3 1) (A 6) (A 31) (A 35) (L 11)).1)) 35 ((kv_countFirsts (F 3 0) (F 3 1) (A 6) (A 31) (A 35) (L 11)).2)) L)) : wl_M f D 77 [.ref 30] (hz F A L) Q := by
  generalize hT : (kv_countFirsts (F 3 0) (F 3 1) (A 6) (A 31) (A 35) (L 11)) = T at K
  have hE : T = ((sm_cpy (kv_tallyFirsts (F 3 0) (F 3 1) (A 6) (A 35) (L 11) (kt_allMeasures (F 3 0)) (-1)) (A 31) ((kt_allMeasures (F 3 0)) * 6).toInt.toNat 0 6), (kv_tallyFirsts (F 3 0) (F 3 1) (A 6) (A 35) (L 11) (kt_allMeasures (F 3 0)) (-1))) := hT.symm
  clear hT
  refine w_m (E := mm77) rfl ?_
  show wl_E f f (D - 1) mm77.2.2.2.2.2.2.2.2 0 [some (.ref 30)] [] (hz F A L) Q
  refine w_n 3 (pc1 := 5) (ls1 := [some (.ref 30)]) (st1 := [.ref 3, .ref 30]) (hp1 := (hz F A L)) rfl ?_
  refine w_c rfl rfl (t_kt_allMeasures ?_)
  show wl_E f _ _ mm77.2.2.2.2.2.2.2.2 8 [some (.ref 30)] [.int (kt_allMeasures (F 3 0)), .ref 30] (hz F A L) _
  generalize hG109 : (kt_allMeasures (F 3 0)) = G109 at hE ⊢
  refine w_n 1 (pc1 := 9) (ls1 := [some (.ref 30)]) (st1 := [.int (-1), .int G109, .ref 30]) (hp1 := (hz F A L)) rfl ?_
  refine w_c rfl rfl (t_kv_tallyFirsts ?_)
  show wl_E f _ _ mm77.2.2.2.2.2.2.2.2 12 [some (.ref 30)] [] (hz F (uA A 35 (kv_tallyFirsts (F 3 0) (F 3 1) (A 6) (A 35) (L 11) G109 (-1))) L) _
  generalize hG115 : (kv_tallyFirsts (F 3 0) (F 3 1) (A 6) (A 35) (L 11) G109 (-1)) = G115 at hE ⊢
  refine w_n 4 (pc1 := 20) (ls1 := [some (.ref 30)]) (st1 := [.ref 3, .ref 35]) (hp1 := (hz F (uA A 35 G115) L)) rfl ?_
  refine w_c rfl rfl (t_kt_allMeasures ?_)
  show wl_E f _ _ mm77.2.2.2.2.2.2.2.2 23 [some (.ref 30)] [.int (kt_allMeasures (F 3 0)), .ref 35] (hz F (uA A 35 G115) L) _
  rw [hG109]
  refine w_n 6 (pc1 := 33) (ls1 := [some (.ref 30)]) (st1 := [.int 6, .int 0, .ref 31, .int (G109 * 6), .ref 35]) (hp1 := (hz F (uA A 35 G115) L)) rfl ?_
  refine w_ac (ks := 35) (kd := 31) (u := G115) (g := (A 31)) (hp1 := (hz F (uA (uA A 35 G115) 31 (sm_cpy G115 (A 31) (G109 * 6).toInt.toNat 0 6)) L)) rfl rfl rfl rfl (hz_s31 _) (fun _ => ?_)
  subst T
  exact w_r rfl rfl (cvQ rfl (funext fun q => if k0 : q = 31 then by subst k0; exact Eq.trans (b := (sm_cpy G115 (A 31) (G109 * 6).toInt.toNat 0 6)) rfl rfl else if k1 : q = 35 then by subst k1; exact Eq.trans (b := G115) rfl rfl else by unfold uA; simp only [nb1 k0, nb1 k1, cond_false]) rfl K)
noncomputable def kc_most_31_4 (a31 : List Int32)  : Nat → Int32 → Int32 → Int32
  | 0, y1, _ => y1
  | m + 1, y1, y2 => (if (a31.getD y1.toInt.toNat 0).toInt < (a31.getD y2.toInt.toNat 0).toInt then (kc_most_31_4 a31 m y2 (y2 + 1)) else (kc_most_31_4 a31 m y1 (y2 + 1)))
theorem t_kc_most_31_4 {f : Nat} {Q : Option Value → sm_H → Prop} : ∀ (m : Nat) {B D : Nat} {F : Nat → Nat → Int32} {A : Nat → List Int32} {L : Nat → List Int64} {y1 : Int32} {y2 : Int32}, m = ((Int32.ofNat (A 31).length).toInt - y2.toInt).toNat → (∀ q2 : Int32, wl_E f B D mm79.2.2.2.2.2.2.2.2 27 [some (.ref 31), some (.int (kc_most_31_4 (A 31) m y1 y2)), some (.int q2)] [] (hz F A L) Q) → wl_E f B D mm79.2.2.2.2.2.2.2.2 4 [some (.ref 31), some (.int y1), some (.int y2)] [] (hz F A L) Q := by
  intro m
  induction m with
  | zero =>
    intro B D F A L y1 y2 hm K
    generalize hT : (kc_most_31_4 (A 31) 0 y1 y2) = T at K
    have hE : T = y1 := hT.symm
    clear hT
    refine w_n 3 (pc1 := 7) (ls1 := [some (.ref 31), some (.int y1), some (.int y2)]) (st1 := [.int (Int32.ofNat (A 31).length), .int y2]) (hp1 := (hz F A L)) rfl ?_
    refine w_ge (p3 := 10) rfl rfl (fun hb => ?_) (fun h => False.elim (by have h : y2.toInt < (Int32.ofNat (A 31).length).toInt := h; omega))
    subst T
    exact cvE rfl rfl rfl (K _)
  | succ m ih =>
    intro B D F A L y1 y2 hm K
    generalize hT : (kc_most_31_4 (A 31) (m + 1) y1 y2) = T at K
    have hE : T = (if ((A 31).getD y1.toInt.toNat 0).toInt < ((A 31).getD y2.toInt.toNat 0).toInt then (kc_most_31_4 (A 31) m y2 (y2 + 1)) else (kc_most_31_4 (A 31) m y1 (y2 + 1))) := hT.symm
    clear hT
    refine w_n 3 (pc1 := 7) (ls1 := [some (.ref 31), some (.int y1), some (.int y2)]) (st1 := [.int (Int32.ofNat (A 31).length), .int y2]) (hp1 := (hz F A L)) rfl ?_
    refine w_ge (p3 := 10) rfl rfl (fun h => False.elim (by have h : (Int32.ofNat (A 31).length).toInt ≤ y2.toInt := h; omega)) (fun hb => ?_)
    refine w_n 2 (pc1 := 12) (ls1 := [some (.ref 31), some (.int y1), some (.int y2)]) (st1 := [.int y2, .ref 31]) (hp1 := (hz F A L)) rfl ?_
    refine w_al (k := 31) (l := (A 31)) rfl rfl rfl (fun ab => ?_)
    refine w_n 2 (pc1 := 15) (ls1 := [some (.ref 31), some (.int y1), some (.int y2)]) (st1 := [.int y1, .ref 31, .int ((A 31).getD y2.toInt.toNat 0)]) (hp1 := (hz F A L)) rfl ?_
    refine w_al (k := 31) (l := (A 31)) rfl rfl rfl (fun _ => ?_)
    refine w_le (p3 := 19) rfl rfl (fun h => ?_) (fun h => ?_)
    · have h1 : ((A 31).getD y2.toInt.toNat 0).toInt ≤ ((A 31).getD y1.toInt.toNat 0).toInt := h
      rw [if_neg (Int.not_lt.mpr h1)] at hE
      refine w_n 2 (pc1 := 4) (ls1 := [some (.ref 31), some (.int y1), some (.int (y2 + 1))]) (st1 := []) (hp1 := (hz F A L)) rfl ?_
      subst T
      have hb2 := i_up (B := (Int32.ofNat (A 31).length)) hb
      have hb3 : y2.toInt < (Int32.ofNat (A 31).length).toInt := hb
      exact ih (show m = ((Int32.ofNat (A 31).length).toInt - (y2 + 1).toInt).toNat by rw [hb2]; omega) (fun q2 => cvE rfl rfl rfl (K q2))
    · have h1 : ((A 31).getD y1.toInt.toNat 0).toInt < ((A 31).getD y2.toInt.toNat 0).toInt := h
      rw [if_pos h1] at hE
      refine w_n 4 (pc1 := 4) (ls1 := [some (.ref 31), some (.int y2), some (.int (y2 + 1))]) (st1 := []) (hp1 := (hz F A L)) rfl ?_
      subst T
      have hb2 := i_up (B := (Int32.ofNat (A 31).length)) hb
      have hb3 : y2.toInt < (Int32.ofNat (A 31).length).toInt := hb
      exact ih (show m = ((Int32.ofNat (A 31).length).toInt - (y2 + 1).toInt).toNat by rw [hb2]; omega) (fun q2 => cvE rfl rfl rfl (K q2))
noncomputable def kc_most_31 (a31 : List Int32) : Int32 := (kc_most_31_4 a31 ((Int32.ofNat a31.length).toInt - 1).toNat 0 1)
theorem t_kc_most_31 {f D : Nat} {F : Nat → Nat → Int32} {A : Nat → List Int32} {L : Nat → List Int64} {Q : Option Value → sm_H → Prop} (K : Q (some (.int (kc_most_31 (A 31)))) (hz F A L)) : wl_M f D 79 [.ref 31] (hz F A L) Q := by
  generalize hT : (kc_most_31 (A 31)) = T at K
  have hE : T = (kc_most_31_4 (A 31) ((Int32.ofNat (A 31).length).toInt - 1).toNat 0 1) := hT.symm
  clear hT
  refine w_m (E := mm79) rfl ?_
  show wl_E f f (D - 1) mm79.2.2.2.2.2.2.2.2 0 [some (.ref 31), none, none] [] (hz F A L) Q
  refine w_n 4 (pc1 := 4) (ls1 := [some (.ref 31), some (.int 0), some (.int 1)]) (st1 := []) (hp1 := (hz F A L)) rfl ?_
  refine t_kc_most_31_4 (((Int32.ofNat (A 31).length).toInt - 1).toNat) (show ((Int32.ofNat (A 31).length).toInt - 1).toNat = ((Int32.ofNat (A 31).length).toInt - (1 : Int32).toInt).toNat by have e0 : (1 : Int32).toInt = 1 := rfl; first | rfl | omega) ?_
  intro r1
  show wl_E f _ _ mm79.2.2.2.2.2.2.2.2 27 [some (.ref 31), some (.int (kc_most_31_4 (A 31) ((Int32.ofNat (A 31).length).toInt - 1).toNat 0 1)), some (.int r1)] [] (hz F A L) _
  generalize hG117 : (kc_most_31_4 (A 31) ((Int32.ofNat (A 31).length).toInt - 1).toNat 0 1) = G117 at hE ⊢
  refine w_n 1 (pc1 := 28) (ls1 := [some (.ref 31), some (.int G117), some (.int r1)]) (st1 := [.int G117]) (hp1 := (hz F A L)) rfl ?_
  subst T
  exact w_ri rfl (cvQ rfl rfl rfl K)
noncomputable def kc_firsts (f3_0 : Int32) (f3_1 : Int32) (a6 : List Int32) (a31 : List Int32) (a35 : List Int32) (l11 : List Int64) (x1 : Int32) : Int32 × List Int32 × List Int32 := (if x1 = 10 then ((kc_most_31 (kv_countFirsts f3_0 f3_1 a6 a31 a35 l11).1), (kv_countFirsts f3_0 f3_1 a6 a31 a35 l11).1, (kv_countFirsts f3_0 f3_1 a6 a31 a35 l11).2) else (if (kt_isMeasure f3_0 x1) = 0 then ((-1), a31, a35) else (((kv_countFirsts f3_0 f3_1 a6 a31 a35 l11).1.getD x1.toInt.toNat 0), (kv_countFirsts f3_0 f3_1 a6 a31 a35 l11).1, (kv_countFirsts f3_0 f3_1 a6 a31 a35 l11).2)))
theorem t_kc_firsts {f D : Nat} {F : Nat → Nat → Int32} {A : Nat → List Int32} {L : Nat → List Int64} {Q : Option Value → sm_H → Prop} {x1 : Int32} (K : Q (some (.int ((kc_firsts (F 3 0) (F 3 1) (A 6) (A 31) (A 35) (L 11) x1).1))) (hz F (uA (uA A 31 ((kc_firsts (F 3 0) (F 3 1) (A 6) (A 31) (A 35) (L 11) x1).2.1)) 35 ((kc_firsts (F 3 0) (F 3 1) (A 6) (A 31) (A 35) (L 11) x1).2.2)) L)) : wl_M f D 76 [.ref 0, .int x1] (hz F A L) Q := by
  generalize hT : (kc_firsts (F 3 0) (F 3 1) (A 6) (A 31) (A 35) (L 11) x1) = T at K
  have hE : T = (if x1 = 10 then ((kc_most_31 (kv_countFirsts (F 3 0) (F 3 1) (A 6) (A 31) (A 35) (L 11)).1), (kv_countFirsts (F 3 0) (F 3 1) (A 6) (A 31) (A 35) (L 11)).1, (kv_countFirsts (F 3 0) (F 3 1) (A 6) (A 31) (A 35) (L 11)).2) else (if (kt_isMeasure (F 3 0) x1) = 0 then ((-1), (A 31), (A 35)) else (((kv_countFirsts (F 3 0) (F 3 1) (A 6) (A 31) (A 35) (L 11)).1.getD x1.toInt.toNat 0), (kv_countFirsts (F 3 0) (F 3 1) (A 6) (A 31) (A 35) (L 11)).1, (kv_countFirsts (F 3 0) (F 3 1) (A 6) (A 31) (A 35) (L 11)).2))) := hT.symm
  clear hT
  refine w_m (E := mm76) rfl ?_
  show wl_E f f (D - 1) mm76.2.2.2.2.2.2.2.2 0 [some (.ref 0), some (.int x1)] [] (hz F A L) Q
  refine w_n 2 (pc1 := 3) (ls1 := [some (.ref 0), some (.int x1)]) (st1 := [.int 10, .int x1]) (hp1 := (hz F A L)) rfl ?_
  refine w_eq (p3 := 6) rfl rfl (fun h => ?_) (fun h => ?_)
  · have h1 : x1 = 10 := h
    rw [if_pos h1] at hE
    refine w_n 2 (pc1 := 23) (ls1 := [some (.ref 0), some (.int x1)]) (st1 := [.ref 30]) (hp1 := (hz F A L)) rfl ?_
    refine w_c rfl rfl (t_kv_countFirsts ?_)
    show wl_E f _ _ mm76.2.2.2.2.2.2.2.2 26 [some (.ref 0), some (.int x1)] [] (hz F (uA (uA A 31 (kv_countFirsts (F 3 0) (F 3 1) (A 6) (A 31) (A 35) (L 11)).1) 35 (kv_countFirsts (F 3 0) (F 3 1) (A 6) (A 31) (A 35) (L 11)).2) L) _
    generalize hG116 : (kv_countFirsts (F 3 0) (F 3 1) (A 6) (A 31) (A 35) (L 11)) = G116 at hE ⊢
    refine w_n 2 (pc1 := 29) (ls1 := [some (.ref 0), some (.int x1)]) (st1 := [.int 10, .int x1]) (hp1 := (hz F (uA (uA A 31 G116.1) 35 G116.2) L)) rfl ?_
    refine w_ne (p3 := 32) rfl rfl (fun h => absurd h1 h) (fun _ => ?_)
    refine w_n 3 (pc1 := 39) (ls1 := [some (.ref 0), some (.int x1)]) (st1 := [.ref 31]) (hp1 := (hz F (uA (uA A 31 G116.1) 35 G116.2) L)) rfl ?_
    refine w_c rfl rfl (t_kc_most_31 ?_)
    show wl_E f _ _ mm76.2.2.2.2.2.2.2.2 42 [some (.ref 0), some (.int x1)] [.int (kc_most_31 G116.1)] (hz F (uA (uA A 31 G116.1) 35 G116.2) L) _
    generalize hG118 : (kc_most_31 G116.1) = G118 at hE ⊢
    refine w_n 1 (pc1 := 54) (ls1 := [some (.ref 0), some (.int x1)]) (st1 := [.int G118]) (hp1 := (hz F (uA (uA A 31 G116.1) 35 G116.2) L)) rfl ?_
    subst T
    exact w_ri rfl (cvQ rfl rfl rfl K)
  · have h1 : ¬ x1 = 10 := h
    rw [if_neg h1] at hE
    refine w_n 3 (pc1 := 11) (ls1 := [some (.ref 0), some (.int x1)]) (st1 := [.int x1, .ref 3]) (hp1 := (hz F A L)) rfl ?_
    refine w_c rfl rfl (t_kt_isMeasure ?_)
    show wl_E f _ _ mm76.2.2.2.2.2.2.2.2 14 [some (.ref 0), some (.int x1)] [.int (kt_isMeasure (F 3 0) x1)] (hz F A L) _
    generalize hG119 : (kt_isMeasure (F 3 0) x1) = G119 at hE ⊢
    refine w_zne (p3 := 17) rfl rfl (fun h => ?_) (fun h => ?_)
    · have h2 : ¬ G119 = 0 := h
      rw [if_neg h2] at hE
      refine w_n 2 (pc1 := 23) (ls1 := [some (.ref 0), some (.int x1)]) (st1 := [.ref 30]) (hp1 := (hz F A L)) rfl ?_
      refine w_c rfl rfl (t_kv_countFirsts ?_)
      show wl_E f _ _ mm76.2.2.2.2.2.2.2.2 26 [some (.ref 0), some (.int x1)] [] (hz F (uA (uA A 31 (kv_countFirsts (F 3 0) (F 3 1) (A 6) (A 31) (A 35) (L 11)).1) 35 (kv_countFirsts (F 3 0) (F 3 1) (A 6) (A 31) (A 35) (L 11)).2) L) _
      generalize hG120 : (kv_countFirsts (F 3 0) (F 3 1) (A 6) (A 31) (A 35) (L 11)) = G120 at hE ⊢
      refine w_n 2 (pc1 := 29) (ls1 := [some (.ref 0), some (.int x1)]) (st1 := [.int 10, .int x1]) (hp1 := (hz F (uA (uA A 31 G120.1) 35 G120.2) L)) rfl ?_
      refine w_ne (p3 := 32) rfl rfl (fun _ => ?_) (fun h => absurd h h1)
      refine w_n 4 (pc1 := 53) (ls1 := [some (.ref 0), some (.int x1)]) (st1 := [.int x1, .ref 31]) (hp1 := (hz F (uA (uA A 31 G120.1) 35 G120.2) L)) rfl ?_
      refine w_al (k := 31) (l := G120.1) rfl rfl rfl (fun _ => ?_)
      subst T
      exact w_ri rfl (cvQ rfl rfl rfl K)
    · have h2 : G119 = 0 := h
      rw [if_pos h2] at hE
      refine w_n 1 (pc1 := 18) (ls1 := [some (.ref 0), some (.int x1)]) (st1 := [.int (-1)]) (hp1 := (hz F A L)) rfl ?_
      subst T
      exact w_ri rfl (cvQ rfl (funext fun q => if k0 : q = 31 then by subst k0; exact Eq.trans (b := (A 31)) rfl rfl else if k1 : q = 35 then by subst k1; exact Eq.trans (b := (A 35)) rfl rfl else by unfold uA; simp only [nb1 k0, nb1 k1, cond_false]) rfl K)
noncomputable def km_allMeasures (f67_3 : Int32) : Int32 := (((1 : Int32) <<< (f67_3 &&& 31)) - 1)
theorem t_km_allMeasures {f D : Nat} {F : Nat → Nat → Int32} {A : Nat → List Int32} {L : Nat → List Int64} {Q : Option Value → sm_H → Prop} (K : Q (some (.int (km_allMeasures (F 67 3)))) (hz F A L)) : wl_M f D 205 [.ref 67] (hz F A L) Q := by
  generalize hT : (km_allMeasures (F 67 3)) = T at K
  have hE : T = (((1 : Int32) <<< ((F 67 3) &&& 31)) - 1) := hT.symm
  clear hT
  refine w_m (E := mm205) rfl ?_
  show wl_E f f (D - 1) mm205.2.2.2.2.2.2.2.2 0 [some (.ref 67)] [] (hz F A L) Q
  refine w_n 6 (pc1 := 8) (ls1 := [some (.ref 67)]) (st1 := [.int (((1 : Int32) <<< ((F 67 3) &&& 31)) - 1)]) (hp1 := (hz F A L)) rfl ?_
  subst T
  exact w_ri rfl (cvQ rfl rfl rfl K)
noncomputable def km_laysFirsts_2   : Nat → Int32 → List Int32 → List Int32
  | 0, _, a87 => a87
  | m + 1, y3, a87 => (km_laysFirsts_2 m (y3 + 1) (a87.set y3.toInt.toNat 0))
theorem t_km_laysFirsts_2 {f : Nat} {Q : Option Value → sm_H → Prop} : ∀ (m : Nat) {B D : Nat} {F : Nat → Nat → Int32} {A : Nat → List Int32} {L : Nat → List Int64} {x1 : Int32} {x2 : Int32} {y3 : Int32} {o4 : Option Value}, m = (6 - y3.toInt).toNat → (∀ q3 : Int32, wl_E f B D mm206.2.2.2.2.2.2.2.2 21 [some (.ref 67), some (.int x1), some (.int x2), some (.int q3), o4] [] (hz F (uA A 87 (km_laysFirsts_2 m y3 (A 87))) L) Q) → wl_E f B D mm206.2.2.2.2.2.2.2.2 2 [some (.ref 67), some (.int x1), some (.int x2), some (.int y3), o4] [] (hz F A L) Q := by
  intro m
  induction m with
  | zero =>
    intro B D F A L x1 x2 y3 o4 hm K
    generalize hT : (km_laysFirsts_2 0 y3 (A 87)) = T at K
    have hE : T = (A 87) := hT.symm
    clear hT
    refine w_n 2 (pc1 := 5) (ls1 := [some (.ref 67), some (.int x1), some (.int x2), some (.int y3), o4]) (st1 := [.int 6, .int y3]) (hp1 := (hz F A L)) rfl ?_
    refine w_ge (p3 := 8) rfl rfl (fun hb => ?_) (fun h => False.elim (by have h : y3.toInt < 6 := h; omega))
    subst T
    exact cvE rfl (funext fun q => if k0 : q = 87 then by subst k0; exact Eq.trans (b := (A 87)) rfl rfl else by unfold uA; simp only [nb1 k0, cond_false]) rfl (K _)
  | succ m ih =>
    intro B D F A L x1 x2 y3 o4 hm K
    generalize hT : (km_laysFirsts_2 (m + 1) y3 (A 87)) = T at K
    have hE : T = (km_laysFirsts_2 m (y3 + 1) ((A 87).set y3.toInt.toNat 0)) := hT.symm
    clear hT
    refine w_n 2 (pc1 := 5) (ls1 := [some (.ref 67), some (.int x1), some (.int x2), some (.int y3), o4]) (st1 := [.int 6, .int y3]) (hp1 := (hz F A L)) rfl ?_
    refine w_ge (p3 := 8) rfl rfl (fun h => False.elim (by have h : 6 ≤ y3.toInt := h; omega)) (fun hb => ?_)
    refine w_n 4 (pc1 := 14) (ls1 := [some (.ref 67), some (.int x1), some (.int x2), some (.int y3), o4]) (st1 := [.int 0, .int y3, .ref 87]) (hp1 := (hz F A L)) rfl ?_
    refine w_as (k := 87) (l := (A 87)) (hp1 := (hz F (uA A 87 ((A 87).set y3.toInt.toNat 0)) L)) rfl rfl rfl (hz_s87 _) (fun ab => ?_)
    refine w_n 2 (pc1 := 2) (ls1 := [some (.ref 67), some (.int x1), some (.int x2), some (.int (y3 + 1)), o4]) (st1 := []) (hp1 := (hz F (uA A 87 ((A 87).set y3.toInt.toNat 0)) L)) rfl ?_
    subst T
    have hb2 := i_up (B := (6 : Int32)) hb
    have hb3 : y3.toInt < 6 := hb
    exact ih (show m = (6 - (y3 + 1).toInt).toNat by rw [hb2]; omega) (fun q3 => cvE rfl (funext fun q => if k0 : q = 87 then by subst k0; exact Eq.trans (b := (km_laysFirsts_2 m (y3 + 1) ((A 87).set y3.toInt.toNat 0))) rfl rfl else by unfold uA; simp only [nb1 k0, cond_false]) rfl (K q3))
noncomputable def km_highestOf_5 (a68 : List Int32) (x1 : Int32) (x2 : Int32) : Nat → Int32 → Int32 → Int32
  | 0, y3, _ => y3
  | m + 1, y3, y4 => (if (km_has x2 y4) = 0 then (km_highestOf_5 a68 x1 x2 m y3 (y4 + 1)) else (if y3 = (-1) then (km_highestOf_5 a68 x1 x2 m y4 (y4 + 1)) else (if (km_placeOf a68 x1 y4).toInt < (km_placeOf a68 x1 y3).toInt then (km_highestOf_5 a68 x1 x2 m y4 (y4 + 1)) else (km_highestOf_5 a68 x1 x2 m y3 (y4 + 1)))))
theorem t_km_highestOf_5 {f : Nat} {Q : Option Value → sm_H → Prop} : ∀ (m : Nat) {B D : Nat} {F : Nat → Nat → Int32} {A : Nat → List Int32} {L : Nat → List Int64} {x1 : Int32} {x2 : Int32} {y3 : Int32} {y4 : Int32}, m = ((F 67 3).toInt - y4.toInt).toNat → (∀ q4 : Int32, wl_E f B D mm191.2.2.2.2.2.2.2.2 53 [some (.ref 67), some (.int x1), some (.int x2), some (.int (km_highestOf_5 (A 68) x1 x2 m y3 y4)), some (.int q4)] [] (hz F A L) Q) → wl_E f B D mm191.2.2.2.2.2.2.2.2 5 [some (.ref 67), some (.int x1), some (.int x2), some (.int y3), some (.int y4)] [] (hz F A L) Q := by
  intro m
  induction m with
  | zero =>
    intro B D F A L x1 x2 y3 y4 hm K
    generalize hT : (km_highestOf_5 (A 68) x1 x2 0 y3 y4) = T at K
    have hE : T = y3 := hT.symm
    clear hT
    refine w_n 3 (pc1 := 11) (ls1 := [some (.ref 67), some (.int x1), some (.int x2), some (.int y3), some (.int y4)]) (st1 := [.int (F 67 3), .int y4]) (hp1 := (hz F A L)) rfl ?_
    refine w_ge (p3 := 14) rfl rfl (fun hb => ?_) (fun h => False.elim (by have h : y4.toInt < (F 67 3).toInt := h; omega))
    subst T
    exact cvE rfl rfl rfl (K _)
  | succ m ih =>
    intro B D F A L x1 x2 y3 y4 hm K
    generalize hT : (km_highestOf_5 (A 68) x1 x2 (m + 1) y3 y4) = T at K
    have hE : T = (if (km_has x2 y4) = 0 then (km_highestOf_5 (A 68) x1 x2 m y3 (y4 + 1)) else (if y3 = (-1) then (km_highestOf_5 (A 68) x1 x2 m y4 (y4 + 1)) else (if (km_placeOf (A 68) x1 y4).toInt < (km_placeOf (A 68) x1 y3).toInt then (km_highestOf_5 (A 68) x1 x2 m y4 (y4 + 1)) else (km_highestOf_5 (A 68) x1 x2 m y3 (y4 + 1))))) := hT.symm
    clear hT
    refine w_n 3 (pc1 := 11) (ls1 := [some (.ref 67), some (.int x1), some (.int x2), some (.int y3), some (.int y4)]) (st1 := [.int (F 67 3), .int y4]) (hp1 := (hz F A L)) rfl ?_
    refine w_ge (p3 := 14) rfl rfl (fun h => False.elim (by have h : (F 67 3).toInt ≤ y4.toInt := h; omega)) (fun hb => ?_)
    refine w_n 2 (pc1 := 17) (ls1 := [some (.ref 67), some (.int x1), some (.int x2), some (.int y3), some (.int y4)]) (st1 := [.int y4, .int x2]) (hp1 := (hz F A L)) rfl ?_
    refine w_c rfl rfl (t_km_has ?_)
    show wl_E f _ _ mm191.2.2.2.2.2.2.2.2 20 [some (.ref 67), some (.int x1), some (.int x2), some (.int y3), some (.int y4)] [.int (km_has x2 y4)] (hz F A L) _
    generalize hG125 : (km_has x2 y4) = G125 at hE ⊢
    refine w_zeq (p3 := 23) rfl rfl (fun h => ?_) (fun h => ?_)
    · have h1 : G125 = 0 := h
      rw [if_pos h1] at hE
      refine w_n 2 (pc1 := 5) (ls1 := [some (.ref 67), some (.int x1), some (.int x2), some (.int y3), some (.int (y4 + 1))]) (st1 := []) (hp1 := (hz F A L)) rfl ?_
      subst T
      have hb2 := i_up (B := (F 67 3)) hb
      have hb3 : y4.toInt < (F 67 3).toInt := hb
      exact ih (show m = ((F 67 3).toInt - (y4 + 1).toInt).toNat by rw [hb2]; omega) (fun q4 => cvE rfl rfl rfl (K q4))
    · have h1 : ¬ G125 = 0 := h
      rw [if_neg h1] at hE
      refine w_n 2 (pc1 := 25) (ls1 := [some (.ref 67), some (.int x1), some (.int x2), some (.int y3), some (.int y4)]) (st1 := [.int (-1), .int y3]) (hp1 := (hz F A L)) rfl ?_
      refine w_eq (p3 := 28) rfl rfl (fun h => ?_) (fun h => ?_)
      · have h2 : y3 = (-1) := h
        rw [if_pos h2] at hE
        refine w_n 4 (pc1 := 5) (ls1 := [some (.ref 67), some (.int x1), some (.int x2), some (.int y4), some (.int (y4 + 1))]) (st1 := []) (hp1 := (hz F A L)) rfl ?_
        subst T
        have hb2 := i_up (B := (F 67 3)) hb
        have hb3 : y4.toInt < (F 67 3).toInt := hb
        exact ih (show m = ((F 67 3).toInt - (y4 + 1).toInt).toNat by rw [hb2]; omega) (fun q4 => cvE rfl rfl rfl (K q4))
      · have h2 : ¬ y3 = (-1) := h
        rw [if_neg h2] at hE
        refine w_n 3 (pc1 := 32) (ls1 := [some (.ref 67), some (.int x1), some (.int x2), some (.int y3), some (.int y4)]) (st1 := [.int y4, .int x1, .ref 67]) (hp1 := (hz F A L)) rfl ?_
        refine w_c rfl rfl (t_km_placeOf ?_)
        show wl_E f _ _ mm191.2.2.2.2.2.2.2.2 35 [some (.ref 67), some (.int x1), some (.int x2), some (.int y3), some (.int y4)] [.int (km_placeOf (A 68) x1 y4)] (hz F A L) _
        generalize hG126 : (km_placeOf (A 68) x1 y4) = G126 at hE ⊢
        refine w_n 3 (pc1 := 38) (ls1 := [some (.ref 67), some (.int x1), some (.int x2), some (.int y3), some (.int y4)]) (st1 := [.int y3, .int x1, .ref 67, .int G126]) (hp1 := (hz F A L)) rfl ?_
        refine w_c rfl rfl (t_km_placeOf ?_)
        show wl_E f _ _ mm191.2.2.2.2.2.2.2.2 41 [some (.ref 67), some (.int x1), some (.int x2), some (.int y3), some (.int y4)] [.int (km_placeOf (A 68) x1 y3), .int G126] (hz F A L) _
        generalize hG127 : (km_placeOf (A 68) x1 y3) = G127 at hE ⊢
        refine w_ge (p3 := 44) rfl rfl (fun h => ?_) (fun h => ?_)
        · have h3 : G127.toInt ≤ G126.toInt := h
          rw [if_neg (Int.not_lt.mpr h3)] at hE
          refine w_n 2 (pc1 := 5) (ls1 := [some (.ref 67), some (.int x1), some (.int x2), some (.int y3), some (.int (y4 + 1))]) (st1 := []) (hp1 := (hz F A L)) rfl ?_
          subst T
          have hb2 := i_up (B := (F 67 3)) hb
          have hb3 : y4.toInt < (F 67 3).toInt := hb
          exact ih (show m = ((F 67 3).toInt - (y4 + 1).toInt).toNat by rw [hb2]; omega) (fun q4 => cvE rfl rfl rfl (K q4))
        · have h3 : G126.toInt < G127.toInt := h
          rw [if_pos h3] at hE
          refine w_n 4 (pc1 := 5) (ls1 := [some (.ref 67), some (.int x1), some (.int x2), some (.int y4), some (.int (y4 + 1))]) (st1 := []) (hp1 := (hz F A L)) rfl ?_
          subst T
          have hb2 := i_up (B := (F 67 3)) hb
          have hb3 : y4.toInt < (F 67 3).toInt := hb
          exact ih (show m = ((F 67 3).toInt - (y4 + 1).toInt).toNat by rw [hb2]; omega) (fun q4 => cvE rfl rfl rfl (K q4))
noncomputable def km_highestOf (f67_3 : Int32) (a68 : List Int32) (x1 : Int32) (x2 : Int32) : Int32 := (km_highestOf_5 a68 x1 x2 f67_3.toInt.toNat (-1) 0)
theorem t_km_highestOf {f D : Nat} {F : Nat → Nat → Int32} {A : Nat → List Int32} {L : Nat → List Int64} {Q : Option Value → sm_H → Prop} {x1 : Int32} {x2 : Int32} (K : Q (some (.int (km_highestOf (F 67 3) (A 68) x1 x2))) (hz F A L)) : wl_M f D 191 [.ref 67, .int x1, .int x2] (hz F A L) Q := by
  generalize hT : (km_highestOf (F 67 3) (A 68) x1 x2) = T at K
  have hE : T = (km_highestOf_5 (A 68) x1 x2 (F 67 3).toInt.toNat (-1) 0) := hT.symm
  clear hT
  refine w_m (E := mm191) rfl ?_
  show wl_E f f (D - 1) mm191.2.2.2.2.2.2.2.2 0 [some (.ref 67), some (.int x1), some (.int x2), none, none] [] (hz F A L) Q
  refine w_n 4 (pc1 := 5) (ls1 := [some (.ref 67), some (.int x1), some (.int x2), some (.int (-1)), some (.int 0)]) (st1 := []) (hp1 := (hz F A L)) rfl ?_
  refine t_km_highestOf_5 (F 67 3).toInt.toNat (show (F 67 3).toInt.toNat = ((F 67 3).toInt - (0 : Int32).toInt).toNat by have e0 : (0 : Int32).toInt = 0 := rfl; first | rfl | omega) ?_
  intro r1
  show wl_E f _ _ mm191.2.2.2.2.2.2.2.2 53 [some (.ref 67), some (.int x1), some (.int x2), some (.int (km_highestOf_5 (A 68) x1 x2 (F 67 3).toInt.toNat (-1) 0)), some (.int r1)] [] (hz F A L) _
  generalize hG128 : (km_highestOf_5 (A 68) x1 x2 (F 67 3).toInt.toNat (-1) 0) = G128 at hE ⊢
  refine w_n 1 (pc1 := 54) (ls1 := [some (.ref 67), some (.int x1), some (.int x2), some (.int G128), some (.int r1)]) (st1 := [.int G128]) (hp1 := (hz F A L)) rfl ?_
  subst T
  exact w_ri rfl (cvQ rfl rfl rfl K)
noncomputable def km_laysFirsts_23 (f67_3 : Int32) (a68 : List Int32) (x1 : Int32) (x2 : Int32) : Nat → Int32 → List Int32 → List Int32
  | 0, _, a87 => a87
  | m + 1, y3, a87 => (if (km_isGuest a68 y3) = 0 then (km_laysFirsts_23 f67_3 a68 x1 x2 m (y3 + 1) a87) else (if (km_has x2 y3) = 0 then (km_laysFirsts_23 f67_3 a68 x1 x2 m (y3 + 1) (a87.set (km_highestOf f67_3 a68 y3 x1).toInt.toNat ((a87.getD (km_highestOf f67_3 a68 y3 x1).toInt.toNat 0) + (a68.getD (12 + y3).toInt.toNat 0)))) else (km_laysFirsts_23 f67_3 a68 x1 x2 m (y3 + 1) a87)))
theorem t_km_laysFirsts_23 {f : Nat} {Q : Option Value → sm_H → Prop} : ∀ (m : Nat) {B D : Nat} {F : Nat → Nat → Int32} {A : Nat → List Int32} {L : Nat → List Int64} {x1 : Int32} {x2 : Int32} {y3 : Int32} {o4 : Option Value}, m = (12 - y3.toInt).toNat → (∀ q3 : Int32, ∀ q4 : Option Value, wl_E f B D mm206.2.2.2.2.2.2.2.2 86 [some (.ref 67), some (.int x1), some (.int x2), some (.int q3), q4] [] (hz F (uA A 87 (km_laysFirsts_23 (F 67 3) (A 68) x1 x2 m y3 (A 87))) L) Q) → wl_E f B D mm206.2.2.2.2.2.2.2.2 23 [some (.ref 67), some (.int x1), some (.int x2), some (.int y3), o4] [] (hz F A L) Q := by
  intro m
  induction m with
  | zero =>
    intro B D F A L x1 x2 y3 o4 hm K
    generalize hT : (km_laysFirsts_23 (F 67 3) (A 68) x1 x2 0 y3 (A 87)) = T at K
    have hE : T = (A 87) := hT.symm
    clear hT
    refine w_n 2 (pc1 := 26) (ls1 := [some (.ref 67), some (.int x1), some (.int x2), some (.int y3), o4]) (st1 := [.int 12, .int y3]) (hp1 := (hz F A L)) rfl ?_
    refine w_ge (p3 := 29) rfl rfl (fun hb => ?_) (fun h => False.elim (by have h : y3.toInt < 12 := h; omega))
    subst T
    exact cvE rfl (funext fun q => if k0 : q = 87 then by subst k0; exact Eq.trans (b := (A 87)) rfl rfl else by unfold uA; simp only [nb1 k0, cond_false]) rfl (K _ _)
  | succ m ih =>
    intro B D F A L x1 x2 y3 o4 hm K
    generalize hT : (km_laysFirsts_23 (F 67 3) (A 68) x1 x2 (m + 1) y3 (A 87)) = T at K
    have hE : T = (if (km_isGuest (A 68) y3) = 0 then (km_laysFirsts_23 (F 67 3) (A 68) x1 x2 m (y3 + 1) (A 87)) else (if (km_has x2 y3) = 0 then (km_laysFirsts_23 (F 67 3) (A 68) x1 x2 m (y3 + 1) ((A 87).set (km_highestOf (F 67 3) (A 68) y3 x1).toInt.toNat (((A 87).getD (km_highestOf (F 67 3) (A 68) y3 x1).toInt.toNat 0) + ((A 68).getD (12 + y3).toInt.toNat 0)))) else (km_laysFirsts_23 (F 67 3) (A 68) x1 x2 m (y3 + 1) (A 87)))) := hT.symm
    clear hT
    refine w_n 2 (pc1 := 26) (ls1 := [some (.ref 67), some (.int x1), some (.int x2), some (.int y3), o4]) (st1 := [.int 12, .int y3]) (hp1 := (hz F A L)) rfl ?_
    refine w_ge (p3 := 29) rfl rfl (fun h => False.elim (by have h : 12 ≤ y3.toInt := h; omega)) (fun hb => ?_)
    refine w_n 2 (pc1 := 31) (ls1 := [some (.ref 67), some (.int x1), some (.int x2), some (.int y3), o4]) (st1 := [.int y3, .ref 67]) (hp1 := (hz F A L)) rfl ?_
    refine w_c rfl rfl (t_km_isGuest ?_)
    show wl_E f _ _ mm206.2.2.2.2.2.2.2.2 34 [some (.ref 67), some (.int x1), some (.int x2), some (.int y3), o4] [.int (km_isGuest (A 68) y3)] (hz F A L) _
    generalize hG123 : (km_isGuest (A 68) y3) = G123 at hE ⊢
    refine w_zeq (p3 := 37) rfl rfl (fun h => ?_) (fun h => ?_)
    · have h1 : G123 = 0 := h
      rw [if_pos h1] at hE
      refine w_n 2 (pc1 := 23) (ls1 := [some (.ref 67), some (.int x1), some (.int x2), some (.int (y3 + 1)), o4]) (st1 := []) (hp1 := (hz F A L)) rfl ?_
      subst T
      have hb2 := i_up (B := (12 : Int32)) hb
      have hb3 : y3.toInt < 12 := hb
      exact ih (show m = (12 - (y3 + 1).toInt).toNat by rw [hb2]; omega) (fun q3 q4 => cvE rfl (funext fun q => if k0 : q = 87 then by subst k0; exact Eq.trans (b := (km_laysFirsts_23 (F 67 3) (A 68) x1 x2 m (y3 + 1) (A 87))) rfl rfl else by unfold uA; simp only [nb1 k0, cond_false]) rfl (K q3 q4))
    · have h1 : ¬ G123 = 0 := h
      rw [if_neg h1] at hE
      refine w_n 2 (pc1 := 39) (ls1 := [some (.ref 67), some (.int x1), some (.int x2), some (.int y3), o4]) (st1 := [.int y3, .int x2]) (hp1 := (hz F A L)) rfl ?_
      refine w_c rfl rfl (t_km_has ?_)
      show wl_E f _ _ mm206.2.2.2.2.2.2.2.2 42 [some (.ref 67), some (.int x1), some (.int x2), some (.int y3), o4] [.int (km_has x2 y3)] (hz F A L) _
      generalize hG124 : (km_has x2 y3) = G124 at hE ⊢
      refine w_zeq (p3 := 45) rfl rfl (fun h => ?_) (fun h => ?_)
      · have h2 : G124 = 0 := h
        rw [if_pos h2] at hE
        refine w_n 3 (pc1 := 51) (ls1 := [some (.ref 67), some (.int x1), some (.int x2), some (.int y3), o4]) (st1 := [.int x1, .int y3, .ref 67]) (hp1 := (hz F A L)) rfl ?_
        refine w_c rfl rfl (t_km_highestOf ?_)
        show wl_E f _ _ mm206.2.2.2.2.2.2.2.2 54 [some (.ref 67), some (.int x1), some (.int x2), some (.int y3), o4] [.int (km_highestOf (F 67 3) (A 68) y3 x1)] (hz F A L) _
        generalize hG129 : (km_highestOf (F 67 3) (A 68) y3 x1) = G129 at hE ⊢
        refine w_n 7 (pc1 := 68) (ls1 := [some (.ref 67), some (.int x1), some (.int x2), some (.int y3), some (.int G129)]) (st1 := [.int G129, .ref 87, .int G129, .ref 87]) (hp1 := (hz F A L)) rfl ?_
        refine w_al (k := 87) (l := (A 87)) rfl rfl rfl (fun _ => ?_)
        refine w_n 5 (pc1 := 77) (ls1 := [some (.ref 67), some (.int x1), some (.int x2), some (.int y3), some (.int G129)]) (st1 := [.int (12 + y3), .ref 68, .int ((A 87).getD G129.toInt.toNat 0), .int G129, .ref 87]) (hp1 := (hz F A L)) rfl ?_
        refine w_al (k := 68) (l := (A 68)) rfl rfl rfl (fun _ => ?_)
        refine w_n 1 (pc1 := 79) (ls1 := [some (.ref 67), some (.int x1), some (.int x2), some (.int y3), some (.int G129)]) (st1 := [.int (((A 87).getD G129.toInt.toNat 0) + ((A 68).getD (12 + y3).toInt.toNat 0)), .int G129, .ref 87]) (hp1 := (hz F A L)) rfl ?_
        refine w_as (k := 87) (l := (A 87)) (hp1 := (hz F (uA A 87 ((A 87).set G129.toInt.toNat (((A 87).getD G129.toInt.toNat 0) + ((A 68).getD (12 + y3).toInt.toNat 0)))) L)) rfl rfl rfl (hz_s87 _) (fun _ => ?_)
        refine w_n 2 (pc1 := 23) (ls1 := [some (.ref 67), some (.int x1), some (.int x2), some (.int (y3 + 1)), some (.int G129)]) (st1 := []) (hp1 := (hz F (uA A 87 ((A 87).set G129.toInt.toNat (((A 87).getD G129.toInt.toNat 0) + ((A 68).getD (12 + y3).toInt.toNat 0)))) L)) rfl ?_
        subst T
        have hb2 := i_up (B := (12 : Int32)) hb
        have hb3 : y3.toInt < 12 := hb
        exact ih (show m = (12 - (y3 + 1).toInt).toNat by rw [hb2]; omega) (fun q3 q4 => cvE rfl (funext fun q => if k0 : q = 87 then by subst k0; exact Eq.trans (b := (km_laysFirsts_23 (F 67 3) (A 68) x1 x2 m (y3 + 1) ((A 87).set G129.toInt.toNat (((A 87).getD G129.toInt.toNat 0) + ((A 68).getD (12 + y3).toInt.toNat 0))))) rfl rfl else by unfold uA; simp only [nb1 k0, cond_false]) rfl (K q3 q4))
      · have h2 : ¬ G124 = 0 := h
        rw [if_neg h2] at hE
        refine w_n 3 (pc1 := 23) (ls1 := [some (.ref 67), some (.int x1), some (.int x2), some (.int (y3 + 1)), o4]) (st1 := []) (hp1 := (hz F A L)) rfl ?_
        subst T
        have hb2 := i_up (B := (12 : Int32)) hb
        have hb3 : y3.toInt < 12 := hb
        exact ih (show m = (12 - (y3 + 1).toInt).toNat by rw [hb2]; omega) (fun q3 q4 => cvE rfl (funext fun q => if k0 : q = 87 then by subst k0; exact Eq.trans (b := (km_laysFirsts_23 (F 67 3) (A 68) x1 x2 m (y3 + 1) (A 87))) rfl rfl else by unfold uA; simp only [nb1 k0, cond_false]) rfl (K q3 q4))
noncomputable def km_laysFirsts (f67_3 : Int32) (a68 : List Int32) (a87 : List Int32) (x1 : Int32) (x2 : Int32) : List Int32 := (km_laysFirsts_23 f67_3 a68 x1 x2 12 0 (km_laysFirsts_2 6 0 a87))
theorem t_km_laysFirsts {f D : Nat} {F : Nat → Nat → Int32} {A : Nat → List Int32} {L : Nat → List Int64} {Q : Option Value → sm_H → Prop} {x1 : Int32} {x2 : Int32} (K : Q none (hz F (uA A 87 (km_laysFirsts (F 67 3) (A 68) (A 87) x1 x2)) L)) : wl_M f D 206 [.ref 67, .int x1, .int x2] (hz F A L) Q := by
  generalize hT : (km_laysFirsts (F 67 3) (A 68) (A 87) x1 x2) = T at K
  have hE : T = (km_laysFirsts_23 (F 67 3) (A 68) x1 x2 12 0 (km_laysFirsts_2 6 0 (A 87))) := hT.symm
  clear hT
  refine w_m (E := mm206) rfl ?_
  show wl_E f f (D - 1) mm206.2.2.2.2.2.2.2.2 0 [some (.ref 67), some (.int x1), some (.int x2), none, none] [] (hz F A L) Q
  refine w_n 2 (pc1 := 2) (ls1 := [some (.ref 67), some (.int x1), some (.int x2), some (.int 0), none]) (st1 := []) (hp1 := (hz F A L)) rfl ?_
  refine t_km_laysFirsts_2 6 (show (6 : Nat) = (6 - (0 : Int32).toInt).toNat by have e0 : (0 : Int32).toInt = 0 := rfl; first | rfl | omega) ?_
  intro r1
  show wl_E f _ _ mm206.2.2.2.2.2.2.2.2 21 [some (.ref 67), some (.int x1), some (.int x2), some (.int r1), none] [] (hz F (uA A 87 (km_laysFirsts_2 6 0 (A 87))) L) _
  generalize hG122 : (km_laysFirsts_2 6 0 (A 87)) = G122 at hE ⊢
  refine w_n 2 (pc1 := 23) (ls1 := [some (.ref 67), some (.int x1), some (.int x2), some (.int 0), none]) (st1 := []) (hp1 := (hz F (uA A 87 G122) L)) rfl ?_
  refine t_km_laysFirsts_23 12 (show (12 : Nat) = (12 - (0 : Int32).toInt).toNat by have e0 : (0 : Int32).toInt = 0 := rfl; first | rfl | omega) ?_
  intro r2 r3
  show wl_E f _ _ mm206.2.2.2.2.2.2.2.2 86 [some (.ref 67), some (.int x1), some (.int x2), some (.int r2), r3] [] (hz F (uA (uA A 87 G122) 87 (km_laysFirsts_23 (F 67 3) (A 68) x1 x2 12 0 G122)) L) _
  generalize hG130 : (km_laysFirsts_23 (F 67 3) (A 68) x1 x2 12 0 G122) = G130 at hE ⊢
  subst T
  exact w_r rfl rfl (cvQ rfl (funext fun q => if k0 : q = 87 then by subst k0; exact Eq.trans (b := G130) rfl rfl else by unfold uA; simp only [nb1 k0, cond_false]) rfl K)
noncomputable def km_mostVotes_67_87_4 (a87 : List Int32)  : Nat → Int32 → Int32 → Int32
  | 0, y2, _ => y2
  | m + 1, y2, y3 => (if (a87.getD y2.toInt.toNat 0).toInt < (a87.getD y3.toInt.toNat 0).toInt then (km_mostVotes_67_87_4 a87 m y3 (y3 + 1)) else (km_mostVotes_67_87_4 a87 m y2 (y3 + 1)))
theorem t_km_mostVotes_67_87_4 {f : Nat} {Q : Option Value → sm_H → Prop} : ∀ (m : Nat) {B D : Nat} {F : Nat → Nat → Int32} {A : Nat → List Int32} {L : Nat → List Int64} {y2 : Int32} {y3 : Int32}, m = ((F 67 3).toInt - y3.toInt).toNat → (∀ q3 : Int32, wl_E f B D mm207.2.2.2.2.2.2.2.2 29 [some (.ref 67), some (.ref 87), some (.int (km_mostVotes_67_87_4 (A 87) m y2 y3)), some (.int q3)] [] (hz F A L) Q) → wl_E f B D mm207.2.2.2.2.2.2.2.2 4 [some (.ref 67), some (.ref 87), some (.int y2), some (.int y3)] [] (hz F A L) Q := by
  intro m
  induction m with
  | zero =>
    intro B D F A L y2 y3 hm K
    generalize hT : (km_mostVotes_67_87_4 (A 87) 0 y2 y3) = T at K
    have hE : T = y2 := hT.symm
    clear hT
    refine w_n 3 (pc1 := 9) (ls1 := [some (.ref 67), some (.ref 87), some (.int y2), some (.int y3)]) (st1 := [.int (F 67 3), .int y3]) (hp1 := (hz F A L)) rfl ?_
    refine w_ge (p3 := 12) rfl rfl (fun hb => ?_) (fun h => False.elim (by have h : y3.toInt < (F 67 3).toInt := h; omega))
    subst T
    exact cvE rfl rfl rfl (K _)
  | succ m ih =>
    intro B D F A L y2 y3 hm K
    generalize hT : (km_mostVotes_67_87_4 (A 87) (m + 1) y2 y3) = T at K
    have hE : T = (if ((A 87).getD y2.toInt.toNat 0).toInt < ((A 87).getD y3.toInt.toNat 0).toInt then (km_mostVotes_67_87_4 (A 87) m y3 (y3 + 1)) else (km_mostVotes_67_87_4 (A 87) m y2 (y3 + 1))) := hT.symm
    clear hT
    refine w_n 3 (pc1 := 9) (ls1 := [some (.ref 67), some (.ref 87), some (.int y2), some (.int y3)]) (st1 := [.int (F 67 3), .int y3]) (hp1 := (hz F A L)) rfl ?_
    refine w_ge (p3 := 12) rfl rfl (fun h => False.elim (by have h : (F 67 3).toInt ≤ y3.toInt := h; omega)) (fun hb => ?_)
    refine w_n 2 (pc1 := 14) (ls1 := [some (.ref 67), some (.ref 87), some (.int y2), some (.int y3)]) (st1 := [.int y3, .ref 87]) (hp1 := (hz F A L)) rfl ?_
    refine w_al (k := 87) (l := (A 87)) rfl rfl rfl (fun ab => ?_)
    refine w_n 2 (pc1 := 17) (ls1 := [some (.ref 67), some (.ref 87), some (.int y2), some (.int y3)]) (st1 := [.int y2, .ref 87, .int ((A 87).getD y3.toInt.toNat 0)]) (hp1 := (hz F A L)) rfl ?_
    refine w_al (k := 87) (l := (A 87)) rfl rfl rfl (fun _ => ?_)
    refine w_le (p3 := 21) rfl rfl (fun h => ?_) (fun h => ?_)
    · have h1 : ((A 87).getD y3.toInt.toNat 0).toInt ≤ ((A 87).getD y2.toInt.toNat 0).toInt := h
      rw [if_neg (Int.not_lt.mpr h1)] at hE
      refine w_n 2 (pc1 := 4) (ls1 := [some (.ref 67), some (.ref 87), some (.int y2), some (.int (y3 + 1))]) (st1 := []) (hp1 := (hz F A L)) rfl ?_
      subst T
      have hb2 := i_up (B := (F 67 3)) hb
      have hb3 : y3.toInt < (F 67 3).toInt := hb
      exact ih (show m = ((F 67 3).toInt - (y3 + 1).toInt).toNat by rw [hb2]; omega) (fun q3 => cvE rfl rfl rfl (K q3))
    · have h1 : ((A 87).getD y2.toInt.toNat 0).toInt < ((A 87).getD y3.toInt.toNat 0).toInt := h
      rw [if_pos h1] at hE
      refine w_n 4 (pc1 := 4) (ls1 := [some (.ref 67), some (.ref 87), some (.int y3), some (.int (y3 + 1))]) (st1 := []) (hp1 := (hz F A L)) rfl ?_
      subst T
      have hb2 := i_up (B := (F 67 3)) hb
      have hb3 : y3.toInt < (F 67 3).toInt := hb
      exact ih (show m = ((F 67 3).toInt - (y3 + 1).toInt).toNat by rw [hb2]; omega) (fun q3 => cvE rfl rfl rfl (K q3))
noncomputable def km_mostVotes_67_87 (f67_3 : Int32) (a87 : List Int32) : Int32 := (km_mostVotes_67_87_4 a87 (f67_3.toInt - 1).toNat 0 1)
theorem t_km_mostVotes_67_87 {f D : Nat} {F : Nat → Nat → Int32} {A : Nat → List Int32} {L : Nat → List Int64} {Q : Option Value → sm_H → Prop} (K : Q (some (.int (km_mostVotes_67_87 (F 67 3) (A 87)))) (hz F A L)) : wl_M f D 207 [.ref 67, .ref 87] (hz F A L) Q := by
  generalize hT : (km_mostVotes_67_87 (F 67 3) (A 87)) = T at K
  have hE : T = (km_mostVotes_67_87_4 (A 87) ((F 67 3).toInt - 1).toNat 0 1) := hT.symm
  clear hT
  refine w_m (E := mm207) rfl ?_
  show wl_E f f (D - 1) mm207.2.2.2.2.2.2.2.2 0 [some (.ref 67), some (.ref 87), none, none] [] (hz F A L) Q
  refine w_n 4 (pc1 := 4) (ls1 := [some (.ref 67), some (.ref 87), some (.int 0), some (.int 1)]) (st1 := []) (hp1 := (hz F A L)) rfl ?_
  refine t_km_mostVotes_67_87_4 (((F 67 3).toInt - 1).toNat) (show ((F 67 3).toInt - 1).toNat = ((F 67 3).toInt - (1 : Int32).toInt).toNat by have e0 : (1 : Int32).toInt = 1 := rfl; first | rfl | omega) ?_
  intro r1
  show wl_E f _ _ mm207.2.2.2.2.2.2.2.2 29 [some (.ref 67), some (.ref 87), some (.int (km_mostVotes_67_87_4 (A 87) ((F 67 3).toInt - 1).toNat 0 1)), some (.int r1)] [] (hz F A L) _
  generalize hG132 : (km_mostVotes_67_87_4 (A 87) ((F 67 3).toInt - 1).toNat 0 1) = G132 at hE ⊢
  refine w_n 1 (pc1 := 30) (ls1 := [some (.ref 67), some (.ref 87), some (.int G132), some (.int r1)]) (st1 := [.int G132]) (hp1 := (hz F A L)) rfl ?_
  subst T
  exact w_ri rfl (cvQ rfl rfl rfl K)
noncomputable def km_firsts (f67_3 : Int32) (a68 : List Int32) (a87 : List Int32) (x1 : Int32) : Int32 × List Int32 := (if x1 = 10 then ((km_mostVotes_67_87 f67_3 (km_laysFirsts f67_3 a68 a87 (km_allMeasures f67_3) 0)), (km_laysFirsts f67_3 a68 a87 (km_allMeasures f67_3) 0)) else (if (km_isMeasure f67_3 x1) = 0 then ((-1), a87) else (((km_laysFirsts f67_3 a68 a87 (km_allMeasures f67_3) 0).getD x1.toInt.toNat 0), (km_laysFirsts f67_3 a68 a87 (km_allMeasures f67_3) 0))))
theorem t_km_firsts {f D : Nat} {F : Nat → Nat → Int32} {A : Nat → List Int32} {L : Nat → List Int64} {Q : Option Value → sm_H → Prop} {x1 : Int32} (K : Q (some (.int ((km_firsts (F 67 3) (A 68) (A 87) x1).1))) (hz F (uA A 87 ((km_firsts (F 67 3) (A 68) (A 87) x1).2)) L)) : wl_M f D 204 [.ref 67, .int x1] (hz F A L) Q := by
  generalize hT : (km_firsts (F 67 3) (A 68) (A 87) x1) = T at K
  have hE : T = (if x1 = 10 then ((km_mostVotes_67_87 (F 67 3) (km_laysFirsts (F 67 3) (A 68) (A 87) (km_allMeasures (F 67 3)) 0)), (km_laysFirsts (F 67 3) (A 68) (A 87) (km_allMeasures (F 67 3)) 0)) else (if (km_isMeasure (F 67 3) x1) = 0 then ((-1), (A 87)) else (((km_laysFirsts (F 67 3) (A 68) (A 87) (km_allMeasures (F 67 3)) 0).getD x1.toInt.toNat 0), (km_laysFirsts (F 67 3) (A 68) (A 87) (km_allMeasures (F 67 3)) 0)))) := hT.symm
  clear hT
  refine w_m (E := mm204) rfl ?_
  show wl_E f f (D - 1) mm204.2.2.2.2.2.2.2.2 0 [some (.ref 67), some (.int x1)] [] (hz F A L) Q
  refine w_n 2 (pc1 := 3) (ls1 := [some (.ref 67), some (.int x1)]) (st1 := [.int 10, .int x1]) (hp1 := (hz F A L)) rfl ?_
  refine w_eq (p3 := 6) rfl rfl (fun h => ?_) (fun h => ?_)
  · have h1 : x1 = 10 := h
    rw [if_pos h1] at hE
    refine w_n 2 (pc1 := 18) (ls1 := [some (.ref 67), some (.int x1)]) (st1 := [.ref 67, .ref 67]) (hp1 := (hz F A L)) rfl ?_
    refine w_c rfl rfl (t_km_allMeasures ?_)
    show wl_E f _ _ mm204.2.2.2.2.2.2.2.2 21 [some (.ref 67), some (.int x1)] [.int (km_allMeasures (F 67 3)), .ref 67] (hz F A L) _
    generalize hG121 : (km_allMeasures (F 67 3)) = G121 at hE ⊢
    refine w_n 1 (pc1 := 22) (ls1 := [some (.ref 67), some (.int x1)]) (st1 := [.int 0, .int G121, .ref 67]) (hp1 := (hz F A L)) rfl ?_
    refine w_c rfl rfl (t_km_laysFirsts ?_)
    show wl_E f _ _ mm204.2.2.2.2.2.2.2.2 25 [some (.ref 67), some (.int x1)] [] (hz F (uA A 87 (km_laysFirsts (F 67 3) (A 68) (A 87) G121 0)) L) _
    generalize hG131 : (km_laysFirsts (F 67 3) (A 68) (A 87) G121 0) = G131 at hE ⊢
    refine w_n 2 (pc1 := 28) (ls1 := [some (.ref 67), some (.int x1)]) (st1 := [.int 10, .int x1]) (hp1 := (hz F (uA A 87 G131) L)) rfl ?_
    refine w_ne (p3 := 31) rfl rfl (fun h => absurd h1 h) (fun _ => ?_)
    refine w_n 3 (pc1 := 36) (ls1 := [some (.ref 67), some (.int x1)]) (st1 := [.ref 87, .ref 67]) (hp1 := (hz F (uA A 87 G131) L)) rfl ?_
    refine w_c rfl rfl (t_km_mostVotes_67_87 ?_)
    show wl_E f _ _ mm204.2.2.2.2.2.2.2.2 39 [some (.ref 67), some (.int x1)] [.int (km_mostVotes_67_87 (F 67 3) G131)] (hz F (uA A 87 G131) L) _
    generalize hG133 : (km_mostVotes_67_87 (F 67 3) G131) = G133 at hE ⊢
    refine w_n 1 (pc1 := 48) (ls1 := [some (.ref 67), some (.int x1)]) (st1 := [.int G133]) (hp1 := (hz F (uA A 87 G131) L)) rfl ?_
    subst T
    exact w_ri rfl (cvQ rfl rfl rfl K)
  · have h1 : ¬ x1 = 10 := h
    rw [if_neg h1] at hE
    refine w_n 2 (pc1 := 8) (ls1 := [some (.ref 67), some (.int x1)]) (st1 := [.int x1, .ref 67]) (hp1 := (hz F A L)) rfl ?_
    refine w_c rfl rfl (t_km_isMeasure ?_)
    show wl_E f _ _ mm204.2.2.2.2.2.2.2.2 11 [some (.ref 67), some (.int x1)] [.int (km_isMeasure (F 67 3) x1)] (hz F A L) _
    generalize hG134 : (km_isMeasure (F 67 3) x1) = G134 at hE ⊢
    refine w_zne (p3 := 14) rfl rfl (fun h => ?_) (fun h => ?_)
    · have h2 : ¬ G134 = 0 := h
      rw [if_neg h2] at hE
      refine w_n 2 (pc1 := 18) (ls1 := [some (.ref 67), some (.int x1)]) (st1 := [.ref 67, .ref 67]) (hp1 := (hz F A L)) rfl ?_
      refine w_c rfl rfl (t_km_allMeasures ?_)
      show wl_E f _ _ mm204.2.2.2.2.2.2.2.2 21 [some (.ref 67), some (.int x1)] [.int (km_allMeasures (F 67 3)), .ref 67] (hz F A L) _
      generalize hG135 : (km_allMeasures (F 67 3)) = G135 at hE ⊢
      refine w_n 1 (pc1 := 22) (ls1 := [some (.ref 67), some (.int x1)]) (st1 := [.int 0, .int G135, .ref 67]) (hp1 := (hz F A L)) rfl ?_
      refine w_c rfl rfl (t_km_laysFirsts ?_)
      show wl_E f _ _ mm204.2.2.2.2.2.2.2.2 25 [some (.ref 67), some (.int x1)] [] (hz F (uA A 87 (km_laysFirsts (F 67 3) (A 68) (A 87) G135 0)) L) _
      generalize hG136 : (km_laysFirsts (F 67 3) (A 68) (A 87) G135 0) = G136 at hE ⊢
      refine w_n 2 (pc1 := 28) (ls1 := [some (.ref 67), some (.int x1)]) (st1 := [.int 10, .int x1]) (hp1 := (hz F (uA A 87 G136) L)) rfl ?_
      refine w_ne (p3 := 31) rfl rfl (fun _ => ?_) (fun h => absurd h h1)
      refine w_n 3 (pc1 := 47) (ls1 := [some (.ref 67), some (.int x1)]) (st1 := [.int x1, .ref 87]) (hp1 := (hz F (uA A 87 G136) L)) rfl ?_
      refine w_al (k := 87) (l := G136) rfl rfl rfl (fun _ => ?_)
      subst T
      exact w_ri rfl (cvQ rfl rfl rfl K)
    · have h2 : G134 = 0 := h
      rw [if_pos h2] at hE
      refine w_n 1 (pc1 := 15) (ls1 := [some (.ref 67), some (.int x1)]) (st1 := [.int (-1)]) (hp1 := (hz F A L)) rfl ?_
      subst T
      exact w_ri rfl (cvQ rfl (funext fun q => if k0 : q = 87 then by subst k0; exact Eq.trans (b := (A 87)) rfl rfl else by unfold uA; simp only [nb1 k0, cond_false]) rfl K)
noncomputable def kv_weighPairs_17 (f3_1 : Int32) (a6 : List Int32) (l11 : List Int64) (x2 : Int32) : Nat → Int32 → List Int32 → List Int32
  | 0, _, a32 => a32
  | m + 1, y3, a32 => (kv_weighPairs_17 f3_1 a6 l11 x2 m (y3 + 1) (a32.set ((x2 * 6) + y3).toInt.toNat (kv_biscuitsFor f3_1 a6 l11 x2 y3)))
theorem t_kv_weighPairs_17 {f : Nat} {Q : Option Value → sm_H → Prop} : ∀ (m : Nat) {B D : Nat} {F : Nat → Nat → Int32} {A : Nat → List Int32} {L : Nat → List Int64} {x1 : Int32} {x2 : Int32} {y3 : Int32}, m = (x1.toInt - y3.toInt).toNat → (∀ q3 : Int32, wl_E f B D mm86.2.2.2.2.2.2.2.2 45 [some (.ref 30), some (.int x1), some (.int x2), some (.int q3)] [] (hz F (uA A 32 (kv_weighPairs_17 (F 3 1) (A 6) (L 11) x2 m y3 (A 32))) L) Q) → wl_E f B D mm86.2.2.2.2.2.2.2.2 17 [some (.ref 30), some (.int x1), some (.int x2), some (.int y3)] [] (hz F A L) Q := by
  intro m
  induction m with
  | zero =>
    intro B D F A L x1 x2 y3 hm K
    generalize hT : (kv_weighPairs_17 (F 3 1) (A 6) (L 11) x2 0 y3 (A 32)) = T at K
    have hE : T = (A 32) := hT.symm
    clear hT
    refine w_n 2 (pc1 := 19) (ls1 := [some (.ref 30), some (.int x1), some (.int x2), some (.int y3)]) (st1 := [.int x1, .int y3]) (hp1 := (hz F A L)) rfl ?_
    refine w_ge (p3 := 22) rfl rfl (fun hb => ?_) (fun h => False.elim (by have h : y3.toInt < x1.toInt := h; omega))
    subst T
    exact cvE rfl (funext fun q => if k0 : q = 32 then by subst k0; exact Eq.trans (b := (A 32)) rfl rfl else by unfold uA; simp only [nb1 k0, cond_false]) rfl (K _)
  | succ m ih =>
    intro B D F A L x1 x2 y3 hm K
    generalize hT : (kv_weighPairs_17 (F 3 1) (A 6) (L 11) x2 (m + 1) y3 (A 32)) = T at K
    have hE : T = (kv_weighPairs_17 (F 3 1) (A 6) (L 11) x2 m (y3 + 1) ((A 32).set ((x2 * 6) + y3).toInt.toNat (kv_biscuitsFor (F 3 1) (A 6) (L 11) x2 y3))) := hT.symm
    clear hT
    refine w_n 2 (pc1 := 19) (ls1 := [some (.ref 30), some (.int x1), some (.int x2), some (.int y3)]) (st1 := [.int x1, .int y3]) (hp1 := (hz F A L)) rfl ?_
    refine w_ge (p3 := 22) rfl rfl (fun h => False.elim (by have h : x1.toInt ≤ y3.toInt := h; omega)) (fun hb => ?_)
    refine w_n 10 (pc1 := 35) (ls1 := [some (.ref 30), some (.int x1), some (.int x2), some (.int y3)]) (st1 := [.int y3, .int x2, .ref 30, .int ((x2 * 6) + y3), .ref 32]) (hp1 := (hz F A L)) rfl ?_
    refine w_c rfl rfl (t_kv_biscuitsFor ?_)
    show wl_E f _ _ mm86.2.2.2.2.2.2.2.2 38 [some (.ref 30), some (.int x1), some (.int x2), some (.int y3)] [.int (kv_biscuitsFor (F 3 1) (A 6) (L 11) x2 y3), .int ((x2 * 6) + y3), .ref 32] (hz F A L) _
    generalize hG137 : (kv_biscuitsFor (F 3 1) (A 6) (L 11) x2 y3) = G137 at hE ⊢
    refine w_as (k := 32) (l := (A 32)) (hp1 := (hz F (uA A 32 ((A 32).set ((x2 * 6) + y3).toInt.toNat G137)) L)) rfl rfl rfl (hz_s32 _) (fun _ => ?_)
    refine w_n 2 (pc1 := 17) (ls1 := [some (.ref 30), some (.int x1), some (.int x2), some (.int (y3 + 1))]) (st1 := []) (hp1 := (hz F (uA A 32 ((A 32).set ((x2 * 6) + y3).toInt.toNat G137)) L)) rfl ?_
    subst T
    have hb2 := i_up (B := x1) hb
    have hb3 : y3.toInt < x1.toInt := hb
    exact ih (show m = (x1.toInt - (y3 + 1).toInt).toNat by rw [hb2]; omega) (fun q3 => cvE rfl (funext fun q => if k0 : q = 32 then by subst k0; exact Eq.trans (b := (kv_weighPairs_17 (F 3 1) (A 6) (L 11) x2 m (y3 + 1) ((A 32).set ((x2 * 6) + y3).toInt.toNat G137))) rfl rfl else by unfold uA; simp only [nb1 k0, cond_false]) rfl (K q3))
noncomputable def kv_weighPairs_10 (f3_1 : Int32) (a6 : List Int32) (l11 : List Int64) (x1 : Int32) : Nat → Int32 → List Int32 → List Int32
  | 0, _, a32 => a32
  | m + 1, y2, a32 => (kv_weighPairs_10 f3_1 a6 l11 x1 m (y2 + 1) (kv_weighPairs_17 f3_1 a6 l11 y2 x1.toInt.toNat 0 a32))
theorem t_kv_weighPairs_10 {f : Nat} {Q : Option Value → sm_H → Prop} : ∀ (m : Nat) {B D : Nat} {F : Nat → Nat → Int32} {A : Nat → List Int32} {L : Nat → List Int64} {x1 : Int32} {y2 : Int32} {o3 : Option Value}, m = (x1.toInt - y2.toInt).toNat → (∀ q2 : Int32, ∀ q3 : Option Value, wl_E f B D mm86.2.2.2.2.2.2.2.2 51 [some (.ref 30), some (.int x1), some (.int q2), q3] [] (hz F (uA A 32 (kv_weighPairs_10 (F 3 1) (A 6) (L 11) x1 m y2 (A 32))) L) Q) → wl_E f B D mm86.2.2.2.2.2.2.2.2 10 [some (.ref 30), some (.int x1), some (.int y2), o3] [] (hz F A L) Q := by
  intro m
  induction m with
  | zero =>
    intro B D F A L x1 y2 o3 hm K
    generalize hT : (kv_weighPairs_10 (F 3 1) (A 6) (L 11) x1 0 y2 (A 32)) = T at K
    have hE : T = (A 32) := hT.symm
    clear hT
    refine w_n 2 (pc1 := 12) (ls1 := [some (.ref 30), some (.int x1), some (.int y2), o3]) (st1 := [.int x1, .int y2]) (hp1 := (hz F A L)) rfl ?_
    refine w_ge (p3 := 15) rfl rfl (fun hb => ?_) (fun h => False.elim (by have h : y2.toInt < x1.toInt := h; omega))
    subst T
    exact cvE rfl (funext fun q => if k0 : q = 32 then by subst k0; exact Eq.trans (b := (A 32)) rfl rfl else by unfold uA; simp only [nb1 k0, cond_false]) rfl (K _ _)
  | succ m ih =>
    intro B D F A L x1 y2 o3 hm K
    generalize hT : (kv_weighPairs_10 (F 3 1) (A 6) (L 11) x1 (m + 1) y2 (A 32)) = T at K
    have hE : T = (kv_weighPairs_10 (F 3 1) (A 6) (L 11) x1 m (y2 + 1) (kv_weighPairs_17 (F 3 1) (A 6) (L 11) y2 x1.toInt.toNat 0 (A 32))) := hT.symm
    clear hT
    refine w_n 2 (pc1 := 12) (ls1 := [some (.ref 30), some (.int x1), some (.int y2), o3]) (st1 := [.int x1, .int y2]) (hp1 := (hz F A L)) rfl ?_
    refine w_ge (p3 := 15) rfl rfl (fun h => False.elim (by have h : x1.toInt ≤ y2.toInt := h; omega)) (fun hb => ?_)
    refine w_n 2 (pc1 := 17) (ls1 := [some (.ref 30), some (.int x1), some (.int y2), some (.int 0)]) (st1 := []) (hp1 := (hz F A L)) rfl ?_
    refine t_kv_weighPairs_17 x1.toInt.toNat (show x1.toInt.toNat = (x1.toInt - (0 : Int32).toInt).toNat by have e0 : (0 : Int32).toInt = 0 := rfl; first | rfl | omega) ?_
    intro r1
    show wl_E f _ _ mm86.2.2.2.2.2.2.2.2 45 [some (.ref 30), some (.int x1), some (.int y2), some (.int r1)] [] (hz F (uA A 32 (kv_weighPairs_17 (F 3 1) (A 6) (L 11) y2 x1.toInt.toNat 0 (A 32))) L) _
    generalize hG138 : (kv_weighPairs_17 (F 3 1) (A 6) (L 11) y2 x1.toInt.toNat 0 (A 32)) = G138 at hE ⊢
    refine w_n 2 (pc1 := 10) (ls1 := [some (.ref 30), some (.int x1), some (.int (y2 + 1)), some (.int r1)]) (st1 := []) (hp1 := (hz F (uA A 32 G138) L)) rfl ?_
    subst T
    have hb2 := i_up (B := x1) hb
    have hb3 : y2.toInt < x1.toInt := hb
    exact ih (show m = (x1.toInt - (y2 + 1).toInt).toNat by rw [hb2]; omega) (fun q2 q3 => cvE rfl (funext fun q => if k0 : q = 32 then by subst k0; exact Eq.trans (b := (kv_weighPairs_10 (F 3 1) (A 6) (L 11) x1 m (y2 + 1) G138)) rfl rfl else by unfold uA; simp only [nb1 k0, cond_false]) rfl (K q2 q3))
