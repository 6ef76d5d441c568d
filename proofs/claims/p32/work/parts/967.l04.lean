/-! lifts, printed by genlift.py: 4 -/
noncomputable def kv_biscuitsFor_5 (f3_1 : Int32) (a6 : List Int32) (l11 : List Int64) (x1 : Int32) (x2 : Int32) : Nat → Int32 → Int32 → Int32
  | 0, y3, _ => y3
  | m + 1, y3, y4 => (if (kt_isTold f3_1 y4) = 0 then (kv_biscuitsFor_5 f3_1 a6 l11 x1 x2 m y3 (y4 + 1)) else (if (((kt_aheadOf l11 y4 x2) >>> (x1 &&& 31)) &&& 1) = 0 then (kv_biscuitsFor_5 f3_1 a6 l11 x1 x2 m y3 (y4 + 1)) else (kv_biscuitsFor_5 f3_1 a6 l11 x1 x2 m (y3 + (a6.getD y4.toInt.toNat 0)) (y4 + 1))))
theorem t_kv_biscuitsFor_5 {f : Nat} {Q : Option Value → sm_H → Prop} : ∀ (m : Nat) {B D : Nat} {F : Nat → Nat → Int32} {A : Nat → List Int32} {L : Nat → List Int64} {x1 : Int32} {x2 : Int32} {y3 : Int32} {y4 : Int32}, m = (12 - y4.toInt).toNat → (∀ q4 : Int32, wl_E f B D mm75.2.2.2.2.2.2.2.2 60 [some (.ref 30), some (.int x1), some (.int x2), some (.int (kv_biscuitsFor_5 (F 3 1) (A 6) (L 11) x1 x2 m y3 y4)), some (.int q4)] [] (hz F A L) Q) → wl_E f B D mm75.2.2.2.2.2.2.2.2 5 [some (.ref 30), some (.int x1), some (.int x2), some (.int y3), some (.int y4)] [] (hz F A L) Q := by
  intro m
  induction m with
  | zero =>
    intro B D F A L x1 x2 y3 y4 hm K
    generalize hT : (kv_biscuitsFor_5 (F 3 1) (A 6) (L 11) x1 x2 0 y3 y4) = T at K
    have hE : T = y3 := hT.symm
    clear hT
    refine w_n 2 (pc1 := 9) (ls1 := [some (.ref 30), some (.int x1), some (.int x2), some (.int y3), some (.int y4)]) (st1 := [.int 12, .int y4]) (hp1 := (hz F A L)) rfl ?_
    refine w_ge (p3 := 12) rfl rfl (fun hb => ?_) (fun h => False.elim (by have h : y4.toInt < 12 := h; omega))
    subst T
    exact cvE rfl rfl rfl (K _)
  | succ m ih =>
    intro B D F A L x1 x2 y3 y4 hm K
    generalize hT : (kv_biscuitsFor_5 (F 3 1) (A 6) (L 11) x1 x2 (m + 1) y3 y4) = T at K
    have hE : T = (if (kt_isTold (F 3 1) y4) = 0 then (kv_biscuitsFor_5 (F 3 1) (A 6) (L 11) x1 x2 m y3 (y4 + 1)) else (if (((kt_aheadOf (L 11) y4 x2) >>> (x1 &&& 31)) &&& 1) = 0 then (kv_biscuitsFor_5 (F 3 1) (A 6) (L 11) x1 x2 m y3 (y4 + 1)) else (kv_biscuitsFor_5 (F 3 1) (A 6) (L 11) x1 x2 m (y3 + ((A 6).getD y4.toInt.toNat 0)) (y4 + 1)))) := hT.symm
    clear hT
    refine w_n 2 (pc1 := 9) (ls1 := [some (.ref 30), some (.int x1), some (.int x2), some (.int y3), some (.int y4)]) (st1 := [.int 12, .int y4]) (hp1 := (hz F A L)) rfl ?_
    refine w_ge (p3 := 12) rfl rfl (fun h => False.elim (by have h : 12 ≤ y4.toInt := h; omega)) (fun hb => ?_)
    refine w_n 3 (pc1 := 18) (ls1 := [some (.ref 30), some (.int x1), some (.int x2), some (.int y3), some (.int y4)]) (st1 := [.int y4, .ref 3]) (hp1 := (hz F A L)) rfl ?_
    refine w_c rfl rfl (t_kt_isTold ?_)
    show wl_E f _ _ mm75.2.2.2.2.2.2.2.2 21 [some (.ref 30), some (.int x1), some (.int x2), some (.int y3), some (.int y4)] [.int (kt_isTold (F 3 1) y4)] (hz F A L) _
    generalize hG98 : (kt_isTold (F 3 1) y4) = G98 at hE ⊢
    refine w_zeq (p3 := 24) rfl rfl (fun h => ?_) (fun h => ?_)
    · have h1 : G98 = 0 := h
      rw [if_pos h1] at hE
      refine w_n 2 (pc1 := 5) (ls1 := [some (.ref 30), some (.int x1), some (.int x2), some (.int y3), some (.int (y4 + 1))]) (st1 := []) (hp1 := (hz F A L)) rfl ?_
      subst T
      have hb2 := i_up (B := (12 : Int32)) hb
      have hb3 : y4.toInt < 12 := hb
      exact ih (show m = (12 - (y4 + 1).toInt).toNat by rw [hb2]; omega) (fun q4 => cvE rfl rfl rfl (K q4))
    · have h1 : ¬ G98 = 0 := h
      rw [if_neg h1] at hE
      refine w_n 4 (pc1 := 31) (ls1 := [some (.ref 30), some (.int x1), some (.int x2), some (.int y3), some (.int y4)]) (st1 := [.int x2, .int y4, .ref 3]) (hp1 := (hz F A L)) rfl ?_
      refine w_c rfl rfl (t_kt_aheadOf ?_)
      show wl_E f _ _ mm75.2.2.2.2.2.2.2.2 34 [some (.ref 30), some (.int x1), some (.int x2), some (.int y3), some (.int y4)] [.int (kt_aheadOf (L 11) y4 x2)] (hz F A L) _
      generalize hG99 : (kt_aheadOf (L 11) y4 x2) = G99 at hE ⊢
      refine w_n 4 (pc1 := 38) (ls1 := [some (.ref 30), some (.int x1), some (.int x2), some (.int y3), some (.int y4)]) (st1 := [.int ((G99 >>> (x1 &&& 31)) &&& 1)]) (hp1 := (hz F A L)) rfl ?_
      refine w_zeq (p3 := 41) rfl rfl (fun h => ?_) (fun h => ?_)
      · have h2 : ((G99 >>> (x1 &&& 31)) &&& 1) = 0 := h
        rw [if_pos h2] at hE
        refine w_n 2 (pc1 := 5) (ls1 := [some (.ref 30), some (.int x1), some (.int x2), some (.int y3), some (.int (y4 + 1))]) (st1 := []) (hp1 := (hz F A L)) rfl ?_
        subst T
        have hb2 := i_up (B := (12 : Int32)) hb
        have hb3 : y4.toInt < 12 := hb
        exact ih (show m = (12 - (y4 + 1).toInt).toNat by rw [hb2]; omega) (fun q4 => cvE rfl rfl rfl (K q4))
      · have h2 : ¬ ((G99 >>> (x1 &&& 31)) &&& 1) = 0 := h
        rw [if_neg h2] at hE
        refine w_n 5 (pc1 := 51) (ls1 := [some (.ref 30), some (.int x1), some (.int x2), some (.int y3), some (.int y4)]) (st1 := [.int y4, .ref 6, .int y3]) (hp1 := (hz F A L)) rfl ?_
        refine w_al (k := 6) (l := (A 6)) rfl rfl rfl (fun ab => ?_)
        refine w_n 4 (pc1 := 5) (ls1 := [some (.ref 30), some (.int x1), some (.int x2), some (.int (y3 + ((A 6).getD y4.toInt.toNat 0))), some (.int (y4 + 1))]) (st1 := []) (hp1 := (hz F A L)) rfl ?_
        subst T
        have hb2 := i_up (B := (12 : Int32)) hb
        have hb3 : y4.toInt < 12 := hb
        exact ih (show m = (12 - (y4 + 1).toInt).toNat by rw [hb2]; omega) (fun q4 => cvE rfl rfl rfl (K q4))
noncomputable def kv_biscuitsFor (f3_1 : Int32) (a6 : List Int32) (l11 : List Int64) (x1 : Int32) (x2 : Int32) : Int32 := (kv_biscuitsFor_5 f3_1 a6 l11 x1 x2 12 0 0)
theorem t_kv_biscuitsFor {f D : Nat} {F : Nat → Nat → Int32} {A : Nat → List Int32} {L : Nat → List Int64} {Q : Option Value → sm_H → Prop} {x1 : Int32} {x2 : Int32} (K : Q (some (.int (kv_biscuitsFor (F 3 1) (A 6) (L 11) x1 x2))) (hz F A L)) : wl_M f D 75 [.ref 30, .int x1, .int x2] (hz F A L) Q := by
  generalize hT : (kv_biscuitsFor (F 3 1) (A 6) (L 11) x1 x2) = T at K
  have hE : T = (kv_biscuitsFor_5 (F 3 1) (A 6) (L 11) x1 x2 12 0 0) := hT.symm
  clear hT
  refine w_m (E := mm75) rfl ?_
  show wl_E f f (D - 1) mm75.2.2.2.2.2.2.2.2 0 [some (.ref 30), some (.int x1), some (.int x2), none, none] [] (hz F A L) Q
  refine w_n 4 (pc1 := 5) (ls1 := [some (.ref 30), some (.int x1), some (.int x2), some (.int 0), some (.int 0)]) (st1 := []) (hp1 := (hz F A L)) rfl ?_
  refine t_kv_biscuitsFor_5 12 (show (12 : Nat) = (12 - (0 : Int32).toInt).toNat by have e0 : (0 : Int32).toInt = 0 := rfl; first | rfl | omega) ?_
  intro r1
  show wl_E f _ _ mm75.2.2.2.2.2.2.2.2 60 [some (.ref 30), some (.int x1), some (.int x2), some (.int (kv_biscuitsFor_5 (F 3 1) (A 6) (L 11) x1 x2 12 0 0)), some (.int r1)] [] (hz F A L) _
  generalize hG100 : (kv_biscuitsFor_5 (F 3 1) (A 6) (L 11) x1 x2 12 0 0) = G100 at hE ⊢
  refine w_n 1 (pc1 := 61) (ls1 := [some (.ref 30), some (.int x1), some (.int x2), some (.int G100), some (.int r1)]) (st1 := [.int G100]) (hp1 := (hz F A L)) rfl ?_
  subst T
  exact w_ri rfl (cvQ rfl rfl rfl K)
noncomputable def kc_pair (f3_0 : Int32) (f3_1 : Int32) (a6 : List Int32) (l11 : List Int64) (x1 : Int32) (x2 : Int32) : Int32 := (if (kt_isMeasure f3_0 x1) = 0 then (-1) else (if (kt_isMeasure f3_0 x2) = 0 then (-1) else (if x1 = x2 then (-1) else (kv_biscuitsFor f3_1 a6 l11 x1 x2))))
theorem t_kc_pair {f D : Nat} {F : Nat → Nat → Int32} {A : Nat → List Int32} {L : Nat → List Int64} {Q : Option Value → sm_H → Prop} {x1 : Int32} {x2 : Int32} (K : Q (some (.int (kc_pair (F 3 0) (F 3 1) (A 6) (L 11) x1 x2))) (hz F A L)) : wl_M f D 74 [.ref 0, .int x1, .int x2] (hz F A L) Q := by
  generalize hT : (kc_pair (F 3 0) (F 3 1) (A 6) (L 11) x1 x2) = T at K
  have hE : T = (if (kt_isMeasure (F 3 0) x1) = 0 then (-1) else (if (kt_isMeasure (F 3 0) x2) = 0 then (-1) else (if x1 = x2 then (-1) else (kv_biscuitsFor (F 3 1) (A 6) (L 11) x1 x2)))) := hT.symm
  clear hT
  refine w_m (E := mm74) rfl ?_
  show wl_E f f (D - 1) mm74.2.2.2.2.2.2.2.2 0 [some (.ref 0), some (.int x1), some (.int x2)] [] (hz F A L) Q
  refine w_n 3 (pc1 := 5) (ls1 := [some (.ref 0), some (.int x1), some (.int x2)]) (st1 := [.int x1, .ref 3]) (hp1 := (hz F A L)) rfl ?_
  refine w_c rfl rfl (t_kt_isMeasure ?_)
  show wl_E f _ _ mm74.2.2.2.2.2.2.2.2 8 [some (.ref 0), some (.int x1), some (.int x2)] [.int (kt_isMeasure (F 3 0) x1)] (hz F A L) _
  generalize hG96 : (kt_isMeasure (F 3 0) x1) = G96 at hE ⊢
  refine w_zeq (p3 := 11) rfl rfl (fun h => ?_) (fun h => ?_)
  · have h1 : G96 = 0 := h
    rw [if_pos h1] at hE
    refine w_n 1 (pc1 := 28) (ls1 := [some (.ref 0), some (.int x1), some (.int x2)]) (st1 := [.int (-1)]) (hp1 := (hz F A L)) rfl ?_
    subst T
    exact w_ri rfl (cvQ rfl rfl rfl K)
  · have h1 : ¬ G96 = 0 := h
    rw [if_neg h1] at hE
    refine w_n 3 (pc1 := 16) (ls1 := [some (.ref 0), some (.int x1), some (.int x2)]) (st1 := [.int x2, .ref 3]) (hp1 := (hz F A L)) rfl ?_
    refine w_c rfl rfl (t_kt_isMeasure ?_)
    show wl_E f _ _ mm74.2.2.2.2.2.2.2.2 19 [some (.ref 0), some (.int x1), some (.int x2)] [.int (kt_isMeasure (F 3 0) x2)] (hz F A L) _
    generalize hG97 : (kt_isMeasure (F 3 0) x2) = G97 at hE ⊢
    refine w_zeq (p3 := 22) rfl rfl (fun h => ?_) (fun h => ?_)
    · have h2 : G97 = 0 := h
      rw [if_pos h2] at hE
      refine w_n 1 (pc1 := 28) (ls1 := [some (.ref 0), some (.int x1), some (.int x2)]) (st1 := [.int (-1)]) (hp1 := (hz F A L)) rfl ?_
      subst T
      exact w_ri rfl (cvQ rfl rfl rfl K)
    · have h2 : ¬ G97 = 0 := h
      rw [if_neg h2] at hE
      refine w_n 2 (pc1 := 24) (ls1 := [some (.ref 0), some (.int x1), some (.int x2)]) (st1 := [.int x2, .int x1]) (hp1 := (hz F A L)) rfl ?_
      refine w_ne (p3 := 27) rfl rfl (fun h => ?_) (fun h => ?_)
      · have h3 : ¬ x1 = x2 := h
        rw [if_neg h3] at hE
        refine w_n 4 (pc1 := 35) (ls1 := [some (.ref 0), some (.int x1), some (.int x2)]) (st1 := [.int x2, .int x1, .ref 30]) (hp1 := (hz F A L)) rfl ?_
        refine w_c rfl rfl (t_kv_biscuitsFor ?_)
        show wl_E f _ _ mm74.2.2.2.2.2.2.2.2 38 [some (.ref 0), some (.int x1), some (.int x2)] [.int (kv_biscuitsFor (F 3 1) (A 6) (L 11) x1 x2)] (hz F A L) _
        generalize hG101 : (kv_biscuitsFor (F 3 1) (A 6) (L 11) x1 x2) = G101 at hE ⊢
        subst T
        exact w_ri rfl (cvQ rfl rfl rfl K)
      · have h3 : x1 = x2 := h
        rw [if_pos h3] at hE
        refine w_n 1 (pc1 := 28) (ls1 := [some (.ref 0), some (.int x1), some (.int x2)]) (st1 := [.int (-1)]) (hp1 := (hz F A L)) rfl ?_
        subst T
        exact w_ri rfl (cvQ rfl rfl rfl K)
noncomputable def km_placeOf (a68 : List Int32) (x1 : Int32) (x2 : Int32) : Int32 := (a68.getD ((72 + (6 * x1)) + x2).toInt.toNat 0)
theorem t_km_placeOf {f D : Nat} {F : Nat → Nat → Int32} {A : Nat → List Int32} {L : Nat → List Int64} {Q : Option Value → sm_H → Prop} {x1 : Int32} {x2 : Int32} (K : Q (some (.int (km_placeOf (A 68) x1 x2))) (hz F A L)) : wl_M f D 192 [.ref 67, .int x1, .int x2] (hz F A L) Q := by
  generalize hT : (km_placeOf (A 68) x1 x2) = T at K
  have hE : T = ((A 68).getD ((72 + (6 * x1)) + x2).toInt.toNat 0) := hT.symm
  clear hT
  refine w_m (E := mm192) rfl ?_
  show wl_E f f (D - 1) mm192.2.2.2.2.2.2.2.2 0 [some (.ref 67), some (.int x1), some (.int x2)] [] (hz F A L) Q
  refine w_n 9 (pc1 := 13) (ls1 := [some (.ref 67), some (.int x1), some (.int x2)]) (st1 := [.int ((72 + (6 * x1)) + x2), .ref 68]) (hp1 := (hz F A L)) rfl ?_
  refine w_al (k := 68) (l := (A 68)) rfl rfl rfl (fun _ => ?_)
  subst T
  exact w_ri rfl (cvQ rfl rfl rfl K)
noncomputable def km_pairOf_5 (a68 : List Int32) (x1 : Int32) (x2 : Int32) : Nat → Int32 → Int32 → Int32
  | 0, y3, _ => y3
  | m + 1, y3, y4 => (if (km_isGuest a68 y4) = 0 then (km_pairOf_5 a68 x1 x2 m y3 (y4 + 1)) else (if (km_placeOf a68 y4 x1).toInt < (km_placeOf a68 y4 x2).toInt then (km_pairOf_5 a68 x1 x2 m (y3 + (a68.getD (12 + y4).toInt.toNat 0)) (y4 + 1)) else (km_pairOf_5 a68 x1 x2 m y3 (y4 + 1))))
theorem t_km_pairOf_5 {f : Nat} {Q : Option Value → sm_H → Prop} : ∀ (m : Nat) {B D : Nat} {F : Nat → Nat → Int32} {A : Nat → List Int32} {L : Nat → List Int64} {x1 : Int32} {x2 : Int32} {y3 : Int32} {y4 : Int32}, m = (12 - y4.toInt).toNat → (∀ q4 : Int32, wl_E f B D mm203.2.2.2.2.2.2.2.2 57 [some (.ref 67), some (.int x1), some (.int x2), some (.int (km_pairOf_5 (A 68) x1 x2 m y3 y4)), some (.int q4)] [] (hz F A L) Q) → wl_E f B D mm203.2.2.2.2.2.2.2.2 5 [some (.ref 67), some (.int x1), some (.int x2), some (.int y3), some (.int y4)] [] (hz F A L) Q := by
  intro m
  induction m with
  | zero =>
    intro B D F A L x1 x2 y3 y4 hm K
    generalize hT : (km_pairOf_5 (A 68) x1 x2 0 y3 y4) = T at K
    have hE : T = y3 := hT.symm
    clear hT
    refine w_n 2 (pc1 := 9) (ls1 := [some (.ref 67), some (.int x1), some (.int x2), some (.int y3), some (.int y4)]) (st1 := [.int 12, .int y4]) (hp1 := (hz F A L)) rfl ?_
    refine w_ge (p3 := 12) rfl rfl (fun hb => ?_) (fun h => False.elim (by have h : y4.toInt < 12 := h; omega))
    subst T
    exact cvE rfl rfl rfl (K _)
  | succ m ih =>
    intro B D F A L x1 x2 y3 y4 hm K
    generalize hT : (km_pairOf_5 (A 68) x1 x2 (m + 1) y3 y4) = T at K
    have hE : T = (if (km_isGuest (A 68) y4) = 0 then (km_pairOf_5 (A 68) x1 x2 m y3 (y4 + 1)) else (if (km_placeOf (A 68) y4 x1).toInt < (km_placeOf (A 68) y4 x2).toInt then (km_pairOf_5 (A 68) x1 x2 m (y3 + ((A 68).getD (12 + y4).toInt.toNat 0)) (y4 + 1)) else (km_pairOf_5 (A 68) x1 x2 m y3 (y4 + 1)))) := hT.symm
    clear hT
    refine w_n 2 (pc1 := 9) (ls1 := [some (.ref 67), some (.int x1), some (.int x2), some (.int y3), some (.int y4)]) (st1 := [.int 12, .int y4]) (hp1 := (hz F A L)) rfl ?_
    refine w_ge (p3 := 12) rfl rfl (fun h => False.elim (by have h : 12 ≤ y4.toInt := h; omega)) (fun hb => ?_)
    refine w_n 2 (pc1 := 15) (ls1 := [some (.ref 67), some (.int x1), some (.int x2), some (.int y3), some (.int y4)]) (st1 := [.int y4, .ref 67]) (hp1 := (hz F A L)) rfl ?_
    refine w_c rfl rfl (t_km_isGuest ?_)
    show wl_E f _ _ mm203.2.2.2.2.2.2.2.2 18 [some (.ref 67), some (.int x1), some (.int x2), some (.int y3), some (.int y4)] [.int (km_isGuest (A 68) y4)] (hz F A L) _
    generalize hG104 : (km_isGuest (A 68) y4) = G104 at hE ⊢
    refine w_zeq (p3 := 21) rfl rfl (fun h => ?_) (fun h => ?_)
    · have h1 : G104 = 0 := h
      rw [if_pos h1] at hE
      refine w_n 2 (pc1 := 5) (ls1 := [some (.ref 67), some (.int x1), some (.int x2), some (.int y3), some (.int (y4 + 1))]) (st1 := []) (hp1 := (hz F A L)) rfl ?_
      subst T
      have hb2 := i_up (B := (12 : Int32)) hb
      have hb3 : y4.toInt < 12 := hb
      exact ih (show m = (12 - (y4 + 1).toInt).toNat by rw [hb2]; omega) (fun q4 => cvE rfl rfl rfl (K q4))
    · have h1 : ¬ G104 = 0 := h
      rw [if_neg h1] at hE
      refine w_n 3 (pc1 := 25) (ls1 := [some (.ref 67), some (.int x1), some (.int x2), some (.int y3), some (.int y4)]) (st1 := [.int x1, .int y4, .ref 67]) (hp1 := (hz F A L)) rfl ?_
      refine w_c rfl rfl (t_km_placeOf ?_)
      show wl_E f _ _ mm203.2.2.2.2.2.2.2.2 28 [some (.ref 67), some (.int x1), some (.int x2), some (.int y3), some (.int y4)] [.int (km_placeOf (A 68) y4 x1)] (hz F A L) _
      generalize hG105 : (km_placeOf (A 68) y4 x1) = G105 at hE ⊢
      refine w_n 3 (pc1 := 32) (ls1 := [some (.ref 67), some (.int x1), some (.int x2), some (.int y3), some (.int y4)]) (st1 := [.int x2, .int y4, .ref 67, .int G105]) (hp1 := (hz F A L)) rfl ?_
      refine w_c rfl rfl (t_km_placeOf ?_)
      show wl_E f _ _ mm203.2.2.2.2.2.2.2.2 35 [some (.ref 67), some (.int x1), some (.int x2), some (.int y3), some (.int y4)] [.int (km_placeOf (A 68) y4 x2), .int G105] (hz F A L) _
      generalize hG106 : (km_placeOf (A 68) y4 x2) = G106 at hE ⊢
      refine w_ge (p3 := 38) rfl rfl (fun h => ?_) (fun h => ?_)
      · have h2 : G106.toInt ≤ G105.toInt := h
        rw [if_neg (Int.not_lt.mpr h2)] at hE
        refine w_n 2 (pc1 := 5) (ls1 := [some (.ref 67), some (.int x1), some (.int x2), some (.int y3), some (.int (y4 + 1))]) (st1 := []) (hp1 := (hz F A L)) rfl ?_
        subst T
        have hb2 := i_up (B := (12 : Int32)) hb
        have hb3 : y4.toInt < 12 := hb
        exact ih (show m = (12 - (y4 + 1).toInt).toNat by rw [hb2]; omega) (fun q4 => cvE rfl rfl rfl (K q4))
      · have h2 : G105.toInt < G106.toInt := h
        rw [if_pos h2] at hE
        refine w_n 6 (pc1 := 48) (ls1 := [some (.ref 67), some (.int x1), some (.int x2), some (.int y3), some (.int y4)]) (st1 := [.int (12 + y4), .ref 68, .int y3]) (hp1 := (hz F A L)) rfl ?_
        refine w_al (k := 68) (l := (A 68)) rfl rfl rfl (fun _ => ?_)
        refine w_n 4 (pc1 := 5) (ls1 := [some (.ref 67), some (.int x1), some (.int x2), some (.int (y3 + ((A 68).getD (12 + y4).toInt.toNat 0))), some (.int (y4 + 1))]) (st1 := []) (hp1 := (hz F A L)) rfl ?_
        subst T
        have hb2 := i_up (B := (12 : Int32)) hb
        have hb3 : y4.toInt < 12 := hb
        exact ih (show m = (12 - (y4 + 1).toInt).toNat by rw [hb2]; omega) (fun q4 => cvE rfl rfl rfl (K q4))
noncomputable def km_pairOf (a68 : List Int32) (x1 : Int32) (x2 : Int32) : Int32 := (km_pairOf_5 a68 x1 x2 12 0 0)
theorem t_km_pairOf {f D : Nat} {F : Nat → Nat → Int32} {A : Nat → List Int32} {L : Nat → List Int64} {Q : Option Value → sm_H → Prop} {x1 : Int32} {x2 : Int32} (K : Q (some (.int (km_pairOf (A 68) x1 x2))) (hz F A L)) : wl_M f D 203 [.ref 67, .int x1, .int x2] (hz F A L) Q := by
  generalize hT : (km_pairOf (A 68) x1 x2) = T at K
  have hE : T = (km_pairOf_5 (A 68) x1 x2 12 0 0) := hT.symm
  clear hT
  refine w_m (E := mm203) rfl ?_
  show wl_E f f (D - 1) mm203.2.2.2.2.2.2.2.2 0 [some (.ref 67), some (.int x1), some (.int x2), none, none] [] (hz F A L) Q
  refine w_n 4 (pc1 := 5) (ls1 := [some (.ref 67), some (.int x1), some (.int x2), some (.int 0), some (.int 0)]) (st1 := []) (hp1 := (hz F A L)) rfl ?_
  refine t_km_pairOf_5 12 (show (12 : Nat) = (12 - (0 : Int32).toInt).toNat by have e0 : (0 : Int32).toInt = 0 := rfl; first | rfl | omega) ?_
  intro r1
  show wl_E f _ _ mm203.2.2.2.2.2.2.2.2 57 [some (.ref 67), some (.int x1), some (.int x2), some (.int (km_pairOf_5 (A 68) x1 x2 12 0 0)), some (.int r1)] [] (hz F A L) _
  generalize hG107 : (km_pairOf_5 (A 68) x1 x2 12 0 0) = G107 at hE ⊢
  refine w_n 1 (pc1 := 58) (ls1 := [some (.ref 67), some (.int x1), some (.int x2), some (.int G107), some (.int r1)]) (st1 := [.int G107]) (hp1 := (hz F A L)) rfl ?_
  subst T
  exact w_ri rfl (cvQ rfl rfl rfl K)
noncomputable def km_pair (f67_3 : Int32) (a68 : List Int32) (x1 : Int32) (x2 : Int32) : Int32 := (if (km_isMeasure f67_3 x1) = 0 then (-1) else (if (km_isMeasure f67_3 x2) = 0 then (-1) else (if x1 = x2 then (-1) else (km_pairOf a68 x1 x2))))
theorem t_km_pair {f D : Nat} {F : Nat → Nat → Int32} {A : Nat → List Int32} {L : Nat → List Int64} {Q : Option Value → sm_H → Prop} {x1 : Int32} {x2 : Int32} (K : Q (some (.int (km_pair (F 67 3) (A 68) x1 x2))) (hz F A L)) : wl_M f D 202 [.ref 67, .int x1, .int x2] (hz F A L) Q := by
  generalize hT : (km_pair (F 67 3) (A 68) x1 x2) = T at K
  have hE : T = (if (km_isMeasure (F 67 3) x1) = 0 then (-1) else (if (km_isMeasure (F 67 3) x2) = 0 then (-1) else (if x1 = x2 then (-1) else (km_pairOf (A 68) x1 x2)))) := hT.symm
  clear hT
  refine w_m (E := mm202) rfl ?_
  show wl_E f f (D - 1) mm202.2.2.2.2.2.2.2.2 0 [some (.ref 67), some (.int x1), some (.int x2)] [] (hz F A L) Q
  refine w_n 2 (pc1 := 2) (ls1 := [some (.ref 67), some (.int x1), some (.int x2)]) (st1 := [.int x1, .ref 67]) (hp1 := (hz F A L)) rfl ?_
  refine w_c rfl rfl (t_km_isMeasure ?_)
  show wl_E f _ _ mm202.2.2.2.2.2.2.2.2 5 [some (.ref 67), some (.int x1), some (.int x2)] [.int (km_isMeasure (F 67 3) x1)] (hz F A L) _
  generalize hG102 : (km_isMeasure (F 67 3) x1) = G102 at hE ⊢
  refine w_zeq (p3 := 8) rfl rfl (fun h => ?_) (fun h => ?_)
  · have h1 : G102 = 0 := h
    rw [if_pos h1] at hE
    refine w_n 1 (pc1 := 31) (ls1 := [some (.ref 67), some (.int x1), some (.int x2)]) (st1 := [.int (-1)]) (hp1 := (hz F A L)) rfl ?_
    subst T
    exact w_ri rfl (cvQ rfl rfl rfl K)
  · have h1 : ¬ G102 = 0 := h
    rw [if_neg h1] at hE
    refine w_n 2 (pc1 := 10) (ls1 := [some (.ref 67), some (.int x1), some (.int x2)]) (st1 := [.int x2, .ref 67]) (hp1 := (hz F A L)) rfl ?_
    refine w_c rfl rfl (t_km_isMeasure ?_)
    show wl_E f _ _ mm202.2.2.2.2.2.2.2.2 13 [some (.ref 67), some (.int x1), some (.int x2)] [.int (km_isMeasure (F 67 3) x2)] (hz F A L) _
    generalize hG103 : (km_isMeasure (F 67 3) x2) = G103 at hE ⊢
    refine w_zeq (p3 := 16) rfl rfl (fun h => ?_) (fun h => ?_)
    · have h2 : G103 = 0 := h
      rw [if_pos h2] at hE
      refine w_n 1 (pc1 := 31) (ls1 := [some (.ref 67), some (.int x1), some (.int x2)]) (st1 := [.int (-1)]) (hp1 := (hz F A L)) rfl ?_
      subst T
      exact w_ri rfl (cvQ rfl rfl rfl K)
    · have h2 : ¬ G103 = 0 := h
      rw [if_neg h2] at hE
      refine w_n 2 (pc1 := 18) (ls1 := [some (.ref 67), some (.int x1), some (.int x2)]) (st1 := [.int x2, .int x1]) (hp1 := (hz F A L)) rfl ?_
      refine w_eq (p3 := 21) rfl rfl (fun h => ?_) (fun h => ?_)
      · have h3 : x1 = x2 := h
        rw [if_pos h3] at hE
        refine w_n 1 (pc1 := 31) (ls1 := [some (.ref 67), some (.int x1), some (.int x2)]) (st1 := [.int (-1)]) (hp1 := (hz F A L)) rfl ?_
        subst T
        exact w_ri rfl (cvQ rfl rfl rfl K)
      · have h3 : ¬ x1 = x2 := h
        rw [if_neg h3] at hE
        refine w_n 3 (pc1 := 24) (ls1 := [some (.ref 67), some (.int x1), some (.int x2)]) (st1 := [.int x2, .int x1, .ref 67]) (hp1 := (hz F A L)) rfl ?_
        refine w_c rfl rfl (t_km_pairOf ?_)
        show wl_E f _ _ mm202.2.2.2.2.2.2.2.2 27 [some (.ref 67), some (.int x1), some (.int x2)] [.int (km_pairOf (A 68) x1 x2)] (hz F A L) _
        generalize hG108 : (km_pairOf (A 68) x1 x2) = G108 at hE ⊢
        refine w_n 1 (pc1 := 31) (ls1 := [some (.ref 67), some (.int x1), some (.int x2)]) (st1 := [.int G108]) (hp1 := (hz F A L)) rfl ?_
        subst T
        exact w_ri rfl (cvQ rfl rfl rfl K)
noncomputable def kt_partyOf_4 (f3_1 : Int32) (l11 : List Int64) (x1 : Int32) : Nat → Int32 → Int32 → Int32
  | 0, y2, _ => y2
  | m + 1, y2, y3 => (if (kt_isTold f3_1 y3) = 0 then (kt_partyOf_4 f3_1 l11 x1 m y2 (y3 + 1)) else (if (lg_cmp (l11.getD y3.toInt.toNat 0) (l11.getD x1.toInt.toNat 0)) = 0 then (kt_partyOf_4 f3_1 l11 x1 m (y2 ||| ((1 : Int32) <<< (y3 &&& 31))) (y3 + 1)) else (kt_partyOf_4 f3_1 l11 x1 m y2 (y3 + 1))))
theorem t_kt_partyOf_4 {f : Nat} {Q : Option Value → sm_H → Prop} : ∀ (m : Nat) {B D : Nat} {F : Nat → Nat → Int32} {A : Nat → List Int32} {L : Nat → List Int64} {x1 : Int32} {y2 : Int32} {y3 : Int32}, m = (12 - y3.toInt).toNat → (∀ q3 : Int32, wl_E f B D mm133.2.2.2.2.2.2.2.2 46 [some (.ref 3), some (.int x1), some (.int (kt_partyOf_4 (F 3 1) (L 11) x1 m y2 y3)), some (.int q3)] [] (hz F A L) Q) → wl_E f B D mm133.2.2.2.2.2.2.2.2 4 [some (.ref 3), some (.int x1), some (.int y2), some (.int y3)] [] (hz F A L) Q := by
  intro m
  induction m with
  | zero =>
    intro B D F A L x1 y2 y3 hm K
    generalize hT : (kt_partyOf_4 (F 3 1) (L 11) x1 0 y2 y3) = T at K
    have hE : T = y2 := hT.symm
    clear hT
    refine w_n 2 (pc1 := 7) (ls1 := [some (.ref 3), some (.int x1), some (.int y2), some (.int y3)]) (st1 := [.int 12, .int y3]) (hp1 := (hz F A L)) rfl ?_
    refine w_ge (p3 := 10) rfl rfl (fun hb => ?_) (fun h => False.elim (by have h : y3.toInt < 12 := h; omega))
    subst T
    exact cvE rfl rfl rfl (K _)
  | succ m ih =>
    intro B D F A L x1 y2 y3 hm K
    generalize hT : (kt_partyOf_4 (F 3 1) (L 11) x1 (m + 1) y2 y3) = T at K
    have hE : T = (if (kt_isTold (F 3 1) y3) = 0 then (kt_partyOf_4 (F 3 1) (L 11) x1 m y2 (y3 + 1)) else (if (lg_cmp ((L 11).getD y3.toInt.toNat 0) ((L 11).getD x1.toInt.toNat 0)) = 0 then (kt_partyOf_4 (F 3 1) (L 11) x1 m (y2 ||| ((1 : Int32) <<< (y3 &&& 31))) (y3 + 1)) else (kt_partyOf_4 (F 3 1) (L 11) x1 m y2 (y3 + 1)))) := hT.symm
    clear hT
    refine w_n 2 (pc1 := 7) (ls1 := [some (.ref 3), some (.int x1), some (.int y2), some (.int y3)]) (st1 := [.int 12, .int y3]) (hp1 := (hz F A L)) rfl ?_
    refine w_ge (p3 := 10) rfl rfl (fun h => False.elim (by have h : 12 ≤ y3.toInt := h; omega)) (fun hb => ?_)
    refine w_n 2 (pc1 := 12) (ls1 := [some (.ref 3), some (.int x1), some (.int y2), some (.int y3)]) (st1 := [.int y3, .ref 3]) (hp1 := (hz F A L)) rfl ?_
    refine w_c rfl rfl (t_kt_isTold ?_)
    show wl_E f _ _ mm133.2.2.2.2.2.2.2.2 15 [some (.ref 3), some (.int x1), some (.int y2), some (.int y3)] [.int (kt_isTold (F 3 1) y3)] (hz F A L) _
    generalize hG110 : (kt_isTold (F 3 1) y3) = G110 at hE ⊢
    refine w_zeq (p3 := 18) rfl rfl (fun h => ?_) (fun h => ?_)
    · have h1 : G110 = 0 := h
      rw [if_pos h1] at hE
      refine w_n 2 (pc1 := 4) (ls1 := [some (.ref 3), some (.int x1), some (.int y2), some (.int (y3 + 1))]) (st1 := []) (hp1 := (hz F A L)) rfl ?_
      subst T
      have hb2 := i_up (B := (12 : Int32)) hb
      have hb3 : y3.toInt < 12 := hb
      exact ih (show m = (12 - (y3 + 1).toInt).toNat by rw [hb2]; omega) (fun q3 => cvE rfl rfl rfl (K q3))
    · have h1 : ¬ G110 = 0 := h
      rw [if_neg h1] at hE
      refine w_n 3 (pc1 := 23) (ls1 := [some (.ref 3), some (.int x1), some (.int y2), some (.int y3)]) (st1 := [.int y3, .ref 11]) (hp1 := (hz F A L)) rfl ?_
      refine w_ll (k := 11) (l := (L 11)) rfl rfl rfl (fun ab => ?_)
      refine w_n 3 (pc1 := 29) (ls1 := [some (.ref 3), some (.int x1), some (.int y2), some (.int y3)]) (st1 := [.int x1, .ref 11, .long ((L 11).getD y3.toInt.toNat 0)]) (hp1 := (hz F A L)) rfl ?_
      refine w_ll (k := 11) (l := (L 11)) rfl rfl rfl (fun _ => ?_)
      refine w_n 1 (pc1 := 31) (ls1 := [some (.ref 3), some (.int x1), some (.int y2), some (.int y3)]) (st1 := [.int (lg_cmp ((L 11).getD y3.toInt.toNat 0) ((L 11).getD x1.toInt.toNat 0))]) (hp1 := (hz F A L)) rfl ?_
      refine w_zne (p3 := 34) rfl rfl (fun h => ?_) (fun h => ?_)
      · have h2 : ¬ (lg_cmp ((L 11).getD y3.toInt.toNat 0) ((L 11).getD x1.toInt.toNat 0)) = 0 := h
        rw [if_neg h2] at hE
        refine w_n 2 (pc1 := 4) (ls1 := [some (.ref 3), some (.int x1), some (.int y2), some (.int (y3 + 1))]) (st1 := []) (hp1 := (hz F A L)) rfl ?_
        subst T
        have hb2 := i_up (B := (12 : Int32)) hb
        have hb3 : y3.toInt < 12 := hb
        exact ih (show m = (12 - (y3 + 1).toInt).toNat by rw [hb2]; omega) (fun q3 => cvE rfl rfl rfl (K q3))
      · have h2 : (lg_cmp ((L 11).getD y3.toInt.toNat 0) ((L 11).getD x1.toInt.toNat 0)) = 0 := h
        rw [if_pos h2] at hE
        refine w_n 8 (pc1 := 4) (ls1 := [some (.ref 3), some (.int x1), some (.int (y2 ||| ((1 : Int32) <<< (y3 &&& 31)))), some (.int (y3 + 1))]) (st1 := []) (hp1 := (hz F A L)) rfl ?_
        subst T
        have hb2 := i_up (B := (12 : Int32)) hb
        have hb3 : y3.toInt < 12 := hb
        exact ih (show m = (12 - (y3 + 1).toInt).toNat by rw [hb2]; omega) (fun q3 => cvE rfl rfl rfl (K q3))
noncomputable def kt_partyOf (f3_1 : Int32) (l11 : List Int64) (x1 : Int32) : Int32 := (kt_partyOf_4 f3_1 l11 x1 12 0 0)
theorem t_kt_partyOf {f D : Nat} {F : Nat → Nat → Int32} {A : Nat → List Int32} {L : Nat → List Int64} {Q : Option Value → sm_H → Prop} {x1 : Int32} (K : Q (some (.int (kt_partyOf (F 3 1) (L 11) x1))) (hz F A L)) : wl_M f D 133 [.ref 3, .int x1] (hz F A L) Q := by
  generalize hT : (kt_partyOf (F 3 1) (L 11) x1) = T at K
  have hE : T = (kt_partyOf_4 (F 3 1) (L 11) x1 12 0 0) := hT.symm
  clear hT
  refine w_m (E := mm133) rfl ?_
  show wl_E f f (D - 1) mm133.2.2.2.2.2.2.2.2 0 [some (.ref 3), some (.int x1), none, none] [] (hz F A L) Q
  refine w_n 4 (pc1 := 4) (ls1 := [some (.ref 3), some (.int x1), some (.int 0), some (.int 0)]) (st1 := []) (hp1 := (hz F A L)) rfl ?_
  refine t_kt_partyOf_4 12 (show (12 : Nat) = (12 - (0 : Int32).toInt).toNat by have e0 : (0 : Int32).toInt = 0 := rfl; first | rfl | omega) ?_
  intro r1
  show wl_E f _ _ mm133.2.2.2.2.2.2.2.2 46 [some (.ref 3), some (.int x1), some (.int (kt_partyOf_4 (F 3 1) (L 11) x1 12 0 0)), some (.int r1)] [] (hz F A L) _
  generalize hG111 : (kt_partyOf_4 (F 3 1) (L 11) x1 12 0 0) = G111 at hE ⊢
  refine w_n 1 (pc1 := 47) (ls1 := [some (.ref 3), some (.int x1), some (.int G111), some (.int r1)]) (st1 := [.int G111]) (hp1 := (hz F A L)) rfl ?_
  subst T
  exact w_ri rfl (cvQ rfl rfl rfl K)
noncomputable def kt_parties_6 (f3_1 : Int32) (l11 : List Int64)  : Nat → Int32 → Int32 → Int32 → Int32
  | 0, y1, _, _ => y1
  | m + 1, y1, y2, y3 => (if (kt_isTold f3_1 y3) = 0 then (kt_parties_6 f3_1 l11 m y1 y2 (y3 + 1)) else (if ((y2 >>> (y3 &&& 31)) &&& 1) = 0 then (kt_parties_6 f3_1 l11 m (y1 + 1) (y2 ||| (kt_partyOf f3_1 l11 y3)) (y3 + 1)) else (kt_parties_6 f3_1 l11 m y1 y2 (y3 + 1))))
theorem t_kt_parties_6 {f : Nat} {Q : Option Value → sm_H → Prop} : ∀ (m : Nat) {B D : Nat} {F : Nat → Nat → Int32} {A : Nat → List Int32} {L : Nat → List Int64} {y1 : Int32} {y2 : Int32} {y3 : Int32}, m = (12 - y3.toInt).toNat → (∀ q2 : Int32, ∀ q3 : Int32, wl_E f B D mm132.2.2.2.2.2.2.2.2 45 [some (.ref 3), some (.int (kt_parties_6 (F 3 1) (L 11) m y1 y2 y3)), some (.int q2), some (.int q3)] [] (hz F A L) Q) → wl_E f B D mm132.2.2.2.2.2.2.2.2 6 [some (.ref 3), some (.int y1), some (.int y2), some (.int y3)] [] (hz F A L) Q := by
  intro m
  induction m with
  | zero =>
    intro B D F A L y1 y2 y3 hm K
    generalize hT : (kt_parties_6 (F 3 1) (L 11) 0 y1 y2 y3) = T at K
    have hE : T = y1 := hT.symm
    clear hT
    refine w_n 2 (pc1 := 9) (ls1 := [some (.ref 3), some (.int y1), some (.int y2), some (.int y3)]) (st1 := [.int 12, .int y3]) (hp1 := (hz F A L)) rfl ?_
    refine w_ge (p3 := 12) rfl rfl (fun hb => ?_) (fun h => False.elim (by have h : y3.toInt < 12 := h; omega))
    subst T
    exact cvE rfl rfl rfl (K _ _)
  | succ m ih =>
    intro B D F A L y1 y2 y3 hm K
    generalize hT : (kt_parties_6 (F 3 1) (L 11) (m + 1) y1 y2 y3) = T at K
    have hE : T = (if (kt_isTold (F 3 1) y3) = 0 then (kt_parties_6 (F 3 1) (L 11) m y1 y2 (y3 + 1)) else (if ((y2 >>> (y3 &&& 31)) &&& 1) = 0 then (kt_parties_6 (F 3 1) (L 11) m (y1 + 1) (y2 ||| (kt_partyOf (F 3 1) (L 11) y3)) (y3 + 1)) else (kt_parties_6 (F 3 1) (L 11) m y1 y2 (y3 + 1)))) := hT.symm
    clear hT
    refine w_n 2 (pc1 := 9) (ls1 := [some (.ref 3), some (.int y1), some (.int y2), some (.int y3)]) (st1 := [.int 12, .int y3]) (hp1 := (hz F A L)) rfl ?_
    refine w_ge (p3 := 12) rfl rfl (fun h => False.elim (by have h : 12 ≤ y3.toInt := h; omega)) (fun hb => ?_)
    refine w_n 2 (pc1 := 14) (ls1 := [some (.ref 3), some (.int y1), some (.int y2), some (.int y3)]) (st1 := [.int y3, .ref 3]) (hp1 := (hz F A L)) rfl ?_
    refine w_c rfl rfl (t_kt_isTold ?_)
    show wl_E f _ _ mm132.2.2.2.2.2.2.2.2 17 [some (.ref 3), some (.int y1), some (.int y2), some (.int y3)] [.int (kt_isTold (F 3 1) y3)] (hz F A L) _
    generalize hG113 : (kt_isTold (F 3 1) y3) = G113 at hE ⊢
    refine w_zeq (p3 := 20) rfl rfl (fun h => ?_) (fun h => ?_)
    · have h1 : G113 = 0 := h
      rw [if_pos h1] at hE
      refine w_n 2 (pc1 := 6) (ls1 := [some (.ref 3), some (.int y1), some (.int y2), some (.int (y3 + 1))]) (st1 := []) (hp1 := (hz F A L)) rfl ?_
      subst T
      have hb2 := i_up (B := (12 : Int32)) hb
      have hb3 : y3.toInt < 12 := hb
      exact ih (show m = (12 - (y3 + 1).toInt).toNat by rw [hb2]; omega) (fun q2 q3 => cvE rfl rfl rfl (K q2 q3))
    · have h1 : ¬ G113 = 0 := h
      rw [if_neg h1] at hE
      refine w_n 5 (pc1 := 25) (ls1 := [some (.ref 3), some (.int y1), some (.int y2), some (.int y3)]) (st1 := [.int ((y2 >>> (y3 &&& 31)) &&& 1)]) (hp1 := (hz F A L)) rfl ?_
      refine w_zne (p3 := 28) rfl rfl (fun h => ?_) (fun h => ?_)
      · have h2 : ¬ ((y2 >>> (y3 &&& 31)) &&& 1) = 0 := h
        rw [if_neg h2] at hE
        refine w_n 2 (pc1 := 6) (ls1 := [some (.ref 3), some (.int y1), some (.int y2), some (.int (y3 + 1))]) (st1 := []) (hp1 := (hz F A L)) rfl ?_
        subst T
        have hb2 := i_up (B := (12 : Int32)) hb
        have hb3 : y3.toInt < 12 := hb
        exact ih (show m = (12 - (y3 + 1).toInt).toNat by rw [hb2]; omega) (fun q2 q3 => cvE rfl rfl rfl (K q2 q3))
      · have h2 : ((y2 >>> (y3 &&& 31)) &&& 1) = 0 := h
        rw [if_pos h2] at hE
        refine w_n 4 (pc1 := 34) (ls1 := [some (.ref 3), some (.int (y1 + 1)), some (.int y2), some (.int y3)]) (st1 := [.int y3, .ref 3, .int y2]) (hp1 := (hz F A L)) rfl ?_
        refine w_c rfl rfl (t_kt_partyOf ?_)
        show wl_E f _ _ mm132.2.2.2.2.2.2.2.2 37 [some (.ref 3), some (.int (y1 + 1)), some (.int y2), some (.int y3)] [.int (kt_partyOf (F 3 1) (L 11) y3), .int y2] (hz F A L) _
        generalize hG114 : (kt_partyOf (F 3 1) (L 11) y3) = G114 at hE ⊢
        refine w_n 4 (pc1 := 6) (ls1 := [some (.ref 3), some (.int (y1 + 1)), some (.int (y2 ||| G114)), some (.int (y3 + 1))]) (st1 := []) (hp1 := (hz F A L)) rfl ?_
        subst T
        have hb2 := i_up (B := (12 : Int32)) hb
        have hb3 : y3.toInt < 12 := hb
        exact ih (show m = (12 - (y3 + 1).toInt).toNat by rw [hb2]; omega) (fun q2 q3 => cvE rfl rfl rfl (K q2 q3))
noncomputable def kt_parties (f3_1 : Int32) (l11 : List Int64) : Int32 := (kt_parties_6 f3_1 l11 12 0 0 0)
theorem t_kt_parties {f D : Nat} {F : Nat → Nat → Int32} {A : Nat → List Int32} {L : Nat → List Int64} {Q : Option Value → sm_H → Prop} (K : Q (some (.int (kt_parties (F 3 1) (L 11)))) (hz F A L)) : wl_M f D 132 [.ref 3] (hz F A L) Q := by
  generalize hT : (kt_parties (F 3 1) (L 11)) = T at K
  have hE : T = (kt_parties_6 (F 3 1) (L 11) 12 0 0 0) := hT.symm
  clear hT
  refine w_m (E := mm132) rfl ?_
  show wl_E f f (D - 1) mm132.2.2.2.2.2.2.2.2 0 [some (.ref 3), none, none, none] [] (hz F A L) Q
  refine w_n 6 (pc1 := 6) (ls1 := [some (.ref 3), some (.int 0), some (.int 0), some (.int 0)]) (st1 := []) (hp1 := (hz F A L)) rfl ?_
  refine t_kt_parties_6 12 (show (12 : Nat) = (12 - (0 : Int32).toInt).toNat by have e0 : (0 : Int32).toInt = 0 := rfl; first | rfl | omega) ?_
  intro r1 r2
  show wl_E f _ _ mm132.2.2.2.2.2.2.2.2 45 [some (.ref 3), some (.int (kt_parties_6 (F 3 1) (L 11) 12 0 0 0)), some (.int r1), some (.int r2)] [] (hz F A L) _
  generalize hG115 : (kt_parties_6 (F 3 1) (L 11) 12 0 0 0) = G115 at hE ⊢
  refine w_n 1 (pc1 := 46) (ls1 := [some (.ref 3), some (.int G115), some (.int r1), some (.int r2)]) (st1 := [.int G115]) (hp1 := (hz F A L)) rfl ?_
  subst T
  exact w_ri rfl (cvQ rfl rfl rfl K)
noncomputable def kc_alike (f3_1 : Int32) (l11 : List Int64) (x1 : Int32) : Int32 := (if x1 = 100 then (kt_parties f3_1 l11) else (if (kt_isTold f3_1 x1) = 0 then (-1) else (kt_partyOf f3_1 l11 x1)))
theorem t_kc_alike {f D : Nat} {F : Nat → Nat → Int32} {A : Nat → List Int32} {L : Nat → List Int64} {Q : Option Value → sm_H → Prop} {x1 : Int32} (K : Q (some (.int (kc_alike (F 3 1) (L 11) x1))) (hz F A L)) : wl_M f D 131 [.ref 0, .int x1] (hz F A L) Q := by
  generalize hT : (kc_alike (F 3 1) (L 11) x1) = T at K
  have hE : T = (if x1 = 100 then (kt_parties (F 3 1) (L 11)) else (if (kt_isTold (F 3 1) x1) = 0 then (-1) else (kt_partyOf (F 3 1) (L 11) x1))) := hT.symm
  clear hT
  refine w_m (E := mm131) rfl ?_
  show wl_E f f (D - 1) mm131.2.2.2.2.2.2.2.2 0 [some (.ref 0), some (.int x1)] [] (hz F A L) Q
  refine w_n 2 (pc1 := 3) (ls1 := [some (.ref 0), some (.int x1)]) (st1 := [.int 100, .int x1]) (hp1 := (hz F A L)) rfl ?_
  refine w_ne (p3 := 6) rfl rfl (fun h => ?_) (fun h => ?_)
  · have h1 : ¬ x1 = 100 := h
    rw [if_neg h1] at hE
    refine w_n 3 (pc1 := 19) (ls1 := [some (.ref 0), some (.int x1)]) (st1 := [.int x1, .ref 3]) (hp1 := (hz F A L)) rfl ?_
    refine w_c rfl rfl (t_kt_isTold ?_)
    show wl_E f _ _ mm131.2.2.2.2.2.2.2.2 22 [some (.ref 0), some (.int x1)] [.int (kt_isTold (F 3 1) x1)] (hz F A L) _
    generalize hG109 : (kt_isTold (F 3 1) x1) = G109 at hE ⊢
    refine w_zeq (p3 := 25) rfl rfl (fun h => ?_) (fun h => ?_)
    · have h2 : G109 = 0 := h
      rw [if_pos h2] at hE
      refine w_n 1 (pc1 := 37) (ls1 := [some (.ref 0), some (.int x1)]) (st1 := [.int (-1)]) (hp1 := (hz F A L)) rfl ?_
      subst T
      exact w_ri rfl (cvQ rfl rfl rfl K)
    · have h2 : ¬ G109 = 0 := h
      rw [if_neg h2] at hE
      refine w_n 3 (pc1 := 30) (ls1 := [some (.ref 0), some (.int x1)]) (st1 := [.int x1, .ref 3]) (hp1 := (hz F A L)) rfl ?_
      refine w_c rfl rfl (t_kt_partyOf ?_)
      show wl_E f _ _ mm131.2.2.2.2.2.2.2.2 33 [some (.ref 0), some (.int x1)] [.int (kt_partyOf (F 3 1) (L 11) x1)] (hz F A L) _
      generalize hG112 : (kt_partyOf (F 3 1) (L 11) x1) = G112 at hE ⊢
      refine w_n 1 (pc1 := 37) (ls1 := [some (.ref 0), some (.int x1)]) (st1 := [.int G112]) (hp1 := (hz F A L)) rfl ?_
      subst T
      exact w_ri rfl (cvQ rfl rfl rfl K)
  · have h1 : x1 = 100 := h
    rw [if_pos h1] at hE
    refine w_n 2 (pc1 := 10) (ls1 := [some (.ref 0), some (.int x1)]) (st1 := [.ref 3]) (hp1 := (hz F A L)) rfl ?_
    refine w_c rfl rfl (t_kt_parties ?_)
    show wl_E f _ _ mm131.2.2.2.2.2.2.2.2 13 [some (.ref 0), some (.int x1)] [.int (kt_parties (F 3 1) (L 11))] (hz F A L) _
    generalize hG116 : (kt_parties (F 3 1) (L 11)) = G116 at hE ⊢
    subst T
    exact w_ri rfl (cvQ rfl rfl rfl K)
noncomputable def km_areOfOneMind_2 (a68 : List Int32) (x1 : Int32) (x2 : Int32) : Nat → Int32 → Int32
  | 0, _ => 1
  | m + 1, y3 => (if (km_placeOf a68 x1 y3) = (km_placeOf a68 x2 y3) then (km_areOfOneMind_2 a68 x1 x2 m (y3 + 1)) else 0)
theorem t_km_areOfOneMind_2 {f : Nat} {Q : Option Value → sm_H → Prop} : ∀ (m : Nat) {B D : Nat} {F : Nat → Nat → Int32} {A : Nat → List Int32} {L : Nat → List Int64} {x1 : Int32} {x2 : Int32} {y3 : Int32}, m = ((F 67 3).toInt - y3.toInt).toNat → (Q (some (.int (km_areOfOneMind_2 (A 68) x1 x2 m y3))) (hz F A L)) → wl_E f B D mm245.2.2.2.2.2.2.2.2 2 [some (.ref 67), some (.int x1), some (.int x2), some (.int y3)] [] (hz F A L) Q := by
  intro m
  induction m with
  | zero =>
    intro B D F A L x1 x2 y3 hm K
    generalize hT : (km_areOfOneMind_2 (A 68) x1 x2 0 y3) = T at K
    have hE : T = 1 := hT.symm
    clear hT
    refine w_n 3 (pc1 := 7) (ls1 := [some (.ref 67), some (.int x1), some (.int x2), some (.int y3)]) (st1 := [.int (F 67 3), .int y3]) (hp1 := (hz F A L)) rfl ?_
    refine w_ge (p3 := 10) rfl rfl (fun hb => ?_) (fun h => False.elim (by have h : y3.toInt < (F 67 3).toInt := h; omega))
    refine w_n 1 (pc1 := 34) (ls1 := [some (.ref 67), some (.int x1), some (.int x2), some (.int y3)]) (st1 := [.int 1]) (hp1 := (hz F A L)) rfl ?_
    subst T
    exact w_ri rfl (cvQ rfl rfl rfl K)
  | succ m ih =>
    intro B D F A L x1 x2 y3 hm K
    generalize hT : (km_areOfOneMind_2 (A 68) x1 x2 (m + 1) y3) = T at K
    have hE : T = (if (km_placeOf (A 68) x1 y3) = (km_placeOf (A 68) x2 y3) then (km_areOfOneMind_2 (A 68) x1 x2 m (y3 + 1)) else 0) := hT.symm
    clear hT
    refine w_n 3 (pc1 := 7) (ls1 := [some (.ref 67), some (.int x1), some (.int x2), some (.int y3)]) (st1 := [.int (F 67 3), .int y3]) (hp1 := (hz F A L)) rfl ?_
    refine w_ge (p3 := 10) rfl rfl (fun h => False.elim (by have h : (F 67 3).toInt ≤ y3.toInt := h; omega)) (fun hb => ?_)
    refine w_n 3 (pc1 := 13) (ls1 := [some (.ref 67), some (.int x1), some (.int x2), some (.int y3)]) (st1 := [.int y3, .int x1, .ref 67]) (hp1 := (hz F A L)) rfl ?_
    refine w_c rfl rfl (t_km_placeOf ?_)
    show wl_E f _ _ mm245.2.2.2.2.2.2.2.2 16 [some (.ref 67), some (.int x1), some (.int x2), some (.int y3)] [.int (km_placeOf (A 68) x1 y3)] (hz F A L) _
    generalize hG120 : (km_placeOf (A 68) x1 y3) = G120 at hE ⊢
    refine w_n 3 (pc1 := 19) (ls1 := [some (.ref 67), some (.int x1), some (.int x2), some (.int y3)]) (st1 := [.int y3, .int x2, .ref 67, .int G120]) (hp1 := (hz F A L)) rfl ?_
    refine w_c rfl rfl (t_km_placeOf ?_)
    show wl_E f _ _ mm245.2.2.2.2.2.2.2.2 22 [some (.ref 67), some (.int x1), some (.int x2), some (.int y3)] [.int (km_placeOf (A 68) x2 y3), .int G120] (hz F A L) _
    generalize hG121 : (km_placeOf (A 68) x2 y3) = G121 at hE ⊢
    refine w_eq (p3 := 25) rfl rfl (fun h => ?_) (fun h => ?_)
    · have h1 : G120 = G121 := h
      rw [if_pos h1] at hE
      refine w_n 2 (pc1 := 2) (ls1 := [some (.ref 67), some (.int x1), some (.int x2), some (.int (y3 + 1))]) (st1 := []) (hp1 := (hz F A L)) rfl ?_
      subst T
      have hb2 := i_up (B := (F 67 3)) hb
      have hb3 : y3.toInt < (F 67 3).toInt := hb
      exact ih (show m = ((F 67 3).toInt - (y3 + 1).toInt).toNat by rw [hb2]; omega) (cvQ rfl rfl rfl K)
    · have h1 : ¬ G120 = G121 := h
      rw [if_neg h1] at hE
      refine w_n 1 (pc1 := 26) (ls1 := [some (.ref 67), some (.int x1), some (.int x2), some (.int y3)]) (st1 := [.int 0]) (hp1 := (hz F A L)) rfl ?_
      subst T
      exact w_ri rfl (cvQ rfl rfl rfl K)
noncomputable def km_areOfOneMind (f67_3 : Int32) (a68 : List Int32) (x1 : Int32) (x2 : Int32) : Int32 := (km_areOfOneMind_2 a68 x1 x2 f67_3.toInt.toNat 0)
theorem t_km_areOfOneMind {f D : Nat} {F : Nat → Nat → Int32} {A : Nat → List Int32} {L : Nat → List Int64} {Q : Option Value → sm_H → Prop} {x1 : Int32} {x2 : Int32} (K : Q (some (.int (km_areOfOneMind (F 67 3) (A 68) x1 x2))) (hz F A L)) : wl_M f D 245 [.ref 67, .int x1, .int x2] (hz F A L) Q := by
  generalize hT : (km_areOfOneMind (F 67 3) (A 68) x1 x2) = T at K
  have hE : T = (km_areOfOneMind_2 (A 68) x1 x2 (F 67 3).toInt.toNat 0) := hT.symm
  clear hT
  refine w_m (E := mm245) rfl ?_
  show wl_E f f (D - 1) mm245.2.2.2.2.2.2.2.2 0 [some (.ref 67), some (.int x1), some (.int x2), none] [] (hz F A L) Q
  refine w_n 2 (pc1 := 2) (ls1 := [some (.ref 67), some (.int x1), some (.int x2), some (.int 0)]) (st1 := []) (hp1 := (hz F A L)) rfl ?_
  subst T
  exact t_km_areOfOneMind_2 _ (show (F 67 3).toInt.toNat = ((F 67 3).toInt - (0 : Int32).toInt).toNat by have e0 : (0 : Int32).toInt = 0 := rfl; first | rfl | omega) (cvQ rfl rfl rfl K)
noncomputable def km_partyOf_4 (f67_3 : Int32) (a68 : List Int32) (x1 : Int32) : Nat → Int32 → Int32 → Int32
  | 0, y2, _ => y2
  | m + 1, y2, y3 => (if (km_isGuest a68 y3) = 0 then (km_partyOf_4 f67_3 a68 x1 m y2 (y3 + 1)) else (if (km_areOfOneMind f67_3 a68 x1 y3) = 0 then (km_partyOf_4 f67_3 a68 x1 m y2 (y3 + 1)) else (km_partyOf_4 f67_3 a68 x1 m (y2 ||| ((1 : Int32) <<< (y3 &&& 31))) (y3 + 1))))
theorem t_km_partyOf_4 {f : Nat} {Q : Option Value → sm_H → Prop} : ∀ (m : Nat) {B D : Nat} {F : Nat → Nat → Int32} {A : Nat → List Int32} {L : Nat → List Int64} {x1 : Int32} {y2 : Int32} {y3 : Int32}, m = (12 - y3.toInt).toNat → (∀ q3 : Int32, wl_E f B D mm244.2.2.2.2.2.2.2.2 39 [some (.ref 67), some (.int x1), some (.int (km_partyOf_4 (F 67 3) (A 68) x1 m y2 y3)), some (.int q3)] [] (hz F A L) Q) → wl_E f B D mm244.2.2.2.2.2.2.2.2 4 [some (.ref 67), some (.int x1), some (.int y2), some (.int y3)] [] (hz F A L) Q := by
  intro m
  induction m with
  | zero =>
    intro B D F A L x1 y2 y3 hm K
    generalize hT : (km_partyOf_4 (F 67 3) (A 68) x1 0 y2 y3) = T at K
    have hE : T = y2 := hT.symm
    clear hT
    refine w_n 2 (pc1 := 7) (ls1 := [some (.ref 67), some (.int x1), some (.int y2), some (.int y3)]) (st1 := [.int 12, .int y3]) (hp1 := (hz F A L)) rfl ?_
    refine w_ge (p3 := 10) rfl rfl (fun hb => ?_) (fun h => False.elim (by have h : y3.toInt < 12 := h; omega))
    subst T
    exact cvE rfl rfl rfl (K _)
  | succ m ih =>
    intro B D F A L x1 y2 y3 hm K
    generalize hT : (km_partyOf_4 (F 67 3) (A 68) x1 (m + 1) y2 y3) = T at K
    have hE : T = (if (km_isGuest (A 68) y3) = 0 then (km_partyOf_4 (F 67 3) (A 68) x1 m y2 (y3 + 1)) else (if (km_areOfOneMind (F 67 3) (A 68) x1 y3) = 0 then (km_partyOf_4 (F 67 3) (A 68) x1 m y2 (y3 + 1)) else (km_partyOf_4 (F 67 3) (A 68) x1 m (y2 ||| ((1 : Int32) <<< (y3 &&& 31))) (y3 + 1)))) := hT.symm
    clear hT
    refine w_n 2 (pc1 := 7) (ls1 := [some (.ref 67), some (.int x1), some (.int y2), some (.int y3)]) (st1 := [.int 12, .int y3]) (hp1 := (hz F A L)) rfl ?_
    refine w_ge (p3 := 10) rfl rfl (fun h => False.elim (by have h : 12 ≤ y3.toInt := h; omega)) (fun hb => ?_)
    refine w_n 2 (pc1 := 12) (ls1 := [some (.ref 67), some (.int x1), some (.int y2), some (.int y3)]) (st1 := [.int y3, .ref 67]) (hp1 := (hz F A L)) rfl ?_
    refine w_c rfl rfl (t_km_isGuest ?_)
    show wl_E f _ _ mm244.2.2.2.2.2.2.2.2 15 [some (.ref 67), some (.int x1), some (.int y2), some (.int y3)] [.int (km_isGuest (A 68) y3)] (hz F A L) _
    generalize hG119 : (km_isGuest (A 68) y3) = G119 at hE ⊢
    refine w_zeq (p3 := 18) rfl rfl (fun h => ?_) (fun h => ?_)
    · have h1 : G119 = 0 := h
      rw [if_pos h1] at hE
      refine w_n 2 (pc1 := 4) (ls1 := [some (.ref 67), some (.int x1), some (.int y2), some (.int (y3 + 1))]) (st1 := []) (hp1 := (hz F A L)) rfl ?_
      subst T
      have hb2 := i_up (B := (12 : Int32)) hb
      have hb3 : y3.toInt < 12 := hb
      exact ih (show m = (12 - (y3 + 1).toInt).toNat by rw [hb2]; omega) (fun q3 => cvE rfl rfl rfl (K q3))
    · have h1 : ¬ G119 = 0 := h
      rw [if_neg h1] at hE
      refine w_n 3 (pc1 := 21) (ls1 := [some (.ref 67), some (.int x1), some (.int y2), some (.int y3)]) (st1 := [.int y3, .int x1, .ref 67]) (hp1 := (hz F A L)) rfl ?_
      refine w_c rfl rfl (t_km_areOfOneMind ?_)
      show wl_E f _ _ mm244.2.2.2.2.2.2.2.2 24 [some (.ref 67), some (.int x1), some (.int y2), some (.int y3)] [.int (km_areOfOneMind (F 67 3) (A 68) x1 y3)] (hz F A L) _
      generalize hG122 : (km_areOfOneMind (F 67 3) (A 68) x1 y3) = G122 at hE ⊢
      refine w_zeq (p3 := 27) rfl rfl (fun h => ?_) (fun h => ?_)
      · have h2 : G122 = 0 := h
        rw [if_pos h2] at hE
        refine w_n 2 (pc1 := 4) (ls1 := [some (.ref 67), some (.int x1), some (.int y2), some (.int (y3 + 1))]) (st1 := []) (hp1 := (hz F A L)) rfl ?_
        subst T
        have hb2 := i_up (B := (12 : Int32)) hb
        have hb3 : y3.toInt < 12 := hb
        exact ih (show m = (12 - (y3 + 1).toInt).toNat by rw [hb2]; omega) (fun q3 => cvE rfl rfl rfl (K q3))
      · have h2 : ¬ G122 = 0 := h
        rw [if_neg h2] at hE
        refine w_n 8 (pc1 := 4) (ls1 := [some (.ref 67), some (.int x1), some (.int (y2 ||| ((1 : Int32) <<< (y3 &&& 31)))), some (.int (y3 + 1))]) (st1 := []) (hp1 := (hz F A L)) rfl ?_
        subst T
        have hb2 := i_up (B := (12 : Int32)) hb
        have hb3 : y3.toInt < 12 := hb
        exact ih (show m = (12 - (y3 + 1).toInt).toNat by rw [hb2]; omega) (fun q3 => cvE rfl rfl rfl (K q3))
noncomputable def km_partyOf (f67_3 : Int32) (a68 : List Int32) (x1 : Int32) : Int32 := (km_partyOf_4 f67_3 a68 x1 12 0 0)
theorem t_km_partyOf {f D : Nat} {F : Nat → Nat → Int32} {A : Nat → List Int32} {L : Nat → List Int64} {Q : Option Value → sm_H → Prop} {x1 : Int32} (K : Q (some (.int (km_partyOf (F 67 3) (A 68) x1))) (hz F A L)) : wl_M f D 244 [.ref 67, .int x1] (hz F A L) Q := by
  generalize hT : (km_partyOf (F 67 3) (A 68) x1) = T at K
  have hE : T = (km_partyOf_4 (F 67 3) (A 68) x1 12 0 0) := hT.symm
  clear hT
  refine w_m (E := mm244) rfl ?_
  show wl_E f f (D - 1) mm244.2.2.2.2.2.2.2.2 0 [some (.ref 67), some (.int x1), none, none] [] (hz F A L) Q
  refine w_n 4 (pc1 := 4) (ls1 := [some (.ref 67), some (.int x1), some (.int 0), some (.int 0)]) (st1 := []) (hp1 := (hz F A L)) rfl ?_
  refine t_km_partyOf_4 12 (show (12 : Nat) = (12 - (0 : Int32).toInt).toNat by have e0 : (0 : Int32).toInt = 0 := rfl; first | rfl | omega) ?_
  intro r1
  show wl_E f _ _ mm244.2.2.2.2.2.2.2.2 39 [some (.ref 67), some (.int x1), some (.int (km_partyOf_4 (F 67 3) (A 68) x1 12 0 0)), some (.int r1)] [] (hz F A L) _
  generalize hG123 : (km_partyOf_4 (F 67 3) (A 68) x1 12 0 0) = G123 at hE ⊢
  refine w_n 1 (pc1 := 40) (ls1 := [some (.ref 67), some (.int x1), some (.int G123), some (.int r1)]) (st1 := [.int G123]) (hp1 := (hz F A L)) rfl ?_
  subst T
  exact w_ri rfl (cvQ rfl rfl rfl K)
noncomputable def km_alike_31 (f67_3 : Int32) (a68 : List Int32)  : Nat → Int32 → Int32 → Int32 → Int32
  | 0, _, y3, _ => y3
  | m + 1, y2, y3, y4 => (if (km_isGuest a68 y4) = 0 then (km_alike_31 f67_3 a68 m y2 y3 (y4 + 1)) else (if (km_has y2 y4) = 0 then (km_alike_31 f67_3 a68 m (y2 ||| (km_partyOf f67_3 a68 y4)) (y3 + 1) (y4 + 1)) else (km_alike_31 f67_3 a68 m y2 y3 (y4 + 1))))
theorem t_km_alike_31 {f : Nat} {Q : Option Value → sm_H → Prop} : ∀ (m : Nat) {B D : Nat} {F : Nat → Nat → Int32} {A : Nat → List Int32} {L : Nat → List Int64} {x1 : Int32} {y2 : Int32} {y3 : Int32} {y4 : Int32}, m = (12 - y4.toInt).toNat → (∀ q2 : Int32, ∀ q4 : Int32, wl_E f B D mm243.2.2.2.2.2.2.2.2 78 [some (.ref 67), some (.int x1), some (.int q2), some (.int (km_alike_31 (F 67 3) (A 68) m y2 y3 y4)), some (.int q4)] [] (hz F A L) Q) → wl_E f B D mm243.2.2.2.2.2.2.2.2 31 [some (.ref 67), some (.int x1), some (.int y2), some (.int y3), some (.int y4)] [] (hz F A L) Q := by
  intro m
  induction m with
  | zero =>
    intro B D F A L x1 y2 y3 y4 hm K
    generalize hT : (km_alike_31 (F 67 3) (A 68) 0 y2 y3 y4) = T at K
    have hE : T = y3 := hT.symm
    clear hT
    refine w_n 2 (pc1 := 35) (ls1 := [some (.ref 67), some (.int x1), some (.int y2), some (.int y3), some (.int y4)]) (st1 := [.int 12, .int y4]) (hp1 := (hz F A L)) rfl ?_
    refine w_ge (p3 := 38) rfl rfl (fun hb => ?_) (fun h => False.elim (by have h : y4.toInt < 12 := h; omega))
    subst T
    exact cvE rfl rfl rfl (K _ _)
  | succ m ih =>
    intro B D F A L x1 y2 y3 y4 hm K
    generalize hT : (km_alike_31 (F 67 3) (A 68) (m + 1) y2 y3 y4) = T at K
    have hE : T = (if (km_isGuest (A 68) y4) = 0 then (km_alike_31 (F 67 3) (A 68) m y2 y3 (y4 + 1)) else (if (km_has y2 y4) = 0 then (km_alike_31 (F 67 3) (A 68) m (y2 ||| (km_partyOf (F 67 3) (A 68) y4)) (y3 + 1) (y4 + 1)) else (km_alike_31 (F 67 3) (A 68) m y2 y3 (y4 + 1)))) := hT.symm
    clear hT
    refine w_n 2 (pc1 := 35) (ls1 := [some (.ref 67), some (.int x1), some (.int y2), some (.int y3), some (.int y4)]) (st1 := [.int 12, .int y4]) (hp1 := (hz F A L)) rfl ?_
    refine w_ge (p3 := 38) rfl rfl (fun h => False.elim (by have h : 12 ≤ y4.toInt := h; omega)) (fun hb => ?_)
    refine w_n 2 (pc1 := 41) (ls1 := [some (.ref 67), some (.int x1), some (.int y2), some (.int y3), some (.int y4)]) (st1 := [.int y4, .ref 67]) (hp1 := (hz F A L)) rfl ?_
    refine w_c rfl rfl (t_km_isGuest ?_)
    show wl_E f _ _ mm243.2.2.2.2.2.2.2.2 44 [some (.ref 67), some (.int x1), some (.int y2), some (.int y3), some (.int y4)] [.int (km_isGuest (A 68) y4)] (hz F A L) _
    generalize hG117 : (km_isGuest (A 68) y4) = G117 at hE ⊢
    refine w_zeq (p3 := 47) rfl rfl (fun h => ?_) (fun h => ?_)
    · have h1 : G117 = 0 := h
      rw [if_pos h1] at hE
      refine w_n 2 (pc1 := 31) (ls1 := [some (.ref 67), some (.int x1), some (.int y2), some (.int y3), some (.int (y4 + 1))]) (st1 := []) (hp1 := (hz F A L)) rfl ?_
      subst T
      have hb2 := i_up (B := (12 : Int32)) hb
      have hb3 : y4.toInt < 12 := hb
      exact ih (show m = (12 - (y4 + 1).toInt).toNat by rw [hb2]; omega) (fun q2 q4 => cvE rfl rfl rfl (K q2 q4))
    · have h1 : ¬ G117 = 0 := h
      rw [if_neg h1] at hE
      refine w_n 2 (pc1 := 50) (ls1 := [some (.ref 67), some (.int x1), some (.int y2), some (.int y3), some (.int y4)]) (st1 := [.int y4, .int y2]) (hp1 := (hz F A L)) rfl ?_
      refine w_c rfl rfl (t_km_has ?_)
      show wl_E f _ _ mm243.2.2.2.2.2.2.2.2 53 [some (.ref 67), some (.int x1), some (.int y2), some (.int y3), some (.int y4)] [.int (km_has y2 y4)] (hz F A L) _
      generalize hG118 : (km_has y2 y4) = G118 at hE ⊢
      refine w_zeq (p3 := 56) rfl rfl (fun h => ?_) (fun h => ?_)
      · have h2 : G118 = 0 := h
        rw [if_pos h2] at hE
        refine w_n 3 (pc1 := 63) (ls1 := [some (.ref 67), some (.int x1), some (.int y2), some (.int y3), some (.int y4)]) (st1 := [.int y4, .ref 67, .int y2]) (hp1 := (hz F A L)) rfl ?_
        refine w_c rfl rfl (t_km_partyOf ?_)
        show wl_E f _ _ mm243.2.2.2.2.2.2.2.2 66 [some (.ref 67), some (.int x1), some (.int y2), some (.int y3), some (.int y4)] [.int (km_partyOf (F 67 3) (A 68) y4), .int y2] (hz F A L) _
        generalize hG124 : (km_partyOf (F 67 3) (A 68) y4) = G124 at hE ⊢
        refine w_n 8 (pc1 := 31) (ls1 := [some (.ref 67), some (.int x1), some (.int (y2 ||| G124)), some (.int (y3 + 1)), some (.int (y4 + 1))]) (st1 := []) (hp1 := (hz F A L)) rfl ?_
        subst T
        have hb2 := i_up (B := (12 : Int32)) hb
        have hb3 : y4.toInt < 12 := hb
        exact ih (show m = (12 - (y4 + 1).toInt).toNat by rw [hb2]; omega) (fun q2 q4 => cvE rfl rfl rfl (K q2 q4))
      · have h2 : ¬ G118 = 0 := h
        rw [if_neg h2] at hE
        refine w_n 3 (pc1 := 31) (ls1 := [some (.ref 67), some (.int x1), some (.int y2), some (.int y3), some (.int (y4 + 1))]) (st1 := []) (hp1 := (hz F A L)) rfl ?_
        subst T
        have hb2 := i_up (B := (12 : Int32)) hb
        have hb3 : y4.toInt < 12 := hb
        exact ih (show m = (12 - (y4 + 1).toInt).toNat by rw [hb2]; omega) (fun q2 q4 => cvE rfl rfl rfl (K q2 q4))
noncomputable def km_alike (f67_3 : Int32) (a68 : List Int32) (x1 : Int32) : Int32 := (if x1 = 100 then (km_alike_31 f67_3 a68 12 0 0 0) else (if (km_isGuest a68 x1) = 0 then (-1) else (km_partyOf f67_3 a68 x1)))
theorem t_km_alike {f D : Nat} {F : Nat → Nat → Int32} {A : Nat → List Int32} {L : Nat → List Int64} {Q : Option Value → sm_H → Prop} {x1 : Int32} (K : Q (some (.int (km_alike (F 67 3) (A 68) x1))) (hz F A L)) : wl_M f D 243 [.ref 67, .int x1] (hz F A L) Q := by
  generalize hT : (km_alike (F 67 3) (A 68) x1) = T at K
  have hE : T = (if x1 = 100 then (km_alike_31 (F 67 3) (A 68) 12 0 0 0) else (if (km_isGuest (A 68) x1) = 0 then (-1) else (km_partyOf (F 67 3) (A 68) x1))) := hT.symm
  clear hT
  refine w_m (E := mm243) rfl ?_
  show wl_E f f (D - 1) mm243.2.2.2.2.2.2.2.2 0 [some (.ref 67), some (.int x1), none, none, none] [] (hz F A L) Q
  refine w_n 2 (pc1 := 3) (ls1 := [some (.ref 67), some (.int x1), none, none, none]) (st1 := [.int 100, .int x1]) (hp1 := (hz F A L)) rfl ?_
  refine w_eq (p3 := 6) rfl rfl (fun h => ?_) (fun h => ?_)
  · have h1 : x1 = 100 := h
    rw [if_pos h1] at hE
    refine w_n 6 (pc1 := 31) (ls1 := [some (.ref 67), some (.int x1), some (.int 0), some (.int 0), some (.int 0)]) (st1 := []) (hp1 := (hz F A L)) rfl ?_
    refine t_km_alike_31 12 (show (12 : Nat) = (12 - (0 : Int32).toInt).toNat by have e0 : (0 : Int32).toInt = 0 := rfl; first | rfl | omega) ?_
    intro r1 r2
    show wl_E f _ _ mm243.2.2.2.2.2.2.2.2 78 [some (.ref 67), some (.int x1), some (.int r1), some (.int (km_alike_31 (F 67 3) (A 68) 12 0 0 0)), some (.int r2)] [] (hz F A L) _
    generalize hG125 : (km_alike_31 (F 67 3) (A 68) 12 0 0 0) = G125 at hE ⊢
    refine w_n 1 (pc1 := 79) (ls1 := [some (.ref 67), some (.int x1), some (.int r1), some (.int G125), some (.int r2)]) (st1 := [.int G125]) (hp1 := (hz F A L)) rfl ?_
    subst T
    exact w_ri rfl (cvQ rfl rfl rfl K)
  · have h1 : ¬ x1 = 100 := h
    rw [if_neg h1] at hE
    refine w_n 2 (pc1 := 8) (ls1 := [some (.ref 67), some (.int x1), none, none, none]) (st1 := [.int x1, .ref 67]) (hp1 := (hz F A L)) rfl ?_
    refine w_c rfl rfl (t_km_isGuest ?_)
    show wl_E f _ _ mm243.2.2.2.2.2.2.2.2 11 [some (.ref 67), some (.int x1), none, none, none] [.int (km_isGuest (A 68) x1)] (hz F A L) _
    generalize hG126 : (km_isGuest (A 68) x1) = G126 at hE ⊢
    refine w_zeq (p3 := 14) rfl rfl (fun h => ?_) (fun h => ?_)
    · have h2 : G126 = 0 := h
      rw [if_pos h2] at hE
      refine w_n 1 (pc1 := 23) (ls1 := [some (.ref 67), some (.int x1), none, none, none]) (st1 := [.int (-1)]) (hp1 := (hz F A L)) rfl ?_
      subst T
      exact w_ri rfl (cvQ rfl rfl rfl K)
    · have h2 : ¬ G126 = 0 := h
      rw [if_neg h2] at hE
      refine w_n 2 (pc1 := 16) (ls1 := [some (.ref 67), some (.int x1), none, none, none]) (st1 := [.int x1, .ref 67]) (hp1 := (hz F A L)) rfl ?_
      refine w_c rfl rfl (t_km_partyOf ?_)
      show wl_E f _ _ mm243.2.2.2.2.2.2.2.2 19 [some (.ref 67), some (.int x1), none, none, none] [.int (km_partyOf (F 67 3) (A 68) x1)] (hz F A L) _
      generalize hG127 : (km_partyOf (F 67 3) (A 68) x1) = G127 at hE ⊢
      refine w_n 1 (pc1 := 23) (ls1 := [some (.ref 67), some (.int x1), none, none, none]) (st1 := [.int G127]) (hp1 := (hz F A L)) rfl ?_
      subst T
      exact w_ri rfl (cvQ rfl rfl rfl K)
noncomputable def km_copies_68_69_2 (a68 : List Int32)  : Nat → Int32 → List Int32 → List Int32
  | 0, _, a69 => a69
  | m + 1, y2, a69 => (km_copies_68_69_2 a68 m (y2 + 1) (a69.set y2.toInt.toNat (a68.getD y2.toInt.toNat 0)))
theorem t_km_copies_68_69_2 {f : Nat} {Q : Option Value → sm_H → Prop} : ∀ (m : Nat) {B D : Nat} {F : Nat → Nat → Int32} {A : Nat → List Int32} {L : Nat → List Int64} {y2 : Int32}, m = (150 - y2.toInt).toNat → (∀ q2 : Int32, wl_E f B D mm199.2.2.2.2.2.2.2.2 21 [some (.ref 68), some (.ref 69), some (.int q2)] [] (hz F (uA A 69 (km_copies_68_69_2 (A 68) m y2 (A 69))) L) Q) → wl_E f B D mm199.2.2.2.2.2.2.2.2 2 [some (.ref 68), some (.ref 69), some (.int y2)] [] (hz F A L) Q := by
  intro m
  induction m with
  | zero =>
    intro B D F A L y2 hm K
    generalize hT : (km_copies_68_69_2 (A 68) 0 y2 (A 69)) = T at K
    have hE : T = (A 69) := hT.symm
    clear hT
    refine w_n 2 (pc1 := 6) (ls1 := [some (.ref 68), some (.ref 69), some (.int y2)]) (st1 := [.int 150, .int y2]) (hp1 := (hz F A L)) rfl ?_
    refine w_ge (p3 := 9) rfl rfl (fun hb => ?_) (fun h => False.elim (by have h : y2.toInt < 150 := h; omega))
    subst T
    exact cvE rfl (funext fun q => if k0 : q = 69 then by subst k0; exact Eq.trans (b := (A 69)) rfl rfl else by unfold uA; simp only [nb1 k0, cond_false]) rfl (K _)
  | succ m ih =>
    intro B D F A L y2 hm K
    generalize hT : (km_copies_68_69_2 (A 68) (m + 1) y2 (A 69)) = T at K
    have hE : T = (km_copies_68_69_2 (A 68) m (y2 + 1) ((A 69).set y2.toInt.toNat ((A 68).getD y2.toInt.toNat 0))) := hT.symm
    clear hT
    refine w_n 2 (pc1 := 6) (ls1 := [some (.ref 68), some (.ref 69), some (.int y2)]) (st1 := [.int 150, .int y2]) (hp1 := (hz F A L)) rfl ?_
    refine w_ge (p3 := 9) rfl rfl (fun h => False.elim (by have h : 150 ≤ y2.toInt := h; omega)) (fun hb => ?_)
    refine w_n 4 (pc1 := 13) (ls1 := [some (.ref 68), some (.ref 69), some (.int y2)]) (st1 := [.int y2, .ref 68, .int y2, .ref 69]) (hp1 := (hz F A L)) rfl ?_
    refine w_al (k := 68) (l := (A 68)) rfl rfl rfl (fun ab => ?_)
    refine w_as (k := 69) (l := (A 69)) (hp1 := (hz F (uA A 69 ((A 69).set y2.toInt.toNat ((A 68).getD y2.toInt.toNat 0))) L)) rfl rfl rfl (hz_s69 _) (fun ab => ?_)
    refine w_n 2 (pc1 := 2) (ls1 := [some (.ref 68), some (.ref 69), some (.int (y2 + 1))]) (st1 := []) (hp1 := (hz F (uA A 69 ((A 69).set y2.toInt.toNat ((A 68).getD y2.toInt.toNat 0))) L)) rfl ?_
    subst T
    have hb2 := i_up (B := (150 : Int32)) hb
    have hb3 : y2.toInt < 150 := hb
    exact ih (show m = (150 - (y2 + 1).toInt).toNat by rw [hb2]; omega) (fun q2 => cvE rfl (funext fun q => if k0 : q = 69 then by subst k0; exact Eq.trans (b := (km_copies_68_69_2 (A 68) m (y2 + 1) ((A 69).set y2.toInt.toNat ((A 68).getD y2.toInt.toNat 0)))) rfl rfl else by unfold uA; simp only [nb1 k0, cond_false]) rfl (K q2))
noncomputable def km_copies_68_69 (a68 : List Int32) (a69 : List Int32) : List Int32 := (km_copies_68_69_2 a68 150 0 a69)
theorem t_km_copies_68_69 {f D : Nat} {F : Nat → Nat → Int32} {A : Nat → List Int32} {L : Nat → List Int64} {Q : Option Value → sm_H → Prop} (K : Q none (hz F (uA A 69 (km_copies_68_69 (A 68) (A 69))) L)) : wl_M f D 199 [.ref 68, .ref 69] (hz F A L) Q := by
  generalize hT : (km_copies_68_69 (A 68) (A 69)) = T at K
  have hE : T = (km_copies_68_69_2 (A 68) 150 0 (A 69)) := hT.symm
  clear hT
  refine w_m (E := mm199) rfl ?_
  show wl_E f f (D - 1) mm199.2.2.2.2.2.2.2.2 0 [some (.ref 68), some (.ref 69), none] [] (hz F A L) Q
  refine w_n 2 (pc1 := 2) (ls1 := [some (.ref 68), some (.ref 69), some (.int 0)]) (st1 := []) (hp1 := (hz F A L)) rfl ?_
  refine t_km_copies_68_69_2 150 (show (150 : Nat) = (150 - (0 : Int32).toInt).toNat by have e0 : (0 : Int32).toInt = 0 := rfl; first | rfl | omega) ?_
  intro r1
  show wl_E f _ _ mm199.2.2.2.2.2.2.2.2 21 [some (.ref 68), some (.ref 69), some (.int r1)] [] (hz F (uA A 69 (km_copies_68_69_2 (A 68) 150 0 (A 69))) L) _
  generalize hG130 : (km_copies_68_69_2 (A 68) 150 0 (A 69)) = G130 at hE ⊢
  subst T
  exact w_r rfl rfl (cvQ rfl rfl rfl K)
noncomputable def km_feelsOne_2   : Nat → Int32 → List Int32 → List Int32
  | 0, _, a84 => a84
  | m + 1, y2, a84 => (km_feelsOne_2 m (y2 + 1) (a84.set y2.toInt.toNat 0))
theorem t_km_feelsOne_2 {f : Nat} {Q : Option Value → sm_H → Prop} : ∀ (m : Nat) {B D : Nat} {F : Nat → Nat → Int32} {A : Nat → List Int32} {L : Nat → List Int64} {x1 : Int32} {y2 : Int32}, m = (8 - y2.toInt).toNat → (∀ q2 : Int32, wl_E f B D mm179.2.2.2.2.2.2.2.2 21 [some (.ref 67), some (.int x1), some (.int q2)] [] (hz F (uA A 84 (km_feelsOne_2 m y2 (A 84))) L) Q) → wl_E f B D mm179.2.2.2.2.2.2.2.2 2 [some (.ref 67), some (.int x1), some (.int y2)] [] (hz F A L) Q := by
  intro m
  induction m with
  | zero =>
    intro B D F A L x1 y2 hm K
    generalize hT : (km_feelsOne_2 0 y2 (A 84)) = T at K
    have hE : T = (A 84) := hT.symm
    clear hT
    refine w_n 2 (pc1 := 5) (ls1 := [some (.ref 67), some (.int x1), some (.int y2)]) (st1 := [.int 8, .int y2]) (hp1 := (hz F A L)) rfl ?_
    refine w_ge (p3 := 8) rfl rfl (fun hb => ?_) (fun h => False.elim (by have h : y2.toInt < 8 := h; omega))
    subst T
    exact cvE rfl (funext fun q => if k0 : q = 84 then by subst k0; exact Eq.trans (b := (A 84)) rfl rfl else by unfold uA; simp only [nb1 k0, cond_false]) rfl (K _)
  | succ m ih =>
    intro B D F A L x1 y2 hm K
    generalize hT : (km_feelsOne_2 (m + 1) y2 (A 84)) = T at K
    have hE : T = (km_feelsOne_2 m (y2 + 1) ((A 84).set y2.toInt.toNat 0)) := hT.symm
    clear hT
    refine w_n 2 (pc1 := 5) (ls1 := [some (.ref 67), some (.int x1), some (.int y2)]) (st1 := [.int 8, .int y2]) (hp1 := (hz F A L)) rfl ?_
    refine w_ge (p3 := 8) rfl rfl (fun h => False.elim (by have h : 8 ≤ y2.toInt := h; omega)) (fun hb => ?_)
    refine w_n 4 (pc1 := 14) (ls1 := [some (.ref 67), some (.int x1), some (.int y2)]) (st1 := [.int 0, .int y2, .ref 84]) (hp1 := (hz F A L)) rfl ?_
    refine w_as (k := 84) (l := (A 84)) (hp1 := (hz F (uA A 84 ((A 84).set y2.toInt.toNat 0)) L)) rfl rfl rfl (hz_s84 _) (fun ab => ?_)
    refine w_n 2 (pc1 := 2) (ls1 := [some (.ref 67), some (.int x1), some (.int (y2 + 1))]) (st1 := []) (hp1 := (hz F (uA A 84 ((A 84).set y2.toInt.toNat 0)) L)) rfl ?_
    subst T
    have hb2 := i_up (B := (8 : Int32)) hb
    have hb3 : y2.toInt < 8 := hb
    exact ih (show m = (8 - (y2 + 1).toInt).toNat by rw [hb2]; omega) (fun q2 => cvE rfl (funext fun q => if k0 : q = 84 then by subst k0; exact Eq.trans (b := (km_feelsOne_2 m (y2 + 1) ((A 84).set y2.toInt.toNat 0))) rfl rfl else by unfold uA; simp only [nb1 k0, cond_false]) rfl (K q2))
noncomputable def km_feelsOne (a68 : List Int32) (a84 : List Int32) (x1 : Int32) : List Int32 := ((((((km_feelsOne_2 8 0 a84).set 0 x1).set 4 (a68.getD (12 + x1).toInt.toNat 0)).set 5 (a68.getD (36 + x1).toInt.toNat 0)).set 6 (a68.getD (60 + x1).toInt.toNat 0)).set 7 (a68.getD 147 0))
theorem t_km_feelsOne {f D : Nat} {F : Nat → Nat → Int32} {A : Nat → List Int32} {L : Nat → List Int64} {Q : Option Value → sm_H → Prop} {x1 : Int32} (K : Q none (hz F (uA A 84 (km_feelsOne (A 68) (A 84) x1)) L)) : wl_M f D 179 [.ref 67, .int x1] (hz F A L) Q := by
  generalize hT : (km_feelsOne (A 68) (A 84) x1) = T at K
  have hE : T = ((((((km_feelsOne_2 8 0 (A 84)).set 0 x1).set 4 ((A 68).getD (12 + x1).toInt.toNat 0)).set 5 ((A 68).getD (36 + x1).toInt.toNat 0)).set 6 ((A 68).getD (60 + x1).toInt.toNat 0)).set 7 ((A 68).getD 147 0)) := hT.symm
  clear hT
  refine w_m (E := mm179) rfl ?_
  show wl_E f f (D - 1) mm179.2.2.2.2.2.2.2.2 0 [some (.ref 67), some (.int x1), none] [] (hz F A L) Q
  refine w_n 2 (pc1 := 2) (ls1 := [some (.ref 67), some (.int x1), some (.int 0)]) (st1 := []) (hp1 := (hz F A L)) rfl ?_
  refine t_km_feelsOne_2 8 (show (8 : Nat) = (8 - (0 : Int32).toInt).toNat by have e0 : (0 : Int32).toInt = 0 := rfl; first | rfl | omega) ?_
  intro r1
  show wl_E f _ _ mm179.2.2.2.2.2.2.2.2 21 [some (.ref 67), some (.int x1), some (.int r1)] [] (hz F (uA A 84 (km_feelsOne_2 8 0 (A 84))) L) _
  generalize hG132 : (km_feelsOne_2 8 0 (A 84)) = G132 at hE ⊢
  refine w_n 4 (pc1 := 27) (ls1 := [some (.ref 67), some (.int x1), some (.int r1)]) (st1 := [.int x1, .int 0, .ref 84]) (hp1 := (hz F (uA A 84 G132) L)) rfl ?_
  refine w_as (k := 84) (l := G132) (hp1 := (hz F (uA (uA A 84 G132) 84 (G132.set 0 x1)) L)) rfl rfl rfl (hz_s84 _) (fun _ => ?_)
  refine w_n 8 (pc1 := 41) (ls1 := [some (.ref 67), some (.int x1), some (.int r1)]) (st1 := [.int (12 + x1), .ref 68, .int 4, .ref 84]) (hp1 := (hz F (uA (uA A 84 G132) 84 (G132.set 0 x1)) L)) rfl ?_
  refine w_al (k := 68) (l := (A 68)) rfl rfl rfl (fun _ => ?_)
  refine w_as (k := 84) (l := (G132.set 0 x1)) (hp1 := (hz F (uA (uA (uA A 84 G132) 84 (G132.set 0 x1)) 84 ((G132.set 0 x1).set 4 ((A 68).getD (12 + x1).toInt.toNat 0))) L)) rfl rfl rfl (hz_s84 _) (fun _ => ?_)
  refine w_n 8 (pc1 := 56) (ls1 := [some (.ref 67), some (.int x1), some (.int r1)]) (st1 := [.int (36 + x1), .ref 68, .int 5, .ref 84]) (hp1 := (hz F (uA (uA (uA A 84 G132) 84 (G132.set 0 x1)) 84 ((G132.set 0 x1).set 4 ((A 68).getD (12 + x1).toInt.toNat 0))) L)) rfl ?_
  refine w_al (k := 68) (l := (A 68)) rfl rfl rfl (fun _ => ?_)
  refine w_as (k := 84) (l := ((G132.set 0 x1).set 4 ((A 68).getD (12 + x1).toInt.toNat 0))) (hp1 := (hz F (uA (uA (uA (uA A 84 G132) 84 (G132.set 0 x1)) 84 ((G132.set 0 x1).set 4 ((A 68).getD (12 + x1).toInt.toNat 0))) 84 (((G132.set 0 x1).set 4 ((A 68).getD (12 + x1).toInt.toNat 0)).set 5 ((A 68).getD (36 + x1).toInt.toNat 0))) L)) rfl rfl rfl (hz_s84 _) (fun _ => ?_)
  refine w_n 8 (pc1 := 72) (ls1 := [some (.ref 67), some (.int x1), some (.int r1)]) (st1 := [.int (60 + x1), .ref 68, .int 6, .ref 84]) (hp1 := (hz F (uA (uA (uA (uA A 84 G132) 84 (G132.set 0 x1)) 84 ((G132.set 0 x1).set 4 ((A 68).getD (12 + x1).toInt.toNat 0))) 84 (((G132.set 0 x1).set 4 ((A 68).getD (12 + x1).toInt.toNat 0)).set 5 ((A 68).getD (36 + x1).toInt.toNat 0))) L)) rfl ?_
  refine w_al (k := 68) (l := (A 68)) rfl rfl rfl (fun _ => ?_)
  refine w_as (k := 84) (l := (((G132.set 0 x1).set 4 ((A 68).getD (12 + x1).toInt.toNat 0)).set 5 ((A 68).getD (36 + x1).toInt.toNat 0))) (hp1 := (hz F (uA (uA (uA (uA (uA A 84 G132) 84 (G132.set 0 x1)) 84 ((G132.set 0 x1).set 4 ((A 68).getD (12 + x1).toInt.toNat 0))) 84 (((G132.set 0 x1).set 4 ((A 68).getD (12 + x1).toInt.toNat 0)).set 5 ((A 68).getD (36 + x1).toInt.toNat 0))) 84 ((((G132.set 0 x1).set 4 ((A 68).getD (12 + x1).toInt.toNat 0)).set 5 ((A 68).getD (36 + x1).toInt.toNat 0)).set 6 ((A 68).getD (60 + x1).toInt.toNat 0))) L)) rfl rfl rfl (hz_s84 _) (fun _ => ?_)
  refine w_n 6 (pc1 := 87) (ls1 := [some (.ref 67), some (.int x1), some (.int r1)]) (st1 := [.int 147, .ref 68, .int 7, .ref 84]) (hp1 := (hz F (uA (uA (uA (uA (uA A 84 G132) 84 (G132.set 0 x1)) 84 ((G132.set 0 x1).set 4 ((A 68).getD (12 + x1).toInt.toNat 0))) 84 (((G132.set 0 x1).set 4 ((A 68).getD (12 + x1).toInt.toNat 0)).set 5 ((A 68).getD (36 + x1).toInt.toNat 0))) 84 ((((G132.set 0 x1).set 4 ((A 68).getD (12 + x1).toInt.toNat 0)).set 5 ((A 68).getD (36 + x1).toInt.toNat 0)).set 6 ((A 68).getD (60 + x1).toInt.toNat 0))) L)) rfl ?_
  refine w_al (k := 68) (l := (A 68)) rfl rfl rfl (fun _ => ?_)
  refine w_as (k := 84) (l := ((((G132.set 0 x1).set 4 ((A 68).getD (12 + x1).toInt.toNat 0)).set 5 ((A 68).getD (36 + x1).toInt.toNat 0)).set 6 ((A 68).getD (60 + x1).toInt.toNat 0))) (hp1 := (hz F (uA (uA (uA (uA (uA (uA A 84 G132) 84 (G132.set 0 x1)) 84 ((G132.set 0 x1).set 4 ((A 68).getD (12 + x1).toInt.toNat 0))) 84 (((G132.set 0 x1).set 4 ((A 68).getD (12 + x1).toInt.toNat 0)).set 5 ((A 68).getD (36 + x1).toInt.toNat 0))) 84 ((((G132.set 0 x1).set 4 ((A 68).getD (12 + x1).toInt.toNat 0)).set 5 ((A 68).getD (36 + x1).toInt.toNat 0)).set 6 ((A 68).getD (60 + x1).toInt.toNat 0))) 84 (((((G132.set 0 x1).set 4 ((A 68).getD (12 + x1).toInt.toNat 0)).set 5 ((A 68).getD (36 + x1).toInt.toNat 0)).set 6 ((A 68).getD (60 + x1).toInt.toNat 0)).set 7 ((A 68).getD 147 0))) L)) rfl rfl rfl (hz_s84 _) (fun _ => ?_)
  subst T
  exact w_r rfl rfl (cvQ rfl (funext fun q => if k0 : q = 84 then by subst k0; exact Eq.trans (b := (((((G132.set 0 x1).set 4 ((A 68).getD (12 + x1).toInt.toNat 0)).set 5 ((A 68).getD (36 + x1).toInt.toNat 0)).set 6 ((A 68).getD (60 + x1).toInt.toNat 0)).set 7 ((A 68).getD 147 0))) rfl rfl else by unfold uA; simp only [nb1 k0, cond_false]) rfl K)
noncomputable def km_reckon (x0 : Int32) (x1 : Int32) (x2 : Int32) : Int32 := (if x0 = 2 then (x1 + x2) else (if x0 = 3 then (x1 - x2) else (if x0 = 4 then (x1 * x2) else (if x0 = 5 then (x1 / x2) else (if x0 = 6 then (x1 - x1 / x2 * x2) else (if x0 = 7 then (if x1.toInt < x2.toInt then 1 else 0) else (if x0 = 8 then (if x2.toInt < x1.toInt then 1 else 0) else (if x1 = x2 then 1 else 0))))))))
theorem t_km_reckon {f D : Nat} {F : Nat → Nat → Int32} {A : Nat → List Int32} {L : Nat → List Int64} {Q : Option Value → sm_H → Prop} {x0 : Int32} {x1 : Int32} {x2 : Int32} (K : Q (some (.int (km_reckon x0 x1 x2))) (hz F A L)) : wl_M f D 182 [.int x0, .int x1, .int x2] (hz F A L) Q := by
  generalize hT : (km_reckon x0 x1 x2) = T at K
  have hE : T = (if x0 = 2 then (x1 + x2) else (if x0 = 3 then (x1 - x2) else (if x0 = 4 then (x1 * x2) else (if x0 = 5 then (x1 / x2) else (if x0 = 6 then (x1 - x1 / x2 * x2) else (if x0 = 7 then (if x1.toInt < x2.toInt then 1 else 0) else (if x0 = 8 then (if x2.toInt < x1.toInt then 1 else 0) else (if x1 = x2 then 1 else 0)))))))) := hT.symm
  clear hT
  refine w_m (E := mm182) rfl ?_
  show wl_E f f (D - 1) mm182.2.2.2.2.2.2.2.2 0 [some (.int x0), some (.int x1), some (.int x2)] [] (hz F A L) Q
  refine w_n 1 (pc1 := 1) (ls1 := [some (.int x0), some (.int x1), some (.int x2)]) (st1 := [.int x0]) (hp1 := (hz F A L)) rfl ?_
  by_cases h : x0 = 2
  · have h1 : x0 = 2 := h
    rw [if_pos h1] at hE
    refine w_k h1 ?_
    refine w_n 1 (pc1 := 44) (ls1 := [some (.int x0), some (.int x1), some (.int x2)]) (st1 := []) (hp1 := (hz F A L)) rfl ?_
    refine w_n 3 (pc1 := 47) (ls1 := [some (.int x0), some (.int x1), some (.int x2)]) (st1 := [.int (x1 + x2)]) (hp1 := (hz F A L)) rfl ?_
    subst T
    exact w_ri rfl (cvQ rfl rfl rfl K)
  · have h1 : ¬ x0 = 2 := h
    rw [if_neg h1] at hE
    by_cases h : x0 = 3
    · have h2 : x0 = 3 := h
      rw [if_pos h2] at hE
      refine w_k h2 ?_
      refine w_n 1 (pc1 := 48) (ls1 := [some (.int x0), some (.int x1), some (.int x2)]) (st1 := []) (hp1 := (hz F A L)) rfl ?_
      refine w_n 3 (pc1 := 51) (ls1 := [some (.int x0), some (.int x1), some (.int x2)]) (st1 := [.int (x1 - x2)]) (hp1 := (hz F A L)) rfl ?_
      subst T
      exact w_ri rfl (cvQ rfl rfl rfl K)
    · have h2 : ¬ x0 = 3 := h
      rw [if_neg h2] at hE
      by_cases h : x0 = 4
      · have h3 : x0 = 4 := h
        rw [if_pos h3] at hE
        refine w_k h3 ?_
        refine w_n 1 (pc1 := 52) (ls1 := [some (.int x0), some (.int x1), some (.int x2)]) (st1 := []) (hp1 := (hz F A L)) rfl ?_
        refine w_n 3 (pc1 := 55) (ls1 := [some (.int x0), some (.int x1), some (.int x2)]) (st1 := [.int (x1 * x2)]) (hp1 := (hz F A L)) rfl ?_
        subst T
        exact w_ri rfl (cvQ rfl rfl rfl K)
      · have h3 : ¬ x0 = 4 := h
        rw [if_neg h3] at hE
        by_cases h : x0 = 5
        · have h4 : x0 = 5 := h
          rw [if_pos h4] at hE
          refine w_k h4 ?_
          refine w_n 1 (pc1 := 56) (ls1 := [some (.int x0), some (.int x1), some (.int x2)]) (st1 := []) (hp1 := (hz F A L)) rfl ?_
          refine w_n 2 (pc1 := 58) (ls1 := [some (.int x0), some (.int x1), some (.int x2)]) (st1 := [.int x2, .int x1]) (hp1 := (hz F A L)) rfl ?_
          refine w_dv rfl rfl (fun _ => ?_)
          subst T
          exact w_ri rfl (cvQ rfl rfl rfl K)
        · have h4 : ¬ x0 = 5 := h
          rw [if_neg h4] at hE
          by_cases h : x0 = 6
          · have h5 : x0 = 6 := h
            rw [if_pos h5] at hE
            refine w_k h5 ?_
            refine w_n 1 (pc1 := 60) (ls1 := [some (.int x0), some (.int x1), some (.int x2)]) (st1 := []) (hp1 := (hz F A L)) rfl ?_
            refine w_n 2 (pc1 := 62) (ls1 := [some (.int x0), some (.int x1), some (.int x2)]) (st1 := [.int x2, .int x1]) (hp1 := (hz F A L)) rfl ?_
            refine w_rm rfl rfl (fun _ => ?_)
            subst T
            exact w_ri rfl (cvQ rfl rfl rfl K)
          · have h5 : ¬ x0 = 6 := h
            rw [if_neg h5] at hE
            by_cases h : x0 = 7
            · have h6 : x0 = 7 := h
              rw [if_pos h6] at hE
              refine w_k h6 ?_
              refine w_n 1 (pc1 := 64) (ls1 := [some (.int x0), some (.int x1), some (.int x2)]) (st1 := []) (hp1 := (hz F A L)) rfl ?_
              refine w_n 2 (pc1 := 66) (ls1 := [some (.int x0), some (.int x1), some (.int x2)]) (st1 := [.int x2, .int x1]) (hp1 := (hz F A L)) rfl ?_
              refine w_ge (p3 := 69) rfl rfl (fun h => ?_) (fun h => ?_)
              · have h7 : x2.toInt ≤ x1.toInt := h
                rw [if_neg (Int.not_lt.mpr h7)] at hE
                refine w_n 1 (pc1 := 74) (ls1 := [some (.int x0), some (.int x1), some (.int x2)]) (st1 := [.int 0]) (hp1 := (hz F A L)) rfl ?_
                subst T
                exact w_ri rfl (cvQ rfl rfl rfl K)
              · have h7 : x1.toInt < x2.toInt := h
                rw [if_pos h7] at hE
                refine w_n 2 (pc1 := 74) (ls1 := [some (.int x0), some (.int x1), some (.int x2)]) (st1 := [.int 1]) (hp1 := (hz F A L)) rfl ?_
                subst T
                exact w_ri rfl (cvQ rfl rfl rfl K)
            · have h6 : ¬ x0 = 7 := h
              rw [if_neg h6] at hE
              by_cases h : x0 = 8
              · have h8 : x0 = 8 := h
                rw [if_pos h8] at hE
                refine w_k h8 ?_
                refine w_n 1 (pc1 := 75) (ls1 := [some (.int x0), some (.int x1), some (.int x2)]) (st1 := []) (hp1 := (hz F A L)) rfl ?_
                refine w_n 2 (pc1 := 77) (ls1 := [some (.int x0), some (.int x1), some (.int x2)]) (st1 := [.int x2, .int x1]) (hp1 := (hz F A L)) rfl ?_
                refine w_le (p3 := 80) rfl rfl (fun h => ?_) (fun h => ?_)
                · have h9 : x1.toInt ≤ x2.toInt := h
                  rw [if_neg (Int.not_lt.mpr h9)] at hE
                  refine w_n 1 (pc1 := 85) (ls1 := [some (.int x0), some (.int x1), some (.int x2)]) (st1 := [.int 0]) (hp1 := (hz F A L)) rfl ?_
                  subst T
                  exact w_ri rfl (cvQ rfl rfl rfl K)
                · have h9 : x2.toInt < x1.toInt := h
                  rw [if_pos h9] at hE
                  refine w_n 2 (pc1 := 85) (ls1 := [some (.int x0), some (.int x1), some (.int x2)]) (st1 := [.int 1]) (hp1 := (hz F A L)) rfl ?_
                  subst T
                  exact w_ri rfl (cvQ rfl rfl rfl K)
              · have h8 : ¬ x0 = 8 := h
                rw [if_neg h8] at hE
                have n0 : ¬ x0.toInt = 2 := fun z => h1 (Int32.toInt_inj.mp (show _ = (2 : Int32).toInt from z))
                have n1 : ¬ x0.toInt = 3 := fun z => h2 (Int32.toInt_inj.mp (show _ = (3 : Int32).toInt from z))
                have n2 : ¬ x0.toInt = 4 := fun z => h3 (Int32.toInt_inj.mp (show _ = (4 : Int32).toInt from z))
                have n3 : ¬ x0.toInt = 5 := fun z => h4 (Int32.toInt_inj.mp (show _ = (5 : Int32).toInt from z))
                have n4 : ¬ x0.toInt = 6 := fun z => h5 (Int32.toInt_inj.mp (show _ = (6 : Int32).toInt from z))
                have n5 : ¬ x0.toInt = 7 := fun z => h6 (Int32.toInt_inj.mp (show _ = (7 : Int32).toInt from z))
                have n6 : ¬ x0.toInt = 8 := fun z => h8 (Int32.toInt_inj.mp (show _ = (8 : Int32).toInt from z))
                refine w_tsw rfl (by omega) (p1 := 86) (by decide) (by decide) ?_
                refine w_n 2 (pc1 := 88) (ls1 := [some (.int x0), some (.int x1), some (.int x2)]) (st1 := [.int x2, .int x1]) (hp1 := (hz F A L)) rfl ?_
                refine w_ne (p3 := 91) rfl rfl (fun h => ?_) (fun h => ?_)
                · have h10 : ¬ x1 = x2 := h
                  rw [if_neg h10] at hE
                  refine w_n 1 (pc1 := 96) (ls1 := [some (.int x0), some (.int x1), some (.int x2)]) (st1 := [.int 0]) (hp1 := (hz F A L)) rfl ?_
                  subst T
                  exact w_ri rfl (cvQ rfl rfl rfl K)
                · have h10 : x1 = x2 := h
                  rw [if_pos h10] at hE
                  refine w_n 2 (pc1 := 96) (ls1 := [some (.int x0), some (.int x1), some (.int x2)]) (st1 := [.int 1]) (hp1 := (hz F A L)) rfl ?_
                  subst T
                  exact w_ri rfl (cvQ rfl rfl rfl K)
noncomputable def km_comesTo_16 (a78 : List Int32) (a84 : List Int32) (x2 : Int32) (x4 : Int32) : Nat → Int32 → Int32 → List Int32 → Int32 × List Int32
  | 0, _, _, a83 => (0, a83)
  | m + 1, y3, y5, a83 => (if y5.toInt < x2.toInt then (if ((a78.getD y5.toInt.toNat 0) / 1048576) = 0 then (km_comesTo_16 a78 a84 x2 x4 m (y3 + 1) (y5 + 1) (a83.set y3.toInt.toNat ((a78.getD y5.toInt.toNat 0) - (a78.getD y5.toInt.toNat 0) / 1048576 * 1048576))) else (if ((a78.getD y5.toInt.toNat 0) / 1048576) = 1 then (km_comesTo_16 a78 a84 x2 x4 m (y3 + 1) (y5 + 1) (a83.set y3.toInt.toNat (a84.getD ((a78.getD y5.toInt.toNat 0) - (a78.getD y5.toInt.toNat 0) / 1048576 * 1048576).toInt.toNat 0))) else (if ((a78.getD y5.toInt.toNat 0) / 1048576) = 10 then (km_comesTo_16 a78 a84 x2 x4 m y3 (y5 + 1) (a83.set (y3 - 1).toInt.toNat (1 - (a83.getD (y3 - 1).toInt.toNat 0)))) else (if ((a78.getD y5.toInt.toNat 0) / 1048576) = 11 then (if ((a78.getD y5.toInt.toNat 0) / 1048576) = 12 then (if (a83.getD (y3 - 1).toInt.toNat 0) = 1 then (km_comesTo_16 a78 a84 x2 x4 m y3 (x4 + ((a78.getD y5.toInt.toNat 0) - (a78.getD y5.toInt.toNat 0) / 1048576 * 1048576)) a83) else (km_comesTo_16 a78 a84 x2 x4 m (y3 - 1) (y5 + 1) a83)) else (if (a83.getD (y3 - 1).toInt.toNat 0) = 0 then (km_comesTo_16 a78 a84 x2 x4 m y3 (x4 + ((a78.getD y5.toInt.toNat 0) - (a78.getD y5.toInt.toNat 0) / 1048576 * 1048576)) a83) else (km_comesTo_16 a78 a84 x2 x4 m (y3 - 1) (y5 + 1) a83))) else (if ((a78.getD y5.toInt.toNat 0) / 1048576) = 12 then (if (a83.getD (y3 - 1).toInt.toNat 0) = 1 then (km_comesTo_16 a78 a84 x2 x4 m y3 (x4 + ((a78.getD y5.toInt.toNat 0) - (a78.getD y5.toInt.toNat 0) / 1048576 * 1048576)) a83) else (km_comesTo_16 a78 a84 x2 x4 m (y3 - 1) (y5 + 1) a83)) else (if ((a78.getD y5.toInt.toNat 0) / 1048576) = 5 then (if (a83.getD (y3 - 1).toInt.toNat 0) = 0 then (0, a83) else (km_comesTo_16 a78 a84 x2 x4 m (y3 - 1) (y5 + 1) (a83.set ((y3 - 1) - 1).toInt.toNat (km_reckon ((a78.getD y5.toInt.toNat 0) / 1048576) (a83.getD ((y3 - 1) - 1).toInt.toNat 0) (a83.getD (y3 - 1).toInt.toNat 0))))) else (if ((a78.getD y5.toInt.toNat 0) / 1048576) = 6 then (if (a83.getD (y3 - 1).toInt.toNat 0) = 0 then (0, a83) else (km_comesTo_16 a78 a84 x2 x4 m (y3 - 1) (y5 + 1) (a83.set ((y3 - 1) - 1).toInt.toNat (km_reckon ((a78.getD y5.toInt.toNat 0) / 1048576) (a83.getD ((y3 - 1) - 1).toInt.toNat 0) (a83.getD (y3 - 1).toInt.toNat 0))))) else (km_comesTo_16 a78 a84 x2 x4 m (y3 - 1) (y5 + 1) (a83.set ((y3 - 1) - 1).toInt.toNat (km_reckon ((a78.getD y5.toInt.toNat 0) / 1048576) (a83.getD ((y3 - 1) - 1).toInt.toNat 0) (a83.getD (y3 - 1).toInt.toNat 0))))))))))) else ((a83.getD 0 0), a83))
theorem t_km_comesTo_16 {f : Nat} {Q : Option Value → sm_H → Prop} : ∀ (m : Nat) (B : Nat) {D : Nat} {F : Nat → Nat → Int32} {A : Nat → List Int32} {L : Nat → List Int64} {x1 : Int32} {x2 : Int32} {y3 : Int32} {x4 : Int32} {y5 : Int32} {o6 : Option Value} {o7 : Option Value}, B ≤ m → (Q (some (.int ((km_comesTo_16 (A 78) (A 84) x2 x4 m y3 y5 (A 83)).1))) (hz F (uA A 83 ((km_comesTo_16 (A 78) (A 84) x2 x4 m y3 y5 (A 83)).2)) L)) → wl_E f B D mm181.2.2.2.2.2.2.2.2 16 [some (.ref 67), some (.int x1), some (.int x2), some (.int y3), some (.int x4), some (.int y5), o6, o7] [] (hz F A L) Q := by
  intro m
  induction m with
  | zero =>
    intro B D F A L x1 x2 y3 x4 y5 o6 o7 hm K
    rw [show B = 0 by omega]
    exact w_0
  | succ m ih =>
    intro B D F A L x1 x2 y3 x4 y5 o6 o7 hm K
    cases B with
    | zero => exact w_0
    | succ B =>
      generalize hT : (km_comesTo_16 (A 78) (A 84) x2 x4 (m + 1) y3 y5 (A 83)) = T at K
      have hE : T = (if y5.toInt < x2.toInt then (if (((A 78).getD y5.toInt.toNat 0) / 1048576) = 0 then (km_comesTo_16 (A 78) (A 84) x2 x4 m (y3 + 1) (y5 + 1) ((A 83).set y3.toInt.toNat (((A 78).getD y5.toInt.toNat 0) - ((A 78).getD y5.toInt.toNat 0) / 1048576 * 1048576))) else (if (((A 78).getD y5.toInt.toNat 0) / 1048576) = 1 then (km_comesTo_16 (A 78) (A 84) x2 x4 m (y3 + 1) (y5 + 1) ((A 83).set y3.toInt.toNat ((A 84).getD (((A 78).getD y5.toInt.toNat 0) - ((A 78).getD y5.toInt.toNat 0) / 1048576 * 1048576).toInt.toNat 0))) else (if (((A 78).getD y5.toInt.toNat 0) / 1048576) = 10 then (km_comesTo_16 (A 78) (A 84) x2 x4 m y3 (y5 + 1) ((A 83).set (y3 - 1).toInt.toNat (1 - ((A 83).getD (y3 - 1).toInt.toNat 0)))) else (if (((A 78).getD y5.toInt.toNat 0) / 1048576) = 11 then (if (((A 78).getD y5.toInt.toNat 0) / 1048576) = 12 then (if ((A 83).getD (y3 - 1).toInt.toNat 0) = 1 then (km_comesTo_16 (A 78) (A 84) x2 x4 m y3 (x4 + (((A 78).getD y5.toInt.toNat 0) - ((A 78).getD y5.toInt.toNat 0) / 1048576 * 1048576)) (A 83)) else (km_comesTo_16 (A 78) (A 84) x2 x4 m (y3 - 1) (y5 + 1) (A 83))) else (if ((A 83).getD (y3 - 1).toInt.toNat 0) = 0 then (km_comesTo_16 (A 78) (A 84) x2 x4 m y3 (x4 + (((A 78).getD y5.toInt.toNat 0) - ((A 78).getD y5.toInt.toNat 0) / 1048576 * 1048576)) (A 83)) else (km_comesTo_16 (A 78) (A 84) x2 x4 m (y3 - 1) (y5 + 1) (A 83)))) else (if (((A 78).getD y5.toInt.toNat 0) / 1048576) = 12 then (if ((A 83).getD (y3 - 1).toInt.toNat 0) = 1 then (km_comesTo_16 (A 78) (A 84) x2 x4 m y3 (x4 + (((A 78).getD y5.toInt.toNat 0) - ((A 78).getD y5.toInt.toNat 0) / 1048576 * 1048576)) (A 83)) else (km_comesTo_16 (A 78) (A 84) x2 x4 m (y3 - 1) (y5 + 1) (A 83))) else (if (((A 78).getD y5.toInt.toNat 0) / 1048576) = 5 then (if ((A 83).getD (y3 - 1).toInt.toNat 0) = 0 then (0, (A 83)) else (km_comesTo_16 (A 78) (A 84) x2 x4 m (y3 - 1) (y5 + 1) ((A 83).set ((y3 - 1) - 1).toInt.toNat (km_reckon (((A 78).getD y5.toInt.toNat 0) / 1048576) ((A 83).getD ((y3 - 1) - 1).toInt.toNat 0) ((A 83).getD (y3 - 1).toInt.toNat 0))))) else (if (((A 78).getD y5.toInt.toNat 0) / 1048576) = 6 then (if ((A 83).getD (y3 - 1).toInt.toNat 0) = 0 then (0, (A 83)) else (km_comesTo_16 (A 78) (A 84) x2 x4 m (y3 - 1) (y5 + 1) ((A 83).set ((y3 - 1) - 1).toInt.toNat (km_reckon (((A 78).getD y5.toInt.toNat 0) / 1048576) ((A 83).getD ((y3 - 1) - 1).toInt.toNat 0) ((A 83).getD (y3 - 1).toInt.toNat 0))))) else (km_comesTo_16 (A 78) (A 84) x2 x4 m (y3 - 1) (y5 + 1) ((A 83).set ((y3 - 1) - 1).toInt.toNat (km_reckon (((A 78).getD y5.toInt.toNat 0) / 1048576) ((A 83).getD ((y3 - 1) - 1).toInt.toNat 0) ((A 83).getD (y3 - 1).toInt.toNat 0))))))))))) else (((A 83).getD 0 0), (A 83))) := hT.symm
      clear hT
      refine w_n1 (pc1 := 18) (ls1 := [some (.ref 67), some (.int x1), some (.int x2), some (.int y3), some (.int x4), some (.int y5), o6, o7]) (st1 := [.int y5]) (hp1 := (hz F A L)) rfl ?_
      refine w_n 1 (pc1 := 19) (ls1 := [some (.ref 67), some (.int x1), some (.int x2), some (.int y3), some (.int x4), some (.int y5), o6, o7]) (st1 := [.int x2, .int y5]) (hp1 := (hz F A L)) rfl ?_
      refine w_ge (p3 := 22) rfl rfl (fun h => ?_) (fun h => ?_)
      · have h1 : x2.toInt ≤ y5.toInt := h
        rw [if_neg (Int.not_lt.mpr h1)] at hE
        refine w_n 3 (pc1 := 238) (ls1 := [some (.ref 67), some (.int x1), some (.int x2), some (.int y3), some (.int x4), some (.int y5), o6, o7]) (st1 := [.int 0, .ref 83]) (hp1 := (hz F A L)) rfl ?_
        refine w_al (k := 83) (l := (A 83)) rfl rfl rfl (fun _ => ?_)
        subst T
        exact w_ri rfl (cvQ rfl (funext fun q => if k0 : q = 83 then by subst k0; exact Eq.trans (b := (A 83)) rfl rfl else by unfold uA; simp only [nb1 k0, cond_false]) rfl K)
      · have h1 : y5.toInt < x2.toInt := h
        rw [if_pos h1] at hE
        refine w_n 3 (pc1 := 28) (ls1 := [some (.ref 67), some (.int x1), some (.int x2), some (.int y3), some (.int x4), some (.int y5), o6, o7]) (st1 := [.int y5, .ref 78]) (hp1 := (hz F A L)) rfl ?_
        refine w_al (k := 78) (l := (A 78)) rfl rfl rfl (fun _ => ?_)
        refine w_n 1 (pc1 := 31) (ls1 := [some (.ref 67), some (.int x1), some (.int x2), some (.int y3), some (.int x4), some (.int y5), o6, o7]) (st1 := [.int 1048576, .int ((A 78).getD y5.toInt.toNat 0)]) (hp1 := (hz F A L)) rfl ?_
        refine w_dv rfl rfl (fun _ => ?_)
        refine w_n 4 (pc1 := 40) (ls1 := [some (.ref 67), some (.int x1), some (.int x2), some (.int y3), some (.int x4), some (.int y5), some (.int (((A 78).getD y5.toInt.toNat 0) / 1048576)), o7]) (st1 := [.int y5, .ref 78]) (hp1 := (hz F A L)) rfl ?_
        refine w_al (k := 78) (l := (A 78)) rfl rfl rfl (fun _ => ?_)
        refine w_n 1 (pc1 := 43) (ls1 := [some (.ref 67), some (.int x1), some (.int x2), some (.int y3), some (.int x4), some (.int y5), some (.int (((A 78).getD y5.toInt.toNat 0) / 1048576)), o7]) (st1 := [.int 1048576, .int ((A 78).getD y5.toInt.toNat 0)]) (hp1 := (hz F A L)) rfl ?_
        refine w_rm rfl rfl (fun _ => ?_)
        refine w_n 6 (pc1 := 54) (ls1 := [some (.ref 67), some (.int x1), some (.int x2), some (.int y3), some (.int x4), some (.int (y5 + 1)), some (.int (((A 78).getD y5.toInt.toNat 0) / 1048576)), some (.int (((A 78).getD y5.toInt.toNat 0) - ((A 78).getD y5.toInt.toNat 0) / 1048576 * 1048576))]) (st1 := [.int (((A 78).getD y5.toInt.toNat 0) / 1048576)]) (hp1 := (hz F A L)) rfl ?_
        refine w_zeq (p3 := 57) rfl rfl (fun h => ?_) (fun h => ?_)
        · have h2 : (((A 78).getD y5.toInt.toNat 0) / 1048576) = 0 := h
          rw [if_pos h2] at hE
          refine w_n 4 (pc1 := 70) (ls1 := [some (.ref 67), some (.int x1), some (.int x2), some (.int y3), some (.int x4), some (.int (y5 + 1)), some (.int (((A 78).getD y5.toInt.toNat 0) / 1048576)), some (.int (((A 78).getD y5.toInt.toNat 0) - ((A 78).getD y5.toInt.toNat 0) / 1048576 * 1048576))]) (st1 := [.int (((A 78).getD y5.toInt.toNat 0) / 1048576), .int y3, .ref 83]) (hp1 := (hz F A L)) rfl ?_
          refine w_zne (p3 := 73) rfl rfl (fun h => absurd h2 h) (fun _ => ?_)
          refine w_n 2 (pc1 := 85) (ls1 := [some (.ref 67), some (.int x1), some (.int x2), some (.int y3), some (.int x4), some (.int (y5 + 1)), some (.int (((A 78).getD y5.toInt.toNat 0) / 1048576)), some (.int (((A 78).getD y5.toInt.toNat 0) - ((A 78).getD y5.toInt.toNat 0) / 1048576 * 1048576))]) (st1 := [.int (((A 78).getD y5.toInt.toNat 0) - ((A 78).getD y5.toInt.toNat 0) / 1048576 * 1048576), .int y3, .ref 83]) (hp1 := (hz F A L)) rfl ?_
          refine w_as (k := 83) (l := (A 83)) (hp1 := (hz F (uA A 83 ((A 83).set y3.toInt.toNat (((A 78).getD y5.toInt.toNat 0) - ((A 78).getD y5.toInt.toNat 0) / 1048576 * 1048576))) L)) rfl rfl rfl (hz_s83 _) (fun _ => ?_)
          refine w_n 6 (pc1 := 16) (ls1 := [some (.ref 67), some (.int x1), some (.int x2), some (.int (y3 + 1)), some (.int x4), some (.int (y5 + 1)), some (.int (((A 78).getD y5.toInt.toNat 0) / 1048576)), some (.int (((A 78).getD y5.toInt.toNat 0) - ((A 78).getD y5.toInt.toNat 0) / 1048576 * 1048576))]) (st1 := []) (hp1 := (hz F (uA A 83 ((A 83).set y3.toInt.toNat (((A 78).getD y5.toInt.toNat 0) - ((A 78).getD y5.toInt.toNat 0) / 1048576 * 1048576))) L)) rfl ?_
          subst T
          exact ih _ (by omega) (cvQ rfl (funext fun q => if k0 : q = 83 then by subst k0; exact Eq.trans (b := (km_comesTo_16 (A 78) (A 84) x2 x4 m (y3 + 1) (y5 + 1) ((A 83).set y3.toInt.toNat (((A 78).getD y5.toInt.toNat 0) - ((A 78).getD y5.toInt.toNat 0) / 1048576 * 1048576))).2) rfl rfl else by unfold uA; simp only [nb1 k0, cond_false]) rfl K)
        · have h2 : ¬ (((A 78).getD y5.toInt.toNat 0) / 1048576) = 0 := h
          rw [if_neg h2] at hE
          refine w_n 2 (pc1 := 60) (ls1 := [some (.ref 67), some (.int x1), some (.int x2), some (.int y3), some (.int x4), some (.int (y5 + 1)), some (.int (((A 78).getD y5.toInt.toNat 0) / 1048576)), some (.int (((A 78).getD y5.toInt.toNat 0) - ((A 78).getD y5.toInt.toNat 0) / 1048576 * 1048576))]) (st1 := [.int 1, .int (((A 78).getD y5.toInt.toNat 0) / 1048576)]) (hp1 := (hz F A L)) rfl ?_
          refine w_ne (p3 := 63) rfl rfl (fun h => ?_) (fun h => ?_)
          · have h3 : ¬ (((A 78).getD y5.toInt.toNat 0) / 1048576) = 1 := h
            rw [if_neg h3] at hE
            refine w_n 2 (pc1 := 97) (ls1 := [some (.ref 67), some (.int x1), some (.int x2), some (.int y3), some (.int x4), some (.int (y5 + 1)), some (.int (((A 78).getD y5.toInt.toNat 0) / 1048576)), some (.int (((A 78).getD y5.toInt.toNat 0) - ((A 78).getD y5.toInt.toNat 0) / 1048576 * 1048576))]) (st1 := [.int 10, .int (((A 78).getD y5.toInt.toNat 0) / 1048576)]) (hp1 := (hz F A L)) rfl ?_
            refine w_ne (p3 := 100) rfl rfl (fun h => ?_) (fun h => ?_)
            · have h4 : ¬ (((A 78).getD y5.toInt.toNat 0) / 1048576) = 10 := h
              rw [if_neg h4] at hE
              refine w_n 2 (pc1 := 125) (ls1 := [some (.ref 67), some (.int x1), some (.int x2), some (.int y3), some (.int x4), some (.int (y5 + 1)), some (.int (((A 78).getD y5.toInt.toNat 0) / 1048576)), some (.int (((A 78).getD y5.toInt.toNat 0) - ((A 78).getD y5.toInt.toNat 0) / 1048576 * 1048576))]) (st1 := [.int 11, .int (((A 78).getD y5.toInt.toNat 0) / 1048576)]) (hp1 := (hz F A L)) rfl ?_
              refine w_eq (p3 := 128) rfl rfl (fun h => ?_) (fun h => ?_)
              · have h5 : (((A 78).getD y5.toInt.toNat 0) / 1048576) = 11 := h
                rw [if_pos h5] at hE
                refine w_n 5 (pc1 := 142) (ls1 := [some (.ref 67), some (.int x1), some (.int x2), some (.int y3), some (.int x4), some (.int (y5 + 1)), some (.int (((A 78).getD y5.toInt.toNat 0) / 1048576)), some (.int (((A 78).getD y5.toInt.toNat 0) - ((A 78).getD y5.toInt.toNat 0) / 1048576 * 1048576))]) (st1 := [.int (y3 - 1), .ref 83]) (hp1 := (hz F A L)) rfl ?_
                refine w_al (k := 83) (l := (A 83)) rfl rfl rfl (fun _ => ?_)
                refine w_n 2 (pc1 := 147) (ls1 := [some (.ref 67), some (.int x1), some (.int x2), some (.int y3), some (.int x4), some (.int (y5 + 1)), some (.int (((A 78).getD y5.toInt.toNat 0) / 1048576)), some (.int (((A 78).getD y5.toInt.toNat 0) - ((A 78).getD y5.toInt.toNat 0) / 1048576 * 1048576))]) (st1 := [.int 12, .int (((A 78).getD y5.toInt.toNat 0) / 1048576), .int ((A 83).getD (y3 - 1).toInt.toNat 0)]) (hp1 := (hz F A L)) rfl ?_
                refine w_ne (p3 := 150) rfl rfl (fun h => ?_) (fun h => ?_)
                · have h6 : ¬ (((A 78).getD y5.toInt.toNat 0) / 1048576) = 12 := h
                  rw [if_neg h6] at hE
                  refine w_n 1 (pc1 := 155) (ls1 := [some (.ref 67), some (.int x1), some (.int x2), some (.int y3), some (.int x4), some (.int (y5 + 1)), some (.int (((A 78).getD y5.toInt.toNat 0) / 1048576)), some (.int (((A 78).getD y5.toInt.toNat 0) - ((A 78).getD y5.toInt.toNat 0) / 1048576 * 1048576))]) (st1 := [.int 0, .int ((A 83).getD (y3 - 1).toInt.toNat 0)]) (hp1 := (hz F A L)) rfl ?_
                  refine w_ne (p3 := 158) rfl rfl (fun h => ?_) (fun h => ?_)
                  · have h7 : ¬ ((A 83).getD (y3 - 1).toInt.toNat 0) = 0 := h
                    rw [if_neg h7] at hE
                    refine w_n 6 (pc1 := 16) (ls1 := [some (.ref 67), some (.int x1), some (.int x2), some (.int (y3 - 1)), some (.int x4), some (.int (y5 + 1)), some (.int (((A 78).getD y5.toInt.toNat 0) / 1048576)), some (.int (((A 78).getD y5.toInt.toNat 0) - ((A 78).getD y5.toInt.toNat 0) / 1048576 * 1048576))]) (st1 := []) (hp1 := (hz F A L)) rfl ?_
                    subst T
                    exact ih _ (by omega) (cvQ rfl (funext fun q => if k0 : q = 83 then by subst k0; exact Eq.trans (b := (km_comesTo_16 (A 78) (A 84) x2 x4 m (y3 - 1) (y5 + 1) (A 83)).2) rfl rfl else by unfold uA; simp only [nb1 k0, cond_false]) rfl K)
                  · have h7 : ((A 83).getD (y3 - 1).toInt.toNat 0) = 0 := h
                    rw [if_pos h7] at hE
                    refine w_n 6 (pc1 := 16) (ls1 := [some (.ref 67), some (.int x1), some (.int x2), some (.int y3), some (.int x4), some (.int (x4 + (((A 78).getD y5.toInt.toNat 0) - ((A 78).getD y5.toInt.toNat 0) / 1048576 * 1048576))), some (.int (((A 78).getD y5.toInt.toNat 0) / 1048576)), some (.int (((A 78).getD y5.toInt.toNat 0) - ((A 78).getD y5.toInt.toNat 0) / 1048576 * 1048576))]) (st1 := []) (hp1 := (hz F A L)) rfl ?_
                    subst T
                    exact ih _ (by omega) (cvQ rfl (funext fun q => if k0 : q = 83 then by subst k0; exact Eq.trans (b := (km_comesTo_16 (A 78) (A 84) x2 x4 m y3 (x4 + (((A 78).getD y5.toInt.toNat 0) - ((A 78).getD y5.toInt.toNat 0) / 1048576 * 1048576)) (A 83)).2) rfl rfl else by unfold uA; simp only [nb1 k0, cond_false]) rfl K)
                · have h6 : (((A 78).getD y5.toInt.toNat 0) / 1048576) = 12 := h
                  rw [if_pos h6] at hE
                  refine w_n 2 (pc1 := 155) (ls1 := [some (.ref 67), some (.int x1), some (.int x2), some (.int y3), some (.int x4), some (.int (y5 + 1)), some (.int (((A 78).getD y5.toInt.toNat 0) / 1048576)), some (.int (((A 78).getD y5.toInt.toNat 0) - ((A 78).getD y5.toInt.toNat 0) / 1048576 * 1048576))]) (st1 := [.int 1, .int ((A 83).getD (y3 - 1).toInt.toNat 0)]) (hp1 := (hz F A L)) rfl ?_
                  refine w_ne (p3 := 158) rfl rfl (fun h => ?_) (fun h => ?_)
                  · have h8 : ¬ ((A 83).getD (y3 - 1).toInt.toNat 0) = 1 := h
                    rw [if_neg h8] at hE
                    refine w_n 6 (pc1 := 16) (ls1 := [some (.ref 67), some (.int x1), some (.int x2), some (.int (y3 - 1)), some (.int x4), some (.int (y5 + 1)), some (.int (((A 78).getD y5.toInt.toNat 0) / 1048576)), some (.int (((A 78).getD y5.toInt.toNat 0) - ((A 78).getD y5.toInt.toNat 0) / 1048576 * 1048576))]) (st1 := []) (hp1 := (hz F A L)) rfl ?_
                    subst T
                    exact ih _ (by omega) (cvQ rfl (funext fun q => if k0 : q = 83 then by subst k0; exact Eq.trans (b := (km_comesTo_16 (A 78) (A 84) x2 x4 m (y3 - 1) (y5 + 1) (A 83)).2) rfl rfl else by unfold uA; simp only [nb1 k0, cond_false]) rfl K)
                  · have h8 : ((A 83).getD (y3 - 1).toInt.toNat 0) = 1 := h
                    rw [if_pos h8] at hE
                    refine w_n 6 (pc1 := 16) (ls1 := [some (.ref 67), some (.int x1), some (.int x2), some (.int y3), some (.int x4), some (.int (x4 + (((A 78).getD y5.toInt.toNat 0) - ((A 78).getD y5.toInt.toNat 0) / 1048576 * 1048576))), some (.int (((A 78).getD y5.toInt.toNat 0) / 1048576)), some (.int (((A 78).getD y5.toInt.toNat 0) - ((A 78).getD y5.toInt.toNat 0) / 1048576 * 1048576))]) (st1 := []) (hp1 := (hz F A L)) rfl ?_
                    subst T
                    exact ih _ (by omega) (cvQ rfl (funext fun q => if k0 : q = 83 then by subst k0; exact Eq.trans (b := (km_comesTo_16 (A 78) (A 84) x2 x4 m y3 (x4 + (((A 78).getD y5.toInt.toNat 0) - ((A 78).getD y5.toInt.toNat 0) / 1048576 * 1048576)) (A 83)).2) rfl rfl else by unfold uA; simp only [nb1 k0, cond_false]) rfl K)
              · have h5 : ¬ (((A 78).getD y5.toInt.toNat 0) / 1048576) = 11 := h
                rw [if_neg h5] at hE
                refine w_n 2 (pc1 := 132) (ls1 := [some (.ref 67), some (.int x1), some (.int x2), some (.int y3), some (.int x4), some (.int (y5 + 1)), some (.int (((A 78).getD y5.toInt.toNat 0) / 1048576)), some (.int (((A 78).getD y5.toInt.toNat 0) - ((A 78).getD y5.toInt.toNat 0) / 1048576 * 1048576))]) (st1 := [.int 12, .int (((A 78).getD y5.toInt.toNat 0) / 1048576)]) (hp1 := (hz F A L)) rfl ?_
                refine w_ne (p3 := 135) rfl rfl (fun h => ?_) (fun h => ?_)
                · have h9 : ¬ (((A 78).getD y5.toInt.toNat 0) / 1048576) = 12 := h
                  rw [if_neg h9] at hE
                  refine w_n 6 (pc1 := 182) (ls1 := [some (.ref 67), some (.int x1), some (.int x2), some (.int (y3 - 1)), some (.int x4), some (.int (y5 + 1)), some (.int (((A 78).getD y5.toInt.toNat 0) / 1048576)), some (.int (((A 78).getD y5.toInt.toNat 0) - ((A 78).getD y5.toInt.toNat 0) / 1048576 * 1048576))]) (st1 := [.int 5, .int (((A 78).getD y5.toInt.toNat 0) / 1048576)]) (hp1 := (hz F A L)) rfl ?_
                  refine w_eq (p3 := 185) rfl rfl (fun h => ?_) (fun h => ?_)
                  · have h10 : (((A 78).getD y5.toInt.toNat 0) / 1048576) = 5 := h
                    rw [if_pos h10] at hE
                    refine w_n 3 (pc1 := 197) (ls1 := [some (.ref 67), some (.int x1), some (.int x2), some (.int (y3 - 1)), some (.int x4), some (.int (y5 + 1)), some (.int (((A 78).getD y5.toInt.toNat 0) / 1048576)), some (.int (((A 78).getD y5.toInt.toNat 0) - ((A 78).getD y5.toInt.toNat 0) / 1048576 * 1048576))]) (st1 := [.int (y3 - 1), .ref 83]) (hp1 := (hz F A L)) rfl ?_
                    refine w_al (k := 83) (l := (A 83)) rfl rfl rfl (fun _ => ?_)
                    refine w_zne (p3 := 201) rfl rfl (fun h => ?_) (fun h => ?_)
                    · have h11 : ¬ ((A 83).getD (y3 - 1).toInt.toNat 0) = 0 := h
                      rw [if_neg h11] at hE
                      refine w_n 11 (pc1 := 219) (ls1 := [some (.ref 67), some (.int x1), some (.int x2), some (.int (y3 - 1)), some (.int x4), some (.int (y5 + 1)), some (.int (((A 78).getD y5.toInt.toNat 0) / 1048576)), some (.int (((A 78).getD y5.toInt.toNat 0) - ((A 78).getD y5.toInt.toNat 0) / 1048576 * 1048576))]) (st1 := [.int ((y3 - 1) - 1), .ref 83, .int (((A 78).getD y5.toInt.toNat 0) / 1048576), .int ((y3 - 1) - 1), .ref 83]) (hp1 := (hz F A L)) rfl ?_
                      refine w_al (k := 83) (l := (A 83)) rfl rfl rfl (fun _ => ?_)
                      refine w_n 3 (pc1 := 225) (ls1 := [some (.ref 67), some (.int x1), some (.int x2), some (.int (y3 - 1)), some (.int x4), some (.int (y5 + 1)), some (.int (((A 78).getD y5.toInt.toNat 0) / 1048576)), some (.int (((A 78).getD y5.toInt.toNat 0) - ((A 78).getD y5.toInt.toNat 0) / 1048576 * 1048576))]) (st1 := [.int (y3 - 1), .ref 83, .int ((A 83).getD ((y3 - 1) - 1).toInt.toNat 0), .int (((A 78).getD y5.toInt.toNat 0) / 1048576), .int ((y3 - 1) - 1), .ref 83]) (hp1 := (hz F A L)) rfl ?_
                      refine w_al (k := 83) (l := (A 83)) rfl rfl rfl (fun _ => ?_)
                      refine w_c rfl rfl (t_km_reckon ?_)
                      show wl_E f _ _ mm181.2.2.2.2.2.2.2.2 229 [some (.ref 67), some (.int x1), some (.int x2), some (.int (y3 - 1)), some (.int x4), some (.int (y5 + 1)), some (.int (((A 78).getD y5.toInt.toNat 0) / 1048576)), some (.int (((A 78).getD y5.toInt.toNat 0) - ((A 78).getD y5.toInt.toNat 0) / 1048576 * 1048576))] [.int (km_reckon (((A 78).getD y5.toInt.toNat 0) / 1048576) ((A 83).getD ((y3 - 1) - 1).toInt.toNat 0) ((A 83).getD (y3 - 1).toInt.toNat 0)), .int ((y3 - 1) - 1), .ref 83] (hz F A L) _
                      generalize hG134 : (km_reckon (((A 78).getD y5.toInt.toNat 0) / 1048576) ((A 83).getD ((y3 - 1) - 1).toInt.toNat 0) ((A 83).getD (y3 - 1).toInt.toNat 0)) = G134 at hE ⊢
                      refine w_as (k := 83) (l := (A 83)) (hp1 := (hz F (uA A 83 ((A 83).set ((y3 - 1) - 1).toInt.toNat G134)) L)) rfl rfl rfl (hz_s83 _) (fun _ => ?_)
                      refine w_n 1 (pc1 := 16) (ls1 := [some (.ref 67), some (.int x1), some (.int x2), some (.int (y3 - 1)), some (.int x4), some (.int (y5 + 1)), some (.int (((A 78).getD y5.toInt.toNat 0) / 1048576)), some (.int (((A 78).getD y5.toInt.toNat 0) - ((A 78).getD y5.toInt.toNat 0) / 1048576 * 1048576))]) (st1 := []) (hp1 := (hz F (uA A 83 ((A 83).set ((y3 - 1) - 1).toInt.toNat G134)) L)) rfl ?_
                      subst T
                      exact ih _ (by omega) (cvQ rfl (funext fun q => if k0 : q = 83 then by subst k0; exact Eq.trans (b := (km_comesTo_16 (A 78) (A 84) x2 x4 m (y3 - 1) (y5 + 1) ((A 83).set ((y3 - 1) - 1).toInt.toNat G134)).2) rfl rfl else by unfold uA; simp only [nb1 k0, cond_false]) rfl K)
                    · have h11 : ((A 83).getD (y3 - 1).toInt.toNat 0) = 0 := h
                      rw [if_pos h11] at hE
                      refine w_n 1 (pc1 := 202) (ls1 := [some (.ref 67), some (.int x1), some (.int x2), some (.int (y3 - 1)), some (.int x4), some (.int (y5 + 1)), some (.int (((A 78).getD y5.toInt.toNat 0) / 1048576)), some (.int (((A 78).getD y5.toInt.toNat 0) - ((A 78).getD y5.toInt.toNat 0) / 1048576 * 1048576))]) (st1 := [.int 0]) (hp1 := (hz F A L)) rfl ?_
                      subst T
                      exact w_ri rfl (cvQ rfl (funext fun q => if k0 : q = 83 then by subst k0; exact Eq.trans (b := (A 83)) rfl rfl else by unfold uA; simp only [nb1 k0, cond_false]) rfl K)
                  · have h10 : ¬ (((A 78).getD y5.toInt.toNat 0) / 1048576) = 5 := h
                    rw [if_neg h10] at hE
                    refine w_n 2 (pc1 := 189) (ls1 := [some (.ref 67), some (.int x1), some (.int x2), some (.int (y3 - 1)), some (.int x4), some (.int (y5 + 1)), some (.int (((A 78).getD y5.toInt.toNat 0) / 1048576)), some (.int (((A 78).getD y5.toInt.toNat 0) - ((A 78).getD y5.toInt.toNat 0) / 1048576 * 1048576))]) (st1 := [.int 6, .int (((A 78).getD y5.toInt.toNat 0) / 1048576)]) (hp1 := (hz F A L)) rfl ?_
                    refine w_ne (p3 := 192) rfl rfl (fun h => ?_) (fun h => ?_)
                    · have h12 : ¬ (((A 78).getD y5.toInt.toNat 0) / 1048576) = 6 := h
                      rw [if_neg h12] at hE
                      refine w_n 11 (pc1 := 219) (ls1 := [some (.ref 67), some (.int x1), some (.int x2), some (.int (y3 - 1)), some (.int x4), some (.int (y5 + 1)), some (.int (((A 78).getD y5.toInt.toNat 0) / 1048576)), some (.int (((A 78).getD y5.toInt.toNat 0) - ((A 78).getD y5.toInt.toNat 0) / 1048576 * 1048576))]) (st1 := [.int ((y3 - 1) - 1), .ref 83, .int (((A 78).getD y5.toInt.toNat 0) / 1048576), .int ((y3 - 1) - 1), .ref 83]) (hp1 := (hz F A L)) rfl ?_
                      refine w_al (k := 83) (l := (A 83)) rfl rfl rfl (fun _ => ?_)
                      refine w_n 3 (pc1 := 225) (ls1 := [some (.ref 67), some (.int x1), some (.int x2), some (.int (y3 - 1)), some (.int x4), some (.int (y5 + 1)), some (.int (((A 78).getD y5.toInt.toNat 0) / 1048576)), some (.int (((A 78).getD y5.toInt.toNat 0) - ((A 78).getD y5.toInt.toNat 0) / 1048576 * 1048576))]) (st1 := [.int (y3 - 1), .ref 83, .int ((A 83).getD ((y3 - 1) - 1).toInt.toNat 0), .int (((A 78).getD y5.toInt.toNat 0) / 1048576), .int ((y3 - 1) - 1), .ref 83]) (hp1 := (hz F A L)) rfl ?_
                      refine w_al (k := 83) (l := (A 83)) rfl rfl rfl (fun _ => ?_)
                      refine w_c rfl rfl (t_km_reckon ?_)
                      show wl_E f _ _ mm181.2.2.2.2.2.2.2.2 229 [some (.ref 67), some (.int x1), some (.int x2), some (.int (y3 - 1)), some (.int x4), some (.int (y5 + 1)), some (.int (((A 78).getD y5.toInt.toNat 0) / 1048576)), some (.int (((A 78).getD y5.toInt.toNat 0) - ((A 78).getD y5.toInt.toNat 0) / 1048576 * 1048576))] [.int (km_reckon (((A 78).getD y5.toInt.toNat 0) / 1048576) ((A 83).getD ((y3 - 1) - 1).toInt.toNat 0) ((A 83).getD (y3 - 1).toInt.toNat 0)), .int ((y3 - 1) - 1), .ref 83] (hz F A L) _
                      generalize hG135 : (km_reckon (((A 78).getD y5.toInt.toNat 0) / 1048576) ((A 83).getD ((y3 - 1) - 1).toInt.toNat 0) ((A 83).getD (y3 - 1).toInt.toNat 0)) = G135 at hE ⊢
                      refine w_as (k := 83) (l := (A 83)) (hp1 := (hz F (uA A 83 ((A 83).set ((y3 - 1) - 1).toInt.toNat G135)) L)) rfl rfl rfl (hz_s83 _) (fun _ => ?_)
                      refine w_n 1 (pc1 := 16) (ls1 := [some (.ref 67), some (.int x1), some (.int x2), some (.int (y3 - 1)), some (.int x4), some (.int (y5 + 1)), some (.int (((A 78).getD y5.toInt.toNat 0) / 1048576)), some (.int (((A 78).getD y5.toInt.toNat 0) - ((A 78).getD y5.toInt.toNat 0) / 1048576 * 1048576))]) (st1 := []) (hp1 := (hz F (uA A 83 ((A 83).set ((y3 - 1) - 1).toInt.toNat G135)) L)) rfl ?_
                      subst T
                      exact ih _ (by omega) (cvQ rfl (funext fun q => if k0 : q = 83 then by subst k0; exact Eq.trans (b := (km_comesTo_16 (A 78) (A 84) x2 x4 m (y3 - 1) (y5 + 1) ((A 83).set ((y3 - 1) - 1).toInt.toNat G135)).2) rfl rfl else by unfold uA; simp only [nb1 k0, cond_false]) rfl K)
                    · have h12 : (((A 78).getD y5.toInt.toNat 0) / 1048576) = 6 := h
                      rw [if_pos h12] at hE
                      refine w_n 3 (pc1 := 197) (ls1 := [some (.ref 67), some (.int x1), some (.int x2), some (.int (y3 - 1)), some (.int x4), some (.int (y5 + 1)), some (.int (((A 78).getD y5.toInt.toNat 0) / 1048576)), some (.int (((A 78).getD y5.toInt.toNat 0) - ((A 78).getD y5.toInt.toNat 0) / 1048576 * 1048576))]) (st1 := [.int (y3 - 1), .ref 83]) (hp1 := (hz F A L)) rfl ?_
                      refine w_al (k := 83) (l := (A 83)) rfl rfl rfl (fun _ => ?_)
                      refine w_zne (p3 := 201) rfl rfl (fun h => ?_) (fun h => ?_)
                      · have h13 : ¬ ((A 83).getD (y3 - 1).toInt.toNat 0) = 0 := h
                        rw [if_neg h13] at hE
                        refine w_n 11 (pc1 := 219) (ls1 := [some (.ref 67), some (.int x1), some (.int x2), some (.int (y3 - 1)), some (.int x4), some (.int (y5 + 1)), some (.int (((A 78).getD y5.toInt.toNat 0) / 1048576)), some (.int (((A 78).getD y5.toInt.toNat 0) - ((A 78).getD y5.toInt.toNat 0) / 1048576 * 1048576))]) (st1 := [.int ((y3 - 1) - 1), .ref 83, .int (((A 78).getD y5.toInt.toNat 0) / 1048576), .int ((y3 - 1) - 1), .ref 83]) (hp1 := (hz F A L)) rfl ?_
                        refine w_al (k := 83) (l := (A 83)) rfl rfl rfl (fun _ => ?_)
                        refine w_n 3 (pc1 := 225) (ls1 := [some (.ref 67), some (.int x1), some (.int x2), some (.int (y3 - 1)), some (.int x4), some (.int (y5 + 1)), some (.int (((A 78).getD y5.toInt.toNat 0) / 1048576)), some (.int (((A 78).getD y5.toInt.toNat 0) - ((A 78).getD y5.toInt.toNat 0) / 1048576 * 1048576))]) (st1 := [.int (y3 - 1), .ref 83, .int ((A 83).getD ((y3 - 1) - 1).toInt.toNat 0), .int (((A 78).getD y5.toInt.toNat 0) / 1048576), .int ((y3 - 1) - 1), .ref 83]) (hp1 := (hz F A L)) rfl ?_
                        refine w_al (k := 83) (l := (A 83)) rfl rfl rfl (fun _ => ?_)
                        refine w_c rfl rfl (t_km_reckon ?_)
                        show wl_E f _ _ mm181.2.2.2.2.2.2.2.2 229 [some (.ref 67), some (.int x1), some (.int x2), some (.int (y3 - 1)), some (.int x4), some (.int (y5 + 1)), some (.int (((A 78).getD y5.toInt.toNat 0) / 1048576)), some (.int (((A 78).getD y5.toInt.toNat 0) - ((A 78).getD y5.toInt.toNat 0) / 1048576 * 1048576))] [.int (km_reckon (((A 78).getD y5.toInt.toNat 0) / 1048576) ((A 83).getD ((y3 - 1) - 1).toInt.toNat 0) ((A 83).getD (y3 - 1).toInt.toNat 0)), .int ((y3 - 1) - 1), .ref 83] (hz F A L) _
                        generalize hG136 : (km_reckon (((A 78).getD y5.toInt.toNat 0) / 1048576) ((A 83).getD ((y3 - 1) - 1).toInt.toNat 0) ((A 83).getD (y3 - 1).toInt.toNat 0)) = G136 at hE ⊢
                        refine w_as (k := 83) (l := (A 83)) (hp1 := (hz F (uA A 83 ((A 83).set ((y3 - 1) - 1).toInt.toNat G136)) L)) rfl rfl rfl (hz_s83 _) (fun _ => ?_)
                        refine w_n 1 (pc1 := 16) (ls1 := [some (.ref 67), some (.int x1), some (.int x2), some (.int (y3 - 1)), some (.int x4), some (.int (y5 + 1)), some (.int (((A 78).getD y5.toInt.toNat 0) / 1048576)), some (.int (((A 78).getD y5.toInt.toNat 0) - ((A 78).getD y5.toInt.toNat 0) / 1048576 * 1048576))]) (st1 := []) (hp1 := (hz F (uA A 83 ((A 83).set ((y3 - 1) - 1).toInt.toNat G136)) L)) rfl ?_
                        subst T
                        exact ih _ (by omega) (cvQ rfl (funext fun q => if k0 : q = 83 then by subst k0; exact Eq.trans (b := (km_comesTo_16 (A 78) (A 84) x2 x4 m (y3 - 1) (y5 + 1) ((A 83).set ((y3 - 1) - 1).toInt.toNat G136)).2) rfl rfl else by unfold uA; simp only [nb1 k0, cond_false]) rfl K)
                      · have h13 : ((A 83).getD (y3 - 1).toInt.toNat 0) = 0 := h
                        rw [if_pos h13] at hE
                        refine w_n 1 (pc1 := 202) (ls1 := [some (.ref 67), some (.int x1), some (.int x2), some (.int (y3 - 1)), some (.int x4), some (.int (y5 + 1)), some (.int (((A 78).getD y5.toInt.toNat 0) / 1048576)), some (.int (((A 78).getD y5.toInt.toNat 0) - ((A 78).getD y5.toInt.toNat 0) / 1048576 * 1048576))]) (st1 := [.int 0]) (hp1 := (hz F A L)) rfl ?_
                        subst T
                        exact w_ri rfl (cvQ rfl (funext fun q => if k0 : q = 83 then by subst k0; exact Eq.trans (b := (A 83)) rfl rfl else by unfold uA; simp only [nb1 k0, cond_false]) rfl K)
                · have h9 : (((A 78).getD y5.toInt.toNat 0) / 1048576) = 12 := h
                  rw [if_pos h9] at hE
                  refine w_n 5 (pc1 := 142) (ls1 := [some (.ref 67), some (.int x1), some (.int x2), some (.int y3), some (.int x4), some (.int (y5 + 1)), some (.int (((A 78).getD y5.toInt.toNat 0) / 1048576)), some (.int (((A 78).getD y5.toInt.toNat 0) - ((A 78).getD y5.toInt.toNat 0) / 1048576 * 1048576))]) (st1 := [.int (y3 - 1), .ref 83]) (hp1 := (hz F A L)) rfl ?_
                  refine w_al (k := 83) (l := (A 83)) rfl rfl rfl (fun _ => ?_)
                  refine w_n 2 (pc1 := 147) (ls1 := [some (.ref 67), some (.int x1), some (.int x2), some (.int y3), some (.int x4), some (.int (y5 + 1)), some (.int (((A 78).getD y5.toInt.toNat 0) / 1048576)), some (.int (((A 78).getD y5.toInt.toNat 0) - ((A 78).getD y5.toInt.toNat 0) / 1048576 * 1048576))]) (st1 := [.int 12, .int (((A 78).getD y5.toInt.toNat 0) / 1048576), .int ((A 83).getD (y3 - 1).toInt.toNat 0)]) (hp1 := (hz F A L)) rfl ?_
                  refine w_ne (p3 := 150) rfl rfl (fun h => absurd h9 h) (fun _ => ?_)
                  refine w_n 2 (pc1 := 155) (ls1 := [some (.ref 67), some (.int x1), some (.int x2), some (.int y3), some (.int x4), some (.int (y5 + 1)), some (.int (((A 78).getD y5.toInt.toNat 0) / 1048576)), some (.int (((A 78).getD y5.toInt.toNat 0) - ((A 78).getD y5.toInt.toNat 0) / 1048576 * 1048576))]) (st1 := [.int 1, .int ((A 83).getD (y3 - 1).toInt.toNat 0)]) (hp1 := (hz F A L)) rfl ?_
                  refine w_ne (p3 := 158) rfl rfl (fun h => ?_) (fun h => ?_)
                  · have h14 : ¬ ((A 83).getD (y3 - 1).toInt.toNat 0) = 1 := h
                    rw [if_neg h14] at hE
                    refine w_n 6 (pc1 := 16) (ls1 := [some (.ref 67), some (.int x1), some (.int x2), some (.int (y3 - 1)), some (.int x4), some (.int (y5 + 1)), some (.int (((A 78).getD y5.toInt.toNat 0) / 1048576)), some (.int (((A 78).getD y5.toInt.toNat 0) - ((A 78).getD y5.toInt.toNat 0) / 1048576 * 1048576))]) (st1 := []) (hp1 := (hz F A L)) rfl ?_
                    subst T
                    exact ih _ (by omega) (cvQ rfl (funext fun q => if k0 : q = 83 then by subst k0; exact Eq.trans (b := (km_comesTo_16 (A 78) (A 84) x2 x4 m (y3 - 1) (y5 + 1) (A 83)).2) rfl rfl else by unfold uA; simp only [nb1 k0, cond_false]) rfl K)
                  · have h14 : ((A 83).getD (y3 - 1).toInt.toNat 0) = 1 := h
                    rw [if_pos h14] at hE
                    refine w_n 6 (pc1 := 16) (ls1 := [some (.ref 67), some (.int x1), some (.int x2), some (.int y3), some (.int x4), some (.int (x4 + (((A 78).getD y5.toInt.toNat 0) - ((A 78).getD y5.toInt.toNat 0) / 1048576 * 1048576))), some (.int (((A 78).getD y5.toInt.toNat 0) / 1048576)), some (.int (((A 78).getD y5.toInt.toNat 0) - ((A 78).getD y5.toInt.toNat 0) / 1048576 * 1048576))]) (st1 := []) (hp1 := (hz F A L)) rfl ?_
                    subst T
                    exact ih _ (by omega) (cvQ rfl (funext fun q => if k0 : q = 83 then by subst k0; exact Eq.trans (b := (km_comesTo_16 (A 78) (A 84) x2 x4 m y3 (x4 + (((A 78).getD y5.toInt.toNat 0) - ((A 78).getD y5.toInt.toNat 0) / 1048576 * 1048576)) (A 83)).2) rfl rfl else by unfold uA; simp only [nb1 k0, cond_false]) rfl K)
            · have h4 : (((A 78).getD y5.toInt.toNat 0) / 1048576) = 10 := h
              rw [if_pos h4] at hE
              refine w_n 11 (pc1 := 115) (ls1 := [some (.ref 67), some (.int x1), some (.int x2), some (.int y3), some (.int x4), some (.int (y5 + 1)), some (.int (((A 78).getD y5.toInt.toNat 0) / 1048576)), some (.int (((A 78).getD y5.toInt.toNat 0) - ((A 78).getD y5.toInt.toNat 0) / 1048576 * 1048576))]) (st1 := [.int (y3 - 1), .ref 83, .int 1, .int (y3 - 1), .ref 83]) (hp1 := (hz F A L)) rfl ?_
              refine w_al (k := 83) (l := (A 83)) rfl rfl rfl (fun _ => ?_)
              refine w_n 1 (pc1 := 117) (ls1 := [some (.ref 67), some (.int x1), some (.int x2), some (.int y3), some (.int x4), some (.int (y5 + 1)), some (.int (((A 78).getD y5.toInt.toNat 0) / 1048576)), some (.int (((A 78).getD y5.toInt.toNat 0) - ((A 78).getD y5.toInt.toNat 0) / 1048576 * 1048576))]) (st1 := [.int (1 - ((A 83).getD (y3 - 1).toInt.toNat 0)), .int (y3 - 1), .ref 83]) (hp1 := (hz F A L)) rfl ?_
              refine w_as (k := 83) (l := (A 83)) (hp1 := (hz F (uA A 83 ((A 83).set (y3 - 1).toInt.toNat (1 - ((A 83).getD (y3 - 1).toInt.toNat 0)))) L)) rfl rfl rfl (hz_s83 _) (fun _ => ?_)
              refine w_n 2 (pc1 := 16) (ls1 := [some (.ref 67), some (.int x1), some (.int x2), some (.int y3), some (.int x4), some (.int (y5 + 1)), some (.int (((A 78).getD y5.toInt.toNat 0) / 1048576)), some (.int (((A 78).getD y5.toInt.toNat 0) - ((A 78).getD y5.toInt.toNat 0) / 1048576 * 1048576))]) (st1 := []) (hp1 := (hz F (uA A 83 ((A 83).set (y3 - 1).toInt.toNat (1 - ((A 83).getD (y3 - 1).toInt.toNat 0)))) L)) rfl ?_
              subst T
              exact ih _ (by omega) (cvQ rfl (funext fun q => if k0 : q = 83 then by subst k0; exact Eq.trans (b := (km_comesTo_16 (A 78) (A 84) x2 x4 m y3 (y5 + 1) ((A 83).set (y3 - 1).toInt.toNat (1 - ((A 83).getD (y3 - 1).toInt.toNat 0)))).2) rfl rfl else by unfold uA; simp only [nb1 k0, cond_false]) rfl K)
          · have h3 : (((A 78).getD y5.toInt.toNat 0) / 1048576) = 1 := h
            rw [if_pos h3] at hE
            refine w_n 4 (pc1 := 70) (ls1 := [some (.ref 67), some (.int x1), some (.int x2), some (.int y3), some (.int x4), some (.int (y5 + 1)), some (.int (((A 78).getD y5.toInt.toNat 0) / 1048576)), some (.int (((A 78).getD y5.toInt.toNat 0) - ((A 78).getD y5.toInt.toNat 0) / 1048576 * 1048576))]) (st1 := [.int (((A 78).getD y5.toInt.toNat 0) / 1048576), .int y3, .ref 83]) (hp1 := (hz F A L)) rfl ?_
            refine w_zne (p3 := 73) rfl rfl (fun _ => ?_) (fun h => absurd h h2)
            refine w_n 3 (pc1 := 84) (ls1 := [some (.ref 67), some (.int x1), some (.int x2), some (.int y3), some (.int x4), some (.int (y5 + 1)), some (.int (((A 78).getD y5.toInt.toNat 0) / 1048576)), some (.int (((A 78).getD y5.toInt.toNat 0) - ((A 78).getD y5.toInt.toNat 0) / 1048576 * 1048576))]) (st1 := [.int (((A 78).getD y5.toInt.toNat 0) - ((A 78).getD y5.toInt.toNat 0) / 1048576 * 1048576), .ref 84, .int y3, .ref 83]) (hp1 := (hz F A L)) rfl ?_
            refine w_al (k := 84) (l := (A 84)) rfl rfl rfl (fun _ => ?_)
            refine w_as (k := 83) (l := (A 83)) (hp1 := (hz F (uA A 83 ((A 83).set y3.toInt.toNat ((A 84).getD (((A 78).getD y5.toInt.toNat 0) - ((A 78).getD y5.toInt.toNat 0) / 1048576 * 1048576).toInt.toNat 0))) L)) rfl rfl rfl (hz_s83 _) (fun _ => ?_)
            refine w_n 6 (pc1 := 16) (ls1 := [some (.ref 67), some (.int x1), some (.int x2), some (.int (y3 + 1)), some (.int x4), some (.int (y5 + 1)), some (.int (((A 78).getD y5.toInt.toNat 0) / 1048576)), some (.int (((A 78).getD y5.toInt.toNat 0) - ((A 78).getD y5.toInt.toNat 0) / 1048576 * 1048576))]) (st1 := []) (hp1 := (hz F (uA A 83 ((A 83).set y3.toInt.toNat ((A 84).getD (((A 78).getD y5.toInt.toNat 0) - ((A 78).getD y5.toInt.toNat 0) / 1048576 * 1048576).toInt.toNat 0))) L)) rfl ?_
            subst T
            exact ih _ (by omega) (cvQ rfl (funext fun q => if k0 : q = 83 then by subst k0; exact Eq.trans (b := (km_comesTo_16 (A 78) (A 84) x2 x4 m (y3 + 1) (y5 + 1) ((A 83).set y3.toInt.toNat ((A 84).getD (((A 78).getD y5.toInt.toNat 0) - ((A 78).getD y5.toInt.toNat 0) / 1048576 * 1048576).toInt.toNat 0))).2) rfl rfl else by unfold uA; simp only [nb1 k0, cond_false]) rfl K)
