/-! lifts, printed by genlift.py: 7 -/
def km_mostVotes_67_88_4 (a88 : List Int32)  : Nat → Int32 → Int32 → Int32
  | 0, y2, _ => y2
  | m + 1, y2, y3 => (if (a88.getD y2.toInt.toNat 0).toInt < (a88.getD y3.toInt.toNat 0).toInt then (km_mostVotes_67_88_4 a88 m y3 (y3 + 1)) else (km_mostVotes_67_88_4 a88 m y2 (y3 + 1)))
theorem t_km_mostVotes_67_88_4 {f : Nat} {Q : Option Value → sm_H → Prop} : ∀ (m : Nat) {B D : Nat} {F : Nat → Nat → Int32} {A : Nat → List Int32} {L : Nat → List Int64} {y2 : Int32} {y3 : Int32}, m = ((F 67 3).toInt - y3.toInt).toNat → (∀ q3 : Int32, wl_E f B D mm207.2.2.2.2.2.2.2.2 29 [some (.ref 67), some (.ref 88), some (.int (km_mostVotes_67_88_4 (A 88) m y2 y3)), some (.int q3)] [] (hz F A L) Q) → wl_E f B D mm207.2.2.2.2.2.2.2.2 4 [some (.ref 67), some (.ref 88), some (.int y2), some (.int y3)] [] (hz F A L) Q := by
  intro m
  induction m with
  | zero =>
    intro B D F A L y2 y3 hm K
    generalize hT : (km_mostVotes_67_88_4 (A 88) 0 y2 y3) = T at K
    have hE : T = y2 := hT.symm
    clear hT
    refine w_n 3 (pc1 := 9) (ls1 := [some (.ref 67), some (.ref 88), some (.int y2), some (.int y3)]) (st1 := [.int (F 67 3), .int y3]) (hp1 := (hz F A L)) rfl ?_
    refine w_ge (p3 := 12) rfl rfl (fun hb => ?_) (fun h => False.elim (by have h : y3.toInt < (F 67 3).toInt := h; omega))
    subst T
    exact cvE rfl rfl rfl (K _)
  | succ m ih =>
    intro B D F A L y2 y3 hm K
    generalize hT : (km_mostVotes_67_88_4 (A 88) (m + 1) y2 y3) = T at K
    have hE : T = (if ((A 88).getD y2.toInt.toNat 0).toInt < ((A 88).getD y3.toInt.toNat 0).toInt then (km_mostVotes_67_88_4 (A 88) m y3 (y3 + 1)) else (km_mostVotes_67_88_4 (A 88) m y2 (y3 + 1))) := hT.symm
    clear hT
    refine w_n 3 (pc1 := 9) (ls1 := [some (.ref 67), some (.ref 88), some (.int y2), some (.int y3)]) (st1 := [.int (F 67 3), .int y3]) (hp1 := (hz F A L)) rfl ?_
    refine w_ge (p3 := 12) rfl rfl (fun h => False.elim (by have h : (F 67 3).toInt ≤ y3.toInt := h; omega)) (fun hb => ?_)
    refine w_n 2 (pc1 := 14) (ls1 := [some (.ref 67), some (.ref 88), some (.int y2), some (.int y3)]) (st1 := [.int y3, .ref 88]) (hp1 := (hz F A L)) rfl ?_
    refine w_al (k := 88) (l := (A 88)) rfl rfl rfl (fun ab => ?_)
    refine w_n 2 (pc1 := 17) (ls1 := [some (.ref 67), some (.ref 88), some (.int y2), some (.int y3)]) (st1 := [.int y2, .ref 88, .int ((A 88).getD y3.toInt.toNat 0)]) (hp1 := (hz F A L)) rfl ?_
    refine w_al (k := 88) (l := (A 88)) rfl rfl rfl (fun _ => ?_)
    refine w_le (p3 := 21) rfl rfl (fun h => ?_) (fun h => ?_)
    · have h1 : ((A 88).getD y3.toInt.toNat 0).toInt ≤ ((A 88).getD y2.toInt.toNat 0).toInt := h
      rw [if_neg (Int.not_lt.mpr h1)] at hE
      refine w_n 2 (pc1 := 4) (ls1 := [some (.ref 67), some (.ref 88), some (.int y2), some (.int (y3 + 1))]) (st1 := []) (hp1 := (hz F A L)) rfl ?_
      subst T
      have hb2 := i_up (B := (F 67 3)) hb
      have hb3 : y3.toInt < (F 67 3).toInt := hb
      exact ih (show m = ((F 67 3).toInt - (y3 + 1).toInt).toNat by rw [hb2]; omega) (fun q3 => cvE rfl rfl rfl (K q3))
    · have h1 : ((A 88).getD y2.toInt.toNat 0).toInt < ((A 88).getD y3.toInt.toNat 0).toInt := h
      rw [if_pos h1] at hE
      refine w_n 4 (pc1 := 4) (ls1 := [some (.ref 67), some (.ref 88), some (.int y3), some (.int (y3 + 1))]) (st1 := []) (hp1 := (hz F A L)) rfl ?_
      subst T
      have hb2 := i_up (B := (F 67 3)) hb
      have hb3 : y3.toInt < (F 67 3).toInt := hb
      exact ih (show m = ((F 67 3).toInt - (y3 + 1).toInt).toNat by rw [hb2]; omega) (fun q3 => cvE rfl rfl rfl (K q3))
def km_mostVotes_67_88 (f67_3 : Int32) (a88 : List Int32) : Int32 := (km_mostVotes_67_88_4 a88 (f67_3.toInt - 1).toNat 0 1)
theorem t_km_mostVotes_67_88 {f D : Nat} {F : Nat → Nat → Int32} {A : Nat → List Int32} {L : Nat → List Int64} {Q : Option Value → sm_H → Prop} (K : Q (some (.int (km_mostVotes_67_88 (F 67 3) (A 88)))) (hz F A L)) : wl_M f D 207 [.ref 67, .ref 88] (hz F A L) Q := by
  generalize hT : (km_mostVotes_67_88 (F 67 3) (A 88)) = T at K
  have hE : T = (km_mostVotes_67_88_4 (A 88) ((F 67 3).toInt - 1).toNat 0 1) := hT.symm
  clear hT
  refine w_m (E := mm207) rfl ?_
  show wl_E f f (D - 1) mm207.2.2.2.2.2.2.2.2 0 [some (.ref 67), some (.ref 88), none, none] [] (hz F A L) Q
  refine w_n 4 (pc1 := 4) (ls1 := [some (.ref 67), some (.ref 88), some (.int 0), some (.int 1)]) (st1 := []) (hp1 := (hz F A L)) rfl ?_
  refine t_km_mostVotes_67_88_4 (((F 67 3).toInt - 1).toNat) (show ((F 67 3).toInt - 1).toNat = ((F 67 3).toInt - (1 : Int32).toInt).toNat by have e0 : (1 : Int32).toInt = 1 := rfl; first | rfl | omega) ?_
  intro r1
  show wl_E f _ _ mm207.2.2.2.2.2.2.2.2 29 [some (.ref 67), some (.ref 88), some (.int (km_mostVotes_67_88_4 (A 88) ((F 67 3).toInt - 1).toNat 0 1)), some (.int r1)] [] (hz F A L) _
  generalize hG232 : (km_mostVotes_67_88_4 (A 88) ((F 67 3).toInt - 1).toNat 0 1) = G232 at hE ⊢
  refine w_n 1 (pc1 := 30) (ls1 := [some (.ref 67), some (.ref 88), some (.int G232), some (.int r1)]) (st1 := [.int G232]) (hp1 := (hz F A L)) rfl ?_
  subst T
  exact w_ri rfl (cvQ rfl rfl rfl K)
def km_points (f67_3 : Int32) (a68 : List Int32) (a88 : List Int32) (x1 : Int32) : Int32 × List Int32 := (if x1 = 10 then ((km_mostVotes_67_88 f67_3 (km_points_18 f67_3 a68 f67_3.toInt.toNat 0 a88)), (km_points_18 f67_3 a68 f67_3.toInt.toNat 0 a88)) else (if (km_isMeasure f67_3 x1) = 0 then ((-1), a88) else (((km_points_18 f67_3 a68 f67_3.toInt.toNat 0 a88).getD x1.toInt.toNat 0), (km_points_18 f67_3 a68 f67_3.toInt.toNat 0 a88))))
theorem t_km_points {f D : Nat} {F : Nat → Nat → Int32} {A : Nat → List Int32} {L : Nat → List Int64} {Q : Option Value → sm_H → Prop} {x1 : Int32} (K : Q (some (.int ((km_points (F 67 3) (A 68) (A 88) x1).1))) (hz F (uA A 88 ((km_points (F 67 3) (A 68) (A 88) x1).2)) L)) : wl_M f D 208 [.ref 67, .int x1] (hz F A L) Q := by
  generalize hT : (km_points (F 67 3) (A 68) (A 88) x1) = T at K
  have hE : T = (if x1 = 10 then ((km_mostVotes_67_88 (F 67 3) (km_points_18 (F 67 3) (A 68) (F 67 3).toInt.toNat 0 (A 88))), (km_points_18 (F 67 3) (A 68) (F 67 3).toInt.toNat 0 (A 88))) else (if (km_isMeasure (F 67 3) x1) = 0 then ((-1), (A 88)) else (((km_points_18 (F 67 3) (A 68) (F 67 3).toInt.toNat 0 (A 88)).getD x1.toInt.toNat 0), (km_points_18 (F 67 3) (A 68) (F 67 3).toInt.toNat 0 (A 88))))) := hT.symm
  clear hT
  refine w_m (E := mm208) rfl ?_
  show wl_E f f (D - 1) mm208.2.2.2.2.2.2.2.2 0 [some (.ref 67), some (.int x1), none, none] [] (hz F A L) Q
  refine w_n 2 (pc1 := 3) (ls1 := [some (.ref 67), some (.int x1), none, none]) (st1 := [.int 10, .int x1]) (hp1 := (hz F A L)) rfl ?_
  refine w_eq (p3 := 6) rfl rfl (fun h => ?_) (fun h => ?_)
  · have h1 : x1 = 10 := h
    rw [if_pos h1] at hE
    refine w_n 2 (pc1 := 18) (ls1 := [some (.ref 67), some (.int x1), some (.int 0), none]) (st1 := []) (hp1 := (hz F A L)) rfl ?_
    refine t_km_points_18 (F 67 3).toInt.toNat (show (F 67 3).toInt.toNat = ((F 67 3).toInt - (0 : Int32).toInt).toNat by have e0 : (0 : Int32).toInt = 0 := rfl; first | rfl | omega) ?_
    intro r1 r2
    show wl_E f _ _ mm208.2.2.2.2.2.2.2.2 74 [some (.ref 67), some (.int x1), some (.int r1), r2] [] (hz F (uA A 88 (km_points_18 (F 67 3) (A 68) (F 67 3).toInt.toNat 0 (A 88))) L) _
    generalize hG231 : (km_points_18 (F 67 3) (A 68) (F 67 3).toInt.toNat 0 (A 88)) = G231 at hE ⊢
    refine w_n 2 (pc1 := 77) (ls1 := [some (.ref 67), some (.int x1), some (.int r1), r2]) (st1 := [.int 10, .int x1]) (hp1 := (hz F (uA A 88 G231) L)) rfl ?_
    refine w_ne (p3 := 80) rfl rfl (fun h => absurd h1 h) (fun _ => ?_)
    refine w_n 3 (pc1 := 85) (ls1 := [some (.ref 67), some (.int x1), some (.int r1), r2]) (st1 := [.ref 88, .ref 67]) (hp1 := (hz F (uA A 88 G231) L)) rfl ?_
    refine w_c rfl rfl (t_km_mostVotes_67_88 ?_)
    show wl_E f _ _ mm208.2.2.2.2.2.2.2.2 88 [some (.ref 67), some (.int x1), some (.int r1), r2] [.int (km_mostVotes_67_88 (F 67 3) G231)] (hz F (uA A 88 G231) L) _
    generalize hG233 : (km_mostVotes_67_88 (F 67 3) G231) = G233 at hE ⊢
    refine w_n 1 (pc1 := 97) (ls1 := [some (.ref 67), some (.int x1), some (.int r1), r2]) (st1 := [.int G233]) (hp1 := (hz F (uA A 88 G231) L)) rfl ?_
    subst T
    exact w_ri rfl (cvQ rfl rfl rfl K)
  · have h1 : ¬ x1 = 10 := h
    rw [if_neg h1] at hE
    refine w_n 2 (pc1 := 8) (ls1 := [some (.ref 67), some (.int x1), none, none]) (st1 := [.int x1, .ref 67]) (hp1 := (hz F A L)) rfl ?_
    refine w_c rfl rfl (t_km_isMeasure ?_)
    show wl_E f _ _ mm208.2.2.2.2.2.2.2.2 11 [some (.ref 67), some (.int x1), none, none] [.int (km_isMeasure (F 67 3) x1)] (hz F A L) _
    generalize hG234 : (km_isMeasure (F 67 3) x1) = G234 at hE ⊢
    refine w_zne (p3 := 14) rfl rfl (fun h => ?_) (fun h => ?_)
    · have h2 : ¬ G234 = 0 := h
      rw [if_neg h2] at hE
      refine w_n 2 (pc1 := 18) (ls1 := [some (.ref 67), some (.int x1), some (.int 0), none]) (st1 := []) (hp1 := (hz F A L)) rfl ?_
      refine t_km_points_18 (F 67 3).toInt.toNat (show (F 67 3).toInt.toNat = ((F 67 3).toInt - (0 : Int32).toInt).toNat by have e0 : (0 : Int32).toInt = 0 := rfl; first | rfl | omega) ?_
      intro r3 r4
      show wl_E f _ _ mm208.2.2.2.2.2.2.2.2 74 [some (.ref 67), some (.int x1), some (.int r3), r4] [] (hz F (uA A 88 (km_points_18 (F 67 3) (A 68) (F 67 3).toInt.toNat 0 (A 88))) L) _
      generalize hG235 : (km_points_18 (F 67 3) (A 68) (F 67 3).toInt.toNat 0 (A 88)) = G235 at hE ⊢
      refine w_n 2 (pc1 := 77) (ls1 := [some (.ref 67), some (.int x1), some (.int r3), r4]) (st1 := [.int 10, .int x1]) (hp1 := (hz F (uA A 88 G235) L)) rfl ?_
      refine w_ne (p3 := 80) rfl rfl (fun _ => ?_) (fun h => absurd h h1)
      refine w_n 3 (pc1 := 96) (ls1 := [some (.ref 67), some (.int x1), some (.int r3), r4]) (st1 := [.int x1, .ref 88]) (hp1 := (hz F (uA A 88 G235) L)) rfl ?_
      refine w_al (k := 88) (l := G235) rfl rfl rfl (fun _ => ?_)
      subst T
      exact w_ri rfl (cvQ rfl rfl rfl K)
    · have h2 : G234 = 0 := h
      rw [if_pos h2] at hE
      refine w_n 1 (pc1 := 15) (ls1 := [some (.ref 67), some (.int x1), none, none]) (st1 := [.int (-1)]) (hp1 := (hz F A L)) rfl ?_
      subst T
      exact w_ri rfl (cvQ rfl (funext fun q => if k0 : q = 88 then by subst k0; exact Eq.trans (b := (A 88)) rfl rfl else by unfold uA; simp only [nb1 k0, cond_false]) rfl K)
def kv_goesOut_11 (a35 : List Int32) (x1 : Int32) (x2 : Int32) (x3 : Int32) : Nat → Int32 → Int32 → Int32 → Int32
  | 0, _, y5, _ => y5
  | m + 1, y4, y5, y6 => (if y6 = x2 then (if ((x1 >>> (y6 &&& 31)) &&& 1) = 0 then (kv_goesOut_11 a35 x1 x2 x3 m y4 y5 (y6 + 1)) else (if y4.toInt < ((a35.getD ((x1 * 6) + y6).toInt.toNat 0) + x3).toInt then (kv_goesOut_11 a35 x1 x2 x3 m y4 y5 (y6 + 1)) else (kv_goesOut_11 a35 x1 x2 x3 m ((a35.getD ((x1 * 6) + y6).toInt.toNat 0) + x3) y6 (y6 + 1)))) else (if ((x1 >>> (y6 &&& 31)) &&& 1) = 0 then (kv_goesOut_11 a35 x1 x2 x3 m y4 y5 (y6 + 1)) else (if y4.toInt < ((a35.getD ((x1 * 6) + y6).toInt.toNat 0) + 0).toInt then (kv_goesOut_11 a35 x1 x2 x3 m y4 y5 (y6 + 1)) else (kv_goesOut_11 a35 x1 x2 x3 m ((a35.getD ((x1 * 6) + y6).toInt.toNat 0) + 0) y6 (y6 + 1)))))
theorem t_kv_goesOut_11 {f : Nat} {Q : Option Value → sm_H → Prop} : ∀ (m : Nat) {B D : Nat} {F : Nat → Nat → Int32} {A : Nat → List Int32} {L : Nat → List Int64} {x1 : Int32} {x2 : Int32} {x3 : Int32} {y4 : Int32} {y5 : Int32} {y6 : Int32} {o7 : Option Value}, m = ((F 3 0).toInt - y6.toInt).toNat → (∀ q4 : Int32, ∀ q6 : Int32, ∀ q7 : Option Value, wl_E f B D mm84.2.2.2.2.2.2.2.2 79 [some (.ref 30), some (.int x1), some (.int x2), some (.int x3), some (.int q4), some (.int (kv_goesOut_11 (A 35) x1 x2 x3 m y4 y5 y6)), some (.int q6), q7] [] (hz F A L) Q) → wl_E f B D mm84.2.2.2.2.2.2.2.2 11 [some (.ref 30), some (.int x1), some (.int x2), some (.int x3), some (.int y4), some (.int y5), some (.int y6), o7] [] (hz F A L) Q := by
  intro m
  induction m with
  | zero =>
    intro B D F A L x1 x2 x3 y4 y5 y6 o7 hm K
    generalize hT : (kv_goesOut_11 (A 35) x1 x2 x3 0 y4 y5 y6) = T at K
    have hE : T = y5 := hT.symm
    clear hT
    refine w_n 4 (pc1 := 20) (ls1 := [some (.ref 30), some (.int x1), some (.int x2), some (.int x3), some (.int y4), some (.int y5), some (.int y6), o7]) (st1 := [.int (F 3 0), .int y6]) (hp1 := (hz F A L)) rfl ?_
    refine w_ge (p3 := 23) rfl rfl (fun hb => ?_) (fun h => False.elim (by have h : y6.toInt < (F 3 0).toInt := h; omega))
    subst T
    exact cvE rfl rfl rfl (K _ _ _)
  | succ m ih =>
    intro B D F A L x1 x2 x3 y4 y5 y6 o7 hm K
    generalize hT : (kv_goesOut_11 (A 35) x1 x2 x3 (m + 1) y4 y5 y6) = T at K
    have hE : T = (if y6 = x2 then (if ((x1 >>> (y6 &&& 31)) &&& 1) = 0 then (kv_goesOut_11 (A 35) x1 x2 x3 m y4 y5 (y6 + 1)) else (if y4.toInt < (((A 35).getD ((x1 * 6) + y6).toInt.toNat 0) + x3).toInt then (kv_goesOut_11 (A 35) x1 x2 x3 m y4 y5 (y6 + 1)) else (kv_goesOut_11 (A 35) x1 x2 x3 m (((A 35).getD ((x1 * 6) + y6).toInt.toNat 0) + x3) y6 (y6 + 1)))) else (if ((x1 >>> (y6 &&& 31)) &&& 1) = 0 then (kv_goesOut_11 (A 35) x1 x2 x3 m y4 y5 (y6 + 1)) else (if y4.toInt < (((A 35).getD ((x1 * 6) + y6).toInt.toNat 0) + 0).toInt then (kv_goesOut_11 (A 35) x1 x2 x3 m y4 y5 (y6 + 1)) else (kv_goesOut_11 (A 35) x1 x2 x3 m (((A 35).getD ((x1 * 6) + y6).toInt.toNat 0) + 0) y6 (y6 + 1))))) := hT.symm
    clear hT
    refine w_n 4 (pc1 := 20) (ls1 := [some (.ref 30), some (.int x1), some (.int x2), some (.int x3), some (.int y4), some (.int y5), some (.int y6), o7]) (st1 := [.int (F 3 0), .int y6]) (hp1 := (hz F A L)) rfl ?_
    refine w_ge (p3 := 23) rfl rfl (fun h => False.elim (by have h : (F 3 0).toInt ≤ y6.toInt := h; omega)) (fun hb => ?_)
    refine w_n 7 (pc1 := 34) (ls1 := [some (.ref 30), some (.int x1), some (.int x2), some (.int x3), some (.int y4), some (.int y5), some (.int y6), o7]) (st1 := [.int ((x1 * 6) + y6), .ref 35]) (hp1 := (hz F A L)) rfl ?_
    refine w_al (k := 35) (l := (A 35)) rfl rfl rfl (fun _ => ?_)
    refine w_n 2 (pc1 := 38) (ls1 := [some (.ref 30), some (.int x1), some (.int x2), some (.int x3), some (.int y4), some (.int y5), some (.int y6), o7]) (st1 := [.int x2, .int y6, .int ((A 35).getD ((x1 * 6) + y6).toInt.toNat 0)]) (hp1 := (hz F A L)) rfl ?_
    refine w_ne (p3 := 41) rfl rfl (fun h => ?_) (fun h => ?_)
    · have h1 : ¬ y6 = x2 := h
      rw [if_neg h1] at hE
      refine w_n 8 (pc1 := 55) (ls1 := [some (.ref 30), some (.int x1), some (.int x2), some (.int x3), some (.int y4), some (.int y5), some (.int y6), some (.int (((A 35).getD ((x1 * 6) + y6).toInt.toNat 0) + 0))]) (st1 := [.int ((x1 >>> (y6 &&& 31)) &&& 1)]) (hp1 := (hz F A L)) rfl ?_
      refine w_zeq (p3 := 58) rfl rfl (fun h => ?_) (fun h => ?_)
      · have h2 : ((x1 >>> (y6 &&& 31)) &&& 1) = 0 := h
        rw [if_pos h2] at hE
        refine w_n 2 (pc1 := 11) (ls1 := [some (.ref 30), some (.int x1), some (.int x2), some (.int x3), some (.int y4), some (.int y5), some (.int (y6 + 1)), some (.int (((A 35).getD ((x1 * 6) + y6).toInt.toNat 0) + 0))]) (st1 := []) (hp1 := (hz F A L)) rfl ?_
        subst T
        have hb2 := i_up (B := (F 3 0)) hb
        have hb3 : y6.toInt < (F 3 0).toInt := hb
        exact ih (show m = ((F 3 0).toInt - (y6 + 1).toInt).toNat by rw [hb2]; omega) (fun q4 q6 q7 => cvE rfl rfl rfl (K q4 q6 q7))
      · have h2 : ¬ ((x1 >>> (y6 &&& 31)) &&& 1) = 0 := h
        rw [if_neg h2] at hE
        refine w_n 2 (pc1 := 62) (ls1 := [some (.ref 30), some (.int x1), some (.int x2), some (.int x3), some (.int y4), some (.int y5), some (.int y6), some (.int (((A 35).getD ((x1 * 6) + y6).toInt.toNat 0) + 0))]) (st1 := [.int y4, .int (((A 35).getD ((x1 * 6) + y6).toInt.toNat 0) + 0)]) (hp1 := (hz F A L)) rfl ?_
        refine w_gt (p3 := 65) rfl rfl (fun h => ?_) (fun h => ?_)
        · have h3 : y4.toInt < (((A 35).getD ((x1 * 6) + y6).toInt.toNat 0) + 0).toInt := h
          rw [if_pos h3] at hE
          refine w_n 2 (pc1 := 11) (ls1 := [some (.ref 30), some (.int x1), some (.int x2), some (.int x3), some (.int y4), some (.int y5), some (.int (y6 + 1)), some (.int (((A 35).getD ((x1 * 6) + y6).toInt.toNat 0) + 0))]) (st1 := []) (hp1 := (hz F A L)) rfl ?_
          subst T
          have hb2 := i_up (B := (F 3 0)) hb
          have hb3 : y6.toInt < (F 3 0).toInt := hb
          exact ih (show m = ((F 3 0).toInt - (y6 + 1).toInt).toNat by rw [hb2]; omega) (fun q4 q6 q7 => cvE rfl rfl rfl (K q4 q6 q7))
        · have h3 : (((A 35).getD ((x1 * 6) + y6).toInt.toNat 0) + 0).toInt ≤ y4.toInt := h
          rw [if_neg (Int.not_lt.mpr h3)] at hE
          refine w_n 6 (pc1 := 11) (ls1 := [some (.ref 30), some (.int x1), some (.int x2), some (.int x3), some (.int (((A 35).getD ((x1 * 6) + y6).toInt.toNat 0) + 0)), some (.int y6), some (.int (y6 + 1)), some (.int (((A 35).getD ((x1 * 6) + y6).toInt.toNat 0) + 0))]) (st1 := []) (hp1 := (hz F A L)) rfl ?_
          subst T
          have hb2 := i_up (B := (F 3 0)) hb
          have hb3 : y6.toInt < (F 3 0).toInt := hb
          exact ih (show m = ((F 3 0).toInt - (y6 + 1).toInt).toNat by rw [hb2]; omega) (fun q4 q6 q7 => cvE rfl rfl rfl (K q4 q6 q7))
    · have h1 : y6 = x2 := h
      rw [if_pos h1] at hE
      refine w_n 9 (pc1 := 55) (ls1 := [some (.ref 30), some (.int x1), some (.int x2), some (.int x3), some (.int y4), some (.int y5), some (.int y6), some (.int (((A 35).getD ((x1 * 6) + y6).toInt.toNat 0) + x3))]) (st1 := [.int ((x1 >>> (y6 &&& 31)) &&& 1)]) (hp1 := (hz F A L)) rfl ?_
      refine w_zeq (p3 := 58) rfl rfl (fun h => ?_) (fun h => ?_)
      · have h4 : ((x1 >>> (y6 &&& 31)) &&& 1) = 0 := h
        rw [if_pos h4] at hE
        refine w_n 2 (pc1 := 11) (ls1 := [some (.ref 30), some (.int x1), some (.int x2), some (.int x3), some (.int y4), some (.int y5), some (.int (y6 + 1)), some (.int (((A 35).getD ((x1 * 6) + y6).toInt.toNat 0) + x3))]) (st1 := []) (hp1 := (hz F A L)) rfl ?_
        subst T
        have hb2 := i_up (B := (F 3 0)) hb
        have hb3 : y6.toInt < (F 3 0).toInt := hb
        exact ih (show m = ((F 3 0).toInt - (y6 + 1).toInt).toNat by rw [hb2]; omega) (fun q4 q6 q7 => cvE rfl rfl rfl (K q4 q6 q7))
      · have h4 : ¬ ((x1 >>> (y6 &&& 31)) &&& 1) = 0 := h
        rw [if_neg h4] at hE
        refine w_n 2 (pc1 := 62) (ls1 := [some (.ref 30), some (.int x1), some (.int x2), some (.int x3), some (.int y4), some (.int y5), some (.int y6), some (.int (((A 35).getD ((x1 * 6) + y6).toInt.toNat 0) + x3))]) (st1 := [.int y4, .int (((A 35).getD ((x1 * 6) + y6).toInt.toNat 0) + x3)]) (hp1 := (hz F A L)) rfl ?_
        refine w_gt (p3 := 65) rfl rfl (fun h => ?_) (fun h => ?_)
        · have h5 : y4.toInt < (((A 35).getD ((x1 * 6) + y6).toInt.toNat 0) + x3).toInt := h
          rw [if_pos h5] at hE
          refine w_n 2 (pc1 := 11) (ls1 := [some (.ref 30), some (.int x1), some (.int x2), some (.int x3), some (.int y4), some (.int y5), some (.int (y6 + 1)), some (.int (((A 35).getD ((x1 * 6) + y6).toInt.toNat 0) + x3))]) (st1 := []) (hp1 := (hz F A L)) rfl ?_
          subst T
          have hb2 := i_up (B := (F 3 0)) hb
          have hb3 : y6.toInt < (F 3 0).toInt := hb
          exact ih (show m = ((F 3 0).toInt - (y6 + 1).toInt).toNat by rw [hb2]; omega) (fun q4 q6 q7 => cvE rfl rfl rfl (K q4 q6 q7))
        · have h5 : (((A 35).getD ((x1 * 6) + y6).toInt.toNat 0) + x3).toInt ≤ y4.toInt := h
          rw [if_neg (Int.not_lt.mpr h5)] at hE
          refine w_n 6 (pc1 := 11) (ls1 := [some (.ref 30), some (.int x1), some (.int x2), some (.int x3), some (.int (((A 35).getD ((x1 * 6) + y6).toInt.toNat 0) + x3)), some (.int y6), some (.int (y6 + 1)), some (.int (((A 35).getD ((x1 * 6) + y6).toInt.toNat 0) + x3))]) (st1 := []) (hp1 := (hz F A L)) rfl ?_
          subst T
          have hb2 := i_up (B := (F 3 0)) hb
          have hb3 : y6.toInt < (F 3 0).toInt := hb
          exact ih (show m = ((F 3 0).toInt - (y6 + 1).toInt).toNat by rw [hb2]; omega) (fun q4 q6 q7 => cvE rfl rfl rfl (K q4 q6 q7))
def kv_goesOut (f3_0 : Int32) (a35 : List Int32) (x1 : Int32) (x2 : Int32) (x3 : Int32) : Int32 := (kv_goesOut_11 a35 x1 x2 x3 f3_0.toInt.toNat 240 0 0)
theorem t_kv_goesOut {f D : Nat} {F : Nat → Nat → Int32} {A : Nat → List Int32} {L : Nat → List Int64} {Q : Option Value → sm_H → Prop} {x1 : Int32} {x2 : Int32} {x3 : Int32} (K : Q (some (.int (kv_goesOut (F 3 0) (A 35) x1 x2 x3))) (hz F A L)) : wl_M f D 84 [.ref 30, .int x1, .int x2, .int x3] (hz F A L) Q := by
  generalize hT : (kv_goesOut (F 3 0) (A 35) x1 x2 x3) = T at K
  have hE : T = (kv_goesOut_11 (A 35) x1 x2 x3 (F 3 0).toInt.toNat 240 0 0) := hT.symm
  clear hT
  refine w_m (E := mm84) rfl ?_
  show wl_E f f (D - 1) mm84.2.2.2.2.2.2.2.2 0 [some (.ref 30), some (.int x1), some (.int x2), some (.int x3), none, none, none, none] [] (hz F A L) Q
  refine w_n 6 (pc1 := 11) (ls1 := [some (.ref 30), some (.int x1), some (.int x2), some (.int x3), some (.int 240), some (.int 0), some (.int 0), none]) (st1 := []) (hp1 := (hz F A L)) rfl ?_
  refine t_kv_goesOut_11 (F 3 0).toInt.toNat (show (F 3 0).toInt.toNat = ((F 3 0).toInt - (0 : Int32).toInt).toNat by have e0 : (0 : Int32).toInt = 0 := rfl; first | rfl | omega) ?_
  intro r1 r2 r3
  show wl_E f _ _ mm84.2.2.2.2.2.2.2.2 79 [some (.ref 30), some (.int x1), some (.int x2), some (.int x3), some (.int r1), some (.int (kv_goesOut_11 (A 35) x1 x2 x3 (F 3 0).toInt.toNat 240 0 0)), some (.int r2), r3] [] (hz F A L) _
  generalize hG238 : (kv_goesOut_11 (A 35) x1 x2 x3 (F 3 0).toInt.toNat 240 0 0) = G238 at hE ⊢
  refine w_n 1 (pc1 := 81) (ls1 := [some (.ref 30), some (.int x1), some (.int x2), some (.int x3), some (.int r1), some (.int G238), some (.int r2), r3]) (st1 := [.int G238]) (hp1 := (hz F A L)) rfl ?_
  subst T
  exact w_ri rfl (cvQ rfl rfl rfl K)
def kv_countRunOff_10 (f3_0 : Int32) (f3_1 : Int32) (a6 : List Int32) (l11 : List Int64)  : Nat → Int32 → Int32 → List Int32 → List Int32 → List Int32 × List Int32
  | 0, _, _, a35, a36 => (a35, a36)
  | m + 1, y1, y2, a35, a36 => (kv_countRunOff_10 f3_0 f3_1 a6 l11 m (y1 &&& (((1 : Int32) <<< (((a36.set y2.toInt.toNat (kv_goesOut f3_0 (kv_tallyFirsts f3_0 f3_1 a6 a35 l11 y1 (-1)) y1 (-1) 0)).getD y2.toInt.toNat 0) &&& 31)) ^^^ (-1))) (y2 + 1) (kv_tallyFirsts f3_0 f3_1 a6 a35 l11 y1 (-1)) (a36.set y2.toInt.toNat (kv_goesOut f3_0 (kv_tallyFirsts f3_0 f3_1 a6 a35 l11 y1 (-1)) y1 (-1) 0)))
theorem t_kv_countRunOff_10 {f : Nat} {Q : Option Value → sm_H → Prop} : ∀ (m : Nat) {B D : Nat} {F : Nat → Nat → Int32} {A : Nat → List Int32} {L : Nat → List Int64} {y1 : Int32} {y2 : Int32}, m = ((F 3 0).toInt - y2.toInt).toNat → (∀ q1 : Int32, ∀ q2 : Int32, wl_E f B D mm83.2.2.2.2.2.2.2.2 59 [some (.ref 30), some (.int q1), some (.int q2)] [] (hz F (uA (uA A 35 ((kv_countRunOff_10 (F 3 0) (F 3 1) (A 6) (L 11) m y1 y2 (A 35) (A 36)).1)) 36 ((kv_countRunOff_10 (F 3 0) (F 3 1) (A 6) (L 11) m y1 y2 (A 35) (A 36)).2)) L) Q) → wl_E f B D mm83.2.2.2.2.2.2.2.2 10 [some (.ref 30), some (.int y1), some (.int y2)] [] (hz F A L) Q := by
  intro m
  induction m with
  | zero =>
    intro B D F A L y1 y2 hm K
    generalize hT : (kv_countRunOff_10 (F 3 0) (F 3 1) (A 6) (L 11) 0 y1 y2 (A 35) (A 36)) = T at K
    have hE : T = ((A 35), (A 36)) := hT.symm
    clear hT
    refine w_n 4 (pc1 := 18) (ls1 := [some (.ref 30), some (.int y1), some (.int y2)]) (st1 := [.int (F 3 0), .int y2]) (hp1 := (hz F A L)) rfl ?_
    refine w_ge (p3 := 21) rfl rfl (fun hb => ?_) (fun h => False.elim (by have h : y2.toInt < (F 3 0).toInt := h; omega))
    subst T
    exact cvE rfl (funext fun q => if k0 : q = 35 then by subst k0; exact Eq.trans (b := (A 35)) rfl rfl else if k1 : q = 36 then by subst k1; exact Eq.trans (b := (A 36)) rfl rfl else by unfold uA; simp only [nb1 k0, nb1 k1, cond_false]) rfl (K _ _)
  | succ m ih =>
    intro B D F A L y1 y2 hm K
    generalize hT : (kv_countRunOff_10 (F 3 0) (F 3 1) (A 6) (L 11) (m + 1) y1 y2 (A 35) (A 36)) = T at K
    have hE : T = (kv_countRunOff_10 (F 3 0) (F 3 1) (A 6) (L 11) m (y1 &&& (((1 : Int32) <<< ((((A 36).set y2.toInt.toNat (kv_goesOut (F 3 0) (kv_tallyFirsts (F 3 0) (F 3 1) (A 6) (A 35) (L 11) y1 (-1)) y1 (-1) 0)).getD y2.toInt.toNat 0) &&& 31)) ^^^ (-1))) (y2 + 1) (kv_tallyFirsts (F 3 0) (F 3 1) (A 6) (A 35) (L 11) y1 (-1)) ((A 36).set y2.toInt.toNat (kv_goesOut (F 3 0) (kv_tallyFirsts (F 3 0) (F 3 1) (A 6) (A 35) (L 11) y1 (-1)) y1 (-1) 0))) := hT.symm
    clear hT
    refine w_n 4 (pc1 := 18) (ls1 := [some (.ref 30), some (.int y1), some (.int y2)]) (st1 := [.int (F 3 0), .int y2]) (hp1 := (hz F A L)) rfl ?_
    refine w_ge (p3 := 21) rfl rfl (fun h => False.elim (by have h : (F 3 0).toInt ≤ y2.toInt := h; omega)) (fun hb => ?_)
    refine w_n 3 (pc1 := 24) (ls1 := [some (.ref 30), some (.int y1), some (.int y2)]) (st1 := [.int (-1), .int y1, .ref 30]) (hp1 := (hz F A L)) rfl ?_
    refine w_c rfl rfl (t_kv_tallyFirsts ?_)
    show wl_E f _ _ mm83.2.2.2.2.2.2.2.2 27 [some (.ref 30), some (.int y1), some (.int y2)] [] (hz F (uA A 35 (kv_tallyFirsts (F 3 0) (F 3 1) (A 6) (A 35) (L 11) y1 (-1))) L) _
    generalize hG237 : (kv_tallyFirsts (F 3 0) (F 3 1) (A 6) (A 35) (L 11) y1 (-1)) = G237 at hE ⊢
    refine w_n 7 (pc1 := 36) (ls1 := [some (.ref 30), some (.int y1), some (.int y2)]) (st1 := [.int 0, .int (-1), .int y1, .ref 30, .int y2, .ref 36]) (hp1 := (hz F (uA A 35 G237) L)) rfl ?_
    refine w_c rfl rfl (t_kv_goesOut ?_)
    show wl_E f _ _ mm83.2.2.2.2.2.2.2.2 39 [some (.ref 30), some (.int y1), some (.int y2)] [.int (kv_goesOut (F 3 0) G237 y1 (-1) 0), .int y2, .ref 36] (hz F (uA A 35 G237) L) _
    generalize hG239 : (kv_goesOut (F 3 0) G237 y1 (-1) 0) = G239 at hE ⊢
    refine w_as (k := 36) (l := (A 36)) (hp1 := (hz F (uA (uA A 35 G237) 36 ((A 36).set y2.toInt.toNat G239)) L)) rfl rfl rfl (hz_s36 _) (fun ab => ?_)
    refine w_n 5 (pc1 := 47) (ls1 := [some (.ref 30), some (.int y1), some (.int y2)]) (st1 := [.int y2, .ref 36, .int 1, .int y1]) (hp1 := (hz F (uA (uA A 35 G237) 36 ((A 36).set y2.toInt.toNat G239)) L)) rfl ?_
    refine w_al (k := 36) (l := ((A 36).set y2.toInt.toNat G239)) rfl rfl rfl (fun ab => ?_)
    refine w_n 7 (pc1 := 10) (ls1 := [some (.ref 30), some (.int (y1 &&& (((1 : Int32) <<< ((((A 36).set y2.toInt.toNat G239).getD y2.toInt.toNat 0) &&& 31)) ^^^ (-1)))), some (.int (y2 + 1))]) (st1 := []) (hp1 := (hz F (uA (uA A 35 G237) 36 ((A 36).set y2.toInt.toNat G239)) L)) rfl ?_
    subst T
    have hb2 := i_up (B := (F 3 0)) hb
    have hb3 : y2.toInt < (F 3 0).toInt := hb
    exact ih (show m = ((F 3 0).toInt - (y2 + 1).toInt).toNat by rw [hb2]; omega) (fun q1 q2 => cvE rfl (funext fun q => if k0 : q = 35 then by subst k0; exact Eq.trans (b := (kv_countRunOff_10 (F 3 0) (F 3 1) (A 6) (L 11) m (y1 &&& (((1 : Int32) <<< ((((A 36).set y2.toInt.toNat G239).getD y2.toInt.toNat 0) &&& 31)) ^^^ (-1))) (y2 + 1) G237 ((A 36).set y2.toInt.toNat G239)).1) rfl rfl else if k1 : q = 36 then by subst k1; exact Eq.trans (b := (kv_countRunOff_10 (F 3 0) (F 3 1) (A 6) (L 11) m (y1 &&& (((1 : Int32) <<< ((((A 36).set y2.toInt.toNat G239).getD y2.toInt.toNat 0) &&& 31)) ^^^ (-1))) (y2 + 1) G237 ((A 36).set y2.toInt.toNat G239)).2) rfl rfl else by unfold uA; simp only [nb1 k0, nb1 k1, cond_false]) rfl (K q1 q2))
def kv_countRunOff (f3_0 : Int32) (f3_1 : Int32) (a6 : List Int32) (a35 : List Int32) (a36 : List Int32) (l11 : List Int64) : List Int32 × List Int32 := ((kv_countRunOff_10 f3_0 f3_1 a6 l11 f3_0.toInt.toNat (kt_allMeasures f3_0) 0 a35 a36).1, (kv_countRunOff_10 f3_0 f3_1 a6 l11 f3_0.toInt.toNat (kt_allMeasures f3_0) 0 a35 a36).2)
theorem t_kv_countRunOff {f D : Nat} {F : Nat → Nat → Int32} {A : Nat → List Int32} {L : Nat → List Int64} {Q : Option Value → sm_H → Prop} (K : Q none (hz F (uA (uA A 35 ((kv_countRunOff (F 3 0) (F 3 1) (A 6) (A 35) (A 36) (L 11)).1)) 36 ((kv_countRunOff (F 3 0) (F 3 1) (A 6) (A 35) (A 36) (L 11)).2)) L)) : wl_M f D 83 [.ref 30] (hz F A L) Q := by
  generalize hT : (kv_countRunOff (F 3 0) (F 3 1) (A 6) (A 35) (A 36) (L 11)) = T at K
  have hE : T = ((kv_countRunOff_10 (F 3 0) (F 3 1) (A 6) (L 11) (F 3 0).toInt.toNat (kt_allMeasures (F 3 0)) 0 (A 35) (A 36)).1, (kv_countRunOff_10 (F 3 0) (F 3 1) (A 6) (L 11) (F 3 0).toInt.toNat (kt_allMeasures (F 3 0)) 0 (A 35) (A 36)).2) := hT.symm
  clear hT
  refine w_m (E := mm83) rfl ?_
  show wl_E f f (D - 1) mm83.2.2.2.2.2.2.2.2 0 [some (.ref 30), none, none] [] (hz F A L) Q
  refine w_n 2 (pc1 := 4) (ls1 := [some (.ref 30), none, none]) (st1 := [.ref 3]) (hp1 := (hz F A L)) rfl ?_
  refine w_c rfl rfl (t_kt_allMeasures ?_)
  show wl_E f _ _ mm83.2.2.2.2.2.2.2.2 7 [some (.ref 30), none, none] [.int (kt_allMeasures (F 3 0))] (hz F A L) _
  generalize hG236 : (kt_allMeasures (F 3 0)) = G236 at hE ⊢
  refine w_n 3 (pc1 := 10) (ls1 := [some (.ref 30), some (.int G236), some (.int 0)]) (st1 := []) (hp1 := (hz F A L)) rfl ?_
  refine t_kv_countRunOff_10 (F 3 0).toInt.toNat (show (F 3 0).toInt.toNat = ((F 3 0).toInt - (0 : Int32).toInt).toNat by have e0 : (0 : Int32).toInt = 0 := rfl; first | rfl | omega) ?_
  intro r1 r2
  show wl_E f _ _ mm83.2.2.2.2.2.2.2.2 59 [some (.ref 30), some (.int r1), some (.int r2)] [] (hz F (uA (uA A 35 (kv_countRunOff_10 (F 3 0) (F 3 1) (A 6) (L 11) (F 3 0).toInt.toNat G236 0 (A 35) (A 36)).1) 36 (kv_countRunOff_10 (F 3 0) (F 3 1) (A 6) (L 11) (F 3 0).toInt.toNat G236 0 (A 35) (A 36)).2) L) _
  generalize hG240 : (kv_countRunOff_10 (F 3 0) (F 3 1) (A 6) (L 11) (F 3 0).toInt.toNat G236 0 (A 35) (A 36)) = G240 at hE ⊢
  subst T
  exact w_r rfl rfl (cvQ rfl rfl rfl K)
def kc_runOff (f3_0 : Int32) (f3_1 : Int32) (a6 : List Int32) (a35 : List Int32) (a36 : List Int32) (l11 : List Int64) (x1 : Int32) : Int32 × List Int32 × List Int32 := (if x1 = 10 then (((kv_countRunOff f3_0 f3_1 a6 a35 a36 l11).2.getD (f3_0 - 1).toInt.toNat 0), (kv_countRunOff f3_0 f3_1 a6 a35 a36 l11).1, (kv_countRunOff f3_0 f3_1 a6 a35 a36 l11).2) else (if (kc_within x1 0 ((f3_0 - 1) - 1)) = 0 then ((-1), a35, a36) else (((kv_countRunOff f3_0 f3_1 a6 a35 a36 l11).2.getD x1.toInt.toNat 0), (kv_countRunOff f3_0 f3_1 a6 a35 a36 l11).1, (kv_countRunOff f3_0 f3_1 a6 a35 a36 l11).2)))
theorem t_kc_runOff {f D : Nat} {F : Nat → Nat → Int32} {A : Nat → List Int32} {L : Nat → List Int64} {Q : Option Value → sm_H → Prop} {x1 : Int32} (K : Q (some (.int ((kc_runOff (F 3 0) (F 3 1) (A 6) (A 35) (A 36) (L 11) x1).1))) (hz F (uA (uA A 35 ((kc_runOff (F 3 0) (F 3 1) (A 6) (A 35) (A 36) (L 11) x1).2.1)) 36 ((kc_runOff (F 3 0) (F 3 1) (A 6) (A 35) (A 36) (L 11) x1).2.2)) L)) : wl_M f D 82 [.ref 0, .int x1] (hz F A L) Q := by
  generalize hT : (kc_runOff (F 3 0) (F 3 1) (A 6) (A 35) (A 36) (L 11) x1) = T at K
  have hE : T = (if x1 = 10 then (((kv_countRunOff (F 3 0) (F 3 1) (A 6) (A 35) (A 36) (L 11)).2.getD ((F 3 0) - 1).toInt.toNat 0), (kv_countRunOff (F 3 0) (F 3 1) (A 6) (A 35) (A 36) (L 11)).1, (kv_countRunOff (F 3 0) (F 3 1) (A 6) (A 35) (A 36) (L 11)).2) else (if (kc_within x1 0 (((F 3 0) - 1) - 1)) = 0 then ((-1), (A 35), (A 36)) else (((kv_countRunOff (F 3 0) (F 3 1) (A 6) (A 35) (A 36) (L 11)).2.getD x1.toInt.toNat 0), (kv_countRunOff (F 3 0) (F 3 1) (A 6) (A 35) (A 36) (L 11)).1, (kv_countRunOff (F 3 0) (F 3 1) (A 6) (A 35) (A 36) (L 11)).2))) := hT.symm
  clear hT
  refine w_m (E := mm82) rfl ?_
  show wl_E f f (D - 1) mm82.2.2.2.2.2.2.2.2 0 [some (.ref 0), some (.int x1), none] [] (hz F A L) Q
  refine w_n 8 (pc1 := 13) (ls1 := [some (.ref 0), some (.int x1), some (.int ((F 3 0) - 1))]) (st1 := [.int 10, .int x1]) (hp1 := (hz F A L)) rfl ?_
  refine w_eq (p3 := 16) rfl rfl (fun h => ?_) (fun h => ?_)
  · have h1 : x1 = 10 := h
    rw [if_pos h1] at hE
    refine w_n 2 (pc1 := 33) (ls1 := [some (.ref 0), some (.int x1), some (.int ((F 3 0) - 1))]) (st1 := [.ref 30]) (hp1 := (hz F A L)) rfl ?_
    refine w_c rfl rfl (t_kv_countRunOff ?_)
    show wl_E f _ _ mm82.2.2.2.2.2.2.2.2 36 [some (.ref 0), some (.int x1), some (.int ((F 3 0) - 1))] [] (hz F (uA (uA A 35 (kv_countRunOff (F 3 0) (F 3 1) (A 6) (A 35) (A 36) (L 11)).1) 36 (kv_countRunOff (F 3 0) (F 3 1) (A 6) (A 35) (A 36) (L 11)).2) L) _
    generalize hG241 : (kv_countRunOff (F 3 0) (F 3 1) (A 6) (A 35) (A 36) (L 11)) = G241 at hE ⊢
    refine w_n 5 (pc1 := 46) (ls1 := [some (.ref 0), some (.int x1), some (.int ((F 3 0) - 1))]) (st1 := [.int 10, .int x1, .ref 36]) (hp1 := (hz F (uA (uA A 35 G241.1) 36 G241.2) L)) rfl ?_
    refine w_ne (p3 := 49) rfl rfl (fun h => absurd h1 h) (fun _ => ?_)
    refine w_n 2 (pc1 := 54) (ls1 := [some (.ref 0), some (.int x1), some (.int ((F 3 0) - 1))]) (st1 := [.int ((F 3 0) - 1), .ref 36]) (hp1 := (hz F (uA (uA A 35 G241.1) 36 G241.2) L)) rfl ?_
    refine w_al (k := 36) (l := G241.2) rfl rfl rfl (fun _ => ?_)
    subst T
    exact w_ri rfl (cvQ rfl rfl rfl K)
  · have h1 : ¬ x1 = 10 := h
    rw [if_neg h1] at hE
    refine w_n 5 (pc1 := 21) (ls1 := [some (.ref 0), some (.int x1), some (.int ((F 3 0) - 1))]) (st1 := [.int (((F 3 0) - 1) - 1), .int 0, .int x1]) (hp1 := (hz F A L)) rfl ?_
    refine w_c rfl rfl (t_kc_within ?_)
    show wl_E f _ _ mm82.2.2.2.2.2.2.2.2 24 [some (.ref 0), some (.int x1), some (.int ((F 3 0) - 1))] [.int (kc_within x1 0 (((F 3 0) - 1) - 1))] (hz F A L) _
    generalize hG242 : (kc_within x1 0 (((F 3 0) - 1) - 1)) = G242 at hE ⊢
    refine w_zne (p3 := 27) rfl rfl (fun h => ?_) (fun h => ?_)
    · have h2 : ¬ G242 = 0 := h
      rw [if_neg h2] at hE
      refine w_n 2 (pc1 := 33) (ls1 := [some (.ref 0), some (.int x1), some (.int ((F 3 0) - 1))]) (st1 := [.ref 30]) (hp1 := (hz F A L)) rfl ?_
      refine w_c rfl rfl (t_kv_countRunOff ?_)
      show wl_E f _ _ mm82.2.2.2.2.2.2.2.2 36 [some (.ref 0), some (.int x1), some (.int ((F 3 0) - 1))] [] (hz F (uA (uA A 35 (kv_countRunOff (F 3 0) (F 3 1) (A 6) (A 35) (A 36) (L 11)).1) 36 (kv_countRunOff (F 3 0) (F 3 1) (A 6) (A 35) (A 36) (L 11)).2) L) _
      generalize hG243 : (kv_countRunOff (F 3 0) (F 3 1) (A 6) (A 35) (A 36) (L 11)) = G243 at hE ⊢
      refine w_n 5 (pc1 := 46) (ls1 := [some (.ref 0), some (.int x1), some (.int ((F 3 0) - 1))]) (st1 := [.int 10, .int x1, .ref 36]) (hp1 := (hz F (uA (uA A 35 G243.1) 36 G243.2) L)) rfl ?_
      refine w_ne (p3 := 49) rfl rfl (fun _ => ?_) (fun h => absurd h h1)
      refine w_n 1 (pc1 := 54) (ls1 := [some (.ref 0), some (.int x1), some (.int ((F 3 0) - 1))]) (st1 := [.int x1, .ref 36]) (hp1 := (hz F (uA (uA A 35 G243.1) 36 G243.2) L)) rfl ?_
      refine w_al (k := 36) (l := G243.2) rfl rfl rfl (fun _ => ?_)
      subst T
      exact w_ri rfl (cvQ rfl rfl rfl K)
    · have h2 : G242 = 0 := h
      rw [if_pos h2] at hE
      refine w_n 1 (pc1 := 28) (ls1 := [some (.ref 0), some (.int x1), some (.int ((F 3 0) - 1))]) (st1 := [.int (-1)]) (hp1 := (hz F A L)) rfl ?_
      subst T
      exact w_ri rfl (cvQ rfl (funext fun q => if k0 : q = 35 then by subst k0; exact Eq.trans (b := (A 35)) rfl rfl else if k1 : q = 36 then by subst k1; exact Eq.trans (b := (A 36)) rfl rfl else by unfold uA; simp only [nb1 k0, nb1 k1, cond_false]) rfl K)
def km_runsOff_28 (a87 : List Int32) (x1 : Int32) : Nat → Int32 → Int32 → Int32
  | 0, y3, _ => y3
  | m + 1, y3, y4 => (if (km_has x1 y4) = 0 then (km_runsOff_28 a87 x1 m y3 (y4 + 1)) else (if y3 = (-1) then (km_runsOff_28 a87 x1 m y4 (y4 + 1)) else (if (a87.getD y3.toInt.toNat 0).toInt < (a87.getD y4.toInt.toNat 0).toInt then (km_runsOff_28 a87 x1 m y3 (y4 + 1)) else (km_runsOff_28 a87 x1 m y4 (y4 + 1)))))
theorem t_km_runsOff_28 {f : Nat} {Q : Option Value → sm_H → Prop} : ∀ (m : Nat) {B D : Nat} {F : Nat → Nat → Int32} {A : Nat → List Int32} {L : Nat → List Int64} {x1 : Int32} {x2 : Int32} {y3 : Int32} {y4 : Int32}, m = ((F 67 3).toInt - y4.toInt).toNat → (∀ q4 : Int32, wl_E f B D mm210.2.2.2.2.2.2.2.2 76 [some (.ref 67), some (.int x1), some (.int x2), some (.int (km_runsOff_28 (A 87) x1 m y3 y4)), some (.int q4)] [] (hz F A L) Q) → wl_E f B D mm210.2.2.2.2.2.2.2.2 28 [some (.ref 67), some (.int x1), some (.int x2), some (.int y3), some (.int y4)] [] (hz F A L) Q := by
  intro m
  induction m with
  | zero =>
    intro B D F A L x1 x2 y3 y4 hm K
    generalize hT : (km_runsOff_28 (A 87) x1 0 y3 y4) = T at K
    have hE : T = y3 := hT.symm
    clear hT
    refine w_n 3 (pc1 := 34) (ls1 := [some (.ref 67), some (.int x1), some (.int x2), some (.int y3), some (.int y4)]) (st1 := [.int (F 67 3), .int y4]) (hp1 := (hz F A L)) rfl ?_
    refine w_ge (p3 := 37) rfl rfl (fun hb => ?_) (fun h => False.elim (by have h : y4.toInt < (F 67 3).toInt := h; omega))
    subst T
    exact cvE rfl rfl rfl (K _)
  | succ m ih =>
    intro B D F A L x1 x2 y3 y4 hm K
    generalize hT : (km_runsOff_28 (A 87) x1 (m + 1) y3 y4) = T at K
    have hE : T = (if (km_has x1 y4) = 0 then (km_runsOff_28 (A 87) x1 m y3 (y4 + 1)) else (if y3 = (-1) then (km_runsOff_28 (A 87) x1 m y4 (y4 + 1)) else (if ((A 87).getD y3.toInt.toNat 0).toInt < ((A 87).getD y4.toInt.toNat 0).toInt then (km_runsOff_28 (A 87) x1 m y3 (y4 + 1)) else (km_runsOff_28 (A 87) x1 m y4 (y4 + 1))))) := hT.symm
    clear hT
    refine w_n 3 (pc1 := 34) (ls1 := [some (.ref 67), some (.int x1), some (.int x2), some (.int y3), some (.int y4)]) (st1 := [.int (F 67 3), .int y4]) (hp1 := (hz F A L)) rfl ?_
    refine w_ge (p3 := 37) rfl rfl (fun h => False.elim (by have h : (F 67 3).toInt ≤ y4.toInt := h; omega)) (fun hb => ?_)
    refine w_n 2 (pc1 := 40) (ls1 := [some (.ref 67), some (.int x1), some (.int x2), some (.int y3), some (.int y4)]) (st1 := [.int y4, .int x1]) (hp1 := (hz F A L)) rfl ?_
    refine w_c rfl rfl (t_km_has ?_)
    show wl_E f _ _ mm210.2.2.2.2.2.2.2.2 43 [some (.ref 67), some (.int x1), some (.int x2), some (.int y3), some (.int y4)] [.int (km_has x1 y4)] (hz F A L) _
    generalize hG246 : (km_has x1 y4) = G246 at hE ⊢
    refine w_zeq (p3 := 46) rfl rfl (fun h => ?_) (fun h => ?_)
    · have h1 : G246 = 0 := h
      rw [if_pos h1] at hE
      refine w_n 2 (pc1 := 28) (ls1 := [some (.ref 67), some (.int x1), some (.int x2), some (.int y3), some (.int (y4 + 1))]) (st1 := []) (hp1 := (hz F A L)) rfl ?_
      subst T
      have hb2 := i_up (B := (F 67 3)) hb
      have hb3 : y4.toInt < (F 67 3).toInt := hb
      exact ih (show m = ((F 67 3).toInt - (y4 + 1).toInt).toNat by rw [hb2]; omega) (fun q4 => cvE rfl rfl rfl (K q4))
    · have h1 : ¬ G246 = 0 := h
      rw [if_neg h1] at hE
      refine w_n 2 (pc1 := 48) (ls1 := [some (.ref 67), some (.int x1), some (.int x2), some (.int y3), some (.int y4)]) (st1 := [.int (-1), .int y3]) (hp1 := (hz F A L)) rfl ?_
      refine w_eq (p3 := 51) rfl rfl (fun h => ?_) (fun h => ?_)
      · have h2 : y3 = (-1) := h
        rw [if_pos h2] at hE
        refine w_n 4 (pc1 := 28) (ls1 := [some (.ref 67), some (.int x1), some (.int x2), some (.int y4), some (.int (y4 + 1))]) (st1 := []) (hp1 := (hz F A L)) rfl ?_
        subst T
        have hb2 := i_up (B := (F 67 3)) hb
        have hb3 : y4.toInt < (F 67 3).toInt := hb
        exact ih (show m = ((F 67 3).toInt - (y4 + 1).toInt).toNat by rw [hb2]; omega) (fun q4 => cvE rfl rfl rfl (K q4))
      · have h2 : ¬ y3 = (-1) := h
        rw [if_neg h2] at hE
        refine w_n 3 (pc1 := 57) (ls1 := [some (.ref 67), some (.int x1), some (.int x2), some (.int y3), some (.int y4)]) (st1 := [.int y4, .ref 87]) (hp1 := (hz F A L)) rfl ?_
        refine w_al (k := 87) (l := (A 87)) rfl rfl rfl (fun ab => ?_)
        refine w_n 3 (pc1 := 63) (ls1 := [some (.ref 67), some (.int x1), some (.int x2), some (.int y3), some (.int y4)]) (st1 := [.int y3, .ref 87, .int ((A 87).getD y4.toInt.toNat 0)]) (hp1 := (hz F A L)) rfl ?_
        refine w_al (k := 87) (l := (A 87)) rfl rfl rfl (fun _ => ?_)
        refine w_gt (p3 := 67) rfl rfl (fun h => ?_) (fun h => ?_)
        · have h3 : ((A 87).getD y3.toInt.toNat 0).toInt < ((A 87).getD y4.toInt.toNat 0).toInt := h
          rw [if_pos h3] at hE
          refine w_n 2 (pc1 := 28) (ls1 := [some (.ref 67), some (.int x1), some (.int x2), some (.int y3), some (.int (y4 + 1))]) (st1 := []) (hp1 := (hz F A L)) rfl ?_
          subst T
          have hb2 := i_up (B := (F 67 3)) hb
          have hb3 : y4.toInt < (F 67 3).toInt := hb
          exact ih (show m = ((F 67 3).toInt - (y4 + 1).toInt).toNat by rw [hb2]; omega) (fun q4 => cvE rfl rfl rfl (K q4))
        · have h3 : ((A 87).getD y4.toInt.toNat 0).toInt ≤ ((A 87).getD y3.toInt.toNat 0).toInt := h
          rw [if_neg (Int.not_lt.mpr h3)] at hE
          refine w_n 4 (pc1 := 28) (ls1 := [some (.ref 67), some (.int x1), some (.int x2), some (.int y4), some (.int (y4 + 1))]) (st1 := []) (hp1 := (hz F A L)) rfl ?_
          subst T
          have hb2 := i_up (B := (F 67 3)) hb
          have hb3 : y4.toInt < (F 67 3).toInt := hb
          exact ih (show m = ((F 67 3).toInt - (y4 + 1).toInt).toNat by rw [hb2]; omega) (fun q4 => cvE rfl rfl rfl (K q4))
def km_runsOff_7 (f67_3 : Int32) (a68 : List Int32)  : Nat → Int32 → Int32 → List Int32 → List Int32 → Int32 × List Int32 × List Int32
  | 0, y1, _, a87, a89 => (y1, a87, a89)
  | m + 1, y1, y2, a87, a89 => (km_runsOff_7 f67_3 a68 m (y1 &&& (((1 : Int32) <<< ((km_runsOff_28 (km_laysFirsts f67_3 a68 a87 y1 0) y1 f67_3.toInt.toNat (-1) 0) &&& 31)) ^^^ (-1))) (y2 + 1) (km_laysFirsts f67_3 a68 a87 y1 0) (a89.set y2.toInt.toNat (km_runsOff_28 (km_laysFirsts f67_3 a68 a87 y1 0) y1 f67_3.toInt.toNat (-1) 0)))
theorem t_km_runsOff_7 {f : Nat} {Q : Option Value → sm_H → Prop} : ∀ (m : Nat) {B D : Nat} {F : Nat → Nat → Int32} {A : Nat → List Int32} {L : Nat → List Int64} {y1 : Int32} {y2 : Int32} {o3 : Option Value} {o4 : Option Value}, m = (((F 67 3) - 1).toInt - y2.toInt).toNat → (∀ q2 : Int32, ∀ q3 : Option Value, ∀ q4 : Option Value, wl_E f B D mm210.2.2.2.2.2.2.2.2 97 [some (.ref 67), some (.int ((km_runsOff_7 (F 67 3) (A 68) m y1 y2 (A 87) (A 89)).1)), some (.int q2), q3, q4] [] (hz F (uA (uA A 87 ((km_runsOff_7 (F 67 3) (A 68) m y1 y2 (A 87) (A 89)).2.1)) 89 ((km_runsOff_7 (F 67 3) (A 68) m y1 y2 (A 87) (A 89)).2.2)) L) Q) → wl_E f B D mm210.2.2.2.2.2.2.2.2 7 [some (.ref 67), some (.int y1), some (.int y2), o3, o4] [] (hz F A L) Q := by
  intro m
  induction m with
  | zero =>
    intro B D F A L y1 y2 o3 o4 hm K
    generalize hT : (km_runsOff_7 (F 67 3) (A 68) 0 y1 y2 (A 87) (A 89)) = T at K
    have hE : T = (y1, (A 87), (A 89)) := hT.symm
    clear hT
    refine w_n 5 (pc1 := 14) (ls1 := [some (.ref 67), some (.int y1), some (.int y2), o3, o4]) (st1 := [.int ((F 67 3) - 1), .int y2]) (hp1 := (hz F A L)) rfl ?_
    refine w_ge (p3 := 17) rfl rfl (fun hb => ?_) (fun h => False.elim (by have h : y2.toInt < ((F 67 3) - 1).toInt := h; omega))
    subst T
    exact cvE rfl (funext fun q => if k0 : q = 87 then by subst k0; exact Eq.trans (b := (A 87)) rfl rfl else if k1 : q = 89 then by subst k1; exact Eq.trans (b := (A 89)) rfl rfl else by unfold uA; simp only [nb1 k0, nb1 k1, cond_false]) rfl (K _ _ _)
  | succ m ih =>
    intro B D F A L y1 y2 o3 o4 hm K
    generalize hT : (km_runsOff_7 (F 67 3) (A 68) (m + 1) y1 y2 (A 87) (A 89)) = T at K
    have hE : T = (km_runsOff_7 (F 67 3) (A 68) m (y1 &&& (((1 : Int32) <<< ((km_runsOff_28 (km_laysFirsts (F 67 3) (A 68) (A 87) y1 0) y1 (F 67 3).toInt.toNat (-1) 0) &&& 31)) ^^^ (-1))) (y2 + 1) (km_laysFirsts (F 67 3) (A 68) (A 87) y1 0) ((A 89).set y2.toInt.toNat (km_runsOff_28 (km_laysFirsts (F 67 3) (A 68) (A 87) y1 0) y1 (F 67 3).toInt.toNat (-1) 0))) := hT.symm
    clear hT
    refine w_n 5 (pc1 := 14) (ls1 := [some (.ref 67), some (.int y1), some (.int y2), o3, o4]) (st1 := [.int ((F 67 3) - 1), .int y2]) (hp1 := (hz F A L)) rfl ?_
    refine w_ge (p3 := 17) rfl rfl (fun h => False.elim (by have h : ((F 67 3) - 1).toInt ≤ y2.toInt := h; omega)) (fun hb => ?_)
    refine w_n 3 (pc1 := 20) (ls1 := [some (.ref 67), some (.int y1), some (.int y2), o3, o4]) (st1 := [.int 0, .int y1, .ref 67]) (hp1 := (hz F A L)) rfl ?_
    refine w_c rfl rfl (t_km_laysFirsts ?_)
    show wl_E f _ _ mm210.2.2.2.2.2.2.2.2 23 [some (.ref 67), some (.int y1), some (.int y2), o3, o4] [] (hz F (uA A 87 (km_laysFirsts (F 67 3) (A 68) (A 87) y1 0)) L) _
    generalize hG245 : (km_laysFirsts (F 67 3) (A 68) (A 87) y1 0) = G245 at hE ⊢
    refine w_n 4 (pc1 := 28) (ls1 := [some (.ref 67), some (.int y1), some (.int y2), some (.int (-1)), some (.int 0)]) (st1 := []) (hp1 := (hz F (uA A 87 G245) L)) rfl ?_
    refine t_km_runsOff_28 (F 67 3).toInt.toNat (show (F 67 3).toInt.toNat = ((F 67 3).toInt - (0 : Int32).toInt).toNat by have e0 : (0 : Int32).toInt = 0 := rfl; first | rfl | omega) ?_
    intro r1
    show wl_E f _ _ mm210.2.2.2.2.2.2.2.2 76 [some (.ref 67), some (.int y1), some (.int y2), some (.int (km_runsOff_28 G245 y1 (F 67 3).toInt.toNat (-1) 0)), some (.int r1)] [] (hz F (uA A 87 G245) L) _
    generalize hG247 : (km_runsOff_28 G245 y1 (F 67 3).toInt.toNat (-1) 0) = G247 at hE ⊢
    refine w_n 4 (pc1 := 82) (ls1 := [some (.ref 67), some (.int y1), some (.int y2), some (.int G247), some (.int r1)]) (st1 := [.int G247, .int y2, .ref 89]) (hp1 := (hz F (uA A 87 G245) L)) rfl ?_
    refine w_as (k := 89) (l := (A 89)) (hp1 := (hz F (uA (uA A 87 G245) 89 ((A 89).set y2.toInt.toNat G247)) L)) rfl rfl rfl (hz_s89 _) (fun ab => ?_)
    refine w_n 10 (pc1 := 7) (ls1 := [some (.ref 67), some (.int (y1 &&& (((1 : Int32) <<< (G247 &&& 31)) ^^^ (-1)))), some (.int (y2 + 1)), some (.int G247), some (.int r1)]) (st1 := []) (hp1 := (hz F (uA (uA A 87 G245) 89 ((A 89).set y2.toInt.toNat G247)) L)) rfl ?_
    subst T
    have hb2 := i_up (B := ((F 67 3) - 1)) hb
    have hb3 : y2.toInt < ((F 67 3) - 1).toInt := hb
    exact ih (show m = (((F 67 3) - 1).toInt - (y2 + 1).toInt).toNat by rw [hb2]; omega) (fun q2 q3 q4 => cvE rfl (funext fun q => if k0 : q = 87 then by subst k0; exact Eq.trans (b := (km_runsOff_7 (F 67 3) (A 68) m (y1 &&& (((1 : Int32) <<< (G247 &&& 31)) ^^^ (-1))) (y2 + 1) G245 ((A 89).set y2.toInt.toNat G247)).2.1) rfl rfl else if k1 : q = 89 then by subst k1; exact Eq.trans (b := (km_runsOff_7 (F 67 3) (A 68) m (y1 &&& (((1 : Int32) <<< (G247 &&& 31)) ^^^ (-1))) (y2 + 1) G245 ((A 89).set y2.toInt.toNat G247)).2.2) rfl rfl else by unfold uA; simp only [nb1 k0, nb1 k1, cond_false]) rfl (K q2 q3 q4))
def km_runsOff_99  (x1 : Int32) : Nat → Int32 → Int32
  | 0, y2 => y2
  | m + 1, y2 => (if (km_has x1 y2) = 0 then (km_runsOff_99 x1 m (y2 + 1)) else y2)
theorem t_km_runsOff_99 {f : Nat} {Q : Option Value → sm_H → Prop} : ∀ (m : Nat) (B : Nat) {D : Nat} {F : Nat → Nat → Int32} {A : Nat → List Int32} {L : Nat → List Int64} {x1 : Int32} {y2 : Int32} {o3 : Option Value} {o4 : Option Value}, B ≤ m → (wl_E f B D mm210.2.2.2.2.2.2.2.2 114 [some (.ref 67), some (.int x1), some (.int (km_runsOff_99 x1 m y2)), o3, o4] [] (hz F A L) Q) → wl_E f B D mm210.2.2.2.2.2.2.2.2 99 [some (.ref 67), some (.int x1), some (.int y2), o3, o4] [] (hz F A L) Q := by
  intro m
  induction m with
  | zero =>
    intro B D F A L x1 y2 o3 o4 hm K
    rw [show B = 0 by omega]
    exact w_0
  | succ m ih =>
    intro B D F A L x1 y2 o3 o4 hm K
    cases B with
    | zero => exact w_0
    | succ B =>
      generalize hT : (km_runsOff_99 x1 (m + 1) y2) = T at K
      have hE : T = (if (km_has x1 y2) = 0 then (km_runsOff_99 x1 m (y2 + 1)) else y2) := hT.symm
      clear hT
      refine w_n1 (pc1 := 100) (ls1 := [some (.ref 67), some (.int x1), some (.int y2), o3, o4]) (st1 := [.int x1]) (hp1 := (hz F A L)) rfl ?_
      refine w_n 1 (pc1 := 101) (ls1 := [some (.ref 67), some (.int x1), some (.int y2), o3, o4]) (st1 := [.int y2, .int x1]) (hp1 := (hz F A L)) rfl ?_
      refine w_c rfl rfl (t_km_has ?_)
      show wl_E f _ _ mm210.2.2.2.2.2.2.2.2 104 [some (.ref 67), some (.int x1), some (.int y2), o3, o4] [.int (km_has x1 y2)] (hz F A L) _
      generalize hG249 : (km_has x1 y2) = G249 at hE ⊢
      refine w_zne (p3 := 107) rfl rfl (fun h => ?_) (fun h => ?_)
      · have h1 : ¬ G249 = 0 := h
        rw [if_neg h1] at hE
        subst T
        exact cvE rfl rfl rfl (wl_le (Nat.le_succ _) (K))
      · have h1 : G249 = 0 := h
        rw [if_pos h1] at hE
        refine w_n 5 (pc1 := 99) (ls1 := [some (.ref 67), some (.int x1), some (.int (y2 + 1)), o3, o4]) (st1 := []) (hp1 := (hz F A L)) rfl ?_
        subst T
        exact ih _ (by omega) (cvE rfl rfl rfl (wl_le (Nat.le_succ _) (K)))
def km_runsOff (f : Nat) (f67_3 : Int32) (a68 : List Int32) (a87 : List Int32) (a89 : List Int32) : Int32 × List Int32 × List Int32 := ((km_runsOff_99 (km_runsOff_7 f67_3 a68 ((f67_3 - 1).toInt).toNat (km_allMeasures f67_3) 0 a87 a89).1 f 0), (km_runsOff_7 f67_3 a68 ((f67_3 - 1).toInt).toNat (km_allMeasures f67_3) 0 a87 a89).2.1, (km_runsOff_7 f67_3 a68 ((f67_3 - 1).toInt).toNat (km_allMeasures f67_3) 0 a87 a89).2.2)
theorem t_km_runsOff {f D : Nat} {F : Nat → Nat → Int32} {A : Nat → List Int32} {L : Nat → List Int64} {Q : Option Value → sm_H → Prop} (K : Q (some (.int ((km_runsOff f (F 67 3) (A 68) (A 87) (A 89)).1))) (hz F (uA (uA A 87 ((km_runsOff f (F 67 3) (A 68) (A 87) (A 89)).2.1)) 89 ((km_runsOff f (F 67 3) (A 68) (A 87) (A 89)).2.2)) L)) : wl_M f D 210 [.ref 67] (hz F A L) Q := by
  generalize hT : (km_runsOff f (F 67 3) (A 68) (A 87) (A 89)) = T at K
  have hE : T = ((km_runsOff_99 (km_runsOff_7 (F 67 3) (A 68) (((F 67 3) - 1).toInt).toNat (km_allMeasures (F 67 3)) 0 (A 87) (A 89)).1 f 0), (km_runsOff_7 (F 67 3) (A 68) (((F 67 3) - 1).toInt).toNat (km_allMeasures (F 67 3)) 0 (A 87) (A 89)).2.1, (km_runsOff_7 (F 67 3) (A 68) (((F 67 3) - 1).toInt).toNat (km_allMeasures (F 67 3)) 0 (A 87) (A 89)).2.2) := hT.symm
  clear hT
  refine w_m (E := mm210) rfl ?_
  show wl_E f f (D - 1) mm210.2.2.2.2.2.2.2.2 0 [some (.ref 67), none, none, none, none] [] (hz F A L) Q
  refine w_n 1 (pc1 := 1) (ls1 := [some (.ref 67), none, none, none, none]) (st1 := [.ref 67]) (hp1 := (hz F A L)) rfl ?_
  refine w_c rfl rfl (t_km_allMeasures ?_)
  show wl_E f _ _ mm210.2.2.2.2.2.2.2.2 4 [some (.ref 67), none, none, none, none] [.int (km_allMeasures (F 67 3))] (hz F A L) _
  generalize hG244 : (km_allMeasures (F 67 3)) = G244 at hE ⊢
  refine w_n 3 (pc1 := 7) (ls1 := [some (.ref 67), some (.int G244), some (.int 0), none, none]) (st1 := []) (hp1 := (hz F A L)) rfl ?_
  refine t_km_runsOff_7 ((((F 67 3) - 1).toInt).toNat) (show (((F 67 3) - 1).toInt).toNat = (((F 67 3) - 1).toInt - (0 : Int32).toInt).toNat by have e0 : (0 : Int32).toInt = 0 := rfl; first | rfl | omega) ?_
  intro r1 r2 r3
  show wl_E f _ _ mm210.2.2.2.2.2.2.2.2 97 [some (.ref 67), some (.int (km_runsOff_7 (F 67 3) (A 68) (((F 67 3) - 1).toInt).toNat G244 0 (A 87) (A 89)).1), some (.int r1), r2, r3] [] (hz F (uA (uA A 87 (km_runsOff_7 (F 67 3) (A 68) (((F 67 3) - 1).toInt).toNat G244 0 (A 87) (A 89)).2.1) 89 (km_runsOff_7 (F 67 3) (A 68) (((F 67 3) - 1).toInt).toNat G244 0 (A 87) (A 89)).2.2) L) _
  generalize hG248 : (km_runsOff_7 (F 67 3) (A 68) (((F 67 3) - 1).toInt).toNat G244 0 (A 87) (A 89)) = G248 at hE ⊢
  refine w_n 2 (pc1 := 99) (ls1 := [some (.ref 67), some (.int G248.1), some (.int 0), r2, r3]) (st1 := []) (hp1 := (hz F (uA (uA A 87 G248.2.1) 89 G248.2.2) L)) rfl ?_
  refine t_km_runsOff_99 f _ (Nat.le_refl _) ?_
  show wl_E f _ _ mm210.2.2.2.2.2.2.2.2 114 [some (.ref 67), some (.int G248.1), some (.int (km_runsOff_99 G248.1 f 0)), r2, r3] [] (hz F (uA (uA A 87 G248.2.1) 89 G248.2.2) L) _
  generalize hG250 : (km_runsOff_99 G248.1 f 0) = G250 at hE ⊢
  refine w_n 1 (pc1 := 115) (ls1 := [some (.ref 67), some (.int G248.1), some (.int G250), r2, r3]) (st1 := [.int G250]) (hp1 := (hz F (uA (uA A 87 G248.2.1) 89 G248.2.2) L)) rfl ?_
  subst T
  exact w_ri rfl (cvQ rfl rfl rfl K)
def km_runOff (f : Nat) (f67_3 : Int32) (a68 : List Int32) (a87 : List Int32) (a89 : List Int32) (x1 : Int32) : Int32 × List Int32 × List Int32 := (if x1 = 10 then ((km_runsOff f f67_3 a68 a87 a89).1, (km_runsOff f f67_3 a68 a87 a89).2.1, (km_runsOff f f67_3 a68 a87 a89).2.2) else (if (km_in x1 0 (f67_3 - 2)) = 0 then ((-1), a87, a89) else (((km_runsOff f f67_3 a68 a87 a89).2.2.getD x1.toInt.toNat 0), (km_runsOff f f67_3 a68 a87 a89).2.1, (km_runsOff f f67_3 a68 a87 a89).2.2)))
theorem t_km_runOff {f D : Nat} {F : Nat → Nat → Int32} {A : Nat → List Int32} {L : Nat → List Int64} {Q : Option Value → sm_H → Prop} {x1 : Int32} (K : Q (some (.int ((km_runOff f (F 67 3) (A 68) (A 87) (A 89) x1).1))) (hz F (uA (uA A 87 ((km_runOff f (F 67 3) (A 68) (A 87) (A 89) x1).2.1)) 89 ((km_runOff f (F 67 3) (A 68) (A 87) (A 89) x1).2.2)) L)) : wl_M f D 209 [.ref 67, .int x1] (hz F A L) Q := by
  generalize hT : (km_runOff f (F 67 3) (A 68) (A 87) (A 89) x1) = T at K
  have hE : T = (if x1 = 10 then ((km_runsOff f (F 67 3) (A 68) (A 87) (A 89)).1, (km_runsOff f (F 67 3) (A 68) (A 87) (A 89)).2.1, (km_runsOff f (F 67 3) (A 68) (A 87) (A 89)).2.2) else (if (km_in x1 0 ((F 67 3) - 2)) = 0 then ((-1), (A 87), (A 89)) else (((km_runsOff f (F 67 3) (A 68) (A 87) (A 89)).2.2.getD x1.toInt.toNat 0), (km_runsOff f (F 67 3) (A 68) (A 87) (A 89)).2.1, (km_runsOff f (F 67 3) (A 68) (A 87) (A 89)).2.2))) := hT.symm
  clear hT
  refine w_m (E := mm209) rfl ?_
  show wl_E f f (D - 1) mm209.2.2.2.2.2.2.2.2 0 [some (.ref 67), some (.int x1), none] [] (hz F A L) Q
  refine w_n 2 (pc1 := 3) (ls1 := [some (.ref 67), some (.int x1), none]) (st1 := [.int 10, .int x1]) (hp1 := (hz F A L)) rfl ?_
  refine w_eq (p3 := 6) rfl rfl (fun h => ?_) (fun h => ?_)
  · have h1 : x1 = 10 := h
    rw [if_pos h1] at hE
    refine w_n 1 (pc1 := 23) (ls1 := [some (.ref 67), some (.int x1), none]) (st1 := [.ref 67]) (hp1 := (hz F A L)) rfl ?_
    refine w_c rfl rfl (t_km_runsOff ?_)
    show wl_E f _ _ mm209.2.2.2.2.2.2.2.2 26 [some (.ref 67), some (.int x1), none] [.int (km_runsOff f (F 67 3) (A 68) (A 87) (A 89)).1] (hz F (uA (uA A 87 (km_runsOff f (F 67 3) (A 68) (A 87) (A 89)).2.1) 89 (km_runsOff f (F 67 3) (A 68) (A 87) (A 89)).2.2) L) _
    generalize hG251 : (km_runsOff f (F 67 3) (A 68) (A 87) (A 89)) = G251 at hE ⊢
    refine w_n 3 (pc1 := 30) (ls1 := [some (.ref 67), some (.int x1), some (.int G251.1)]) (st1 := [.int 10, .int x1]) (hp1 := (hz F (uA (uA A 87 G251.2.1) 89 G251.2.2) L)) rfl ?_
    refine w_ne (p3 := 33) rfl rfl (fun h => absurd h1 h) (fun _ => ?_)
    refine w_n 2 (pc1 := 43) (ls1 := [some (.ref 67), some (.int x1), some (.int G251.1)]) (st1 := [.int G251.1]) (hp1 := (hz F (uA (uA A 87 G251.2.1) 89 G251.2.2) L)) rfl ?_
    subst T
    exact w_ri rfl (cvQ rfl rfl rfl K)
  · have h1 : ¬ x1 = 10 := h
    rw [if_neg h1] at hE
    refine w_n 6 (pc1 := 14) (ls1 := [some (.ref 67), some (.int x1), none]) (st1 := [.int ((F 67 3) - 2), .int 0, .int x1]) (hp1 := (hz F A L)) rfl ?_
    refine w_c rfl rfl (t_km_in ?_)
    show wl_E f _ _ mm209.2.2.2.2.2.2.2.2 17 [some (.ref 67), some (.int x1), none] [.int (km_in x1 0 ((F 67 3) - 2))] (hz F A L) _
    generalize hG252 : (km_in x1 0 ((F 67 3) - 2)) = G252 at hE ⊢
    refine w_zne (p3 := 20) rfl rfl (fun h => ?_) (fun h => ?_)
    · have h2 : ¬ G252 = 0 := h
      rw [if_neg h2] at hE
      refine w_n 1 (pc1 := 23) (ls1 := [some (.ref 67), some (.int x1), none]) (st1 := [.ref 67]) (hp1 := (hz F A L)) rfl ?_
      refine w_c rfl rfl (t_km_runsOff ?_)
      show wl_E f _ _ mm209.2.2.2.2.2.2.2.2 26 [some (.ref 67), some (.int x1), none] [.int (km_runsOff f (F 67 3) (A 68) (A 87) (A 89)).1] (hz F (uA (uA A 87 (km_runsOff f (F 67 3) (A 68) (A 87) (A 89)).2.1) 89 (km_runsOff f (F 67 3) (A 68) (A 87) (A 89)).2.2) L) _
      generalize hG253 : (km_runsOff f (F 67 3) (A 68) (A 87) (A 89)) = G253 at hE ⊢
      refine w_n 3 (pc1 := 30) (ls1 := [some (.ref 67), some (.int x1), some (.int G253.1)]) (st1 := [.int 10, .int x1]) (hp1 := (hz F (uA (uA A 87 G253.2.1) 89 G253.2.2) L)) rfl ?_
      refine w_ne (p3 := 33) rfl rfl (fun _ => ?_) (fun h => absurd h h1)
      refine w_n 3 (pc1 := 42) (ls1 := [some (.ref 67), some (.int x1), some (.int G253.1)]) (st1 := [.int x1, .ref 89]) (hp1 := (hz F (uA (uA A 87 G253.2.1) 89 G253.2.2) L)) rfl ?_
      refine w_al (k := 89) (l := G253.2.2) rfl rfl rfl (fun _ => ?_)
      subst T
      exact w_ri rfl (cvQ rfl rfl rfl K)
    · have h2 : G252 = 0 := h
      rw [if_pos h2] at hE
      refine w_n 1 (pc1 := 21) (ls1 := [some (.ref 67), some (.int x1), none]) (st1 := [.int (-1)]) (hp1 := (hz F A L)) rfl ?_
      subst T
      exact w_ri rfl (cvQ rfl (funext fun q => if k0 : q = 87 then by subst k0; exact Eq.trans (b := (A 87)) rfl rfl else if k1 : q = 89 then by subst k1; exact Eq.trans (b := (A 89)) rfl rfl else by unfold uA; simp only [nb1 k0, nb1 k1, cond_false]) rfl K)
def kv_weighPairs_17 (f3_1 : Int32) (a6 : List Int32) (l11 : List Int64) (x2 : Int32) : Nat → Int32 → List Int32 → List Int32
  | 0, _, a32 => a32
  | m + 1, y3, a32 => (kv_weighPairs_17 f3_1 a6 l11 x2 m (y3 + 1) (a32.set ((x2 * 6) + y3).toInt.toNat (kv_biscuitsFor f3_1 a6 l11 x2 y3)))
theorem t_kv_weighPairs_17 {f : Nat} {Q : Option Value → sm_H → Prop} : ∀ (m : Nat) {B D : Nat} {F : Nat → Nat → Int32} {A : Nat → List Int32} {L : Nat → List Int64} {x1 : Int32} {x2 : Int32} {y3 : Int32}, m = (x1.toInt - y3.toInt).toNat → (∀ q3 : Int32, wl_E f B D mm86.2.2.2.2.2.2.2.2 45 [some (.ref 30), some (.int x1), some (.int x2), some (.int q3)] [] (hz F (uA A 32 (kv_weighPairs_17 (F 3 1) (A 6) (L 11) x2 m y3 (A 32))) L) Q) → wl_E f B D mm86.2.2.2.2.2.2.2.2 17 [some (.ref 30), some (.int x1), some (.int x2), some (.int y3)] [] (hz F A L) Q := by
  intro m
  induction m with
  | zero =>
    intro B D F A L x1 x2 y3 hm K
    generalize hT : (kv_weighPairs_17 (F 3 1) (A 6) (L 11) x2 0 y3 (A 32)) = T at K
    have hE : T = (A 32) := hT.symm
    clear hT
    refine w_n 2 (pc1 := 19) (ls1 := [some (.ref 30), some (.int x1), some (.int x2), some (.int y3)]) (st1 := [.int x1, .int y3]) (hp1 := (hz F A L)) rfl ?_
    refine w_ge (p3 := 22) rfl rfl (fun hb => ?_) (fun h => False.elim (by have h : y3.toInt < x1.toInt := h; omega))
    subst T
    exact cvE rfl (funext fun q => if k0 : q = 32 then by subst k0; exact Eq.trans (b := (A 32)) rfl rfl else by unfold uA; simp only [nb1 k0, cond_false]) rfl (K _)
  | succ m ih =>
    intro B D F A L x1 x2 y3 hm K
    generalize hT : (kv_weighPairs_17 (F 3 1) (A 6) (L 11) x2 (m + 1) y3 (A 32)) = T at K
    have hE : T = (kv_weighPairs_17 (F 3 1) (A 6) (L 11) x2 m (y3 + 1) ((A 32).set ((x2 * 6) + y3).toInt.toNat (kv_biscuitsFor (F 3 1) (A 6) (L 11) x2 y3))) := hT.symm
    clear hT
    refine w_n 2 (pc1 := 19) (ls1 := [some (.ref 30), some (.int x1), some (.int x2), some (.int y3)]) (st1 := [.int x1, .int y3]) (hp1 := (hz F A L)) rfl ?_
    refine w_ge (p3 := 22) rfl rfl (fun h => False.elim (by have h : x1.toInt ≤ y3.toInt := h; omega)) (fun hb => ?_)
    refine w_n 10 (pc1 := 35) (ls1 := [some (.ref 30), some (.int x1), some (.int x2), some (.int y3)]) (st1 := [.int y3, .int x2, .ref 30, .int ((x2 * 6) + y3), .ref 32]) (hp1 := (hz F A L)) rfl ?_
    refine w_c rfl rfl (t_kv_biscuitsFor ?_)
    show wl_E f _ _ mm86.2.2.2.2.2.2.2.2 38 [some (.ref 30), some (.int x1), some (.int x2), some (.int y3)] [.int (kv_biscuitsFor (F 3 1) (A 6) (L 11) x2 y3), .int ((x2 * 6) + y3), .ref 32] (hz F A L) _
    generalize hG254 : (kv_biscuitsFor (F 3 1) (A 6) (L 11) x2 y3) = G254 at hE ⊢
    refine w_as (k := 32) (l := (A 32)) (hp1 := (hz F (uA A 32 ((A 32).set ((x2 * 6) + y3).toInt.toNat G254)) L)) rfl rfl rfl (hz_s32 _) (fun _ => ?_)
    refine w_n 2 (pc1 := 17) (ls1 := [some (.ref 30), some (.int x1), some (.int x2), some (.int (y3 + 1))]) (st1 := []) (hp1 := (hz F (uA A 32 ((A 32).set ((x2 * 6) + y3).toInt.toNat G254)) L)) rfl ?_
    subst T
    have hb2 := i_up (B := x1) hb
    have hb3 : y3.toInt < x1.toInt := hb
    exact ih (show m = (x1.toInt - (y3 + 1).toInt).toNat by rw [hb2]; omega) (fun q3 => cvE rfl (funext fun q => if k0 : q = 32 then by subst k0; exact Eq.trans (b := (kv_weighPairs_17 (F 3 1) (A 6) (L 11) x2 m (y3 + 1) ((A 32).set ((x2 * 6) + y3).toInt.toNat G254))) rfl rfl else by unfold uA; simp only [nb1 k0, cond_false]) rfl (K q3))
def kv_weighPairs_10 (f3_1 : Int32) (a6 : List Int32) (l11 : List Int64) (x1 : Int32) : Nat → Int32 → List Int32 → List Int32
  | 0, _, a32 => a32
  | m + 1, y2, a32 => (kv_weighPairs_10 f3_1 a6 l11 x1 m (y2 + 1) (kv_weighPairs_17 f3_1 a6 l11 y2 x1.toInt.toNat 0 a32))
theorem t_kv_weighPairs_10 {f : Nat} {Q : Option Value → sm_H → Prop} : ∀ (m : Nat) {B D : Nat} {F : Nat → Nat → Int32} {A : Nat → List Int32} {L : Nat → List Int64} {x1 : Int32} {y2 : Int32} {o3 : Option Value}, m = (x1.toInt - y2.toInt).toNat → (∀ q2 : Int32, ∀ q3 : Option Value, wl_E f B D mm86.2.2.2.2.2.2.2.2 51 [some (.ref 30), some (.int x1), some (.int q2), q3] [] (hz F (uA A 32 (kv_weighPairs_10 (F 3 1) (A 6) (L 11) x1 m y2 (A 32))) L) Q) → wl_E f B D mm86.2.2.2.2.2.2.2.2 10 [some (.ref 30), some (.int x1), some (.int y2), o3] [] (hz F A L) Q := by
  intro m
  induction m with
  | zero =>
    intro B D F A L x1 y2 o3 hm K
    generalize hT : (kv_weighPairs_10 (F 3 1) (A 6) (L 11) x1 0 y2 (A 32)) = T at K
    have hE : T = (A 32) := hT.symm
    clear hT
    refine w_n 2 (pc1 := 12) (ls1 := [some (.ref 30), some (.int x1), some (.int y2), o3]) (st1 := [.int x1, .int y2]) (hp1 := (hz F A L)) rfl ?_
    refine w_ge (p3 := 15) rfl rfl (fun hb => ?_) (fun h => False.elim (by have h : y2.toInt < x1.toInt := h; omega))
    subst T
    exact cvE rfl (funext fun q => if k0 : q = 32 then by subst k0; exact Eq.trans (b := (A 32)) rfl rfl else by unfold uA; simp only [nb1 k0, cond_false]) rfl (K _ _)
  | succ m ih =>
    intro B D F A L x1 y2 o3 hm K
    generalize hT : (kv_weighPairs_10 (F 3 1) (A 6) (L 11) x1 (m + 1) y2 (A 32)) = T at K
    have hE : T = (kv_weighPairs_10 (F 3 1) (A 6) (L 11) x1 m (y2 + 1) (kv_weighPairs_17 (F 3 1) (A 6) (L 11) y2 x1.toInt.toNat 0 (A 32))) := hT.symm
    clear hT
    refine w_n 2 (pc1 := 12) (ls1 := [some (.ref 30), some (.int x1), some (.int y2), o3]) (st1 := [.int x1, .int y2]) (hp1 := (hz F A L)) rfl ?_
    refine w_ge (p3 := 15) rfl rfl (fun h => False.elim (by have h : x1.toInt ≤ y2.toInt := h; omega)) (fun hb => ?_)
    refine w_n 2 (pc1 := 17) (ls1 := [some (.ref 30), some (.int x1), some (.int y2), some (.int 0)]) (st1 := []) (hp1 := (hz F A L)) rfl ?_
    refine t_kv_weighPairs_17 x1.toInt.toNat (show x1.toInt.toNat = (x1.toInt - (0 : Int32).toInt).toNat by have e0 : (0 : Int32).toInt = 0 := rfl; first | rfl | omega) ?_
    intro r1
    show wl_E f _ _ mm86.2.2.2.2.2.2.2.2 45 [some (.ref 30), some (.int x1), some (.int y2), some (.int r1)] [] (hz F (uA A 32 (kv_weighPairs_17 (F 3 1) (A 6) (L 11) y2 x1.toInt.toNat 0 (A 32))) L) _
    generalize hG255 : (kv_weighPairs_17 (F 3 1) (A 6) (L 11) y2 x1.toInt.toNat 0 (A 32)) = G255 at hE ⊢
    refine w_n 2 (pc1 := 10) (ls1 := [some (.ref 30), some (.int x1), some (.int (y2 + 1)), some (.int r1)]) (st1 := []) (hp1 := (hz F (uA A 32 G255) L)) rfl ?_
    subst T
    have hb2 := i_up (B := x1) hb
    have hb3 : y2.toInt < x1.toInt := hb
    exact ih (show m = (x1.toInt - (y2 + 1).toInt).toNat by rw [hb2]; omega) (fun q2 q3 => cvE rfl (funext fun q => if k0 : q = 32 then by subst k0; exact Eq.trans (b := (kv_weighPairs_10 (F 3 1) (A 6) (L 11) x1 m (y2 + 1) G255)) rfl rfl else by unfold uA; simp only [nb1 k0, cond_false]) rfl (K q2 q3))
def kv_weighPairs_67 (a32 : List Int32) (x2 : Int32) : Nat → Int32 → List Int32 → List Int32
  | 0, _, a33 => a33
  | m + 1, y3, a33 => (if (a32.getD ((y3 * 6) + x2).toInt.toNat 0).toInt < (a32.getD ((x2 * 6) + y3).toInt.toNat 0).toInt then (kv_weighPairs_67 a32 x2 m (y3 + 1) (a33.set x2.toInt.toNat ((a33.getD x2.toInt.toNat 0) ||| ((1 : Int32) <<< (y3 &&& 31))))) else (kv_weighPairs_67 a32 x2 m (y3 + 1) a33))
theorem t_kv_weighPairs_67 {f : Nat} {Q : Option Value → sm_H → Prop} : ∀ (m : Nat) {B D : Nat} {F : Nat → Nat → Int32} {A : Nat → List Int32} {L : Nat → List Int64} {x1 : Int32} {x2 : Int32} {y3 : Int32}, m = (x1.toInt - y3.toInt).toNat → (∀ q3 : Int32, wl_E f B D mm86.2.2.2.2.2.2.2.2 115 [some (.ref 30), some (.int x1), some (.int x2), some (.int q3)] [] (hz F (uA A 33 (kv_weighPairs_67 (A 32) x2 m y3 (A 33))) L) Q) → wl_E f B D mm86.2.2.2.2.2.2.2.2 67 [some (.ref 30), some (.int x1), some (.int x2), some (.int y3)] [] (hz F A L) Q := by
  intro m
  induction m with
  | zero =>
    intro B D F A L x1 x2 y3 hm K
    generalize hT : (kv_weighPairs_67 (A 32) x2 0 y3 (A 33)) = T at K
    have hE : T = (A 33) := hT.symm
    clear hT
    refine w_n 2 (pc1 := 69) (ls1 := [some (.ref 30), some (.int x1), some (.int x2), some (.int y3)]) (st1 := [.int x1, .int y3]) (hp1 := (hz F A L)) rfl ?_
    refine w_ge (p3 := 72) rfl rfl (fun hb => ?_) (fun h => False.elim (by have h : y3.toInt < x1.toInt := h; omega))
    subst T
    exact cvE rfl (funext fun q => if k0 : q = 33 then by subst k0; exact Eq.trans (b := (A 33)) rfl rfl else by unfold uA; simp only [nb1 k0, cond_false]) rfl (K _)
  | succ m ih =>
    intro B D F A L x1 x2 y3 hm K
    generalize hT : (kv_weighPairs_67 (A 32) x2 (m + 1) y3 (A 33)) = T at K
    have hE : T = (if ((A 32).getD ((y3 * 6) + x2).toInt.toNat 0).toInt < ((A 32).getD ((x2 * 6) + y3).toInt.toNat 0).toInt then (kv_weighPairs_67 (A 32) x2 m (y3 + 1) ((A 33).set x2.toInt.toNat (((A 33).getD x2.toInt.toNat 0) ||| ((1 : Int32) <<< (y3 &&& 31))))) else (kv_weighPairs_67 (A 32) x2 m (y3 + 1) (A 33))) := hT.symm
    clear hT
    refine w_n 2 (pc1 := 69) (ls1 := [some (.ref 30), some (.int x1), some (.int x2), some (.int y3)]) (st1 := [.int x1, .int y3]) (hp1 := (hz F A L)) rfl ?_
    refine w_ge (p3 := 72) rfl rfl (fun h => False.elim (by have h : x1.toInt ≤ y3.toInt := h; omega)) (fun hb => ?_)
    refine w_n 7 (pc1 := 82) (ls1 := [some (.ref 30), some (.int x1), some (.int x2), some (.int y3)]) (st1 := [.int ((x2 * 6) + y3), .ref 32]) (hp1 := (hz F A L)) rfl ?_
    refine w_al (k := 32) (l := (A 32)) rfl rfl rfl (fun _ => ?_)
    refine w_n 7 (pc1 := 93) (ls1 := [some (.ref 30), some (.int x1), some (.int x2), some (.int y3)]) (st1 := [.int ((y3 * 6) + x2), .ref 32, .int ((A 32).getD ((x2 * 6) + y3).toInt.toNat 0)]) (hp1 := (hz F A L)) rfl ?_
    refine w_al (k := 32) (l := (A 32)) rfl rfl rfl (fun _ => ?_)
    refine w_le (p3 := 97) rfl rfl (fun h => ?_) (fun h => ?_)
    · have h1 : ((A 32).getD ((x2 * 6) + y3).toInt.toNat 0).toInt ≤ ((A 32).getD ((y3 * 6) + x2).toInt.toNat 0).toInt := h
      rw [if_neg (Int.not_lt.mpr h1)] at hE
      refine w_n 2 (pc1 := 67) (ls1 := [some (.ref 30), some (.int x1), some (.int x2), some (.int (y3 + 1))]) (st1 := []) (hp1 := (hz F A L)) rfl ?_
      subst T
      have hb2 := i_up (B := x1) hb
      have hb3 : y3.toInt < x1.toInt := hb
      exact ih (show m = (x1.toInt - (y3 + 1).toInt).toNat by rw [hb2]; omega) (fun q3 => cvE rfl (funext fun q => if k0 : q = 33 then by subst k0; exact Eq.trans (b := (kv_weighPairs_67 (A 32) x2 m (y3 + 1) (A 33))) rfl rfl else by unfold uA; simp only [nb1 k0, cond_false]) rfl (K q3))
    · have h1 : ((A 32).getD ((y3 * 6) + x2).toInt.toNat 0).toInt < ((A 32).getD ((x2 * 6) + y3).toInt.toNat 0).toInt := h
      rw [if_pos h1] at hE
      refine w_n 4 (pc1 := 103) (ls1 := [some (.ref 30), some (.int x1), some (.int x2), some (.int y3)]) (st1 := [.int x2, .ref 33, .int x2, .ref 33]) (hp1 := (hz F A L)) rfl ?_
      refine w_al (k := 33) (l := (A 33)) rfl rfl rfl (fun _ => ?_)
      refine w_n 4 (pc1 := 108) (ls1 := [some (.ref 30), some (.int x1), some (.int x2), some (.int y3)]) (st1 := [.int (((A 33).getD x2.toInt.toNat 0) ||| ((1 : Int32) <<< (y3 &&& 31))), .int x2, .ref 33]) (hp1 := (hz F A L)) rfl ?_
      refine w_as (k := 33) (l := (A 33)) (hp1 := (hz F (uA A 33 ((A 33).set x2.toInt.toNat (((A 33).getD x2.toInt.toNat 0) ||| ((1 : Int32) <<< (y3 &&& 31))))) L)) rfl rfl rfl (hz_s33 _) (fun _ => ?_)
      refine w_n 2 (pc1 := 67) (ls1 := [some (.ref 30), some (.int x1), some (.int x2), some (.int (y3 + 1))]) (st1 := []) (hp1 := (hz F (uA A 33 ((A 33).set x2.toInt.toNat (((A 33).getD x2.toInt.toNat 0) ||| ((1 : Int32) <<< (y3 &&& 31))))) L)) rfl ?_
      subst T
      have hb2 := i_up (B := x1) hb
      have hb3 : y3.toInt < x1.toInt := hb
      exact ih (show m = (x1.toInt - (y3 + 1).toInt).toNat by rw [hb2]; omega) (fun q3 => cvE rfl (funext fun q => if k0 : q = 33 then by subst k0; exact Eq.trans (b := (kv_weighPairs_67 (A 32) x2 m (y3 + 1) ((A 33).set x2.toInt.toNat (((A 33).getD x2.toInt.toNat 0) ||| ((1 : Int32) <<< (y3 &&& 31)))))) rfl rfl else by unfold uA; simp only [nb1 k0, cond_false]) rfl (K q3))
def kv_weighPairs_53 (a32 : List Int32) (x1 : Int32) : Nat → Int32 → List Int32 → List Int32
  | 0, _, a33 => a33
  | m + 1, y2, a33 => (kv_weighPairs_53 a32 x1 m (y2 + 1) (kv_weighPairs_67 a32 y2 x1.toInt.toNat 0 (a33.set y2.toInt.toNat 0)))
theorem t_kv_weighPairs_53 {f : Nat} {Q : Option Value → sm_H → Prop} : ∀ (m : Nat) {B D : Nat} {F : Nat → Nat → Int32} {A : Nat → List Int32} {L : Nat → List Int64} {x1 : Int32} {y2 : Int32} {o3 : Option Value}, m = (x1.toInt - y2.toInt).toNat → (∀ q2 : Int32, ∀ q3 : Option Value, wl_E f B D mm86.2.2.2.2.2.2.2.2 121 [some (.ref 30), some (.int x1), some (.int q2), q3] [] (hz F (uA A 33 (kv_weighPairs_53 (A 32) x1 m y2 (A 33))) L) Q) → wl_E f B D mm86.2.2.2.2.2.2.2.2 53 [some (.ref 30), some (.int x1), some (.int y2), o3] [] (hz F A L) Q := by
  intro m
  induction m with
  | zero =>
    intro B D F A L x1 y2 o3 hm K
    generalize hT : (kv_weighPairs_53 (A 32) x1 0 y2 (A 33)) = T at K
    have hE : T = (A 33) := hT.symm
    clear hT
    refine w_n 2 (pc1 := 55) (ls1 := [some (.ref 30), some (.int x1), some (.int y2), o3]) (st1 := [.int x1, .int y2]) (hp1 := (hz F A L)) rfl ?_
    refine w_ge (p3 := 58) rfl rfl (fun hb => ?_) (fun h => False.elim (by have h : y2.toInt < x1.toInt := h; omega))
    subst T
    exact cvE rfl (funext fun q => if k0 : q = 33 then by subst k0; exact Eq.trans (b := (A 33)) rfl rfl else by unfold uA; simp only [nb1 k0, cond_false]) rfl (K _ _)
  | succ m ih =>
    intro B D F A L x1 y2 o3 hm K
    generalize hT : (kv_weighPairs_53 (A 32) x1 (m + 1) y2 (A 33)) = T at K
    have hE : T = (kv_weighPairs_53 (A 32) x1 m (y2 + 1) (kv_weighPairs_67 (A 32) y2 x1.toInt.toNat 0 ((A 33).set y2.toInt.toNat 0))) := hT.symm
    clear hT
    refine w_n 2 (pc1 := 55) (ls1 := [some (.ref 30), some (.int x1), some (.int y2), o3]) (st1 := [.int x1, .int y2]) (hp1 := (hz F A L)) rfl ?_
    refine w_ge (p3 := 58) rfl rfl (fun h => False.elim (by have h : x1.toInt ≤ y2.toInt := h; omega)) (fun hb => ?_)
    refine w_n 4 (pc1 := 64) (ls1 := [some (.ref 30), some (.int x1), some (.int y2), o3]) (st1 := [.int 0, .int y2, .ref 33]) (hp1 := (hz F A L)) rfl ?_
    refine w_as (k := 33) (l := (A 33)) (hp1 := (hz F (uA A 33 ((A 33).set y2.toInt.toNat 0)) L)) rfl rfl rfl (hz_s33 _) (fun ab => ?_)
    refine w_n 2 (pc1 := 67) (ls1 := [some (.ref 30), some (.int x1), some (.int y2), some (.int 0)]) (st1 := []) (hp1 := (hz F (uA A 33 ((A 33).set y2.toInt.toNat 0)) L)) rfl ?_
    refine t_kv_weighPairs_67 x1.toInt.toNat (show x1.toInt.toNat = (x1.toInt - (0 : Int32).toInt).toNat by have e0 : (0 : Int32).toInt = 0 := rfl; first | rfl | omega) ?_
    intro r1
    show wl_E f _ _ mm86.2.2.2.2.2.2.2.2 115 [some (.ref 30), some (.int x1), some (.int y2), some (.int r1)] [] (hz F (uA (uA A 33 ((A 33).set y2.toInt.toNat 0)) 33 (kv_weighPairs_67 (A 32) y2 x1.toInt.toNat 0 ((A 33).set y2.toInt.toNat 0))) L) _
    generalize hG257 : (kv_weighPairs_67 (A 32) y2 x1.toInt.toNat 0 ((A 33).set y2.toInt.toNat 0)) = G257 at hE ⊢
    refine w_n 2 (pc1 := 53) (ls1 := [some (.ref 30), some (.int x1), some (.int (y2 + 1)), some (.int r1)]) (st1 := []) (hp1 := (hz F (uA (uA A 33 ((A 33).set y2.toInt.toNat 0)) 33 G257) L)) rfl ?_
    subst T
    have hb2 := i_up (B := x1) hb
    have hb3 : y2.toInt < x1.toInt := hb
    exact ih (show m = (x1.toInt - (y2 + 1).toInt).toNat by rw [hb2]; omega) (fun q2 q3 => cvE rfl (funext fun q => if k0 : q = 33 then by subst k0; exact Eq.trans (b := (kv_weighPairs_53 (A 32) x1 m (y2 + 1) G257)) rfl rfl else by unfold uA; simp only [nb1 k0, cond_false]) rfl (K q2 q3))
def kv_weighPairs (f3_0 : Int32) (f3_1 : Int32) (a6 : List Int32) (a32 : List Int32) (a33 : List Int32) (l11 : List Int64) : List Int32 × List Int32 := ((kv_weighPairs_10 f3_1 a6 l11 f3_0 f3_0.toInt.toNat 0 a32), (kv_weighPairs_53 (kv_weighPairs_10 f3_1 a6 l11 f3_0 f3_0.toInt.toNat 0 a32) f3_0 f3_0.toInt.toNat 0 a33))
theorem t_kv_weighPairs {f D : Nat} {F : Nat → Nat → Int32} {A : Nat → List Int32} {L : Nat → List Int64} {Q : Option Value → sm_H → Prop} (K : Q none (hz F (uA (uA A 32 ((kv_weighPairs (F 3 0) (F 3 1) (A 6) (A 32) (A 33) (L 11)).1)) 33 ((kv_weighPairs (F 3 0) (F 3 1) (A 6) (A 32) (A 33) (L 11)).2)) L)) : wl_M f D 86 [.ref 30] (hz F A L) Q := by
  generalize hT : (kv_weighPairs (F 3 0) (F 3 1) (A 6) (A 32) (A 33) (L 11)) = T at K
  have hE : T = ((kv_weighPairs_10 (F 3 1) (A 6) (L 11) (F 3 0) (F 3 0).toInt.toNat 0 (A 32)), (kv_weighPairs_53 (kv_weighPairs_10 (F 3 1) (A 6) (L 11) (F 3 0) (F 3 0).toInt.toNat 0 (A 32)) (F 3 0) (F 3 0).toInt.toNat 0 (A 33))) := hT.symm
  clear hT
  refine w_m (E := mm86) rfl ?_
  show wl_E f f (D - 1) mm86.2.2.2.2.2.2.2.2 0 [some (.ref 30), none, none, none] [] (hz F A L) Q
  refine w_n 6 (pc1 := 10) (ls1 := [some (.ref 30), some (.int (F 3 0)), some (.int 0), none]) (st1 := []) (hp1 := (hz F A L)) rfl ?_
  refine t_kv_weighPairs_10 (F 3 0).toInt.toNat (show (F 3 0).toInt.toNat = ((F 3 0).toInt - (0 : Int32).toInt).toNat by have e0 : (0 : Int32).toInt = 0 := rfl; first | rfl | omega) ?_
  intro r1 r2
  show wl_E f _ _ mm86.2.2.2.2.2.2.2.2 51 [some (.ref 30), some (.int (F 3 0)), some (.int r1), r2] [] (hz F (uA A 32 (kv_weighPairs_10 (F 3 1) (A 6) (L 11) (F 3 0) (F 3 0).toInt.toNat 0 (A 32))) L) _
  generalize hG256 : (kv_weighPairs_10 (F 3 1) (A 6) (L 11) (F 3 0) (F 3 0).toInt.toNat 0 (A 32)) = G256 at hE ⊢
  refine w_n 2 (pc1 := 53) (ls1 := [some (.ref 30), some (.int (F 3 0)), some (.int 0), r2]) (st1 := []) (hp1 := (hz F (uA A 32 G256) L)) rfl ?_
  refine t_kv_weighPairs_53 (F 3 0).toInt.toNat (show (F 3 0).toInt.toNat = ((F 3 0).toInt - (0 : Int32).toInt).toNat by have e0 : (0 : Int32).toInt = 0 := rfl; first | rfl | omega) ?_
  intro r3 r4
  show wl_E f _ _ mm86.2.2.2.2.2.2.2.2 121 [some (.ref 30), some (.int (F 3 0)), some (.int r3), r4] [] (hz F (uA (uA A 32 G256) 33 (kv_weighPairs_53 G256 (F 3 0) (F 3 0).toInt.toNat 0 (A 33))) L) _
  generalize hG258 : (kv_weighPairs_53 G256 (F 3 0) (F 3 0).toInt.toNat 0 (A 33)) = G258 at hE ⊢
  subst T
  exact w_r rfl rfl (cvQ rfl rfl rfl K)
def kc_best_17 (a32 : List Int32) (a33 : List Int32) (x1 : Int32) : Nat → Int32 → Int32 × List Int32 × List Int32
  | 0, _ => ((-2), a32, a33)
  | m + 1, y2 => (if ((a33.getD y2.toInt.toNat 0) ||| ((1 : Int32) <<< (y2 &&& 31))) = x1 then (y2, a32, a33) else (kc_best_17 a32 a33 x1 m (y2 + 1)))
theorem t_kc_best_17 {f : Nat} {Q : Option Value → sm_H → Prop} : ∀ (m : Nat) {B D : Nat} {F : Nat → Nat → Int32} {A : Nat → List Int32} {L : Nat → List Int64} {x1 : Int32} {y2 : Int32}, m = ((F 3 0).toInt - y2.toInt).toNat → (Q (some (.int ((kc_best_17 (A 32) (A 33) x1 m y2).1))) (hz F (uA (uA A 32 ((kc_best_17 (A 32) (A 33) x1 m y2).2.1)) 33 ((kc_best_17 (A 32) (A 33) x1 m y2).2.2)) L)) → wl_E f B D mm85.2.2.2.2.2.2.2.2 17 [some (.ref 0), some (.int x1), some (.int y2)] [] (hz F A L) Q := by
  intro m
  induction m with
  | zero =>
    intro B D F A L x1 y2 hm K
    generalize hT : (kc_best_17 (A 32) (A 33) x1 0 y2) = T at K
    have hE : T = ((-2), (A 32), (A 33)) := hT.symm
    clear hT
    refine w_n 4 (pc1 := 25) (ls1 := [some (.ref 0), some (.int x1), some (.int y2)]) (st1 := [.int (F 3 0), .int y2]) (hp1 := (hz F A L)) rfl ?_
    refine w_ge (p3 := 28) rfl rfl (fun hb => ?_) (fun h => False.elim (by have h : y2.toInt < (F 3 0).toInt := h; omega))
    refine w_n 1 (pc1 := 55) (ls1 := [some (.ref 0), some (.int x1), some (.int y2)]) (st1 := [.int (-2)]) (hp1 := (hz F A L)) rfl ?_
    subst T
    exact w_ri rfl (cvQ rfl (funext fun q => if k0 : q = 32 then by subst k0; exact Eq.trans (b := (A 32)) rfl rfl else if k1 : q = 33 then by subst k1; exact Eq.trans (b := (A 33)) rfl rfl else by unfold uA; simp only [nb1 k0, nb1 k1, cond_false]) rfl K)
  | succ m ih =>
    intro B D F A L x1 y2 hm K
    generalize hT : (kc_best_17 (A 32) (A 33) x1 (m + 1) y2) = T at K
    have hE : T = (if (((A 33).getD y2.toInt.toNat 0) ||| ((1 : Int32) <<< (y2 &&& 31))) = x1 then (y2, (A 32), (A 33)) else (kc_best_17 (A 32) (A 33) x1 m (y2 + 1))) := hT.symm
    clear hT
    refine w_n 4 (pc1 := 25) (ls1 := [some (.ref 0), some (.int x1), some (.int y2)]) (st1 := [.int (F 3 0), .int y2]) (hp1 := (hz F A L)) rfl ?_
    refine w_ge (p3 := 28) rfl rfl (fun h => False.elim (by have h : (F 3 0).toInt ≤ y2.toInt := h; omega)) (fun hb => ?_)
    refine w_n 4 (pc1 := 36) (ls1 := [some (.ref 0), some (.int x1), some (.int y2)]) (st1 := [.int y2, .ref 33]) (hp1 := (hz F A L)) rfl ?_
    refine w_al (k := 33) (l := (A 33)) rfl rfl rfl (fun ab => ?_)
    refine w_n 5 (pc1 := 42) (ls1 := [some (.ref 0), some (.int x1), some (.int y2)]) (st1 := [.int x1, .int (((A 33).getD y2.toInt.toNat 0) ||| ((1 : Int32) <<< (y2 &&& 31)))]) (hp1 := (hz F A L)) rfl ?_
    refine w_ne (p3 := 45) rfl rfl (fun h => ?_) (fun h => ?_)
    · have h1 : ¬ (((A 33).getD y2.toInt.toNat 0) ||| ((1 : Int32) <<< (y2 &&& 31))) = x1 := h
      rw [if_neg h1] at hE
      refine w_n 2 (pc1 := 17) (ls1 := [some (.ref 0), some (.int x1), some (.int (y2 + 1))]) (st1 := []) (hp1 := (hz F A L)) rfl ?_
      subst T
      have hb2 := i_up (B := (F 3 0)) hb
      have hb3 : y2.toInt < (F 3 0).toInt := hb
      exact ih (show m = ((F 3 0).toInt - (y2 + 1).toInt).toNat by rw [hb2]; omega) (cvQ rfl (funext fun q => if k0 : q = 32 then by subst k0; exact Eq.trans (b := (kc_best_17 (A 32) (A 33) x1 m (y2 + 1)).2.1) rfl rfl else if k1 : q = 33 then by subst k1; exact Eq.trans (b := (kc_best_17 (A 32) (A 33) x1 m (y2 + 1)).2.2) rfl rfl else by unfold uA; simp only [nb1 k0, nb1 k1, cond_false]) rfl K)
    · have h1 : (((A 33).getD y2.toInt.toNat 0) ||| ((1 : Int32) <<< (y2 &&& 31))) = x1 := h
      rw [if_pos h1] at hE
      refine w_n 1 (pc1 := 46) (ls1 := [some (.ref 0), some (.int x1), some (.int y2)]) (st1 := [.int y2]) (hp1 := (hz F A L)) rfl ?_
      subst T
      exact w_ri rfl (cvQ rfl (funext fun q => if k0 : q = 32 then by subst k0; exact Eq.trans (b := (A 32)) rfl rfl else if k1 : q = 33 then by subst k1; exact Eq.trans (b := (A 33)) rfl rfl else by unfold uA; simp only [nb1 k0, nb1 k1, cond_false]) rfl K)
def kc_best (f3_0 : Int32) (f3_1 : Int32) (a6 : List Int32) (a32 : List Int32) (a33 : List Int32) (l11 : List Int64) : Int32 × List Int32 × List Int32 := (kc_best_17 (kv_weighPairs f3_0 f3_1 a6 a32 a33 l11).1 (kv_weighPairs f3_0 f3_1 a6 a32 a33 l11).2 (kt_allMeasures f3_0) f3_0.toInt.toNat 0)
theorem t_kc_best {f D : Nat} {F : Nat → Nat → Int32} {A : Nat → List Int32} {L : Nat → List Int64} {Q : Option Value → sm_H → Prop} (K : Q (some (.int ((kc_best (F 3 0) (F 3 1) (A 6) (A 32) (A 33) (L 11)).1))) (hz F (uA (uA A 32 ((kc_best (F 3 0) (F 3 1) (A 6) (A 32) (A 33) (L 11)).2.1)) 33 ((kc_best (F 3 0) (F 3 1) (A 6) (A 32) (A 33) (L 11)).2.2)) L)) : wl_M f D 85 [.ref 0] (hz F A L) Q := by
  generalize hT : (kc_best (F 3 0) (F 3 1) (A 6) (A 32) (A 33) (L 11)) = T at K
  have hE : T = (kc_best_17 (kv_weighPairs (F 3 0) (F 3 1) (A 6) (A 32) (A 33) (L 11)).1 (kv_weighPairs (F 3 0) (F 3 1) (A 6) (A 32) (A 33) (L 11)).2 (kt_allMeasures (F 3 0)) (F 3 0).toInt.toNat 0) := hT.symm
  clear hT
  refine w_m (E := mm85) rfl ?_
  show wl_E f f (D - 1) mm85.2.2.2.2.2.2.2.2 0 [some (.ref 0), none, none] [] (hz F A L) Q
  refine w_n 2 (pc1 := 4) (ls1 := [some (.ref 0), none, none]) (st1 := [.ref 30]) (hp1 := (hz F A L)) rfl ?_
  refine w_c rfl rfl (t_kv_weighPairs ?_)
  show wl_E f _ _ mm85.2.2.2.2.2.2.2.2 7 [some (.ref 0), none, none] [] (hz F (uA (uA A 32 (kv_weighPairs (F 3 0) (F 3 1) (A 6) (A 32) (A 33) (L 11)).1) 33 (kv_weighPairs (F 3 0) (F 3 1) (A 6) (A 32) (A 33) (L 11)).2) L) _
  generalize hG259 : (kv_weighPairs (F 3 0) (F 3 1) (A 6) (A 32) (A 33) (L 11)) = G259 at hE ⊢
  refine w_n 2 (pc1 := 11) (ls1 := [some (.ref 0), none, none]) (st1 := [.ref 3]) (hp1 := (hz F (uA (uA A 32 G259.1) 33 G259.2) L)) rfl ?_
  refine w_c rfl rfl (t_kt_allMeasures ?_)
  show wl_E f _ _ mm85.2.2.2.2.2.2.2.2 14 [some (.ref 0), none, none] [.int (kt_allMeasures (F 3 0))] (hz F (uA (uA A 32 G259.1) 33 G259.2) L) _
  generalize hG260 : (kt_allMeasures (F 3 0)) = G260 at hE ⊢
  refine w_n 3 (pc1 := 17) (ls1 := [some (.ref 0), some (.int G260), some (.int 0)]) (st1 := []) (hp1 := (hz F (uA (uA A 32 G259.1) 33 G259.2) L)) rfl ?_
  subst T
  exact t_kc_best_17 _ (show (F 3 0).toInt.toNat = ((F 3 0).toInt - (0 : Int32).toInt).toNat by have e0 : (0 : Int32).toInt = 0 := rfl; first | rfl | omega) (cvQ rfl (funext fun q => if k0 : q = 32 then by subst k0; exact Eq.trans (b := (kc_best_17 G259.1 G259.2 G260 (F 3 0).toInt.toNat 0).2.1) rfl rfl else if k1 : q = 33 then by subst k1; exact Eq.trans (b := (kc_best_17 G259.1 G259.2 G260 (F 3 0).toInt.toNat 0).2.2) rfl rfl else by unfold uA; simp only [nb1 k0, nb1 k1, cond_false]) rfl K)
def km_beats (a68 : List Int32) (x1 : Int32) (x2 : Int32) : Int32 := (if (km_pairOf a68 x2 x1).toInt < (km_pairOf a68 x1 x2).toInt then 1 else 0)
theorem t_km_beats {f D : Nat} {F : Nat → Nat → Int32} {A : Nat → List Int32} {L : Nat → List Int64} {Q : Option Value → sm_H → Prop} {x1 : Int32} {x2 : Int32} (K : Q (some (.int (km_beats (A 68) x1 x2))) (hz F A L)) : wl_M f D 213 [.ref 67, .int x1, .int x2] (hz F A L) Q := by
  generalize hT : (km_beats (A 68) x1 x2) = T at K
  have hE : T = (if (km_pairOf (A 68) x2 x1).toInt < (km_pairOf (A 68) x1 x2).toInt then 1 else 0) := hT.symm
  clear hT
  refine w_m (E := mm213) rfl ?_
  show wl_E f f (D - 1) mm213.2.2.2.2.2.2.2.2 0 [some (.ref 67), some (.int x1), some (.int x2)] [] (hz F A L) Q
  refine w_n 3 (pc1 := 3) (ls1 := [some (.ref 67), some (.int x1), some (.int x2)]) (st1 := [.int x2, .int x1, .ref 67]) (hp1 := (hz F A L)) rfl ?_
  refine w_c rfl rfl (t_km_pairOf ?_)
  show wl_E f _ _ mm213.2.2.2.2.2.2.2.2 6 [some (.ref 67), some (.int x1), some (.int x2)] [.int (km_pairOf (A 68) x1 x2)] (hz F A L) _
  generalize hG263 : (km_pairOf (A 68) x1 x2) = G263 at hE ⊢
  refine w_n 3 (pc1 := 9) (ls1 := [some (.ref 67), some (.int x1), some (.int x2)]) (st1 := [.int x1, .int x2, .ref 67, .int G263]) (hp1 := (hz F A L)) rfl ?_
  refine w_c rfl rfl (t_km_pairOf ?_)
  show wl_E f _ _ mm213.2.2.2.2.2.2.2.2 12 [some (.ref 67), some (.int x1), some (.int x2)] [.int (km_pairOf (A 68) x2 x1), .int G263] (hz F A L) _
  generalize hG264 : (km_pairOf (A 68) x2 x1) = G264 at hE ⊢
  refine w_le (p3 := 15) rfl rfl (fun h => ?_) (fun h => ?_)
  · have h1 : G263.toInt ≤ G264.toInt := h
    rw [if_neg (Int.not_lt.mpr h1)] at hE
    refine w_n 1 (pc1 := 20) (ls1 := [some (.ref 67), some (.int x1), some (.int x2)]) (st1 := [.int 0]) (hp1 := (hz F A L)) rfl ?_
    subst T
    exact w_ri rfl (cvQ rfl rfl rfl K)
  · have h1 : G264.toInt < G263.toInt := h
    rw [if_pos h1] at hE
    refine w_n 2 (pc1 := 20) (ls1 := [some (.ref 67), some (.int x1), some (.int x2)]) (st1 := [.int 1]) (hp1 := (hz F A L)) rfl ?_
    subst T
    exact w_ri rfl (cvQ rfl rfl rfl K)
def km_beatsAll_2 (a68 : List Int32) (x1 : Int32) (x2 : Int32) : Nat → Int32 → Int32
  | 0, _ => 1
  | m + 1, y3 => (if (km_has x2 y3) = 0 then (km_beatsAll_2 a68 x1 x2 m (y3 + 1)) else (if (km_beats a68 x1 y3) = 0 then 0 else (km_beatsAll_2 a68 x1 x2 m (y3 + 1))))
theorem t_km_beatsAll_2 {f : Nat} {Q : Option Value → sm_H → Prop} : ∀ (m : Nat) {B D : Nat} {F : Nat → Nat → Int32} {A : Nat → List Int32} {L : Nat → List Int64} {x1 : Int32} {x2 : Int32} {y3 : Int32}, m = ((F 67 3).toInt - y3.toInt).toNat → (Q (some (.int (km_beatsAll_2 (A 68) x1 x2 m y3))) (hz F A L)) → wl_E f B D mm212.2.2.2.2.2.2.2.2 2 [some (.ref 67), some (.int x1), some (.int x2), some (.int y3)] [] (hz F A L) Q := by
  intro m
  induction m with
  | zero =>
    intro B D F A L x1 x2 y3 hm K
    generalize hT : (km_beatsAll_2 (A 68) x1 x2 0 y3) = T at K
    have hE : T = 1 := hT.symm
    clear hT
    refine w_n 3 (pc1 := 7) (ls1 := [some (.ref 67), some (.int x1), some (.int x2), some (.int y3)]) (st1 := [.int (F 67 3), .int y3]) (hp1 := (hz F A L)) rfl ?_
    refine w_ge (p3 := 10) rfl rfl (fun hb => ?_) (fun h => False.elim (by have h : y3.toInt < (F 67 3).toInt := h; omega))
    refine w_n 1 (pc1 := 36) (ls1 := [some (.ref 67), some (.int x1), some (.int x2), some (.int y3)]) (st1 := [.int 1]) (hp1 := (hz F A L)) rfl ?_
    subst T
    exact w_ri rfl (cvQ rfl rfl rfl K)
  | succ m ih =>
    intro B D F A L x1 x2 y3 hm K
    generalize hT : (km_beatsAll_2 (A 68) x1 x2 (m + 1) y3) = T at K
    have hE : T = (if (km_has x2 y3) = 0 then (km_beatsAll_2 (A 68) x1 x2 m (y3 + 1)) else (if (km_beats (A 68) x1 y3) = 0 then 0 else (km_beatsAll_2 (A 68) x1 x2 m (y3 + 1)))) := hT.symm
    clear hT
    refine w_n 3 (pc1 := 7) (ls1 := [some (.ref 67), some (.int x1), some (.int x2), some (.int y3)]) (st1 := [.int (F 67 3), .int y3]) (hp1 := (hz F A L)) rfl ?_
    refine w_ge (p3 := 10) rfl rfl (fun h => False.elim (by have h : (F 67 3).toInt ≤ y3.toInt := h; omega)) (fun hb => ?_)
    refine w_n 2 (pc1 := 12) (ls1 := [some (.ref 67), some (.int x1), some (.int x2), some (.int y3)]) (st1 := [.int y3, .int x2]) (hp1 := (hz F A L)) rfl ?_
    refine w_c rfl rfl (t_km_has ?_)
    show wl_E f _ _ mm212.2.2.2.2.2.2.2.2 15 [some (.ref 67), some (.int x1), some (.int x2), some (.int y3)] [.int (km_has x2 y3)] (hz F A L) _
    generalize hG262 : (km_has x2 y3) = G262 at hE ⊢
    refine w_zeq (p3 := 18) rfl rfl (fun h => ?_) (fun h => ?_)
    · have h1 : G262 = 0 := h
      rw [if_pos h1] at hE
      refine w_n 2 (pc1 := 2) (ls1 := [some (.ref 67), some (.int x1), some (.int x2), some (.int (y3 + 1))]) (st1 := []) (hp1 := (hz F A L)) rfl ?_
      subst T
      have hb2 := i_up (B := (F 67 3)) hb
      have hb3 : y3.toInt < (F 67 3).toInt := hb
      exact ih (show m = ((F 67 3).toInt - (y3 + 1).toInt).toNat by rw [hb2]; omega) (cvQ rfl rfl rfl K)
    · have h1 : ¬ G262 = 0 := h
      rw [if_neg h1] at hE
      refine w_n 3 (pc1 := 21) (ls1 := [some (.ref 67), some (.int x1), some (.int x2), some (.int y3)]) (st1 := [.int y3, .int x1, .ref 67]) (hp1 := (hz F A L)) rfl ?_
      refine w_c rfl rfl (t_km_beats ?_)
      show wl_E f _ _ mm212.2.2.2.2.2.2.2.2 24 [some (.ref 67), some (.int x1), some (.int x2), some (.int y3)] [.int (km_beats (A 68) x1 y3)] (hz F A L) _
      generalize hG265 : (km_beats (A 68) x1 y3) = G265 at hE ⊢
      refine w_zne (p3 := 27) rfl rfl (fun h => ?_) (fun h => ?_)
      · have h2 : ¬ G265 = 0 := h
        rw [if_neg h2] at hE
        refine w_n 2 (pc1 := 2) (ls1 := [some (.ref 67), some (.int x1), some (.int x2), some (.int (y3 + 1))]) (st1 := []) (hp1 := (hz F A L)) rfl ?_
        subst T
        have hb2 := i_up (B := (F 67 3)) hb
        have hb3 : y3.toInt < (F 67 3).toInt := hb
        exact ih (show m = ((F 67 3).toInt - (y3 + 1).toInt).toNat by rw [hb2]; omega) (cvQ rfl rfl rfl K)
      · have h2 : G265 = 0 := h
        rw [if_pos h2] at hE
        refine w_n 1 (pc1 := 28) (ls1 := [some (.ref 67), some (.int x1), some (.int x2), some (.int y3)]) (st1 := [.int 0]) (hp1 := (hz F A L)) rfl ?_
        subst T
        exact w_ri rfl (cvQ rfl rfl rfl K)
def km_beatsAll (f67_3 : Int32) (a68 : List Int32) (x1 : Int32) (x2 : Int32) : Int32 := (km_beatsAll_2 a68 x1 x2 f67_3.toInt.toNat 0)
theorem t_km_beatsAll {f D : Nat} {F : Nat → Nat → Int32} {A : Nat → List Int32} {L : Nat → List Int64} {Q : Option Value → sm_H → Prop} {x1 : Int32} {x2 : Int32} (K : Q (some (.int (km_beatsAll (F 67 3) (A 68) x1 x2))) (hz F A L)) : wl_M f D 212 [.ref 67, .int x1, .int x2] (hz F A L) Q := by
  generalize hT : (km_beatsAll (F 67 3) (A 68) x1 x2) = T at K
  have hE : T = (km_beatsAll_2 (A 68) x1 x2 (F 67 3).toInt.toNat 0) := hT.symm
  clear hT
  refine w_m (E := mm212) rfl ?_
  show wl_E f f (D - 1) mm212.2.2.2.2.2.2.2.2 0 [some (.ref 67), some (.int x1), some (.int x2), none] [] (hz F A L) Q
  refine w_n 2 (pc1 := 2) (ls1 := [some (.ref 67), some (.int x1), some (.int x2), some (.int 0)]) (st1 := []) (hp1 := (hz F A L)) rfl ?_
  subst T
  exact t_km_beatsAll_2 _ (show (F 67 3).toInt.toNat = ((F 67 3).toInt - (0 : Int32).toInt).toNat by have e0 : (0 : Int32).toInt = 0 := rfl; first | rfl | omega) (cvQ rfl rfl rfl K)
def km_best_2 (f67_3 : Int32) (a68 : List Int32)  : Nat → Int32 → Int32
  | 0, _ => (-2)
  | m + 1, y1 => (if (km_beatsAll f67_3 a68 y1 ((km_allMeasures f67_3) &&& (((1 : Int32) <<< (y1 &&& 31)) ^^^ (-1)))) = 0 then (km_best_2 f67_3 a68 m (y1 + 1)) else y1)
theorem t_km_best_2 {f : Nat} {Q : Option Value → sm_H → Prop} : ∀ (m : Nat) {B D : Nat} {F : Nat → Nat → Int32} {A : Nat → List Int32} {L : Nat → List Int64} {y1 : Int32}, m = ((F 67 3).toInt - y1.toInt).toNat → (Q (some (.int (km_best_2 (F 67 3) (A 68) m y1))) (hz F A L)) → wl_E f B D mm211.2.2.2.2.2.2.2.2 2 [some (.ref 67), some (.int y1)] [] (hz F A L) Q := by
  intro m
  induction m with
  | zero =>
    intro B D F A L y1 hm K
    generalize hT : (km_best_2 (F 67 3) (A 68) 0 y1) = T at K
    have hE : T = (-2) := hT.symm
    clear hT
    refine w_n 3 (pc1 := 7) (ls1 := [some (.ref 67), some (.int y1)]) (st1 := [.int (F 67 3), .int y1]) (hp1 := (hz F A L)) rfl ?_
    refine w_ge (p3 := 10) rfl rfl (fun hb => ?_) (fun h => False.elim (by have h : y1.toInt < (F 67 3).toInt := h; omega))
    refine w_n 1 (pc1 := 38) (ls1 := [some (.ref 67), some (.int y1)]) (st1 := [.int (-2)]) (hp1 := (hz F A L)) rfl ?_
    subst T
    exact w_ri rfl (cvQ rfl rfl rfl K)
  | succ m ih =>
    intro B D F A L y1 hm K
    generalize hT : (km_best_2 (F 67 3) (A 68) (m + 1) y1) = T at K
    have hE : T = (if (km_beatsAll (F 67 3) (A 68) y1 ((km_allMeasures (F 67 3)) &&& (((1 : Int32) <<< (y1 &&& 31)) ^^^ (-1)))) = 0 then (km_best_2 (F 67 3) (A 68) m (y1 + 1)) else y1) := hT.symm
    clear hT
    refine w_n 3 (pc1 := 7) (ls1 := [some (.ref 67), some (.int y1)]) (st1 := [.int (F 67 3), .int y1]) (hp1 := (hz F A L)) rfl ?_
    refine w_ge (p3 := 10) rfl rfl (fun h => False.elim (by have h : (F 67 3).toInt ≤ y1.toInt := h; omega)) (fun hb => ?_)
    refine w_n 3 (pc1 := 13) (ls1 := [some (.ref 67), some (.int y1)]) (st1 := [.ref 67, .int y1, .ref 67]) (hp1 := (hz F A L)) rfl ?_
    refine w_c rfl rfl (t_km_allMeasures ?_)
    show wl_E f _ _ mm211.2.2.2.2.2.2.2.2 16 [some (.ref 67), some (.int y1)] [.int (km_allMeasures (F 67 3)), .int y1, .ref 67] (hz F A L) _
    generalize hG261 : (km_allMeasures (F 67 3)) = G261 at hE ⊢
    refine w_n 6 (pc1 := 22) (ls1 := [some (.ref 67), some (.int y1)]) (st1 := [.int (G261 &&& (((1 : Int32) <<< (y1 &&& 31)) ^^^ (-1))), .int y1, .ref 67]) (hp1 := (hz F A L)) rfl ?_
    refine w_c rfl rfl (t_km_beatsAll ?_)
    show wl_E f _ _ mm211.2.2.2.2.2.2.2.2 25 [some (.ref 67), some (.int y1)] [.int (km_beatsAll (F 67 3) (A 68) y1 (G261 &&& (((1 : Int32) <<< (y1 &&& 31)) ^^^ (-1))))] (hz F A L) _
    generalize hG266 : (km_beatsAll (F 67 3) (A 68) y1 (G261 &&& (((1 : Int32) <<< (y1 &&& 31)) ^^^ (-1)))) = G266 at hE ⊢
    refine w_zeq (p3 := 28) rfl rfl (fun h => ?_) (fun h => ?_)
    · have h1 : G266 = 0 := h
      rw [if_pos h1] at hE
      refine w_n 2 (pc1 := 2) (ls1 := [some (.ref 67), some (.int (y1 + 1))]) (st1 := []) (hp1 := (hz F A L)) rfl ?_
      subst T
      have hb2 := i_up (B := (F 67 3)) hb
      have hb3 : y1.toInt < (F 67 3).toInt := hb
      exact ih (show m = ((F 67 3).toInt - (y1 + 1).toInt).toNat by rw [hb2]; omega) (cvQ rfl rfl rfl K)
    · have h1 : ¬ G266 = 0 := h
      rw [if_neg h1] at hE
      refine w_n 1 (pc1 := 29) (ls1 := [some (.ref 67), some (.int y1)]) (st1 := [.int y1]) (hp1 := (hz F A L)) rfl ?_
      subst T
      exact w_ri rfl (cvQ rfl rfl rfl K)
