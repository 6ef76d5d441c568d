/-! lifts, printed by genlift.py: 7 -/
noncomputable def kja_fill_37 (a37 : List Int32) (x1 : Int32) : List Int32 := (kja_fill_37_5 x1 ((Int32.ofNat a37.length).toInt).toNat 0 a37)
theorem t_kja_fill_37 {f D : Nat} {F : Nat → Nat → Int32} {A : Nat → List Int32} {L : Nat → List Int64} {Q : Option Value → sm_H → Prop} {x1 : Int32} (K : Q none (hz F (uA A 37 (kja_fill_37 (A 37) x1)) L)) : wl_M f D 3 [.ref 37, .int x1] (hz F A L) Q := by
  generalize hT : (kja_fill_37 (A 37) x1) = T at K
  have hE : T = (kja_fill_37_5 x1 ((Int32.ofNat (A 37).length).toInt).toNat 0 (A 37)) := hT.symm
  clear hT
  refine w_m (E := mm3) rfl ?_
  show wl_E f f (D - 1) mm3.2.2.2.2.2.2.2.2 0 [some (.ref 37), some (.int x1), none, none] [] (hz F A L) Q
  refine w_n 5 (pc1 := 5) (ls1 := [some (.ref 37), some (.int x1), some (.int 0), some (.int (Int32.ofNat (A 37).length))]) (st1 := []) (hp1 := (hz F A L)) rfl ?_
  refine t_kja_fill_37_5 (((Int32.ofNat (A 37).length).toInt).toNat) (show ((Int32.ofNat (A 37).length).toInt).toNat = ((Int32.ofNat (A 37).length).toInt - (0 : Int32).toInt).toNat by have e0 : (0 : Int32).toInt = 0 := rfl; first | rfl | omega) ?_
  intro r1
  show wl_E f _ _ mm3.2.2.2.2.2.2.2.2 20 [some (.ref 37), some (.int x1), some (.int r1), some (.int (Int32.ofNat (A 37).length))] [] (hz F (uA A 37 (kja_fill_37_5 x1 ((Int32.ofNat (A 37).length).toInt).toNat 0 (A 37))) L) _
  generalize hG218 : (kja_fill_37_5 x1 ((Int32.ofNat (A 37).length).toInt).toNat 0 (A 37)) = G218 at hE ⊢
  subst T
  exact w_r rfl rfl (cvQ rfl rfl rfl K)
noncomputable def kv_winnerOf (f3_0 : Int32) (a33 : List Int32) (x1 : Int32) (x2 : Int32) : Int32 := (if (kt_isMeasure f3_0 x1) = 0 then (-1) else (if (kt_isMeasure f3_0 x2) = 0 then (-1) else (if (((a33.getD x2.toInt.toNat 0) >>> (x1 &&& 31)) &&& 1) = 0 then x1 else x2)))
theorem t_kv_winnerOf {f D : Nat} {F : Nat → Nat → Int32} {A : Nat → List Int32} {L : Nat → List Int64} {Q : Option Value → sm_H → Prop} {x1 : Int32} {x2 : Int32} (K : Q (some (.int (kv_winnerOf (F 3 0) (A 33) x1 x2))) (hz F A L)) : wl_M f D 98 [.ref 30, .int x1, .int x2] (hz F A L) Q := by
  generalize hT : (kv_winnerOf (F 3 0) (A 33) x1 x2) = T at K
  have hE : T = (if (kt_isMeasure (F 3 0) x1) = 0 then (-1) else (if (kt_isMeasure (F 3 0) x2) = 0 then (-1) else (if ((((A 33).getD x2.toInt.toNat 0) >>> (x1 &&& 31)) &&& 1) = 0 then x1 else x2))) := hT.symm
  clear hT
  refine w_m (E := mm98) rfl ?_
  show wl_E f f (D - 1) mm98.2.2.2.2.2.2.2.2 0 [some (.ref 30), some (.int x1), some (.int x2)] [] (hz F A L) Q
  refine w_n 3 (pc1 := 5) (ls1 := [some (.ref 30), some (.int x1), some (.int x2)]) (st1 := [.int x1, .ref 3]) (hp1 := (hz F A L)) rfl ?_
  refine w_c rfl rfl (t_kt_isMeasure ?_)
  show wl_E f _ _ mm98.2.2.2.2.2.2.2.2 8 [some (.ref 30), some (.int x1), some (.int x2)] [.int (kt_isMeasure (F 3 0) x1)] (hz F A L) _
  generalize hG220 : (kt_isMeasure (F 3 0) x1) = G220 at hE ⊢
  refine w_zeq (p3 := 11) rfl rfl (fun h => ?_) (fun h => ?_)
  · have h1 : G220 = 0 := h
    rw [if_pos h1] at hE
    refine w_n 1 (pc1 := 23) (ls1 := [some (.ref 30), some (.int x1), some (.int x2)]) (st1 := [.int (-1)]) (hp1 := (hz F A L)) rfl ?_
    subst T
    exact w_ri rfl (cvQ rfl rfl rfl K)
  · have h1 : ¬ G220 = 0 := h
    rw [if_neg h1] at hE
    refine w_n 3 (pc1 := 16) (ls1 := [some (.ref 30), some (.int x1), some (.int x2)]) (st1 := [.int x2, .ref 3]) (hp1 := (hz F A L)) rfl ?_
    refine w_c rfl rfl (t_kt_isMeasure ?_)
    show wl_E f _ _ mm98.2.2.2.2.2.2.2.2 19 [some (.ref 30), some (.int x1), some (.int x2)] [.int (kt_isMeasure (F 3 0) x2)] (hz F A L) _
    generalize hG221 : (kt_isMeasure (F 3 0) x2) = G221 at hE ⊢
    refine w_zne (p3 := 22) rfl rfl (fun h => ?_) (fun h => ?_)
    · have h2 : ¬ G221 = 0 := h
      rw [if_neg h2] at hE
      refine w_n 3 (pc1 := 29) (ls1 := [some (.ref 30), some (.int x1), some (.int x2)]) (st1 := [.int x2, .ref 33]) (hp1 := (hz F A L)) rfl ?_
      refine w_al (k := 33) (l := (A 33)) rfl rfl rfl (fun _ => ?_)
      refine w_n 4 (pc1 := 34) (ls1 := [some (.ref 30), some (.int x1), some (.int x2)]) (st1 := [.int ((((A 33).getD x2.toInt.toNat 0) >>> (x1 &&& 31)) &&& 1)]) (hp1 := (hz F A L)) rfl ?_
      refine w_zeq (p3 := 37) rfl rfl (fun h => ?_) (fun h => ?_)
      · have h3 : ((((A 33).getD x2.toInt.toNat 0) >>> (x1 &&& 31)) &&& 1) = 0 := h
        rw [if_pos h3] at hE
        refine w_n 1 (pc1 := 42) (ls1 := [some (.ref 30), some (.int x1), some (.int x2)]) (st1 := [.int x1]) (hp1 := (hz F A L)) rfl ?_
        subst T
        exact w_ri rfl (cvQ rfl rfl rfl K)
      · have h3 : ¬ ((((A 33).getD x2.toInt.toNat 0) >>> (x1 &&& 31)) &&& 1) = 0 := h
        rw [if_neg h3] at hE
        refine w_n 2 (pc1 := 42) (ls1 := [some (.ref 30), some (.int x1), some (.int x2)]) (st1 := [.int x2]) (hp1 := (hz F A L)) rfl ?_
        subst T
        exact w_ri rfl (cvQ rfl rfl rfl K)
    · have h2 : G221 = 0 := h
      rw [if_pos h2] at hE
      refine w_n 1 (pc1 := 23) (ls1 := [some (.ref 30), some (.int x1), some (.int x2)]) (st1 := [.int (-1)]) (hp1 := (hz F A L)) rfl ?_
      subst T
      exact w_ri rfl (cvQ rfl rfl rfl K)
noncomputable def kv_waysOn_5 (f3_0 : Int32) (a33 : List Int32) (a37 : List Int32) (x1 : Int32) (x2 : Int32) : Nat → Int32 → Int32 → Int32
  | 0, y3, _ => y3
  | m + 1, y3, y4 => (if ((x1 >>> (y4 &&& 31)) &&& 1) = 0 then (kv_waysOn_5 f3_0 a33 a37 x1 x2 m (y3 + (a37.getD (((x1 ||| ((1 : Int32) <<< (y4 &&& 31))) * 6) + (kv_winnerOf f3_0 a33 x2 y4)).toInt.toNat 0)) (y4 + 1)) else (kv_waysOn_5 f3_0 a33 a37 x1 x2 m y3 (y4 + 1)))
theorem t_kv_waysOn_5 {f : Nat} {Q : Option Value → sm_H → Prop} : ∀ (m : Nat) {B D : Nat} {F : Nat → Nat → Int32} {A : Nat → List Int32} {L : Nat → List Int64} {x1 : Int32} {x2 : Int32} {y3 : Int32} {y4 : Int32}, m = ((F 3 0).toInt - y4.toInt).toNat → (∀ q4 : Int32, wl_E f B D mm101.2.2.2.2.2.2.2.2 57 [some (.ref 30), some (.int x1), some (.int x2), some (.int (kv_waysOn_5 (F 3 0) (A 33) (A 37) x1 x2 m y3 y4)), some (.int q4)] [] (hz F A L) Q) → wl_E f B D mm101.2.2.2.2.2.2.2.2 5 [some (.ref 30), some (.int x1), some (.int x2), some (.int y3), some (.int y4)] [] (hz F A L) Q := by
  intro m
  induction m with
  | zero =>
    intro B D F A L x1 x2 y3 y4 hm K
    generalize hT : (kv_waysOn_5 (F 3 0) (A 33) (A 37) x1 x2 0 y3 y4) = T at K
    have hE : T = y3 := hT.symm
    clear hT
    refine w_n 4 (pc1 := 14) (ls1 := [some (.ref 30), some (.int x1), some (.int x2), some (.int y3), some (.int y4)]) (st1 := [.int (F 3 0), .int y4]) (hp1 := (hz F A L)) rfl ?_
    refine w_ge (p3 := 17) rfl rfl (fun hb => ?_) (fun h => False.elim (by have h : y4.toInt < (F 3 0).toInt := h; omega))
    subst T
    exact cvE rfl rfl rfl (K _)
  | succ m ih =>
    intro B D F A L x1 x2 y3 y4 hm K
    generalize hT : (kv_waysOn_5 (F 3 0) (A 33) (A 37) x1 x2 (m + 1) y3 y4) = T at K
    have hE : T = (if ((x1 >>> (y4 &&& 31)) &&& 1) = 0 then (kv_waysOn_5 (F 3 0) (A 33) (A 37) x1 x2 m (y3 + ((A 37).getD (((x1 ||| ((1 : Int32) <<< (y4 &&& 31))) * 6) + (kv_winnerOf (F 3 0) (A 33) x2 y4)).toInt.toNat 0)) (y4 + 1)) else (kv_waysOn_5 (F 3 0) (A 33) (A 37) x1 x2 m y3 (y4 + 1))) := hT.symm
    clear hT
    refine w_n 4 (pc1 := 14) (ls1 := [some (.ref 30), some (.int x1), some (.int x2), some (.int y3), some (.int y4)]) (st1 := [.int (F 3 0), .int y4]) (hp1 := (hz F A L)) rfl ?_
    refine w_ge (p3 := 17) rfl rfl (fun h => False.elim (by have h : (F 3 0).toInt ≤ y4.toInt := h; omega)) (fun hb => ?_)
    refine w_n 5 (pc1 := 23) (ls1 := [some (.ref 30), some (.int x1), some (.int x2), some (.int y3), some (.int y4)]) (st1 := [.int ((x1 >>> (y4 &&& 31)) &&& 1)]) (hp1 := (hz F A L)) rfl ?_
    refine w_zne (p3 := 26) rfl rfl (fun h => ?_) (fun h => ?_)
    · have h1 : ¬ ((x1 >>> (y4 &&& 31)) &&& 1) = 0 := h
      rw [if_neg h1] at hE
      refine w_n 2 (pc1 := 5) (ls1 := [some (.ref 30), some (.int x1), some (.int x2), some (.int y3), some (.int (y4 + 1))]) (st1 := []) (hp1 := (hz F A L)) rfl ?_
      subst T
      have hb2 := i_up (B := (F 3 0)) hb
      have hb3 : y4.toInt < (F 3 0).toInt := hb
      exact ih (show m = ((F 3 0).toInt - (y4 + 1).toInt).toNat by rw [hb2]; omega) (fun q4 => cvE rfl rfl rfl (K q4))
    · have h1 : ((x1 >>> (y4 &&& 31)) &&& 1) = 0 := h
      rw [if_pos h1] at hE
      refine w_n 13 (pc1 := 44) (ls1 := [some (.ref 30), some (.int x1), some (.int x2), some (.int y3), some (.int y4)]) (st1 := [.int y4, .int x2, .ref 30, .int ((x1 ||| ((1 : Int32) <<< (y4 &&& 31))) * 6), .ref 37, .int y3]) (hp1 := (hz F A L)) rfl ?_
      refine w_c rfl rfl (t_kv_winnerOf ?_)
      show wl_E f _ _ mm101.2.2.2.2.2.2.2.2 47 [some (.ref 30), some (.int x1), some (.int x2), some (.int y3), some (.int y4)] [.int (kv_winnerOf (F 3 0) (A 33) x2 y4), .int ((x1 ||| ((1 : Int32) <<< (y4 &&& 31))) * 6), .ref 37, .int y3] (hz F A L) _
      generalize hG222 : (kv_winnerOf (F 3 0) (A 33) x2 y4) = G222 at hE ⊢
      refine w_n 1 (pc1 := 48) (ls1 := [some (.ref 30), some (.int x1), some (.int x2), some (.int y3), some (.int y4)]) (st1 := [.int (((x1 ||| ((1 : Int32) <<< (y4 &&& 31))) * 6) + G222), .ref 37, .int y3]) (hp1 := (hz F A L)) rfl ?_
      refine w_al (k := 37) (l := (A 37)) rfl rfl rfl (fun _ => ?_)
      refine w_n 4 (pc1 := 5) (ls1 := [some (.ref 30), some (.int x1), some (.int x2), some (.int (y3 + ((A 37).getD (((x1 ||| ((1 : Int32) <<< (y4 &&& 31))) * 6) + G222).toInt.toNat 0))), some (.int (y4 + 1))]) (st1 := []) (hp1 := (hz F A L)) rfl ?_
      subst T
      have hb2 := i_up (B := (F 3 0)) hb
      have hb3 : y4.toInt < (F 3 0).toInt := hb
      exact ih (show m = ((F 3 0).toInt - (y4 + 1).toInt).toNat by rw [hb2]; omega) (fun q4 => cvE rfl rfl rfl (K q4))
noncomputable def kv_waysOn (f3_0 : Int32) (a33 : List Int32) (a37 : List Int32) (x1 : Int32) (x2 : Int32) : Int32 := (kv_waysOn_5 f3_0 a33 a37 x1 x2 f3_0.toInt.toNat 0 0)
theorem t_kv_waysOn {f D : Nat} {F : Nat → Nat → Int32} {A : Nat → List Int32} {L : Nat → List Int64} {Q : Option Value → sm_H → Prop} {x1 : Int32} {x2 : Int32} (K : Q (some (.int (kv_waysOn (F 3 0) (A 33) (A 37) x1 x2))) (hz F A L)) : wl_M f D 101 [.ref 30, .int x1, .int x2] (hz F A L) Q := by
  generalize hT : (kv_waysOn (F 3 0) (A 33) (A 37) x1 x2) = T at K
  have hE : T = (kv_waysOn_5 (F 3 0) (A 33) (A 37) x1 x2 (F 3 0).toInt.toNat 0 0) := hT.symm
  clear hT
  refine w_m (E := mm101) rfl ?_
  show wl_E f f (D - 1) mm101.2.2.2.2.2.2.2.2 0 [some (.ref 30), some (.int x1), some (.int x2), none, none] [] (hz F A L) Q
  refine w_n 4 (pc1 := 5) (ls1 := [some (.ref 30), some (.int x1), some (.int x2), some (.int 0), some (.int 0)]) (st1 := []) (hp1 := (hz F A L)) rfl ?_
  refine t_kv_waysOn_5 (F 3 0).toInt.toNat (show (F 3 0).toInt.toNat = ((F 3 0).toInt - (0 : Int32).toInt).toNat by have e0 : (0 : Int32).toInt = 0 := rfl; first | rfl | omega) ?_
  intro r1
  show wl_E f _ _ mm101.2.2.2.2.2.2.2.2 57 [some (.ref 30), some (.int x1), some (.int x2), some (.int (kv_waysOn_5 (F 3 0) (A 33) (A 37) x1 x2 (F 3 0).toInt.toNat 0 0)), some (.int r1)] [] (hz F A L) _
  generalize hG223 : (kv_waysOn_5 (F 3 0) (A 33) (A 37) x1 x2 (F 3 0).toInt.toNat 0 0) = G223 at hE ⊢
  refine w_n 1 (pc1 := 58) (ls1 := [some (.ref 30), some (.int x1), some (.int x2), some (.int G223), some (.int r1)]) (st1 := [.int G223]) (hp1 := (hz F A L)) rfl ?_
  subst T
  exact w_ri rfl (cvQ rfl rfl rfl K)
noncomputable def kv_countOrders_39 (f3_0 : Int32) (a33 : List Int32) (x3 : Int32) : Nat → Int32 → List Int32 → List Int32
  | 0, _, a37 => a37
  | m + 1, y4, a37 => (if ((x3 >>> (y4 &&& 31)) &&& 1) = 0 then (kv_countOrders_39 f3_0 a33 x3 m (y4 + 1) a37) else (kv_countOrders_39 f3_0 a33 x3 m (y4 + 1) (a37.set ((x3 * 6) + y4).toInt.toNat (kv_waysOn f3_0 a33 a37 x3 y4))))
theorem t_kv_countOrders_39 {f : Nat} {Q : Option Value → sm_H → Prop} : ∀ (m : Nat) {B D : Nat} {F : Nat → Nat → Int32} {A : Nat → List Int32} {L : Nat → List Int64} {x1 : Int32} {x2 : Int32} {x3 : Int32} {y4 : Int32}, m = ((F 3 0).toInt - y4.toInt).toNat → (∀ q4 : Int32, wl_E f B D mm100.2.2.2.2.2.2.2.2 85 [some (.ref 30), some (.int x1), some (.int x2), some (.int x3), some (.int q4)] [] (hz F (uA A 37 (kv_countOrders_39 (F 3 0) (A 33) x3 m y4 (A 37))) L) Q) → wl_E f B D mm100.2.2.2.2.2.2.2.2 39 [some (.ref 30), some (.int x1), some (.int x2), some (.int x3), some (.int y4)] [] (hz F A L) Q := by
  intro m
  induction m with
  | zero =>
    intro B D F A L x1 x2 x3 y4 hm K
    generalize hT : (kv_countOrders_39 (F 3 0) (A 33) x3 0 y4 (A 37)) = T at K
    have hE : T = (A 37) := hT.symm
    clear hT
    refine w_n 4 (pc1 := 48) (ls1 := [some (.ref 30), some (.int x1), some (.int x2), some (.int x3), some (.int y4)]) (st1 := [.int (F 3 0), .int y4]) (hp1 := (hz F A L)) rfl ?_
    refine w_ge (p3 := 51) rfl rfl (fun hb => ?_) (fun h => False.elim (by have h : y4.toInt < (F 3 0).toInt := h; omega))
    subst T
    exact cvE rfl (funext fun q => if k0 : q = 37 then by subst k0; exact Eq.trans (b := (A 37)) rfl rfl else by unfold uA; simp only [nb1 k0, cond_false]) rfl (K _)
  | succ m ih =>
    intro B D F A L x1 x2 x3 y4 hm K
    generalize hT : (kv_countOrders_39 (F 3 0) (A 33) x3 (m + 1) y4 (A 37)) = T at K
    have hE : T = (if ((x3 >>> (y4 &&& 31)) &&& 1) = 0 then (kv_countOrders_39 (F 3 0) (A 33) x3 m (y4 + 1) (A 37)) else (kv_countOrders_39 (F 3 0) (A 33) x3 m (y4 + 1) ((A 37).set ((x3 * 6) + y4).toInt.toNat (kv_waysOn (F 3 0) (A 33) (A 37) x3 y4)))) := hT.symm
    clear hT
    refine w_n 4 (pc1 := 48) (ls1 := [some (.ref 30), some (.int x1), some (.int x2), some (.int x3), some (.int y4)]) (st1 := [.int (F 3 0), .int y4]) (hp1 := (hz F A L)) rfl ?_
    refine w_ge (p3 := 51) rfl rfl (fun h => False.elim (by have h : (F 3 0).toInt ≤ y4.toInt := h; omega)) (fun hb => ?_)
    refine w_n 5 (pc1 := 57) (ls1 := [some (.ref 30), some (.int x1), some (.int x2), some (.int x3), some (.int y4)]) (st1 := [.int ((x3 >>> (y4 &&& 31)) &&& 1)]) (hp1 := (hz F A L)) rfl ?_
    refine w_zeq (p3 := 60) rfl rfl (fun h => ?_) (fun h => ?_)
    · have h1 : ((x3 >>> (y4 &&& 31)) &&& 1) = 0 := h
      rw [if_pos h1] at hE
      refine w_n 2 (pc1 := 39) (ls1 := [some (.ref 30), some (.int x1), some (.int x2), some (.int x3), some (.int (y4 + 1))]) (st1 := []) (hp1 := (hz F A L)) rfl ?_
      subst T
      have hb2 := i_up (B := (F 3 0)) hb
      have hb3 : y4.toInt < (F 3 0).toInt := hb
      exact ih (show m = ((F 3 0).toInt - (y4 + 1).toInt).toNat by rw [hb2]; omega) (fun q4 => cvE rfl (funext fun q => if k0 : q = 37 then by subst k0; exact Eq.trans (b := (kv_countOrders_39 (F 3 0) (A 33) x3 m (y4 + 1) (A 37))) rfl rfl else by unfold uA; simp only [nb1 k0, cond_false]) rfl (K q4))
    · have h1 : ¬ ((x3 >>> (y4 &&& 31)) &&& 1) = 0 := h
      rw [if_neg h1] at hE
      refine w_n 10 (pc1 := 75) (ls1 := [some (.ref 30), some (.int x1), some (.int x2), some (.int x3), some (.int y4)]) (st1 := [.int y4, .int x3, .ref 30, .int ((x3 * 6) + y4), .ref 37]) (hp1 := (hz F A L)) rfl ?_
      refine w_c rfl rfl (t_kv_waysOn ?_)
      show wl_E f _ _ mm100.2.2.2.2.2.2.2.2 78 [some (.ref 30), some (.int x1), some (.int x2), some (.int x3), some (.int y4)] [.int (kv_waysOn (F 3 0) (A 33) (A 37) x3 y4), .int ((x3 * 6) + y4), .ref 37] (hz F A L) _
      generalize hG224 : (kv_waysOn (F 3 0) (A 33) (A 37) x3 y4) = G224 at hE ⊢
      refine w_as (k := 37) (l := (A 37)) (hp1 := (hz F (uA A 37 ((A 37).set ((x3 * 6) + y4).toInt.toNat G224)) L)) rfl rfl rfl (hz_s37 _) (fun _ => ?_)
      refine w_n 2 (pc1 := 39) (ls1 := [some (.ref 30), some (.int x1), some (.int x2), some (.int x3), some (.int (y4 + 1))]) (st1 := []) (hp1 := (hz F (uA A 37 ((A 37).set ((x3 * 6) + y4).toInt.toNat G224)) L)) rfl ?_
      subst T
      have hb2 := i_up (B := (F 3 0)) hb
      have hb3 : y4.toInt < (F 3 0).toInt := hb
      exact ih (show m = ((F 3 0).toInt - (y4 + 1).toInt).toNat by rw [hb2]; omega) (fun q4 => cvE rfl (funext fun q => if k0 : q = 37 then by subst k0; exact Eq.trans (b := (kv_countOrders_39 (F 3 0) (A 33) x3 m (y4 + 1) ((A 37).set ((x3 * 6) + y4).toInt.toNat G224))) rfl rfl else by unfold uA; simp only [nb1 k0, cond_false]) rfl (K q4))
noncomputable def kv_countOrders_32 (f3_0 : Int32) (a33 : List Int32)  : Nat → Int32 → List Int32 → List Int32
  | 0, _, a37 => a37
  | m + 1, y3, a37 => (kv_countOrders_32 f3_0 a33 m (y3 + (-1)) (kv_countOrders_39 f3_0 a33 y3 f3_0.toInt.toNat 0 a37))
theorem t_kv_countOrders_32 {f : Nat} {Q : Option Value → sm_H → Prop} : ∀ (m : Nat) {B D : Nat} {F : Nat → Nat → Int32} {A : Nat → List Int32} {L : Nat → List Int64} {x1 : Int32} {x2 : Int32} {y3 : Int32} {o4 : Option Value}, m = (y3.toInt - 0).toNat → (∀ q3 : Int32, ∀ q4 : Option Value, wl_E f B D mm100.2.2.2.2.2.2.2.2 91 [some (.ref 30), some (.int x1), some (.int x2), some (.int q3), q4] [] (hz F (uA A 37 (kv_countOrders_32 (F 3 0) (A 33) m y3 (A 37))) L) Q) → wl_E f B D mm100.2.2.2.2.2.2.2.2 32 [some (.ref 30), some (.int x1), some (.int x2), some (.int y3), o4] [] (hz F A L) Q := by
  intro m
  induction m with
  | zero =>
    intro B D F A L x1 x2 y3 o4 hm K
    generalize hT : (kv_countOrders_32 (F 3 0) (A 33) 0 y3 (A 37)) = T at K
    have hE : T = (A 37) := hT.symm
    clear hT
    refine w_n 1 (pc1 := 33) (ls1 := [some (.ref 30), some (.int x1), some (.int x2), some (.int y3), o4]) (st1 := [.int y3]) (hp1 := (hz F A L)) rfl ?_
    refine w_zle (p3 := 36) rfl rfl (fun hb => ?_) (fun h => False.elim (by have h : 0 < y3.toInt := h; omega))
    subst T
    exact cvE rfl (funext fun q => if k0 : q = 37 then by subst k0; exact Eq.trans (b := (A 37)) rfl rfl else by unfold uA; simp only [nb1 k0, cond_false]) rfl (K _ _)
  | succ m ih =>
    intro B D F A L x1 x2 y3 o4 hm K
    generalize hT : (kv_countOrders_32 (F 3 0) (A 33) (m + 1) y3 (A 37)) = T at K
    have hE : T = (kv_countOrders_32 (F 3 0) (A 33) m (y3 + (-1)) (kv_countOrders_39 (F 3 0) (A 33) y3 (F 3 0).toInt.toNat 0 (A 37))) := hT.symm
    clear hT
    refine w_n 1 (pc1 := 33) (ls1 := [some (.ref 30), some (.int x1), some (.int x2), some (.int y3), o4]) (st1 := [.int y3]) (hp1 := (hz F A L)) rfl ?_
    refine w_zle (p3 := 36) rfl rfl (fun h => False.elim (by have h : y3.toInt ≤ 0 := h; omega)) (fun hb => ?_)
    refine w_n 2 (pc1 := 39) (ls1 := [some (.ref 30), some (.int x1), some (.int x2), some (.int y3), some (.int 0)]) (st1 := []) (hp1 := (hz F A L)) rfl ?_
    refine t_kv_countOrders_39 (F 3 0).toInt.toNat (show (F 3 0).toInt.toNat = ((F 3 0).toInt - (0 : Int32).toInt).toNat by have e0 : (0 : Int32).toInt = 0 := rfl; first | rfl | omega) ?_
    intro r1
    show wl_E f _ _ mm100.2.2.2.2.2.2.2.2 85 [some (.ref 30), some (.int x1), some (.int x2), some (.int y3), some (.int r1)] [] (hz F (uA A 37 (kv_countOrders_39 (F 3 0) (A 33) y3 (F 3 0).toInt.toNat 0 (A 37))) L) _
    generalize hG225 : (kv_countOrders_39 (F 3 0) (A 33) y3 (F 3 0).toInt.toNat 0 (A 37)) = G225 at hE ⊢
    refine w_n 2 (pc1 := 32) (ls1 := [some (.ref 30), some (.int x1), some (.int x2), some (.int (y3 + (-1))), some (.int r1)]) (st1 := []) (hp1 := (hz F (uA A 37 G225) L)) rfl ?_
    subst T
    have hb2 := i_dn2 (B := (0 : Int32)) hb
    have hb3 : 0 < y3.toInt := hb
    exact ih (show m = ((y3 + (-1)).toInt - 0).toNat by rw [hb2]; omega) (fun q3 q4 => cvE rfl (funext fun q => if k0 : q = 37 then by subst k0; exact Eq.trans (b := (kv_countOrders_32 (F 3 0) (A 33) m (y3 + (-1)) G225)) rfl rfl else by unfold uA; simp only [nb1 k0, cond_false]) rfl (K q3 q4))
noncomputable def kv_countOrders_96 (a37 : List Int32)  : Nat → Int32 → Int32 → Int32
  | 0, y3, _ => y3
  | m + 1, y3, y4 => (kv_countOrders_96 a37 m (y3 + (a37.getD ((((1 : Int32) <<< (y4 &&& 31)) * 6) + y4).toInt.toNat 0)) (y4 + 1))
theorem t_kv_countOrders_96 {f : Nat} {Q : Option Value → sm_H → Prop} : ∀ (m : Nat) {B D : Nat} {F : Nat → Nat → Int32} {A : Nat → List Int32} {L : Nat → List Int64} {x1 : Int32} {x2 : Int32} {y3 : Int32} {y4 : Int32}, m = ((F 3 0).toInt - y4.toInt).toNat → (∀ q4 : Int32, wl_E f B D mm100.2.2.2.2.2.2.2.2 132 [some (.ref 30), some (.int x1), some (.int x2), some (.int (kv_countOrders_96 (A 37) m y3 y4)), some (.int q4)] [] (hz F A L) Q) → wl_E f B D mm100.2.2.2.2.2.2.2.2 96 [some (.ref 30), some (.int x1), some (.int x2), some (.int y3), some (.int y4)] [] (hz F A L) Q := by
  intro m
  induction m with
  | zero =>
    intro B D F A L x1 x2 y3 y4 hm K
    generalize hT : (kv_countOrders_96 (A 37) 0 y3 y4) = T at K
    have hE : T = y3 := hT.symm
    clear hT
    refine w_n 4 (pc1 := 105) (ls1 := [some (.ref 30), some (.int x1), some (.int x2), some (.int y3), some (.int y4)]) (st1 := [.int (F 3 0), .int y4]) (hp1 := (hz F A L)) rfl ?_
    refine w_ge (p3 := 108) rfl rfl (fun hb => ?_) (fun h => False.elim (by have h : y4.toInt < (F 3 0).toInt := h; omega))
    subst T
    exact cvE rfl rfl rfl (K _)
  | succ m ih =>
    intro B D F A L x1 x2 y3 y4 hm K
    generalize hT : (kv_countOrders_96 (A 37) (m + 1) y3 y4) = T at K
    have hE : T = (kv_countOrders_96 (A 37) m (y3 + ((A 37).getD ((((1 : Int32) <<< (y4 &&& 31)) * 6) + y4).toInt.toNat 0)) (y4 + 1)) := hT.symm
    clear hT
    refine w_n 4 (pc1 := 105) (ls1 := [some (.ref 30), some (.int x1), some (.int x2), some (.int y3), some (.int y4)]) (st1 := [.int (F 3 0), .int y4]) (hp1 := (hz F A L)) rfl ?_
    refine w_ge (p3 := 108) rfl rfl (fun h => False.elim (by have h : (F 3 0).toInt ≤ y4.toInt := h; omega)) (fun hb => ?_)
    refine w_n 10 (pc1 := 123) (ls1 := [some (.ref 30), some (.int x1), some (.int x2), some (.int y3), some (.int y4)]) (st1 := [.int ((((1 : Int32) <<< (y4 &&& 31)) * 6) + y4), .ref 37, .int y3]) (hp1 := (hz F A L)) rfl ?_
    refine w_al (k := 37) (l := (A 37)) rfl rfl rfl (fun _ => ?_)
    refine w_n 4 (pc1 := 96) (ls1 := [some (.ref 30), some (.int x1), some (.int x2), some (.int (y3 + ((A 37).getD ((((1 : Int32) <<< (y4 &&& 31)) * 6) + y4).toInt.toNat 0))), some (.int (y4 + 1))]) (st1 := []) (hp1 := (hz F A L)) rfl ?_
    subst T
    have hb2 := i_up (B := (F 3 0)) hb
    have hb3 : y4.toInt < (F 3 0).toInt := hb
    exact ih (show m = ((F 3 0).toInt - (y4 + 1).toInt).toNat by rw [hb2]; omega) (fun q4 => cvE rfl rfl rfl (K q4))
noncomputable def kv_countOrders (f3_0 : Int32) (a33 : List Int32) (a37 : List Int32) (x1 : Int32) : Int32 × List Int32 := ((kv_countOrders_96 (kv_countOrders_32 f3_0 a33 (((kt_allMeasures f3_0) - 1).toInt).toNat ((kt_allMeasures f3_0) - 1) ((kja_fill_37 a37 0).set (((kt_allMeasures f3_0) * 6) + x1).toInt.toNat 1)) f3_0.toInt.toNat 0 0), (kv_countOrders_32 f3_0 a33 (((kt_allMeasures f3_0) - 1).toInt).toNat ((kt_allMeasures f3_0) - 1) ((kja_fill_37 a37 0).set (((kt_allMeasures f3_0) * 6) + x1).toInt.toNat 1)))
theorem t_kv_countOrders {f D : Nat} {F : Nat → Nat → Int32} {A : Nat → List Int32} {L : Nat → List Int64} {Q : Option Value → sm_H → Prop} {x1 : Int32} (K : Q (some (.int ((kv_countOrders (F 3 0) (A 33) (A 37) x1).1))) (hz F (uA A 37 ((kv_countOrders (F 3 0) (A 33) (A 37) x1).2)) L)) : wl_M f D 100 [.ref 30, .int x1] (hz F A L) Q := by
  generalize hT : (kv_countOrders (F 3 0) (A 33) (A 37) x1) = T at K
  have hE : T = ((kv_countOrders_96 (kv_countOrders_32 (F 3 0) (A 33) (((kt_allMeasures (F 3 0)) - 1).toInt).toNat ((kt_allMeasures (F 3 0)) - 1) ((kja_fill_37 (A 37) 0).set (((kt_allMeasures (F 3 0)) * 6) + x1).toInt.toNat 1)) (F 3 0).toInt.toNat 0 0), (kv_countOrders_32 (F 3 0) (A 33) (((kt_allMeasures (F 3 0)) - 1).toInt).toNat ((kt_allMeasures (F 3 0)) - 1) ((kja_fill_37 (A 37) 0).set (((kt_allMeasures (F 3 0)) * 6) + x1).toInt.toNat 1))) := hT.symm
  clear hT
  refine w_m (E := mm100) rfl ?_
  show wl_E f f (D - 1) mm100.2.2.2.2.2.2.2.2 0 [some (.ref 30), some (.int x1), none, none, none] [] (hz F A L) Q
  refine w_n 2 (pc1 := 4) (ls1 := [some (.ref 30), some (.int x1), none, none, none]) (st1 := [.ref 3]) (hp1 := (hz F A L)) rfl ?_
  refine w_c rfl rfl (t_kt_allMeasures ?_)
  show wl_E f _ _ mm100.2.2.2.2.2.2.2.2 7 [some (.ref 30), some (.int x1), none, none, none] [.int (kt_allMeasures (F 3 0))] (hz F A L) _
  generalize hG217 : (kt_allMeasures (F 3 0)) = G217 at hE ⊢
  refine w_n 4 (pc1 := 13) (ls1 := [some (.ref 30), some (.int x1), some (.int G217), none, none]) (st1 := [.int 0, .ref 37]) (hp1 := (hz F A L)) rfl ?_
  refine w_c rfl rfl (t_kja_fill_37 ?_)
  show wl_E f _ _ mm100.2.2.2.2.2.2.2.2 16 [some (.ref 30), some (.int x1), some (.int G217), none, none] [] (hz F (uA A 37 (kja_fill_37 (A 37) 0)) L) _
  generalize hG219 : (kja_fill_37 (A 37) 0) = G219 at hE ⊢
  refine w_n 8 (pc1 := 27) (ls1 := [some (.ref 30), some (.int x1), some (.int G217), none, none]) (st1 := [.int 1, .int ((G217 * 6) + x1), .ref 37]) (hp1 := (hz F (uA A 37 G219) L)) rfl ?_
  refine w_as (k := 37) (l := G219) (hp1 := (hz F (uA (uA A 37 G219) 37 (G219.set ((G217 * 6) + x1).toInt.toNat 1)) L)) rfl rfl rfl (hz_s37 _) (fun _ => ?_)
  refine w_n 4 (pc1 := 32) (ls1 := [some (.ref 30), some (.int x1), some (.int G217), some (.int (G217 - 1)), none]) (st1 := []) (hp1 := (hz F (uA (uA A 37 G219) 37 (G219.set ((G217 * 6) + x1).toInt.toNat 1)) L)) rfl ?_
  refine t_kv_countOrders_32 (((G217 - 1).toInt).toNat) (show ((G217 - 1).toInt).toNat = ((G217 - 1).toInt - 0).toNat by first | rfl | omega) ?_
  intro r1 r2
  show wl_E f _ _ mm100.2.2.2.2.2.2.2.2 91 [some (.ref 30), some (.int x1), some (.int G217), some (.int r1), r2] [] (hz F (uA (uA (uA A 37 G219) 37 (G219.set ((G217 * 6) + x1).toInt.toNat 1)) 37 (kv_countOrders_32 (F 3 0) (A 33) ((G217 - 1).toInt).toNat (G217 - 1) (G219.set ((G217 * 6) + x1).toInt.toNat 1))) L) _
  generalize hG226 : (kv_countOrders_32 (F 3 0) (A 33) ((G217 - 1).toInt).toNat (G217 - 1) (G219.set ((G217 * 6) + x1).toInt.toNat 1)) = G226 at hE ⊢
  refine w_n 4 (pc1 := 96) (ls1 := [some (.ref 30), some (.int x1), some (.int G217), some (.int 0), some (.int 0)]) (st1 := []) (hp1 := (hz F (uA (uA (uA A 37 G219) 37 (G219.set ((G217 * 6) + x1).toInt.toNat 1)) 37 G226) L)) rfl ?_
  refine t_kv_countOrders_96 (F 3 0).toInt.toNat (show (F 3 0).toInt.toNat = ((F 3 0).toInt - (0 : Int32).toInt).toNat by have e0 : (0 : Int32).toInt = 0 := rfl; first | rfl | omega) ?_
  intro r3
  show wl_E f _ _ mm100.2.2.2.2.2.2.2.2 132 [some (.ref 30), some (.int x1), some (.int G217), some (.int (kv_countOrders_96 G226 (F 3 0).toInt.toNat 0 0)), some (.int r3)] [] (hz F (uA (uA (uA A 37 G219) 37 (G219.set ((G217 * 6) + x1).toInt.toNat 1)) 37 G226) L) _
  generalize hG227 : (kv_countOrders_96 G226 (F 3 0).toInt.toNat 0 0) = G227 at hE ⊢
  refine w_n 1 (pc1 := 133) (ls1 := [some (.ref 30), some (.int x1), some (.int G217), some (.int G227), some (.int r3)]) (st1 := [.int G227]) (hp1 := (hz F (uA (uA (uA A 37 G219) 37 (G219.set ((G217 * 6) + x1).toInt.toNat 1)) 37 G226) L)) rfl ?_
  subst T
  exact w_ri rfl (cvQ rfl (funext fun q => if k0 : q = 37 then by subst k0; exact Eq.trans (b := G226) rfl rfl else by unfold uA; simp only [nb1 k0, cond_false]) rfl K)
noncomputable def kv_findLeastOrder_20 (f3_0 : Int32) (a33 : List Int32) (a37 : List Int32) (x3 : Int32) : Nat → Int32 → Int32 → Int32 → List Int32 → Int32 × Int32 × List Int32
  | 0, y1, y2, _, a39 => (y1, y2, a39)
  | m + 1, y1, y2, y4, a39 => (if x3 = 0 then (if (y1 ||| ((1 : Int32) <<< (y4 &&& 31))) = y1 then (kv_findLeastOrder_20 f3_0 a33 a37 x3 m y1 y2 (y4 + 1) a39) else (if 0 < (a37.getD (((y1 ||| ((1 : Int32) <<< (y4 &&& 31))) * 6) + y4).toInt.toNat 0).toInt then ((y1 ||| ((1 : Int32) <<< (y4 &&& 31))), y4, (a39.set x3.toInt.toNat y4)) else (kv_findLeastOrder_20 f3_0 a33 a37 x3 m y1 y2 (y4 + 1) a39))) else (if (y1 ||| ((1 : Int32) <<< (y4 &&& 31))) = y1 then (kv_findLeastOrder_20 f3_0 a33 a37 x3 m y1 y2 (y4 + 1) a39) else (if 0 < (a37.getD (((y1 ||| ((1 : Int32) <<< (y4 &&& 31))) * 6) + (kv_winnerOf f3_0 a33 y2 y4)).toInt.toNat 0).toInt then ((y1 ||| ((1 : Int32) <<< (y4 &&& 31))), (kv_winnerOf f3_0 a33 y2 y4), (a39.set x3.toInt.toNat y4)) else (kv_findLeastOrder_20 f3_0 a33 a37 x3 m y1 y2 (y4 + 1) a39))))
theorem t_kv_findLeastOrder_20 {f : Nat} {Q : Option Value → sm_H → Prop} : ∀ (m : Nat) {B D : Nat} {F : Nat → Nat → Int32} {A : Nat → List Int32} {L : Nat → List Int64} {y1 : Int32} {y2 : Int32} {x3 : Int32} {y4 : Int32} {o5 : Option Value} {o6 : Option Value}, m = ((F 3 0).toInt - y4.toInt).toNat → (∀ q4 : Int32, ∀ q5 : Option Value, ∀ q6 : Option Value, wl_E f B D mm102.2.2.2.2.2.2.2.2 103 [some (.ref 30), some (.int ((kv_findLeastOrder_20 (F 3 0) (A 33) (A 37) x3 m y1 y2 y4 (A 39)).1)), some (.int ((kv_findLeastOrder_20 (F 3 0) (A 33) (A 37) x3 m y1 y2 y4 (A 39)).2.1)), some (.int x3), some (.int q4), q5, q6] [] (hz F (uA A 39 ((kv_findLeastOrder_20 (F 3 0) (A 33) (A 37) x3 m y1 y2 y4 (A 39)).2.2)) L) Q) → wl_E f B D mm102.2.2.2.2.2.2.2.2 20 [some (.ref 30), some (.int y1), some (.int y2), some (.int x3), some (.int y4), o5, o6] [] (hz F A L) Q := by
  intro m
  induction m with
  | zero =>
    intro B D F A L y1 y2 x3 y4 o5 o6 hm K
    generalize hT : (kv_findLeastOrder_20 (F 3 0) (A 33) (A 37) x3 0 y1 y2 y4 (A 39)) = T at K
    have hE : T = (y1, y2, (A 39)) := hT.symm
    clear hT
    refine w_n 4 (pc1 := 29) (ls1 := [some (.ref 30), some (.int y1), some (.int y2), some (.int x3), some (.int y4), o5, o6]) (st1 := [.int (F 3 0), .int y4]) (hp1 := (hz F A L)) rfl ?_
    refine w_ge (p3 := 32) rfl rfl (fun hb => ?_) (fun h => False.elim (by have h : y4.toInt < (F 3 0).toInt := h; omega))
    subst T
    exact cvE rfl (funext fun q => if k0 : q = 39 then by subst k0; exact Eq.trans (b := (A 39)) rfl rfl else by unfold uA; simp only [nb1 k0, cond_false]) rfl (K _ _ _)
  | succ m ih =>
    intro B D F A L y1 y2 x3 y4 o5 o6 hm K
    generalize hT : (kv_findLeastOrder_20 (F 3 0) (A 33) (A 37) x3 (m + 1) y1 y2 y4 (A 39)) = T at K
    have hE : T = (if x3 = 0 then (if (y1 ||| ((1 : Int32) <<< (y4 &&& 31))) = y1 then (kv_findLeastOrder_20 (F 3 0) (A 33) (A 37) x3 m y1 y2 (y4 + 1) (A 39)) else (if 0 < ((A 37).getD (((y1 ||| ((1 : Int32) <<< (y4 &&& 31))) * 6) + y4).toInt.toNat 0).toInt then ((y1 ||| ((1 : Int32) <<< (y4 &&& 31))), y4, ((A 39).set x3.toInt.toNat y4)) else (kv_findLeastOrder_20 (F 3 0) (A 33) (A 37) x3 m y1 y2 (y4 + 1) (A 39)))) else (if (y1 ||| ((1 : Int32) <<< (y4 &&& 31))) = y1 then (kv_findLeastOrder_20 (F 3 0) (A 33) (A 37) x3 m y1 y2 (y4 + 1) (A 39)) else (if 0 < ((A 37).getD (((y1 ||| ((1 : Int32) <<< (y4 &&& 31))) * 6) + (kv_winnerOf (F 3 0) (A 33) y2 y4)).toInt.toNat 0).toInt then ((y1 ||| ((1 : Int32) <<< (y4 &&& 31))), (kv_winnerOf (F 3 0) (A 33) y2 y4), ((A 39).set x3.toInt.toNat y4)) else (kv_findLeastOrder_20 (F 3 0) (A 33) (A 37) x3 m y1 y2 (y4 + 1) (A 39))))) := hT.symm
    clear hT
    refine w_n 4 (pc1 := 29) (ls1 := [some (.ref 30), some (.int y1), some (.int y2), some (.int x3), some (.int y4), o5, o6]) (st1 := [.int (F 3 0), .int y4]) (hp1 := (hz F A L)) rfl ?_
    refine w_ge (p3 := 32) rfl rfl (fun h => False.elim (by have h : (F 3 0).toInt ≤ y4.toInt := h; omega)) (fun hb => ?_)
    refine w_n 1 (pc1 := 33) (ls1 := [some (.ref 30), some (.int y1), some (.int y2), some (.int x3), some (.int y4), o5, o6]) (st1 := [.int x3]) (hp1 := (hz F A L)) rfl ?_
    refine w_zne (p3 := 36) rfl rfl (fun h => ?_) (fun h => ?_)
    · have h1 : ¬ x3 = 0 := h
      rw [if_neg h1] at hE
      refine w_n 3 (pc1 := 45) (ls1 := [some (.ref 30), some (.int y1), some (.int y2), some (.int x3), some (.int y4), o5, o6]) (st1 := [.int y4, .int y2, .ref 30]) (hp1 := (hz F A L)) rfl ?_
      refine w_c rfl rfl (t_kv_winnerOf ?_)
      show wl_E f _ _ mm102.2.2.2.2.2.2.2.2 48 [some (.ref 30), some (.int y1), some (.int y2), some (.int x3), some (.int y4), o5, o6] [.int (kv_winnerOf (F 3 0) (A 33) y2 y4)] (hz F A L) _
      generalize hG232 : (kv_winnerOf (F 3 0) (A 33) y2 y4) = G232 at hE ⊢
      refine w_n 9 (pc1 := 61) (ls1 := [some (.ref 30), some (.int y1), some (.int y2), some (.int x3), some (.int y4), some (.int G232), some (.int (y1 ||| ((1 : Int32) <<< (y4 &&& 31))))]) (st1 := [.int y1, .int (y1 ||| ((1 : Int32) <<< (y4 &&& 31)))]) (hp1 := (hz F A L)) rfl ?_
      refine w_eq (p3 := 64) rfl rfl (fun h => ?_) (fun h => ?_)
      · have h2 : (y1 ||| ((1 : Int32) <<< (y4 &&& 31))) = y1 := h
        rw [if_pos h2] at hE
        refine w_n 2 (pc1 := 20) (ls1 := [some (.ref 30), some (.int y1), some (.int y2), some (.int x3), some (.int (y4 + 1)), some (.int G232), some (.int (y1 ||| ((1 : Int32) <<< (y4 &&& 31))))]) (st1 := []) (hp1 := (hz F A L)) rfl ?_
        subst T
        have hb2 := i_up (B := (F 3 0)) hb
        have hb3 : y4.toInt < (F 3 0).toInt := hb
        exact ih (show m = ((F 3 0).toInt - (y4 + 1).toInt).toNat by rw [hb2]; omega) (fun q4 q5 q6 => cvE rfl (funext fun q => if k0 : q = 39 then by subst k0; exact Eq.trans (b := (kv_findLeastOrder_20 (F 3 0) (A 33) (A 37) x3 m y1 y2 (y4 + 1) (A 39)).2.2) rfl rfl else by unfold uA; simp only [nb1 k0, cond_false]) rfl (K q4 q5 q6))
      · have h2 : ¬ (y1 ||| ((1 : Int32) <<< (y4 &&& 31))) = y1 := h
        rw [if_neg h2] at hE
        refine w_n 7 (pc1 := 76) (ls1 := [some (.ref 30), some (.int y1), some (.int y2), some (.int x3), some (.int y4), some (.int G232), some (.int (y1 ||| ((1 : Int32) <<< (y4 &&& 31))))]) (st1 := [.int (((y1 ||| ((1 : Int32) <<< (y4 &&& 31))) * 6) + G232), .ref 37]) (hp1 := (hz F A L)) rfl ?_
        refine w_al (k := 37) (l := (A 37)) rfl rfl rfl (fun _ => ?_)
        refine w_zle (p3 := 80) rfl rfl (fun h => ?_) (fun h => ?_)
        · have h3 : ((A 37).getD (((y1 ||| ((1 : Int32) <<< (y4 &&& 31))) * 6) + G232).toInt.toNat 0).toInt ≤ 0 := h
          rw [if_neg (Int.not_lt.mpr h3)] at hE
          refine w_n 2 (pc1 := 20) (ls1 := [some (.ref 30), some (.int y1), some (.int y2), some (.int x3), some (.int (y4 + 1)), some (.int G232), some (.int (y1 ||| ((1 : Int32) <<< (y4 &&& 31))))]) (st1 := []) (hp1 := (hz F A L)) rfl ?_
          subst T
          have hb2 := i_up (B := (F 3 0)) hb
          have hb3 : y4.toInt < (F 3 0).toInt := hb
          exact ih (show m = ((F 3 0).toInt - (y4 + 1).toInt).toNat by rw [hb2]; omega) (fun q4 q5 q6 => cvE rfl (funext fun q => if k0 : q = 39 then by subst k0; exact Eq.trans (b := (kv_findLeastOrder_20 (F 3 0) (A 33) (A 37) x3 m y1 y2 (y4 + 1) (A 39)).2.2) rfl rfl else by unfold uA; simp only [nb1 k0, cond_false]) rfl (K q4 q5 q6))
        · have h3 : 0 < ((A 37).getD (((y1 ||| ((1 : Int32) <<< (y4 &&& 31))) * 6) + G232).toInt.toNat 0).toInt := h
          rw [if_pos h3] at hE
          refine w_n 4 (pc1 := 87) (ls1 := [some (.ref 30), some (.int y1), some (.int y2), some (.int x3), some (.int y4), some (.int G232), some (.int (y1 ||| ((1 : Int32) <<< (y4 &&& 31))))]) (st1 := [.int y4, .int x3, .ref 39]) (hp1 := (hz F A L)) rfl ?_
          refine w_as (k := 39) (l := (A 39)) (hp1 := (hz F (uA A 39 ((A 39).set x3.toInt.toNat y4)) L)) rfl rfl rfl (hz_s39 _) (fun _ => ?_)
          refine w_n 5 (pc1 := 103) (ls1 := [some (.ref 30), some (.int (y1 ||| ((1 : Int32) <<< (y4 &&& 31)))), some (.int G232), some (.int x3), some (.int y4), some (.int G232), some (.int (y1 ||| ((1 : Int32) <<< (y4 &&& 31))))]) (st1 := []) (hp1 := (hz F (uA A 39 ((A 39).set x3.toInt.toNat y4)) L)) rfl ?_
          subst T
          exact cvE rfl (funext fun q => if k0 : q = 39 then by subst k0; exact Eq.trans (b := ((A 39).set x3.toInt.toNat y4)) rfl rfl else by unfold uA; simp only [nb1 k0, cond_false]) rfl (K _ _ _)
    · have h1 : x3 = 0 := h
      rw [if_pos h1] at hE
      refine w_n 11 (pc1 := 61) (ls1 := [some (.ref 30), some (.int y1), some (.int y2), some (.int x3), some (.int y4), some (.int y4), some (.int (y1 ||| ((1 : Int32) <<< (y4 &&& 31))))]) (st1 := [.int y1, .int (y1 ||| ((1 : Int32) <<< (y4 &&& 31)))]) (hp1 := (hz F A L)) rfl ?_
      refine w_eq (p3 := 64) rfl rfl (fun h => ?_) (fun h => ?_)
      · have h4 : (y1 ||| ((1 : Int32) <<< (y4 &&& 31))) = y1 := h
        rw [if_pos h4] at hE
        refine w_n 2 (pc1 := 20) (ls1 := [some (.ref 30), some (.int y1), some (.int y2), some (.int x3), some (.int (y4 + 1)), some (.int y4), some (.int (y1 ||| ((1 : Int32) <<< (y4 &&& 31))))]) (st1 := []) (hp1 := (hz F A L)) rfl ?_
        subst T
        have hb2 := i_up (B := (F 3 0)) hb
        have hb3 : y4.toInt < (F 3 0).toInt := hb
        exact ih (show m = ((F 3 0).toInt - (y4 + 1).toInt).toNat by rw [hb2]; omega) (fun q4 q5 q6 => cvE rfl (funext fun q => if k0 : q = 39 then by subst k0; exact Eq.trans (b := (kv_findLeastOrder_20 (F 3 0) (A 33) (A 37) x3 m y1 y2 (y4 + 1) (A 39)).2.2) rfl rfl else by unfold uA; simp only [nb1 k0, cond_false]) rfl (K q4 q5 q6))
      · have h4 : ¬ (y1 ||| ((1 : Int32) <<< (y4 &&& 31))) = y1 := h
        rw [if_neg h4] at hE
        refine w_n 7 (pc1 := 76) (ls1 := [some (.ref 30), some (.int y1), some (.int y2), some (.int x3), some (.int y4), some (.int y4), some (.int (y1 ||| ((1 : Int32) <<< (y4 &&& 31))))]) (st1 := [.int (((y1 ||| ((1 : Int32) <<< (y4 &&& 31))) * 6) + y4), .ref 37]) (hp1 := (hz F A L)) rfl ?_
        refine w_al (k := 37) (l := (A 37)) rfl rfl rfl (fun _ => ?_)
        refine w_zle (p3 := 80) rfl rfl (fun h => ?_) (fun h => ?_)
        · have h5 : ((A 37).getD (((y1 ||| ((1 : Int32) <<< (y4 &&& 31))) * 6) + y4).toInt.toNat 0).toInt ≤ 0 := h
          rw [if_neg (Int.not_lt.mpr h5)] at hE
          refine w_n 2 (pc1 := 20) (ls1 := [some (.ref 30), some (.int y1), some (.int y2), some (.int x3), some (.int (y4 + 1)), some (.int y4), some (.int (y1 ||| ((1 : Int32) <<< (y4 &&& 31))))]) (st1 := []) (hp1 := (hz F A L)) rfl ?_
          subst T
          have hb2 := i_up (B := (F 3 0)) hb
          have hb3 : y4.toInt < (F 3 0).toInt := hb
          exact ih (show m = ((F 3 0).toInt - (y4 + 1).toInt).toNat by rw [hb2]; omega) (fun q4 q5 q6 => cvE rfl (funext fun q => if k0 : q = 39 then by subst k0; exact Eq.trans (b := (kv_findLeastOrder_20 (F 3 0) (A 33) (A 37) x3 m y1 y2 (y4 + 1) (A 39)).2.2) rfl rfl else by unfold uA; simp only [nb1 k0, cond_false]) rfl (K q4 q5 q6))
        · have h5 : 0 < ((A 37).getD (((y1 ||| ((1 : Int32) <<< (y4 &&& 31))) * 6) + y4).toInt.toNat 0).toInt := h
          rw [if_pos h5] at hE
          refine w_n 4 (pc1 := 87) (ls1 := [some (.ref 30), some (.int y1), some (.int y2), some (.int x3), some (.int y4), some (.int y4), some (.int (y1 ||| ((1 : Int32) <<< (y4 &&& 31))))]) (st1 := [.int y4, .int x3, .ref 39]) (hp1 := (hz F A L)) rfl ?_
          refine w_as (k := 39) (l := (A 39)) (hp1 := (hz F (uA A 39 ((A 39).set x3.toInt.toNat y4)) L)) rfl rfl rfl (hz_s39 _) (fun _ => ?_)
          refine w_n 5 (pc1 := 103) (ls1 := [some (.ref 30), some (.int (y1 ||| ((1 : Int32) <<< (y4 &&& 31)))), some (.int y4), some (.int x3), some (.int y4), some (.int y4), some (.int (y1 ||| ((1 : Int32) <<< (y4 &&& 31))))]) (st1 := []) (hp1 := (hz F (uA A 39 ((A 39).set x3.toInt.toNat y4)) L)) rfl ?_
          subst T
          exact cvE rfl (funext fun q => if k0 : q = 39 then by subst k0; exact Eq.trans (b := ((A 39).set x3.toInt.toNat y4)) rfl rfl else by unfold uA; simp only [nb1 k0, cond_false]) rfl (K _ _ _)
noncomputable def kv_findLeastOrder_6 (f3_0 : Int32) (a33 : List Int32) (a37 : List Int32)  : Nat → Int32 → Int32 → Int32 → List Int32 → List Int32
  | 0, _, _, _, a39 => a39
  | m + 1, y1, y2, y3, a39 => (kv_findLeastOrder_6 f3_0 a33 a37 m (kv_findLeastOrder_20 f3_0 a33 a37 y3 f3_0.toInt.toNat y1 y2 0 a39).1 (kv_findLeastOrder_20 f3_0 a33 a37 y3 f3_0.toInt.toNat y1 y2 0 a39).2.1 (y3 + 1) (kv_findLeastOrder_20 f3_0 a33 a37 y3 f3_0.toInt.toNat y1 y2 0 a39).2.2)
theorem t_kv_findLeastOrder_6 {f : Nat} {Q : Option Value → sm_H → Prop} : ∀ (m : Nat) {B D : Nat} {F : Nat → Nat → Int32} {A : Nat → List Int32} {L : Nat → List Int64} {y1 : Int32} {y2 : Int32} {y3 : Int32} {o4 : Option Value} {o5 : Option Value} {o6 : Option Value}, m = ((F 3 0).toInt - y3.toInt).toNat → (∀ q1 : Int32, ∀ q2 : Int32, ∀ q3 : Int32, ∀ q4 : Option Value, ∀ q5 : Option Value, ∀ q6 : Option Value, wl_E f B D mm102.2.2.2.2.2.2.2.2 109 [some (.ref 30), some (.int q1), some (.int q2), some (.int q3), q4, q5, q6] [] (hz F (uA A 39 (kv_findLeastOrder_6 (F 3 0) (A 33) (A 37) m y1 y2 y3 (A 39))) L) Q) → wl_E f B D mm102.2.2.2.2.2.2.2.2 6 [some (.ref 30), some (.int y1), some (.int y2), some (.int y3), o4, o5, o6] [] (hz F A L) Q := by
  intro m
  induction m with
  | zero =>
    intro B D F A L y1 y2 y3 o4 o5 o6 hm K
    generalize hT : (kv_findLeastOrder_6 (F 3 0) (A 33) (A 37) 0 y1 y2 y3 (A 39)) = T at K
    have hE : T = (A 39) := hT.symm
    clear hT
    refine w_n 4 (pc1 := 14) (ls1 := [some (.ref 30), some (.int y1), some (.int y2), some (.int y3), o4, o5, o6]) (st1 := [.int (F 3 0), .int y3]) (hp1 := (hz F A L)) rfl ?_
    refine w_ge (p3 := 17) rfl rfl (fun hb => ?_) (fun h => False.elim (by have h : y3.toInt < (F 3 0).toInt := h; omega))
    subst T
    exact cvE rfl (funext fun q => if k0 : q = 39 then by subst k0; exact Eq.trans (b := (A 39)) rfl rfl else by unfold uA; simp only [nb1 k0, cond_false]) rfl (K _ _ _ _ _ _)
  | succ m ih =>
    intro B D F A L y1 y2 y3 o4 o5 o6 hm K
    generalize hT : (kv_findLeastOrder_6 (F 3 0) (A 33) (A 37) (m + 1) y1 y2 y3 (A 39)) = T at K
    have hE : T = (kv_findLeastOrder_6 (F 3 0) (A 33) (A 37) m (kv_findLeastOrder_20 (F 3 0) (A 33) (A 37) y3 (F 3 0).toInt.toNat y1 y2 0 (A 39)).1 (kv_findLeastOrder_20 (F 3 0) (A 33) (A 37) y3 (F 3 0).toInt.toNat y1 y2 0 (A 39)).2.1 (y3 + 1) (kv_findLeastOrder_20 (F 3 0) (A 33) (A 37) y3 (F 3 0).toInt.toNat y1 y2 0 (A 39)).2.2) := hT.symm
    clear hT
    refine w_n 4 (pc1 := 14) (ls1 := [some (.ref 30), some (.int y1), some (.int y2), some (.int y3), o4, o5, o6]) (st1 := [.int (F 3 0), .int y3]) (hp1 := (hz F A L)) rfl ?_
    refine w_ge (p3 := 17) rfl rfl (fun h => False.elim (by have h : (F 3 0).toInt ≤ y3.toInt := h; omega)) (fun hb => ?_)
    refine w_n 2 (pc1 := 20) (ls1 := [some (.ref 30), some (.int y1), some (.int y2), some (.int y3), some (.int 0), o5, o6]) (st1 := []) (hp1 := (hz F A L)) rfl ?_
    refine t_kv_findLeastOrder_20 (F 3 0).toInt.toNat (show (F 3 0).toInt.toNat = ((F 3 0).toInt - (0 : Int32).toInt).toNat by have e0 : (0 : Int32).toInt = 0 := rfl; first | rfl | omega) ?_
    intro r1 r2 r3
    show wl_E f _ _ mm102.2.2.2.2.2.2.2.2 103 [some (.ref 30), some (.int (kv_findLeastOrder_20 (F 3 0) (A 33) (A 37) y3 (F 3 0).toInt.toNat y1 y2 0 (A 39)).1), some (.int (kv_findLeastOrder_20 (F 3 0) (A 33) (A 37) y3 (F 3 0).toInt.toNat y1 y2 0 (A 39)).2.1), some (.int y3), some (.int r1), r2, r3] [] (hz F (uA A 39 (kv_findLeastOrder_20 (F 3 0) (A 33) (A 37) y3 (F 3 0).toInt.toNat y1 y2 0 (A 39)).2.2) L) _
    generalize hG233 : (kv_findLeastOrder_20 (F 3 0) (A 33) (A 37) y3 (F 3 0).toInt.toNat y1 y2 0 (A 39)) = G233 at hE ⊢
    refine w_n 2 (pc1 := 6) (ls1 := [some (.ref 30), some (.int G233.1), some (.int G233.2.1), some (.int (y3 + 1)), some (.int r1), r2, r3]) (st1 := []) (hp1 := (hz F (uA A 39 G233.2.2) L)) rfl ?_
    subst T
    have hb2 := i_up (B := (F 3 0)) hb
    have hb3 : y3.toInt < (F 3 0).toInt := hb
    exact ih (show m = ((F 3 0).toInt - (y3 + 1).toInt).toNat by rw [hb2]; omega) (fun q1 q2 q3 q4 q5 q6 => cvE rfl (funext fun q => if k0 : q = 39 then by subst k0; exact Eq.trans (b := (kv_findLeastOrder_6 (F 3 0) (A 33) (A 37) m G233.1 G233.2.1 (y3 + 1) G233.2.2)) rfl rfl else by unfold uA; simp only [nb1 k0, cond_false]) rfl (K q1 q2 q3 q4 q5 q6))
noncomputable def kv_findLeastOrder (f3_0 : Int32) (a33 : List Int32) (a37 : List Int32) (a39 : List Int32) : List Int32 := (kv_findLeastOrder_6 f3_0 a33 a37 f3_0.toInt.toNat 0 0 0 a39)
theorem t_kv_findLeastOrder {f D : Nat} {F : Nat → Nat → Int32} {A : Nat → List Int32} {L : Nat → List Int64} {Q : Option Value → sm_H → Prop} (K : Q none (hz F (uA A 39 (kv_findLeastOrder (F 3 0) (A 33) (A 37) (A 39))) L)) : wl_M f D 102 [.ref 30] (hz F A L) Q := by
  generalize hT : (kv_findLeastOrder (F 3 0) (A 33) (A 37) (A 39)) = T at K
  have hE : T = (kv_findLeastOrder_6 (F 3 0) (A 33) (A 37) (F 3 0).toInt.toNat 0 0 0 (A 39)) := hT.symm
  clear hT
  refine w_m (E := mm102) rfl ?_
  show wl_E f f (D - 1) mm102.2.2.2.2.2.2.2.2 0 [some (.ref 30), none, none, none, none, none, none] [] (hz F A L) Q
  refine w_n 6 (pc1 := 6) (ls1 := [some (.ref 30), some (.int 0), some (.int 0), some (.int 0), none, none, none]) (st1 := []) (hp1 := (hz F A L)) rfl ?_
  refine t_kv_findLeastOrder_6 (F 3 0).toInt.toNat (show (F 3 0).toInt.toNat = ((F 3 0).toInt - (0 : Int32).toInt).toNat by have e0 : (0 : Int32).toInt = 0 := rfl; first | rfl | omega) ?_
  intro r1 r2 r3 r4 r5 r6
  show wl_E f _ _ mm102.2.2.2.2.2.2.2.2 109 [some (.ref 30), some (.int r1), some (.int r2), some (.int r3), r4, r5, r6] [] (hz F (uA A 39 (kv_findLeastOrder_6 (F 3 0) (A 33) (A 37) (F 3 0).toInt.toNat 0 0 0 (A 39))) L) _
  generalize hG234 : (kv_findLeastOrder_6 (F 3 0) (A 33) (A 37) (F 3 0).toInt.toNat 0 0 0 (A 39)) = G234 at hE ⊢
  subst T
  exact w_r rfl rfl (cvQ rfl rfl rfl K)
noncomputable def kc_orders (f3_0 : Int32) (f3_1 : Int32) (a6 : List Int32) (a32 : List Int32) (a33 : List Int32) (a37 : List Int32) (a39 : List Int32) (l11 : List Int64) (x1 : Int32) (x2 : Int32) : Int32 × List Int32 × List Int32 × List Int32 × List Int32 := (if (kt_isMeasure f3_0 x1) = 0 then ((-1), a32, a33, a37, a39) else (if x2 = 10 then ((kv_countOrders f3_0 (kv_weighPairs f3_0 f3_1 a6 a32 a33 l11).2 a37 x1).1, (kv_weighPairs f3_0 f3_1 a6 a32 a33 l11).1, (kv_weighPairs f3_0 f3_1 a6 a32 a33 l11).2, (kv_countOrders f3_0 (kv_weighPairs f3_0 f3_1 a6 a32 a33 l11).2 a37 x1).2, a39) else (if (kt_isMeasure f3_0 x2) = 0 then ((-1), a32, a33, a37, a39) else (if (kv_countOrders f3_0 (kv_weighPairs f3_0 f3_1 a6 a32 a33 l11).2 a37 x1).1 = 0 then ((-2), (kv_weighPairs f3_0 f3_1 a6 a32 a33 l11).1, (kv_weighPairs f3_0 f3_1 a6 a32 a33 l11).2, (kv_countOrders f3_0 (kv_weighPairs f3_0 f3_1 a6 a32 a33 l11).2 a37 x1).2, a39) else (((kv_findLeastOrder f3_0 (kv_weighPairs f3_0 f3_1 a6 a32 a33 l11).2 (kv_countOrders f3_0 (kv_weighPairs f3_0 f3_1 a6 a32 a33 l11).2 a37 x1).2 a39).getD x2.toInt.toNat 0), (kv_weighPairs f3_0 f3_1 a6 a32 a33 l11).1, (kv_weighPairs f3_0 f3_1 a6 a32 a33 l11).2, (kv_countOrders f3_0 (kv_weighPairs f3_0 f3_1 a6 a32 a33 l11).2 a37 x1).2, (kv_findLeastOrder f3_0 (kv_weighPairs f3_0 f3_1 a6 a32 a33 l11).2 (kv_countOrders f3_0 (kv_weighPairs f3_0 f3_1 a6 a32 a33 l11).2 a37 x1).2 a39))))))
theorem t_kc_orders {f D : Nat} {F : Nat → Nat → Int32} {A : Nat → List Int32} {L : Nat → List Int64} {Q : Option Value → sm_H → Prop} {x1 : Int32} {x2 : Int32} (K : Q (some (.int ((kc_orders (F 3 0) (F 3 1) (A 6) (A 32) (A 33) (A 37) (A 39) (L 11) x1 x2).1))) (hz F (uA (uA (uA (uA A 32 ((kc_orders (F 3 0) (F 3 1) (A 6) (A 32) (A 33) (A 37) (A 39) (L 11) x1 x2).2.1)) 33 ((kc_orders (F 3 0) (F 3 1) (A 6) (A 32) (A 33) (A 37) (A 39) (L 11) x1 x2).2.2.1)) 37 ((kc_orders (F 3 0) (F 3 1) (A 6) (A 32) (A 33) (A 37) (A 39) (L 11) x1 x2).2.2.2.1)) 39 ((kc_orders (F 3 0) (F 3 1) (A 6) (A 32) (A 33) (A 37) (A 39) (L 11) x1 x2).2.2.2.2)) L)) : wl_M f D 99 [.ref 0, .int x1, .int x2] (hz F A L) Q := by
  generalize hT : (kc_orders (F 3 0) (F 3 1) (A 6) (A 32) (A 33) (A 37) (A 39) (L 11) x1 x2) = T at K
  have hE : T = (if (kt_isMeasure (F 3 0) x1) = 0 then ((-1), (A 32), (A 33), (A 37), (A 39)) else (if x2 = 10 then ((kv_countOrders (F 3 0) (kv_weighPairs (F 3 0) (F 3 1) (A 6) (A 32) (A 33) (L 11)).2 (A 37) x1).1, (kv_weighPairs (F 3 0) (F 3 1) (A 6) (A 32) (A 33) (L 11)).1, (kv_weighPairs (F 3 0) (F 3 1) (A 6) (A 32) (A 33) (L 11)).2, (kv_countOrders (F 3 0) (kv_weighPairs (F 3 0) (F 3 1) (A 6) (A 32) (A 33) (L 11)).2 (A 37) x1).2, (A 39)) else (if (kt_isMeasure (F 3 0) x2) = 0 then ((-1), (A 32), (A 33), (A 37), (A 39)) else (if (kv_countOrders (F 3 0) (kv_weighPairs (F 3 0) (F 3 1) (A 6) (A 32) (A 33) (L 11)).2 (A 37) x1).1 = 0 then ((-2), (kv_weighPairs (F 3 0) (F 3 1) (A 6) (A 32) (A 33) (L 11)).1, (kv_weighPairs (F 3 0) (F 3 1) (A 6) (A 32) (A 33) (L 11)).2, (kv_countOrders (F 3 0) (kv_weighPairs (F 3 0) (F 3 1) (A 6) (A 32) (A 33) (L 11)).2 (A 37) x1).2, (A 39)) else (((kv_findLeastOrder (F 3 0) (kv_weighPairs (F 3 0) (F 3 1) (A 6) (A 32) (A 33) (L 11)).2 (kv_countOrders (F 3 0) (kv_weighPairs (F 3 0) (F 3 1) (A 6) (A 32) (A 33) (L 11)).2 (A 37) x1).2 (A 39)).getD x2.toInt.toNat 0), (kv_weighPairs (F 3 0) (F 3 1) (A 6) (A 32) (A 33) (L 11)).1, (kv_weighPairs (F 3 0) (F 3 1) (A 6) (A 32) (A 33) (L 11)).2, (kv_countOrders (F 3 0) (kv_weighPairs (F 3 0) (F 3 1) (A 6) (A 32) (A 33) (L 11)).2 (A 37) x1).2, (kv_findLeastOrder (F 3 0) (kv_weighPairs (F 3 0) (F 3 1) (A 6) (A 32) (A 33) (L 11)).2 (kv_countOrders (F 3 0) (kv_weighPairs (F 3 0) (F 3 1) (A 6) (A 32) (A 33) (L 11)).2 (A 37) x1).2 (A 39))))))) := hT.symm
  clear hT
  refine w_m (E := mm99) rfl ?_
  show wl_E f f (D - 1) mm99.2.2.2.2.2.2.2.2 0 [some (.ref 0), some (.int x1), some (.int x2), none] [] (hz F A L) Q
  refine w_n 3 (pc1 := 5) (ls1 := [some (.ref 0), some (.int x1), some (.int x2), none]) (st1 := [.int x1, .ref 3]) (hp1 := (hz F A L)) rfl ?_
  refine w_c rfl rfl (t_kt_isMeasure ?_)
  show wl_E f _ _ mm99.2.2.2.2.2.2.2.2 8 [some (.ref 0), some (.int x1), some (.int x2), none] [.int (kt_isMeasure (F 3 0) x1)] (hz F A L) _
  generalize hG215 : (kt_isMeasure (F 3 0) x1) = G215 at hE ⊢
  refine w_zeq (p3 := 11) rfl rfl (fun h => ?_) (fun h => ?_)
  · have h1 : G215 = 0 := h
    rw [if_pos h1] at hE
    refine w_n 1 (pc1 := 29) (ls1 := [some (.ref 0), some (.int x1), some (.int x2), none]) (st1 := [.int (-1)]) (hp1 := (hz F A L)) rfl ?_
    subst T
    exact w_ri rfl (cvQ rfl (funext fun q => if k0 : q = 32 then by subst k0; exact Eq.trans (b := (A 32)) rfl rfl else if k1 : q = 33 then by subst k1; exact Eq.trans (b := (A 33)) rfl rfl else if k2 : q = 37 then by subst k2; exact Eq.trans (b := (A 37)) rfl rfl else if k3 : q = 39 then by subst k3; exact Eq.trans (b := (A 39)) rfl rfl else by unfold uA; simp only [nb1 k0, nb1 k1, nb1 k2, nb1 k3, cond_false]) rfl K)
  · have h1 : ¬ G215 = 0 := h
    rw [if_neg h1] at hE
    refine w_n 2 (pc1 := 14) (ls1 := [some (.ref 0), some (.int x1), some (.int x2), none]) (st1 := [.int 10, .int x2]) (hp1 := (hz F A L)) rfl ?_
    refine w_eq (p3 := 17) rfl rfl (fun h => ?_) (fun h => ?_)
    · have h2 : x2 = 10 := h
      rw [if_pos h2] at hE
      refine w_n 2 (pc1 := 34) (ls1 := [some (.ref 0), some (.int x1), some (.int x2), none]) (st1 := [.ref 30]) (hp1 := (hz F A L)) rfl ?_
      refine w_c rfl rfl (t_kv_weighPairs ?_)
      show wl_E f _ _ mm99.2.2.2.2.2.2.2.2 37 [some (.ref 0), some (.int x1), some (.int x2), none] [] (hz F (uA (uA A 32 (kv_weighPairs (F 3 0) (F 3 1) (A 6) (A 32) (A 33) (L 11)).1) 33 (kv_weighPairs (F 3 0) (F 3 1) (A 6) (A 32) (A 33) (L 11)).2) L) _
      generalize hG216 : (kv_weighPairs (F 3 0) (F 3 1) (A 6) (A 32) (A 33) (L 11)) = G216 at hE ⊢
      refine w_n 3 (pc1 := 42) (ls1 := [some (.ref 0), some (.int x1), some (.int x2), none]) (st1 := [.int x1, .ref 30]) (hp1 := (hz F (uA (uA A 32 G216.1) 33 G216.2) L)) rfl ?_
      refine w_c rfl rfl (t_kv_countOrders ?_)
      show wl_E f _ _ mm99.2.2.2.2.2.2.2.2 45 [some (.ref 0), some (.int x1), some (.int x2), none] [.int (kv_countOrders (F 3 0) G216.2 (A 37) x1).1] (hz F (uA (uA (uA A 32 G216.1) 33 G216.2) 37 (kv_countOrders (F 3 0) G216.2 (A 37) x1).2) L) _
      generalize hG228 : (kv_countOrders (F 3 0) G216.2 (A 37) x1) = G228 at hE ⊢
      refine w_n 3 (pc1 := 49) (ls1 := [some (.ref 0), some (.int x1), some (.int x2), some (.int G228.1)]) (st1 := [.int 10, .int x2]) (hp1 := (hz F (uA (uA (uA A 32 G216.1) 33 G216.2) 37 G228.2) L)) rfl ?_
      refine w_ne (p3 := 52) rfl rfl (fun h => absurd h2 h) (fun _ => ?_)
      refine w_n 1 (pc1 := 53) (ls1 := [some (.ref 0), some (.int x1), some (.int x2), some (.int G228.1)]) (st1 := [.int G228.1]) (hp1 := (hz F (uA (uA (uA A 32 G216.1) 33 G216.2) 37 G228.2) L)) rfl ?_
      subst T
      exact w_ri rfl (cvQ rfl (funext fun q => if k0 : q = 32 then by subst k0; exact Eq.trans (b := G216.1) rfl rfl else if k1 : q = 33 then by subst k1; exact Eq.trans (b := G216.2) rfl rfl else if k2 : q = 37 then by subst k2; exact Eq.trans (b := G228.2) rfl rfl else if k3 : q = 39 then by subst k3; exact Eq.trans (b := (A 39)) rfl rfl else by unfold uA; simp only [nb1 k0, nb1 k1, nb1 k2, nb1 k3, cond_false]) rfl K)
    · have h2 : ¬ x2 = 10 := h
      rw [if_neg h2] at hE
      refine w_n 3 (pc1 := 22) (ls1 := [some (.ref 0), some (.int x1), some (.int x2), none]) (st1 := [.int x2, .ref 3]) (hp1 := (hz F A L)) rfl ?_
      refine w_c rfl rfl (t_kt_isMeasure ?_)
      show wl_E f _ _ mm99.2.2.2.2.2.2.2.2 25 [some (.ref 0), some (.int x1), some (.int x2), none] [.int (kt_isMeasure (F 3 0) x2)] (hz F A L) _
      generalize hG229 : (kt_isMeasure (F 3 0) x2) = G229 at hE ⊢
      refine w_zne (p3 := 28) rfl rfl (fun h => ?_) (fun h => ?_)
      · have h3 : ¬ G229 = 0 := h
        rw [if_neg h3] at hE
        refine w_n 2 (pc1 := 34) (ls1 := [some (.ref 0), some (.int x1), some (.int x2), none]) (st1 := [.ref 30]) (hp1 := (hz F A L)) rfl ?_
        refine w_c rfl rfl (t_kv_weighPairs ?_)
        show wl_E f _ _ mm99.2.2.2.2.2.2.2.2 37 [some (.ref 0), some (.int x1), some (.int x2), none] [] (hz F (uA (uA A 32 (kv_weighPairs (F 3 0) (F 3 1) (A 6) (A 32) (A 33) (L 11)).1) 33 (kv_weighPairs (F 3 0) (F 3 1) (A 6) (A 32) (A 33) (L 11)).2) L) _
        generalize hG230 : (kv_weighPairs (F 3 0) (F 3 1) (A 6) (A 32) (A 33) (L 11)) = G230 at hE ⊢
        refine w_n 3 (pc1 := 42) (ls1 := [some (.ref 0), some (.int x1), some (.int x2), none]) (st1 := [.int x1, .ref 30]) (hp1 := (hz F (uA (uA A 32 G230.1) 33 G230.2) L)) rfl ?_
        refine w_c rfl rfl (t_kv_countOrders ?_)
        show wl_E f _ _ mm99.2.2.2.2.2.2.2.2 45 [some (.ref 0), some (.int x1), some (.int x2), none] [.int (kv_countOrders (F 3 0) G230.2 (A 37) x1).1] (hz F (uA (uA (uA A 32 G230.1) 33 G230.2) 37 (kv_countOrders (F 3 0) G230.2 (A 37) x1).2) L) _
        generalize hG231 : (kv_countOrders (F 3 0) G230.2 (A 37) x1) = G231 at hE ⊢
        refine w_n 3 (pc1 := 49) (ls1 := [some (.ref 0), some (.int x1), some (.int x2), some (.int G231.1)]) (st1 := [.int 10, .int x2]) (hp1 := (hz F (uA (uA (uA A 32 G230.1) 33 G230.2) 37 G231.2) L)) rfl ?_
        refine w_ne (p3 := 52) rfl rfl (fun _ => ?_) (fun h => absurd h h2)
        refine w_n 1 (pc1 := 55) (ls1 := [some (.ref 0), some (.int x1), some (.int x2), some (.int G231.1)]) (st1 := [.int G231.1]) (hp1 := (hz F (uA (uA (uA A 32 G230.1) 33 G230.2) 37 G231.2) L)) rfl ?_
        refine w_zne (p3 := 58) rfl rfl (fun h => ?_) (fun h => ?_)
        · have h4 : ¬ G231.1 = 0 := h
          rw [if_neg h4] at hE
          refine w_n 2 (pc1 := 65) (ls1 := [some (.ref 0), some (.int x1), some (.int x2), some (.int G231.1)]) (st1 := [.ref 30]) (hp1 := (hz F (uA (uA (uA A 32 G230.1) 33 G230.2) 37 G231.2) L)) rfl ?_
          refine w_c rfl rfl (t_kv_findLeastOrder ?_)
          show wl_E f _ _ mm99.2.2.2.2.2.2.2.2 68 [some (.ref 0), some (.int x1), some (.int x2), some (.int G231.1)] [] (hz F (uA (uA (uA (uA A 32 G230.1) 33 G230.2) 37 G231.2) 39 (kv_findLeastOrder (F 3 0) G230.2 G231.2 (A 39))) L) _
          generalize hG235 : (kv_findLeastOrder (F 3 0) G230.2 G231.2 (A 39)) = G235 at hE ⊢
          refine w_n 4 (pc1 := 76) (ls1 := [some (.ref 0), some (.int x1), some (.int x2), some (.int G231.1)]) (st1 := [.int x2, .ref 39]) (hp1 := (hz F (uA (uA (uA (uA A 32 G230.1) 33 G230.2) 37 G231.2) 39 G235) L)) rfl ?_
          refine w_al (k := 39) (l := G235) rfl rfl rfl (fun _ => ?_)
          subst T
          exact w_ri rfl (cvQ rfl rfl rfl K)
        · have h4 : G231.1 = 0 := h
          rw [if_pos h4] at hE
          refine w_n 1 (pc1 := 60) (ls1 := [some (.ref 0), some (.int x1), some (.int x2), some (.int G231.1)]) (st1 := [.int (-2)]) (hp1 := (hz F (uA (uA (uA A 32 G230.1) 33 G230.2) 37 G231.2) L)) rfl ?_
          subst T
          exact w_ri rfl (cvQ rfl (funext fun q => if k0 : q = 32 then by subst k0; exact Eq.trans (b := G230.1) rfl rfl else if k1 : q = 33 then by subst k1; exact Eq.trans (b := G230.2) rfl rfl else if k2 : q = 37 then by subst k2; exact Eq.trans (b := G231.2) rfl rfl else if k3 : q = 39 then by subst k3; exact Eq.trans (b := (A 39)) rfl rfl else by unfold uA; simp only [nb1 k0, nb1 k1, nb1 k2, nb1 k3, cond_false]) rfl K)
      · have h3 : G229 = 0 := h
        rw [if_pos h3] at hE
        refine w_n 1 (pc1 := 29) (ls1 := [some (.ref 0), some (.int x1), some (.int x2), none]) (st1 := [.int (-1)]) (hp1 := (hz F A L)) rfl ?_
        subst T
        exact w_ri rfl (cvQ rfl (funext fun q => if k0 : q = 32 then by subst k0; exact Eq.trans (b := (A 32)) rfl rfl else if k1 : q = 33 then by subst k1; exact Eq.trans (b := (A 33)) rfl rfl else if k2 : q = 37 then by subst k2; exact Eq.trans (b := (A 37)) rfl rfl else if k3 : q = 39 then by subst k3; exact Eq.trans (b := (A 39)) rfl rfl else by unfold uA; simp only [nb1 k0, nb1 k1, nb1 k2, nb1 k3, cond_false]) rfl K)
noncomputable def km_beginsRows_2   : Nat → Int32 → List Int32 → List Int32
  | 0, _, a92 => a92
  | m + 1, y1, a92 => (km_beginsRows_2 m (y1 + 1) (a92.set y1.toInt.toNat y1))
theorem t_km_beginsRows_2 {f : Nat} {Q : Option Value → sm_H → Prop} : ∀ (m : Nat) {B D : Nat} {F : Nat → Nat → Int32} {A : Nat → List Int32} {L : Nat → List Int64} {y1 : Int32}, m = ((F 67 3).toInt - y1.toInt).toNat → (∀ q1 : Int32, wl_E f B D mm224.2.2.2.2.2.2.2.2 23 [some (.ref 67), some (.int q1)] [] (hz F (uA A 92 (km_beginsRows_2 m y1 (A 92))) L) Q) → wl_E f B D mm224.2.2.2.2.2.2.2.2 2 [some (.ref 67), some (.int y1)] [] (hz F A L) Q := by
  intro m
  induction m with
  | zero =>
    intro B D F A L y1 hm K
    generalize hT : (km_beginsRows_2 0 y1 (A 92)) = T at K
    have hE : T = (A 92) := hT.symm
    clear hT
    refine w_n 3 (pc1 := 7) (ls1 := [some (.ref 67), some (.int y1)]) (st1 := [.int (F 67 3), .int y1]) (hp1 := (hz F A L)) rfl ?_
    refine w_ge (p3 := 10) rfl rfl (fun hb => ?_) (fun h => False.elim (by have h : y1.toInt < (F 67 3).toInt := h; omega))
    subst T
    exact cvE rfl (funext fun q => if k0 : q = 92 then by subst k0; exact Eq.trans (b := (A 92)) rfl rfl else by unfold uA; simp only [nb1 k0, cond_false]) rfl (K _)
  | succ m ih =>
    intro B D F A L y1 hm K
    generalize hT : (km_beginsRows_2 (m + 1) y1 (A 92)) = T at K
    have hE : T = (km_beginsRows_2 m (y1 + 1) ((A 92).set y1.toInt.toNat y1)) := hT.symm
    clear hT
    refine w_n 3 (pc1 := 7) (ls1 := [some (.ref 67), some (.int y1)]) (st1 := [.int (F 67 3), .int y1]) (hp1 := (hz F A L)) rfl ?_
    refine w_ge (p3 := 10) rfl rfl (fun h => False.elim (by have h : (F 67 3).toInt ≤ y1.toInt := h; omega)) (fun hb => ?_)
    refine w_n 4 (pc1 := 16) (ls1 := [some (.ref 67), some (.int y1)]) (st1 := [.int y1, .int y1, .ref 92]) (hp1 := (hz F A L)) rfl ?_
    refine w_as (k := 92) (l := (A 92)) (hp1 := (hz F (uA A 92 ((A 92).set y1.toInt.toNat y1)) L)) rfl rfl rfl (hz_s92 _) (fun ab => ?_)
    refine w_n 2 (pc1 := 2) (ls1 := [some (.ref 67), some (.int (y1 + 1))]) (st1 := []) (hp1 := (hz F (uA A 92 ((A 92).set y1.toInt.toNat y1)) L)) rfl ?_
    subst T
    have hb2 := i_up (B := (F 67 3)) hb
    have hb3 : y1.toInt < (F 67 3).toInt := hb
    exact ih (show m = ((F 67 3).toInt - (y1 + 1).toInt).toNat by rw [hb2]; omega) (fun q1 => cvE rfl (funext fun q => if k0 : q = 92 then by subst k0; exact Eq.trans (b := (km_beginsRows_2 m (y1 + 1) ((A 92).set y1.toInt.toNat y1))) rfl rfl else by unfold uA; simp only [nb1 k0, cond_false]) rfl (K q1))
noncomputable def km_beginsRows (f67_3 : Int32) (a92 : List Int32) : List Int32 := (km_beginsRows_2 f67_3.toInt.toNat 0 a92)
theorem t_km_beginsRows {f D : Nat} {F : Nat → Nat → Int32} {A : Nat → List Int32} {L : Nat → List Int64} {Q : Option Value → sm_H → Prop} (K : Q none (hz F (uA A 92 (km_beginsRows (F 67 3) (A 92))) L)) : wl_M f D 224 [.ref 67] (hz F A L) Q := by
  generalize hT : (km_beginsRows (F 67 3) (A 92)) = T at K
  have hE : T = (km_beginsRows_2 (F 67 3).toInt.toNat 0 (A 92)) := hT.symm
  clear hT
  refine w_m (E := mm224) rfl ?_
  show wl_E f f (D - 1) mm224.2.2.2.2.2.2.2.2 0 [some (.ref 67), none] [] (hz F A L) Q
  refine w_n 2 (pc1 := 2) (ls1 := [some (.ref 67), some (.int 0)]) (st1 := []) (hp1 := (hz F A L)) rfl ?_
  refine t_km_beginsRows_2 (F 67 3).toInt.toNat (show (F 67 3).toInt.toNat = ((F 67 3).toInt - (0 : Int32).toInt).toNat by have e0 : (0 : Int32).toInt = 0 := rfl; first | rfl | omega) ?_
  intro r1
  show wl_E f _ _ mm224.2.2.2.2.2.2.2.2 23 [some (.ref 67), some (.int r1)] [] (hz F (uA A 92 (km_beginsRows_2 (F 67 3).toInt.toNat 0 (A 92))) L) _
  generalize hG237 : (km_beginsRows_2 (F 67 3).toInt.toNat 0 (A 92)) = G237 at hE ⊢
  subst T
  exact w_r rfl rfl (cvQ rfl rfl rfl K)
noncomputable def km_winsOf (a68 : List Int32) (x1 : Int32) (x2 : Int32) : Int32 := (if (km_beats a68 x2 x1) = 0 then x1 else x2)
theorem t_km_winsOf {f D : Nat} {F : Nat → Nat → Int32} {A : Nat → List Int32} {L : Nat → List Int64} {Q : Option Value → sm_H → Prop} {x1 : Int32} {x2 : Int32} (K : Q (some (.int (km_winsOf (A 68) x1 x2))) (hz F A L)) : wl_M f D 222 [.ref 67, .int x1, .int x2] (hz F A L) Q := by
  generalize hT : (km_winsOf (A 68) x1 x2) = T at K
  have hE : T = (if (km_beats (A 68) x2 x1) = 0 then x1 else x2) := hT.symm
  clear hT
  refine w_m (E := mm222) rfl ?_
  show wl_E f f (D - 1) mm222.2.2.2.2.2.2.2.2 0 [some (.ref 67), some (.int x1), some (.int x2)] [] (hz F A L) Q
  refine w_n 3 (pc1 := 3) (ls1 := [some (.ref 67), some (.int x1), some (.int x2)]) (st1 := [.int x1, .int x2, .ref 67]) (hp1 := (hz F A L)) rfl ?_
  refine w_c rfl rfl (t_km_beats ?_)
  show wl_E f _ _ mm222.2.2.2.2.2.2.2.2 6 [some (.ref 67), some (.int x1), some (.int x2)] [.int (km_beats (A 68) x2 x1)] (hz F A L) _
  generalize hG239 : (km_beats (A 68) x2 x1) = G239 at hE ⊢
  refine w_zeq (p3 := 9) rfl rfl (fun h => ?_) (fun h => ?_)
  · have h1 : G239 = 0 := h
    rw [if_pos h1] at hE
    refine w_n 1 (pc1 := 14) (ls1 := [some (.ref 67), some (.int x1), some (.int x2)]) (st1 := [.int x1]) (hp1 := (hz F A L)) rfl ?_
    subst T
    exact w_ri rfl (cvQ rfl rfl rfl K)
  · have h1 : ¬ G239 = 0 := h
    rw [if_neg h1] at hE
    refine w_n 2 (pc1 := 14) (ls1 := [some (.ref 67), some (.int x1), some (.int x2)]) (st1 := [.int x2]) (hp1 := (hz F A L)) rfl ?_
    subst T
    exact w_ri rfl (cvQ rfl rfl rfl K)
noncomputable def km_orders_49 (a68 : List Int32) (a92 : List Int32)  : Nat → Int32 → Int32 → Int32
  | 0, y5, _ => y5
  | m + 1, y5, y6 => (km_orders_49 a68 a92 m (km_winsOf a68 y5 (a92.getD y6.toInt.toNat 0)) (y6 + 1))
theorem t_km_orders_49 {f : Nat} {Q : Option Value → sm_H → Prop} : ∀ (m : Nat) {B D : Nat} {F : Nat → Nat → Int32} {A : Nat → List Int32} {L : Nat → List Int64} {x1 : Int32} {x2 : Int32} {x3 : Int32} {x4 : Int32} {y5 : Int32} {y6 : Int32}, m = ((F 67 3).toInt - y6.toInt).toNat → (∀ q6 : Int32, wl_E f B D mm223.2.2.2.2.2.2.2.2 79 [some (.ref 67), some (.int x1), some (.int x2), some (.int x3), some (.int x4), some (.int (km_orders_49 (A 68) (A 92) m y5 y6)), some (.int q6)] [] (hz F A L) Q) → wl_E f B D mm223.2.2.2.2.2.2.2.2 49 [some (.ref 67), some (.int x1), some (.int x2), some (.int x3), some (.int x4), some (.int y5), some (.int y6)] [] (hz F A L) Q := by
  intro m
  induction m with
  | zero =>
    intro B D F A L x1 x2 x3 x4 y5 y6 hm K
    generalize hT : (km_orders_49 (A 68) (A 92) 0 y5 y6) = T at K
    have hE : T = y5 := hT.symm
    clear hT
    refine w_n 3 (pc1 := 55) (ls1 := [some (.ref 67), some (.int x1), some (.int x2), some (.int x3), some (.int x4), some (.int y5), some (.int y6)]) (st1 := [.int (F 67 3), .int y6]) (hp1 := (hz F A L)) rfl ?_
    refine w_ge (p3 := 58) rfl rfl (fun hb => ?_) (fun h => False.elim (by have h : y6.toInt < (F 67 3).toInt := h; omega))
    subst T
    exact cvE rfl rfl rfl (K _)
  | succ m ih =>
    intro B D F A L x1 x2 x3 x4 y5 y6 hm K
    generalize hT : (km_orders_49 (A 68) (A 92) (m + 1) y5 y6) = T at K
    have hE : T = (km_orders_49 (A 68) (A 92) m (km_winsOf (A 68) y5 ((A 92).getD y6.toInt.toNat 0)) (y6 + 1)) := hT.symm
    clear hT
    refine w_n 3 (pc1 := 55) (ls1 := [some (.ref 67), some (.int x1), some (.int x2), some (.int x3), some (.int x4), some (.int y5), some (.int y6)]) (st1 := [.int (F 67 3), .int y6]) (hp1 := (hz F A L)) rfl ?_
    refine w_ge (p3 := 58) rfl rfl (fun h => False.elim (by have h : (F 67 3).toInt ≤ y6.toInt := h; omega)) (fun hb => ?_)
    refine w_n 5 (pc1 := 67) (ls1 := [some (.ref 67), some (.int x1), some (.int x2), some (.int x3), some (.int x4), some (.int y5), some (.int y6)]) (st1 := [.int y6, .ref 92, .int y5, .ref 67]) (hp1 := (hz F A L)) rfl ?_
    refine w_al (k := 92) (l := (A 92)) rfl rfl rfl (fun ab => ?_)
    refine w_c rfl rfl (t_km_winsOf ?_)
    show wl_E f _ _ mm223.2.2.2.2.2.2.2.2 71 [some (.ref 67), some (.int x1), some (.int x2), some (.int x3), some (.int x4), some (.int y5), some (.int y6)] [.int (km_winsOf (A 68) y5 ((A 92).getD y6.toInt.toNat 0))] (hz F A L) _
    generalize hG240 : (km_winsOf (A 68) y5 ((A 92).getD y6.toInt.toNat 0)) = G240 at hE ⊢
    refine w_n 3 (pc1 := 49) (ls1 := [some (.ref 67), some (.int x1), some (.int x2), some (.int x3), some (.int x4), some (.int G240), some (.int (y6 + 1))]) (st1 := []) (hp1 := (hz F A L)) rfl ?_
    subst T
    have hb2 := i_up (B := (F 67 3)) hb
    have hb3 : y6.toInt < (F 67 3).toInt := hb
    exact ih (show m = ((F 67 3).toInt - (y6 + 1).toInt).toNat by rw [hb2]; omega) (fun q6 => cvE rfl rfl rfl (K q6))
noncomputable def km_goesNext_4 (a92 : List Int32)  : Nat → Int32 → Int32
  | 0, y2 => y2
  | m + 1, y2 => (if (a92.getD (y2 + 1).toInt.toNat 0).toInt < (a92.getD y2.toInt.toNat 0).toInt then (km_goesNext_4 a92 m (y2 - 1)) else y2)
theorem t_km_goesNext_4 {f : Nat} {Q : Option Value → sm_H → Prop} : ∀ (m : Nat) {B D : Nat} {F : Nat → Nat → Int32} {A : Nat → List Int32} {L : Nat → List Int64} {x1 : Int32} {y2 : Int32} {o3 : Option Value} {o4 : Option Value} {o5 : Option Value}, m = (y2.toInt + 1 - 0).toNat → (wl_E f B D mm226.2.2.2.2.2.2.2.2 32 [some (.ref 67), some (.int x1), some (.int (km_goesNext_4 (A 92) m y2)), o3, o4, o5] [] (hz F A L) Q) → wl_E f B D mm226.2.2.2.2.2.2.2.2 4 [some (.ref 67), some (.int x1), some (.int y2), o3, o4, o5] [] (hz F A L) Q := by
  intro m
  induction m with
  | zero =>
    intro B D F A L x1 y2 o3 o4 o5 hm K
    generalize hT : (km_goesNext_4 (A 92) 0 y2) = T at K
    have hE : T = y2 := hT.symm
    clear hT
    refine w_n 1 (pc1 := 5) (ls1 := [some (.ref 67), some (.int x1), some (.int y2), o3, o4, o5]) (st1 := [.int y2]) (hp1 := (hz F A L)) rfl ?_
    refine w_zlt (p3 := 8) rfl rfl (fun hb => ?_) (fun h => False.elim (by have h : 0 ≤ y2.toInt := h; omega))
    subst T
    exact cvE rfl rfl rfl (K)
  | succ m ih =>
    intro B D F A L x1 y2 o3 o4 o5 hm K
    generalize hT : (km_goesNext_4 (A 92) (m + 1) y2) = T at K
    have hE : T = (if ((A 92).getD (y2 + 1).toInt.toNat 0).toInt < ((A 92).getD y2.toInt.toNat 0).toInt then (km_goesNext_4 (A 92) m (y2 - 1)) else y2) := hT.symm
    clear hT
    refine w_n 1 (pc1 := 5) (ls1 := [some (.ref 67), some (.int x1), some (.int y2), o3, o4, o5]) (st1 := [.int y2]) (hp1 := (hz F A L)) rfl ?_
    refine w_zlt (p3 := 8) rfl rfl (fun h => False.elim (by have h : y2.toInt < 0 := h; omega)) (fun hb => ?_)
    refine w_n 3 (pc1 := 13) (ls1 := [some (.ref 67), some (.int x1), some (.int y2), o3, o4, o5]) (st1 := [.int y2, .ref 92]) (hp1 := (hz F A L)) rfl ?_
    refine w_al (k := 92) (l := (A 92)) rfl rfl rfl (fun ab => ?_)
    refine w_n 5 (pc1 := 21) (ls1 := [some (.ref 67), some (.int x1), some (.int y2), o3, o4, o5]) (st1 := [.int (y2 + 1), .ref 92, .int ((A 92).getD y2.toInt.toNat 0)]) (hp1 := (hz F A L)) rfl ?_
    refine w_al (k := 92) (l := (A 92)) rfl rfl rfl (fun _ => ?_)
    refine w_le (p3 := 25) rfl rfl (fun h => ?_) (fun h => ?_)
    · have h1 : ((A 92).getD y2.toInt.toNat 0).toInt ≤ ((A 92).getD (y2 + 1).toInt.toNat 0).toInt := h
      rw [if_neg (Int.not_lt.mpr h1)] at hE
      subst T
      exact cvE rfl rfl rfl (K)
    · have h1 : ((A 92).getD (y2 + 1).toInt.toNat 0).toInt < ((A 92).getD y2.toInt.toNat 0).toInt := h
      rw [if_pos h1] at hE
      refine w_n 5 (pc1 := 4) (ls1 := [some (.ref 67), some (.int x1), some (.int (y2 - 1)), o3, o4, o5]) (st1 := []) (hp1 := (hz F A L)) rfl ?_
      subst T
      have hb2 := i_dn3 (B := (0 : Int32)) hb (by first | decide | exact hB | assumption)
      have hb3 : 0 ≤ y2.toInt := hb
      exact ih (show m = ((y2 - 1).toInt + 1 - 0).toNat by rw [hb2]; omega) (cvE rfl rfl rfl (K))
noncomputable def km_goesNext_42 (a92 : List Int32) (x2 : Int32) : Nat → Int32 → Int32
  | 0, y3 => y3
  | m + 1, y3 => (if (a92.getD y3.toInt.toNat 0).toInt < (a92.getD x2.toInt.toNat 0).toInt then (km_goesNext_42 a92 x2 m (y3 - 1)) else y3)
theorem t_km_goesNext_42 {f : Nat} {Q : Option Value → sm_H → Prop} : ∀ (m : Nat) (B : Nat) {D : Nat} {F : Nat → Nat → Int32} {A : Nat → List Int32} {L : Nat → List Int64} {x1 : Int32} {x2 : Int32} {y3 : Int32} {o4 : Option Value} {o5 : Option Value}, B ≤ m → (wl_E f B D mm226.2.2.2.2.2.2.2.2 64 [some (.ref 67), some (.int x1), some (.int x2), some (.int (km_goesNext_42 (A 92) x2 m y3)), o4, o5] [] (hz F A L) Q) → wl_E f B D mm226.2.2.2.2.2.2.2.2 42 [some (.ref 67), some (.int x1), some (.int x2), some (.int y3), o4, o5] [] (hz F A L) Q := by
  intro m
  induction m with
  | zero =>
    intro B D F A L x1 x2 y3 o4 o5 hm K
    rw [show B = 0 by omega]
    exact w_0
  | succ m ih =>
    intro B D F A L x1 x2 y3 o4 o5 hm K
    cases B with
    | zero => exact w_0
    | succ B =>
      generalize hT : (km_goesNext_42 (A 92) x2 (m + 1) y3) = T at K
      have hE : T = (if ((A 92).getD y3.toInt.toNat 0).toInt < ((A 92).getD x2.toInt.toNat 0).toInt then (km_goesNext_42 (A 92) x2 m (y3 - 1)) else y3) := hT.symm
      clear hT
      refine w_n1 (pc1 := 43) (ls1 := [some (.ref 67), some (.int x1), some (.int x2), some (.int y3), o4, o5]) (st1 := [.ref 67]) (hp1 := (hz F A L)) rfl ?_
      refine w_n 2 (pc1 := 47) (ls1 := [some (.ref 67), some (.int x1), some (.int x2), some (.int y3), o4, o5]) (st1 := [.int y3, .ref 92]) (hp1 := (hz F A L)) rfl ?_
      refine w_al (k := 92) (l := (A 92)) rfl rfl rfl (fun _ => ?_)
      refine w_n 3 (pc1 := 53) (ls1 := [some (.ref 67), some (.int x1), some (.int x2), some (.int y3), o4, o5]) (st1 := [.int x2, .ref 92, .int ((A 92).getD y3.toInt.toNat 0)]) (hp1 := (hz F A L)) rfl ?_
      refine w_al (k := 92) (l := (A 92)) rfl rfl rfl (fun _ => ?_)
      refine w_ge (p3 := 57) rfl rfl (fun h => ?_) (fun h => ?_)
      · have h1 : ((A 92).getD x2.toInt.toNat 0).toInt ≤ ((A 92).getD y3.toInt.toNat 0).toInt := h
        rw [if_neg (Int.not_lt.mpr h1)] at hE
        subst T
        exact cvE rfl rfl rfl (wl_le (Nat.le_succ _) (K))
      · have h1 : ((A 92).getD y3.toInt.toNat 0).toInt < ((A 92).getD x2.toInt.toNat 0).toInt := h
        rw [if_pos h1] at hE
        refine w_n 5 (pc1 := 42) (ls1 := [some (.ref 67), some (.int x1), some (.int x2), some (.int (y3 - 1)), o4, o5]) (st1 := []) (hp1 := (hz F A L)) rfl ?_
        subst T
        exact ih _ (by omega) (cvE rfl rfl rfl (wl_le (Nat.le_succ _) (K)))
noncomputable def km_changes (a92 : List Int32) (x1 : Int32) (x2 : Int32) : List Int32 := ((a92.set x1.toInt.toNat (a92.getD x2.toInt.toNat 0)).set x2.toInt.toNat (a92.getD x1.toInt.toNat 0))
theorem t_km_changes {f D : Nat} {F : Nat → Nat → Int32} {A : Nat → List Int32} {L : Nat → List Int64} {Q : Option Value → sm_H → Prop} {x1 : Int32} {x2 : Int32} (K : Q none (hz F (uA A 92 (km_changes (A 92) x1 x2)) L)) : wl_M f D 227 [.ref 67, .int x1, .int x2] (hz F A L) Q := by
  generalize hT : (km_changes (A 92) x1 x2) = T at K
  have hE : T = (((A 92).set x1.toInt.toNat ((A 92).getD x2.toInt.toNat 0)).set x2.toInt.toNat ((A 92).getD x1.toInt.toNat 0)) := hT.symm
  clear hT
  refine w_m (E := mm227) rfl ?_
  show wl_E f f (D - 1) mm227.2.2.2.2.2.2.2.2 0 [some (.ref 67), some (.int x1), some (.int x2), none] [] (hz F A L) Q
  refine w_n 3 (pc1 := 5) (ls1 := [some (.ref 67), some (.int x1), some (.int x2), none]) (st1 := [.int x1, .ref 92]) (hp1 := (hz F A L)) rfl ?_
  refine w_al (k := 92) (l := (A 92)) rfl rfl rfl (fun _ => ?_)
  refine w_n 7 (pc1 := 17) (ls1 := [some (.ref 67), some (.int x1), some (.int x2), some (.int ((A 92).getD x1.toInt.toNat 0))]) (st1 := [.int x2, .ref 92, .int x1, .ref 92]) (hp1 := (hz F A L)) rfl ?_
  refine w_al (k := 92) (l := (A 92)) rfl rfl rfl (fun _ => ?_)
  refine w_as (k := 92) (l := (A 92)) (hp1 := (hz F (uA A 92 ((A 92).set x1.toInt.toNat ((A 92).getD x2.toInt.toNat 0))) L)) rfl rfl rfl (hz_s92 _) (fun _ => ?_)
  refine w_n 4 (pc1 := 25) (ls1 := [some (.ref 67), some (.int x1), some (.int x2), some (.int ((A 92).getD x1.toInt.toNat 0))]) (st1 := [.int ((A 92).getD x1.toInt.toNat 0), .int x2, .ref 92]) (hp1 := (hz F (uA A 92 ((A 92).set x1.toInt.toNat ((A 92).getD x2.toInt.toNat 0))) L)) rfl ?_
  refine w_as (k := 92) (l := ((A 92).set x1.toInt.toNat ((A 92).getD x2.toInt.toNat 0))) (hp1 := (hz F (uA (uA A 92 ((A 92).set x1.toInt.toNat ((A 92).getD x2.toInt.toNat 0))) 92 (((A 92).set x1.toInt.toNat ((A 92).getD x2.toInt.toNat 0)).set x2.toInt.toNat ((A 92).getD x1.toInt.toNat 0))) L)) rfl rfl rfl (hz_s92 _) (fun _ => ?_)
  subst T
  exact w_r rfl rfl (cvQ rfl (funext fun q => if k0 : q = 92 then by subst k0; exact Eq.trans (b := (((A 92).set x1.toInt.toNat ((A 92).getD x2.toInt.toNat 0)).set x2.toInt.toNat ((A 92).getD x1.toInt.toNat 0))) rfl rfl else by unfold uA; simp only [nb1 k0, cond_false]) rfl K)
noncomputable def km_goesNext_80   : Nat → Int32 → Int32 → List Int32 → List Int32
  | 0, _, _, a92 => a92
  | m + 1, y4, y5, a92 => (if y4.toInt < y5.toInt then (km_goesNext_80 m (y4 + 1) (y5 + (-1)) (km_changes a92 y4 y5)) else a92)
theorem t_km_goesNext_80 {f : Nat} {Q : Option Value → sm_H → Prop} : ∀ (m : Nat) (B : Nat) {D : Nat} {F : Nat → Nat → Int32} {A : Nat → List Int32} {L : Nat → List Int64} {x1 : Int32} {x2 : Int32} {x3 : Int32} {y4 : Int32} {y5 : Int32}, B ≤ m → (∀ q4 : Int32, ∀ q5 : Int32, wl_E f B D mm226.2.2.2.2.2.2.2.2 104 [some (.ref 67), some (.int x1), some (.int x2), some (.int x3), some (.int q4), some (.int q5)] [] (hz F (uA A 92 (km_goesNext_80 m y4 y5 (A 92))) L) Q) → wl_E f B D mm226.2.2.2.2.2.2.2.2 80 [some (.ref 67), some (.int x1), some (.int x2), some (.int x3), some (.int y4), some (.int y5)] [] (hz F A L) Q := by
  intro m
  induction m with
  | zero =>
    intro B D F A L x1 x2 x3 y4 y5 hm K
    rw [show B = 0 by omega]
    exact w_0
  | succ m ih =>
    intro B D F A L x1 x2 x3 y4 y5 hm K
    cases B with
    | zero => exact w_0
    | succ B =>
      generalize hT : (km_goesNext_80 (m + 1) y4 y5 (A 92)) = T at K
      have hE : T = (if y4.toInt < y5.toInt then (km_goesNext_80 m (y4 + 1) (y5 + (-1)) (km_changes (A 92) y4 y5)) else (A 92)) := hT.symm
      clear hT
      refine w_n1 (pc1 := 82) (ls1 := [some (.ref 67), some (.int x1), some (.int x2), some (.int x3), some (.int y4), some (.int y5)]) (st1 := [.int y4]) (hp1 := (hz F A L)) rfl ?_
      refine w_n 1 (pc1 := 84) (ls1 := [some (.ref 67), some (.int x1), some (.int x2), some (.int x3), some (.int y4), some (.int y5)]) (st1 := [.int y5, .int y4]) (hp1 := (hz F A L)) rfl ?_
      refine w_ge (p3 := 87) rfl rfl (fun h => ?_) (fun h => ?_)
      · have h1 : y5.toInt ≤ y4.toInt := h
        rw [if_neg (Int.not_lt.mpr h1)] at hE
        subst T
        exact cvE rfl (funext fun q => if k0 : q = 92 then by subst k0; exact Eq.trans (b := (A 92)) rfl rfl else by unfold uA; simp only [nb1 k0, cond_false]) rfl (wl_le (Nat.le_succ _) (K _ _))
      · have h1 : y4.toInt < y5.toInt := h
        rw [if_pos h1] at hE
        refine w_n 3 (pc1 := 92) (ls1 := [some (.ref 67), some (.int x1), some (.int x2), some (.int x3), some (.int y4), some (.int y5)]) (st1 := [.int y5, .int y4, .ref 67]) (hp1 := (hz F A L)) rfl ?_
        refine w_c rfl rfl (t_km_changes ?_)
        show wl_E f _ _ mm226.2.2.2.2.2.2.2.2 95 [some (.ref 67), some (.int x1), some (.int x2), some (.int x3), some (.int y4), some (.int y5)] [] (hz F (uA A 92 (km_changes (A 92) y4 y5)) L) _
        generalize hG245 : (km_changes (A 92) y4 y5) = G245 at hE ⊢
        refine w_n 3 (pc1 := 80) (ls1 := [some (.ref 67), some (.int x1), some (.int x2), some (.int x3), some (.int (y4 + 1)), some (.int (y5 + (-1)))]) (st1 := []) (hp1 := (hz F (uA A 92 G245) L)) rfl ?_
        subst T
        exact ih _ (by omega) (fun q4 q5 => cvE rfl (funext fun q => if k0 : q = 92 then by subst k0; exact Eq.trans (b := (km_goesNext_80 m (y4 + 1) (y5 + (-1)) G245)) rfl rfl else by unfold uA; simp only [nb1 k0, cond_false]) rfl (wl_le (Nat.le_succ _) (K q4 q5)))
noncomputable def km_goesNext (f : Nat) (a92 : List Int32) (x1 : Int32) : Int32 × List Int32 := (if (km_goesNext_4 a92 ((x1 - 2).toInt + 1).toNat (x1 - 2)).toInt < 0 then (0, a92) else (1, (km_goesNext_80 f ((km_goesNext_4 a92 ((x1 - 2).toInt + 1).toNat (x1 - 2)) + 1) (x1 - 1) (km_changes a92 (km_goesNext_4 a92 ((x1 - 2).toInt + 1).toNat (x1 - 2)) (km_goesNext_42 a92 (km_goesNext_4 a92 ((x1 - 2).toInt + 1).toNat (x1 - 2)) f (x1 - 1))))))
theorem t_km_goesNext {f D : Nat} {F : Nat → Nat → Int32} {A : Nat → List Int32} {L : Nat → List Int64} {Q : Option Value → sm_H → Prop} {x1 : Int32} (K : Q (some (.int ((km_goesNext f (A 92) x1).1))) (hz F (uA A 92 ((km_goesNext f (A 92) x1).2)) L)) : wl_M f D 226 [.ref 67, .int x1] (hz F A L) Q := by
  generalize hT : (km_goesNext f (A 92) x1) = T at K
  have hE : T = (if (km_goesNext_4 (A 92) ((x1 - 2).toInt + 1).toNat (x1 - 2)).toInt < 0 then (0, (A 92)) else (1, (km_goesNext_80 f ((km_goesNext_4 (A 92) ((x1 - 2).toInt + 1).toNat (x1 - 2)) + 1) (x1 - 1) (km_changes (A 92) (km_goesNext_4 (A 92) ((x1 - 2).toInt + 1).toNat (x1 - 2)) (km_goesNext_42 (A 92) (km_goesNext_4 (A 92) ((x1 - 2).toInt + 1).toNat (x1 - 2)) f (x1 - 1)))))) := hT.symm
  clear hT
  refine w_m (E := mm226) rfl ?_
  show wl_E f f (D - 1) mm226.2.2.2.2.2.2.2.2 0 [some (.ref 67), some (.int x1), none, none, none, none] [] (hz F A L) Q
  refine w_n 4 (pc1 := 4) (ls1 := [some (.ref 67), some (.int x1), some (.int (x1 - 2)), none, none, none]) (st1 := []) (hp1 := (hz F A L)) rfl ?_
  refine t_km_goesNext_4 (((x1 - 2).toInt + 1).toNat) (show ((x1 - 2).toInt + 1).toNat = ((x1 - 2).toInt + 1 - 0).toNat by first | rfl | omega) ?_
  show wl_E f _ _ mm226.2.2.2.2.2.2.2.2 32 [some (.ref 67), some (.int x1), some (.int (km_goesNext_4 (A 92) ((x1 - 2).toInt + 1).toNat (x1 - 2))), none, none, none] [] (hz F A L) _
  generalize hG242 : (km_goesNext_4 (A 92) ((x1 - 2).toInt + 1).toNat (x1 - 2)) = G242 at hE ⊢
  refine w_n 1 (pc1 := 33) (ls1 := [some (.ref 67), some (.int x1), some (.int G242), none, none, none]) (st1 := [.int G242]) (hp1 := (hz F A L)) rfl ?_
  refine w_zge (p3 := 36) rfl rfl (fun h => ?_) (fun h => ?_)
  · have h1 : 0 ≤ G242.toInt := h
    rw [if_neg (Int.not_lt.mpr h1)] at hE
    refine w_n 4 (pc1 := 42) (ls1 := [some (.ref 67), some (.int x1), some (.int G242), some (.int (x1 - 1)), none, none]) (st1 := []) (hp1 := (hz F A L)) rfl ?_
    refine t_km_goesNext_42 f _ (Nat.le_refl _) ?_
    show wl_E f _ _ mm226.2.2.2.2.2.2.2.2 64 [some (.ref 67), some (.int x1), some (.int G242), some (.int (km_goesNext_42 (A 92) G242 f (x1 - 1))), none, none] [] (hz F A L) _
    generalize hG243 : (km_goesNext_42 (A 92) G242 f (x1 - 1)) = G243 at hE ⊢
    refine w_n 3 (pc1 := 67) (ls1 := [some (.ref 67), some (.int x1), some (.int G242), some (.int G243), none, none]) (st1 := [.int G243, .int G242, .ref 67]) (hp1 := (hz F A L)) rfl ?_
    refine w_c rfl rfl (t_km_changes ?_)
    show wl_E f _ _ mm226.2.2.2.2.2.2.2.2 70 [some (.ref 67), some (.int x1), some (.int G242), some (.int G243), none, none] [] (hz F (uA A 92 (km_changes (A 92) G242 G243)) L) _
    generalize hG244 : (km_changes (A 92) G242 G243) = G244 at hE ⊢
    refine w_n 8 (pc1 := 80) (ls1 := [some (.ref 67), some (.int x1), some (.int G242), some (.int G243), some (.int (G242 + 1)), some (.int (x1 - 1))]) (st1 := []) (hp1 := (hz F (uA A 92 G244) L)) rfl ?_
    refine t_km_goesNext_80 f _ (Nat.le_refl _) ?_
    intro r1 r2
    show wl_E f _ _ mm226.2.2.2.2.2.2.2.2 104 [some (.ref 67), some (.int x1), some (.int G242), some (.int G243), some (.int r1), some (.int r2)] [] (hz F (uA (uA A 92 G244) 92 (km_goesNext_80 f (G242 + 1) (x1 - 1) G244)) L) _
    generalize hG246 : (km_goesNext_80 f (G242 + 1) (x1 - 1) G244) = G246 at hE ⊢
    refine w_n 1 (pc1 := 105) (ls1 := [some (.ref 67), some (.int x1), some (.int G242), some (.int G243), some (.int r1), some (.int r2)]) (st1 := [.int 1]) (hp1 := (hz F (uA (uA A 92 G244) 92 G246) L)) rfl ?_
    subst T
    exact w_ri rfl (cvQ rfl (funext fun q => if k0 : q = 92 then by subst k0; exact Eq.trans (b := G246) rfl rfl else by unfold uA; simp only [nb1 k0, cond_false]) rfl K)
  · have h1 : G242.toInt < 0 := h
    rw [if_pos h1] at hE
    refine w_n 1 (pc1 := 37) (ls1 := [some (.ref 67), some (.int x1), some (.int G242), none, none, none]) (st1 := [.int 0]) (hp1 := (hz F A L)) rfl ?_
    subst T
    exact w_ri rfl (cvQ rfl (funext fun q => if k0 : q = 92 then by subst k0; exact Eq.trans (b := (A 92)) rfl rfl else by unfold uA; simp only [nb1 k0, cond_false]) rfl K)
noncomputable def km_keepsRow_2 (a92 : List Int32)  : Nat → Int32 → List Int32 → List Int32
  | 0, _, a93 => a93
  | m + 1, y1, a93 => (km_keepsRow_2 a92 m (y1 + 1) (a93.set y1.toInt.toNat (a92.getD y1.toInt.toNat 0)))
theorem t_km_keepsRow_2 {f : Nat} {Q : Option Value → sm_H → Prop} : ∀ (m : Nat) {B D : Nat} {F : Nat → Nat → Int32} {A : Nat → List Int32} {L : Nat → List Int64} {y1 : Int32}, m = ((F 67 3).toInt - y1.toInt).toNat → (∀ q1 : Int32, wl_E f B D mm225.2.2.2.2.2.2.2.2 28 [some (.ref 67), some (.int q1)] [] (hz F (uA A 93 (km_keepsRow_2 (A 92) m y1 (A 93))) L) Q) → wl_E f B D mm225.2.2.2.2.2.2.2.2 2 [some (.ref 67), some (.int y1)] [] (hz F A L) Q := by
  intro m
  induction m with
  | zero =>
    intro B D F A L y1 hm K
    generalize hT : (km_keepsRow_2 (A 92) 0 y1 (A 93)) = T at K
    have hE : T = (A 93) := hT.symm
    clear hT
    refine w_n 3 (pc1 := 7) (ls1 := [some (.ref 67), some (.int y1)]) (st1 := [.int (F 67 3), .int y1]) (hp1 := (hz F A L)) rfl ?_
    refine w_ge (p3 := 10) rfl rfl (fun hb => ?_) (fun h => False.elim (by have h : y1.toInt < (F 67 3).toInt := h; omega))
    subst T
    exact cvE rfl (funext fun q => if k0 : q = 93 then by subst k0; exact Eq.trans (b := (A 93)) rfl rfl else by unfold uA; simp only [nb1 k0, cond_false]) rfl (K _)
  | succ m ih =>
    intro B D F A L y1 hm K
    generalize hT : (km_keepsRow_2 (A 92) (m + 1) y1 (A 93)) = T at K
    have hE : T = (km_keepsRow_2 (A 92) m (y1 + 1) ((A 93).set y1.toInt.toNat ((A 92).getD y1.toInt.toNat 0))) := hT.symm
    clear hT
    refine w_n 3 (pc1 := 7) (ls1 := [some (.ref 67), some (.int y1)]) (st1 := [.int (F 67 3), .int y1]) (hp1 := (hz F A L)) rfl ?_
    refine w_ge (p3 := 10) rfl rfl (fun h => False.elim (by have h : (F 67 3).toInt ≤ y1.toInt := h; omega)) (fun hb => ?_)
    refine w_n 6 (pc1 := 20) (ls1 := [some (.ref 67), some (.int y1)]) (st1 := [.int y1, .ref 92, .int y1, .ref 93]) (hp1 := (hz F A L)) rfl ?_
    refine w_al (k := 92) (l := (A 92)) rfl rfl rfl (fun ab => ?_)
    refine w_as (k := 93) (l := (A 93)) (hp1 := (hz F (uA A 93 ((A 93).set y1.toInt.toNat ((A 92).getD y1.toInt.toNat 0))) L)) rfl rfl rfl (hz_s93 _) (fun ab => ?_)
    refine w_n 2 (pc1 := 2) (ls1 := [some (.ref 67), some (.int (y1 + 1))]) (st1 := []) (hp1 := (hz F (uA A 93 ((A 93).set y1.toInt.toNat ((A 92).getD y1.toInt.toNat 0))) L)) rfl ?_
    subst T
    have hb2 := i_up (B := (F 67 3)) hb
    have hb3 : y1.toInt < (F 67 3).toInt := hb
    exact ih (show m = ((F 67 3).toInt - (y1 + 1).toInt).toNat by rw [hb2]; omega) (fun q1 => cvE rfl (funext fun q => if k0 : q = 93 then by subst k0; exact Eq.trans (b := (km_keepsRow_2 (A 92) m (y1 + 1) ((A 93).set y1.toInt.toNat ((A 92).getD y1.toInt.toNat 0)))) rfl rfl else by unfold uA; simp only [nb1 k0, cond_false]) rfl (K q1))
noncomputable def km_keepsRow (f67_3 : Int32) (a92 : List Int32) (a93 : List Int32) : List Int32 := (km_keepsRow_2 a92 f67_3.toInt.toNat 0 a93)
theorem t_km_keepsRow {f D : Nat} {F : Nat → Nat → Int32} {A : Nat → List Int32} {L : Nat → List Int64} {Q : Option Value → sm_H → Prop} (K : Q none (hz F (uA A 93 (km_keepsRow (F 67 3) (A 92) (A 93))) L)) : wl_M f D 225 [.ref 67] (hz F A L) Q := by
  generalize hT : (km_keepsRow (F 67 3) (A 92) (A 93)) = T at K
  have hE : T = (km_keepsRow_2 (A 92) (F 67 3).toInt.toNat 0 (A 93)) := hT.symm
  clear hT
  refine w_m (E := mm225) rfl ?_
  show wl_E f f (D - 1) mm225.2.2.2.2.2.2.2.2 0 [some (.ref 67), none] [] (hz F A L) Q
  refine w_n 2 (pc1 := 2) (ls1 := [some (.ref 67), some (.int 0)]) (st1 := []) (hp1 := (hz F A L)) rfl ?_
  refine t_km_keepsRow_2 (F 67 3).toInt.toNat (show (F 67 3).toInt.toNat = ((F 67 3).toInt - (0 : Int32).toInt).toNat by have e0 : (0 : Int32).toInt = 0 := rfl; first | rfl | omega) ?_
  intro r1
  show wl_E f _ _ mm225.2.2.2.2.2.2.2.2 28 [some (.ref 67), some (.int r1)] [] (hz F (uA A 93 (km_keepsRow_2 (A 92) (F 67 3).toInt.toNat 0 (A 93))) L) _
  generalize hG249 : (km_keepsRow_2 (A 92) (F 67 3).toInt.toNat 0 (A 93)) = G249 at hE ⊢
  subst T
  exact w_r rfl rfl (cvQ rfl rfl rfl K)
noncomputable def km_orders_33 (f : Nat) (f67_3 : Int32) (a68 : List Int32) (x1 : Int32) : Nat → Int32 → Int32 → List Int32 → List Int32 → Int32 × List Int32 × List Int32
  | 0, y3, _, a92, a93 => (y3, a92, a93)
  | m + 1, y3, y4, a92, a93 => (if y4 = 0 then (y3, a92, a93) else (if (km_orders_49 a68 a92 (f67_3.toInt - 1).toNat (a92.getD 0 0) 1) = x1 then (if y3 = 0 then (km_orders_33 f f67_3 a68 x1 m (y3 + 1) (km_goesNext f a92 f67_3).1 (km_goesNext f a92 f67_3).2 (km_keepsRow f67_3 a92 a93)) else (km_orders_33 f f67_3 a68 x1 m (y3 + 1) (km_goesNext f a92 f67_3).1 (km_goesNext f a92 f67_3).2 a93)) else (km_orders_33 f f67_3 a68 x1 m (y3 + 0) (km_goesNext f a92 f67_3).1 (km_goesNext f a92 f67_3).2 a93)))
theorem t_km_orders_33 {f : Nat} {Q : Option Value → sm_H → Prop} : ∀ (m : Nat) (B : Nat) {D : Nat} {F : Nat → Nat → Int32} {A : Nat → List Int32} {L : Nat → List Int64} {x1 : Int32} {x2 : Int32} {y3 : Int32} {y4 : Int32} {o5 : Option Value} {o6 : Option Value}, B ≤ m → (∀ q4 : Int32, ∀ q5 : Option Value, ∀ q6 : Option Value, wl_E f B D mm223.2.2.2.2.2.2.2.2 120 [some (.ref 67), some (.int x1), some (.int x2), some (.int ((km_orders_33 f (F 67 3) (A 68) x1 m y3 y4 (A 92) (A 93)).1)), some (.int q4), q5, q6] [] (hz F (uA (uA A 92 ((km_orders_33 f (F 67 3) (A 68) x1 m y3 y4 (A 92) (A 93)).2.1)) 93 ((km_orders_33 f (F 67 3) (A 68) x1 m y3 y4 (A 92) (A 93)).2.2)) L) Q) → wl_E f B D mm223.2.2.2.2.2.2.2.2 33 [some (.ref 67), some (.int x1), some (.int x2), some (.int y3), some (.int y4), o5, o6] [] (hz F A L) Q := by
  intro m
  induction m with
  | zero =>
    intro B D F A L x1 x2 y3 y4 o5 o6 hm K
    rw [show B = 0 by omega]
    exact w_0
  | succ m ih =>
    intro B D F A L x1 x2 y3 y4 o5 o6 hm K
    cases B with
    | zero => exact w_0
    | succ B =>
      generalize hT : (km_orders_33 f (F 67 3) (A 68) x1 (m + 1) y3 y4 (A 92) (A 93)) = T at K
      have hE : T = (if y4 = 0 then (y3, (A 92), (A 93)) else (if (km_orders_49 (A 68) (A 92) ((F 67 3).toInt - 1).toNat ((A 92).getD 0 0) 1) = x1 then (if y3 = 0 then (km_orders_33 f (F 67 3) (A 68) x1 m (y3 + 1) (km_goesNext f (A 92) (F 67 3)).1 (km_goesNext f (A 92) (F 67 3)).2 (km_keepsRow (F 67 3) (A 92) (A 93))) else (km_orders_33 f (F 67 3) (A 68) x1 m (y3 + 1) (km_goesNext f (A 92) (F 67 3)).1 (km_goesNext f (A 92) (F 67 3)).2 (A 93))) else (km_orders_33 f (F 67 3) (A 68) x1 m (y3 + 0) (km_goesNext f (A 92) (F 67 3)).1 (km_goesNext f (A 92) (F 67 3)).2 (A 93)))) := hT.symm
      clear hT
      refine w_n1 (pc1 := 35) (ls1 := [some (.ref 67), some (.int x1), some (.int x2), some (.int y3), some (.int y4), o5, o6]) (st1 := [.int y4]) (hp1 := (hz F A L)) rfl ?_
      refine w_zeq (p3 := 38) rfl rfl (fun h => ?_) (fun h => ?_)
      · have h1 : y4 = 0 := h
        rw [if_pos h1] at hE
        subst T
        exact cvE rfl (funext fun q => if k0 : q = 92 then by subst k0; exact Eq.trans (b := (A 92)) rfl rfl else if k1 : q = 93 then by subst k1; exact Eq.trans (b := (A 93)) rfl rfl else by unfold uA; simp only [nb1 k0, nb1 k1, cond_false]) rfl (wl_le (Nat.le_succ _) (K _ _ _))
      · have h1 : ¬ y4 = 0 := h
        rw [if_neg h1] at hE
        refine w_n 3 (pc1 := 43) (ls1 := [some (.ref 67), some (.int x1), some (.int x2), some (.int y3), some (.int y4), o5, o6]) (st1 := [.int 0, .ref 92]) (hp1 := (hz F A L)) rfl ?_
        refine w_al (k := 92) (l := (A 92)) rfl rfl rfl (fun _ => ?_)
        refine w_n 3 (pc1 := 49) (ls1 := [some (.ref 67), some (.int x1), some (.int x2), some (.int y3), some (.int y4), some (.int ((A 92).getD 0 0)), some (.int 1)]) (st1 := []) (hp1 := (hz F A L)) rfl ?_
        refine t_km_orders_49 (((F 67 3).toInt - 1).toNat) (show ((F 67 3).toInt - 1).toNat = ((F 67 3).toInt - (1 : Int32).toInt).toNat by have e0 : (1 : Int32).toInt = 1 := rfl; first | rfl | omega) ?_
        intro r1
        show wl_E f _ _ mm223.2.2.2.2.2.2.2.2 79 [some (.ref 67), some (.int x1), some (.int x2), some (.int y3), some (.int y4), some (.int (km_orders_49 (A 68) (A 92) ((F 67 3).toInt - 1).toNat ((A 92).getD 0 0) 1)), some (.int r1)] [] (hz F A L) _
        generalize hG241 : (km_orders_49 (A 68) (A 92) ((F 67 3).toInt - 1).toNat ((A 92).getD 0 0) 1) = G241 at hE ⊢
        refine w_n 2 (pc1 := 82) (ls1 := [some (.ref 67), some (.int x1), some (.int x2), some (.int y3), some (.int y4), some (.int G241), some (.int r1)]) (st1 := [.int x1, .int G241]) (hp1 := (hz F A L)) rfl ?_
        refine w_ne (p3 := 85) rfl rfl (fun h => ?_) (fun h => ?_)
        · have h2 : ¬ G241 = x1 := h
          rw [if_neg h2] at hE
          refine w_n 3 (pc1 := 97) (ls1 := [some (.ref 67), some (.int x1), some (.int x2), some (.int y3), some (.int y4), some (.int G241), some (.int r1)]) (st1 := [.int x1, .int G241, .int y3]) (hp1 := (hz F A L)) rfl ?_
          refine w_ne (p3 := 100) rfl rfl (fun _ => ?_) (fun h => absurd h h2)
          refine w_n 6 (pc1 := 112) (ls1 := [some (.ref 67), some (.int x1), some (.int x2), some (.int (y3 + 0)), some (.int y4), some (.int G241), some (.int r1)]) (st1 := [.int (F 67 3), .ref 67]) (hp1 := (hz F A L)) rfl ?_
          refine w_c rfl rfl (t_km_goesNext ?_)
          show wl_E f _ _ mm223.2.2.2.2.2.2.2.2 115 [some (.ref 67), some (.int x1), some (.int x2), some (.int (y3 + 0)), some (.int y4), some (.int G241), some (.int r1)] [.int (km_goesNext f (A 92) (F 67 3)).1] (hz F (uA A 92 (km_goesNext f (A 92) (F 67 3)).2) L) _
          generalize hG247 : (km_goesNext f (A 92) (F 67 3)) = G247 at hE ⊢
          refine w_n 2 (pc1 := 33) (ls1 := [some (.ref 67), some (.int x1), some (.int x2), some (.int (y3 + 0)), some (.int G247.1), some (.int G241), some (.int r1)]) (st1 := []) (hp1 := (hz F (uA A 92 G247.2) L)) rfl ?_
          subst T
          exact ih _ (by omega) (fun q4 q5 q6 => cvE rfl (funext fun q => if k0 : q = 92 then by subst k0; exact Eq.trans (b := (km_orders_33 f (F 67 3) (A 68) x1 m (y3 + 0) G247.1 G247.2 (A 93)).2.1) rfl rfl else if k1 : q = 93 then by subst k1; exact Eq.trans (b := (km_orders_33 f (F 67 3) (A 68) x1 m (y3 + 0) G247.1 G247.2 (A 93)).2.2) rfl rfl else by unfold uA; simp only [nb1 k0, nb1 k1, cond_false]) rfl (wl_le (Nat.le_succ _) (K q4 q5 q6)))
        · have h2 : G241 = x1 := h
          rw [if_pos h2] at hE
          refine w_n 1 (pc1 := 86) (ls1 := [some (.ref 67), some (.int x1), some (.int x2), some (.int y3), some (.int y4), some (.int G241), some (.int r1)]) (st1 := [.int y3]) (hp1 := (hz F A L)) rfl ?_
          refine w_zne (p3 := 89) rfl rfl (fun h => ?_) (fun h => ?_)
          · have h3 : ¬ y3 = 0 := h
            rw [if_neg h3] at hE
            refine w_n 3 (pc1 := 97) (ls1 := [some (.ref 67), some (.int x1), some (.int x2), some (.int y3), some (.int y4), some (.int G241), some (.int r1)]) (st1 := [.int x1, .int G241, .int y3]) (hp1 := (hz F A L)) rfl ?_
            refine w_ne (p3 := 100) rfl rfl (fun h => absurd h2 h) (fun _ => ?_)
            refine w_n 7 (pc1 := 112) (ls1 := [some (.ref 67), some (.int x1), some (.int x2), some (.int (y3 + 1)), some (.int y4), some (.int G241), some (.int r1)]) (st1 := [.int (F 67 3), .ref 67]) (hp1 := (hz F A L)) rfl ?_
            refine w_c rfl rfl (t_km_goesNext ?_)
            show wl_E f _ _ mm223.2.2.2.2.2.2.2.2 115 [some (.ref 67), some (.int x1), some (.int x2), some (.int (y3 + 1)), some (.int y4), some (.int G241), some (.int r1)] [.int (km_goesNext f (A 92) (F 67 3)).1] (hz F (uA A 92 (km_goesNext f (A 92) (F 67 3)).2) L) _
            generalize hG248 : (km_goesNext f (A 92) (F 67 3)) = G248 at hE ⊢
            refine w_n 2 (pc1 := 33) (ls1 := [some (.ref 67), some (.int x1), some (.int x2), some (.int (y3 + 1)), some (.int G248.1), some (.int G241), some (.int r1)]) (st1 := []) (hp1 := (hz F (uA A 92 G248.2) L)) rfl ?_
            subst T
            exact ih _ (by omega) (fun q4 q5 q6 => cvE rfl (funext fun q => if k0 : q = 92 then by subst k0; exact Eq.trans (b := (km_orders_33 f (F 67 3) (A 68) x1 m (y3 + 1) G248.1 G248.2 (A 93)).2.1) rfl rfl else if k1 : q = 93 then by subst k1; exact Eq.trans (b := (km_orders_33 f (F 67 3) (A 68) x1 m (y3 + 1) G248.1 G248.2 (A 93)).2.2) rfl rfl else by unfold uA; simp only [nb1 k0, nb1 k1, cond_false]) rfl (wl_le (Nat.le_succ _) (K q4 q5 q6)))
          · have h3 : y3 = 0 := h
            rw [if_pos h3] at hE
            refine w_n 1 (pc1 := 90) (ls1 := [some (.ref 67), some (.int x1), some (.int x2), some (.int y3), some (.int y4), some (.int G241), some (.int r1)]) (st1 := [.ref 67]) (hp1 := (hz F A L)) rfl ?_
            refine w_c rfl rfl (t_km_keepsRow ?_)
            show wl_E f _ _ mm223.2.2.2.2.2.2.2.2 93 [some (.ref 67), some (.int x1), some (.int x2), some (.int y3), some (.int y4), some (.int G241), some (.int r1)] [] (hz F (uA A 93 (km_keepsRow (F 67 3) (A 92) (A 93))) L) _
            generalize hG250 : (km_keepsRow (F 67 3) (A 92) (A 93)) = G250 at hE ⊢
            refine w_n 3 (pc1 := 97) (ls1 := [some (.ref 67), some (.int x1), some (.int x2), some (.int y3), some (.int y4), some (.int G241), some (.int r1)]) (st1 := [.int x1, .int G241, .int y3]) (hp1 := (hz F (uA A 93 G250) L)) rfl ?_
            refine w_ne (p3 := 100) rfl rfl (fun h => absurd h2 h) (fun _ => ?_)
            refine w_n 7 (pc1 := 112) (ls1 := [some (.ref 67), some (.int x1), some (.int x2), some (.int (y3 + 1)), some (.int y4), some (.int G241), some (.int r1)]) (st1 := [.int (F 67 3), .ref 67]) (hp1 := (hz F (uA A 93 G250) L)) rfl ?_
            refine w_c rfl rfl (t_km_goesNext ?_)
            show wl_E f _ _ mm223.2.2.2.2.2.2.2.2 115 [some (.ref 67), some (.int x1), some (.int x2), some (.int (y3 + 1)), some (.int y4), some (.int G241), some (.int r1)] [.int (km_goesNext f (A 92) (F 67 3)).1] (hz F (uA (uA A 93 G250) 92 (km_goesNext f (A 92) (F 67 3)).2) L) _
            generalize hG251 : (km_goesNext f (A 92) (F 67 3)) = G251 at hE ⊢
            refine w_n 2 (pc1 := 33) (ls1 := [some (.ref 67), some (.int x1), some (.int x2), some (.int (y3 + 1)), some (.int G251.1), some (.int G241), some (.int r1)]) (st1 := []) (hp1 := (hz F (uA (uA A 93 G250) 92 G251.2) L)) rfl ?_
            subst T
            exact ih _ (by omega) (fun q4 q5 q6 => cvE rfl (funext fun q => if k0 : q = 92 then by subst k0; exact Eq.trans (b := (km_orders_33 f (F 67 3) (A 68) x1 m (y3 + 1) G251.1 G251.2 G250).2.1) rfl rfl else if k1 : q = 93 then by subst k1; exact Eq.trans (b := (km_orders_33 f (F 67 3) (A 68) x1 m (y3 + 1) G251.1 G251.2 G250).2.2) rfl rfl else by unfold uA; simp only [nb1 k0, nb1 k1, cond_false]) rfl (wl_le (Nat.le_succ _) (K q4 q5 q6)))
