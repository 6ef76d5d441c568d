/-! lifts, printed by genlift.py: 9 -/
noncomputable def kv_firstInRow_2 (a38 : List Int32) (x1 : Int32) : Nat → Int32 → Int32
  | 0, _ => (-1)
  | m + 1, y2 => (if ((x1 >>> ((a38.getD y2.toInt.toNat 0) &&& 31)) &&& 1) = 0 then (kv_firstInRow_2 a38 x1 m (y2 + 1)) else (a38.getD y2.toInt.toNat 0))
theorem t_kv_firstInRow_2 {f : Nat} {Q : Option Value → sm_H → Prop} : ∀ (m : Nat) {B D : Nat} {F : Nat → Nat → Int32} {A : Nat → List Int32} {L : Nat → List Int64} {x1 : Int32} {y2 : Int32}, m = ((F 3 0).toInt - y2.toInt).toNat → (Q (some (.int (kv_firstInRow_2 (A 38) x1 m y2))) (hz F A L)) → wl_E f B D mm117.2.2.2.2.2.2.2.2 2 [some (.ref 30), some (.int x1), some (.int y2)] [] (hz F A L) Q := by
  intro m
  induction m with
  | zero =>
    intro B D F A L x1 y2 hm K
    generalize hT : (kv_firstInRow_2 (A 38) x1 0 y2) = T at K
    have hE : T = (-1) := hT.symm
    clear hT
    refine w_n 4 (pc1 := 10) (ls1 := [some (.ref 30), some (.int x1), some (.int y2)]) (st1 := [.int (F 3 0), .int y2]) (hp1 := (hz F A L)) rfl ?_
    refine w_ge (p3 := 13) rfl rfl (fun hb => ?_) (fun h => False.elim (by have h : y2.toInt < (F 3 0).toInt := h; omega))
    refine w_n 1 (pc1 := 40) (ls1 := [some (.ref 30), some (.int x1), some (.int y2)]) (st1 := [.int (-1)]) (hp1 := (hz F A L)) rfl ?_
    subst T
    exact w_ri rfl (cvQ rfl rfl rfl K)
  | succ m ih =>
    intro B D F A L x1 y2 hm K
    generalize hT : (kv_firstInRow_2 (A 38) x1 (m + 1) y2) = T at K
    have hE : T = (if ((x1 >>> (((A 38).getD y2.toInt.toNat 0) &&& 31)) &&& 1) = 0 then (kv_firstInRow_2 (A 38) x1 m (y2 + 1)) else ((A 38).getD y2.toInt.toNat 0)) := hT.symm
    clear hT
    refine w_n 4 (pc1 := 10) (ls1 := [some (.ref 30), some (.int x1), some (.int y2)]) (st1 := [.int (F 3 0), .int y2]) (hp1 := (hz F A L)) rfl ?_
    refine w_ge (p3 := 13) rfl rfl (fun h => False.elim (by have h : (F 3 0).toInt ≤ y2.toInt := h; omega)) (fun hb => ?_)
    refine w_n 4 (pc1 := 19) (ls1 := [some (.ref 30), some (.int x1), some (.int y2)]) (st1 := [.int y2, .ref 38, .int x1]) (hp1 := (hz F A L)) rfl ?_
    refine w_al (k := 38) (l := (A 38)) rfl rfl rfl (fun ab => ?_)
    refine w_n 3 (pc1 := 23) (ls1 := [some (.ref 30), some (.int x1), some (.int y2)]) (st1 := [.int ((x1 >>> (((A 38).getD y2.toInt.toNat 0) &&& 31)) &&& 1)]) (hp1 := (hz F A L)) rfl ?_
    refine w_zeq (p3 := 26) rfl rfl (fun h => ?_) (fun h => ?_)
    · have h1 : ((x1 >>> (((A 38).getD y2.toInt.toNat 0) &&& 31)) &&& 1) = 0 := h
      rw [if_pos h1] at hE
      refine w_n 2 (pc1 := 2) (ls1 := [some (.ref 30), some (.int x1), some (.int (y2 + 1))]) (st1 := []) (hp1 := (hz F A L)) rfl ?_
      subst T
      have hb2 := i_up (B := (F 3 0)) hb
      have hb3 : y2.toInt < (F 3 0).toInt := hb
      exact ih (show m = ((F 3 0).toInt - (y2 + 1).toInt).toNat by rw [hb2]; omega) (cvQ rfl rfl rfl K)
    · have h1 : ¬ ((x1 >>> (((A 38).getD y2.toInt.toNat 0) &&& 31)) &&& 1) = 0 := h
      rw [if_neg h1] at hE
      refine w_n 3 (pc1 := 31) (ls1 := [some (.ref 30), some (.int x1), some (.int y2)]) (st1 := [.int y2, .ref 38]) (hp1 := (hz F A L)) rfl ?_
      refine w_al (k := 38) (l := (A 38)) rfl rfl rfl (fun ab => ?_)
      subst T
      exact w_ri rfl (cvQ rfl rfl rfl K)
noncomputable def kv_firstInRow (f3_0 : Int32) (a38 : List Int32) (x1 : Int32) : Int32 := (kv_firstInRow_2 a38 x1 f3_0.toInt.toNat 0)
theorem t_kv_firstInRow {f D : Nat} {F : Nat → Nat → Int32} {A : Nat → List Int32} {L : Nat → List Int64} {Q : Option Value → sm_H → Prop} {x1 : Int32} (K : Q (some (.int (kv_firstInRow (F 3 0) (A 38) x1))) (hz F A L)) : wl_M f D 117 [.ref 30, .int x1] (hz F A L) Q := by
  generalize hT : (kv_firstInRow (F 3 0) (A 38) x1) = T at K
  have hE : T = (kv_firstInRow_2 (A 38) x1 (F 3 0).toInt.toNat 0) := hT.symm
  clear hT
  refine w_m (E := mm117) rfl ?_
  show wl_E f f (D - 1) mm117.2.2.2.2.2.2.2.2 0 [some (.ref 30), some (.int x1), none] [] (hz F A L) Q
  refine w_n 2 (pc1 := 2) (ls1 := [some (.ref 30), some (.int x1), some (.int 0)]) (st1 := []) (hp1 := (hz F A L)) rfl ?_
  subst T
  exact t_kv_firstInRow_2 _ (show (F 3 0).toInt.toNat = ((F 3 0).toInt - (0 : Int32).toInt).toNat by have e0 : (0 : Int32).toInt = 0 := rfl; first | rfl | omega) (cvQ rfl rfl rfl K)
noncomputable def kv_lastLeft_13 (f3_0 : Int32) (a35 : List Int32) (a38 : List Int32) (x1 : Int32) : Nat → Int32 → Int32 → Int32 → Int32
  | 0, _, y3, _ => y3
  | m + 1, y2, _, y4 => (kv_lastLeft_13 f3_0 a35 a38 x1 m (y2 &&& (((1 : Int32) <<< ((kv_goesOut f3_0 a35 y2 (kv_firstInRow f3_0 a38 y2) x1) &&& 31)) ^^^ (-1))) (kv_goesOut f3_0 a35 y2 (kv_firstInRow f3_0 a38 y2) x1) (y4 + 1))
theorem t_kv_lastLeft_13 {f : Nat} {Q : Option Value → sm_H → Prop} : ∀ (m : Nat) {B D : Nat} {F : Nat → Nat → Int32} {A : Nat → List Int32} {L : Nat → List Int64} {x1 : Int32} {y2 : Int32} {y3 : Int32} {y4 : Int32}, m = ((F 3 0).toInt - y4.toInt).toNat → (∀ q2 : Int32, ∀ q4 : Int32, wl_E f B D mm116.2.2.2.2.2.2.2.2 51 [some (.ref 30), some (.int x1), some (.int q2), some (.int (kv_lastLeft_13 (F 3 0) (A 35) (A 38) x1 m y2 y3 y4)), some (.int q4)] [] (hz F A L) Q) → wl_E f B D mm116.2.2.2.2.2.2.2.2 13 [some (.ref 30), some (.int x1), some (.int y2), some (.int y3), some (.int y4)] [] (hz F A L) Q := by
  intro m
  induction m with
  | zero =>
    intro B D F A L x1 y2 y3 y4 hm K
    generalize hT : (kv_lastLeft_13 (F 3 0) (A 35) (A 38) x1 0 y2 y3 y4) = T at K
    have hE : T = y3 := hT.symm
    clear hT
    refine w_n 4 (pc1 := 22) (ls1 := [some (.ref 30), some (.int x1), some (.int y2), some (.int y3), some (.int y4)]) (st1 := [.int (F 3 0), .int y4]) (hp1 := (hz F A L)) rfl ?_
    refine w_ge (p3 := 25) rfl rfl (fun hb => ?_) (fun h => False.elim (by have h : y4.toInt < (F 3 0).toInt := h; omega))
    subst T
    exact cvE rfl rfl rfl (K _ _)
  | succ m ih =>
    intro B D F A L x1 y2 y3 y4 hm K
    generalize hT : (kv_lastLeft_13 (F 3 0) (A 35) (A 38) x1 (m + 1) y2 y3 y4) = T at K
    have hE : T = (kv_lastLeft_13 (F 3 0) (A 35) (A 38) x1 m (y2 &&& (((1 : Int32) <<< ((kv_goesOut (F 3 0) (A 35) y2 (kv_firstInRow (F 3 0) (A 38) y2) x1) &&& 31)) ^^^ (-1))) (kv_goesOut (F 3 0) (A 35) y2 (kv_firstInRow (F 3 0) (A 38) y2) x1) (y4 + 1)) := hT.symm
    clear hT
    refine w_n 4 (pc1 := 22) (ls1 := [some (.ref 30), some (.int x1), some (.int y2), some (.int y3), some (.int y4)]) (st1 := [.int (F 3 0), .int y4]) (hp1 := (hz F A L)) rfl ?_
    refine w_ge (p3 := 25) rfl rfl (fun h => False.elim (by have h : (F 3 0).toInt ≤ y4.toInt := h; omega)) (fun hb => ?_)
    refine w_n 4 (pc1 := 29) (ls1 := [some (.ref 30), some (.int x1), some (.int y2), some (.int y3), some (.int y4)]) (st1 := [.int y2, .ref 30, .int y2, .ref 30]) (hp1 := (hz F A L)) rfl ?_
    refine w_c rfl rfl (t_kv_firstInRow ?_)
    show wl_E f _ _ mm116.2.2.2.2.2.2.2.2 32 [some (.ref 30), some (.int x1), some (.int y2), some (.int y3), some (.int y4)] [.int (kv_firstInRow (F 3 0) (A 38) y2), .int y2, .ref 30] (hz F A L) _
    generalize hG288 : (kv_firstInRow (F 3 0) (A 38) y2) = G288 at hE ⊢
    refine w_n 1 (pc1 := 33) (ls1 := [some (.ref 30), some (.int x1), some (.int y2), some (.int y3), some (.int y4)]) (st1 := [.int x1, .int G288, .int y2, .ref 30]) (hp1 := (hz F A L)) rfl ?_
    refine w_c rfl rfl (t_kv_goesOut ?_)
    show wl_E f _ _ mm116.2.2.2.2.2.2.2.2 36 [some (.ref 30), some (.int x1), some (.int y2), some (.int y3), some (.int y4)] [.int (kv_goesOut (F 3 0) (A 35) y2 G288 x1)] (hz F A L) _
    generalize hG289 : (kv_goesOut (F 3 0) (A 35) y2 G288 x1) = G289 at hE ⊢
    refine w_n 11 (pc1 := 13) (ls1 := [some (.ref 30), some (.int x1), some (.int (y2 &&& (((1 : Int32) <<< (G289 &&& 31)) ^^^ (-1)))), some (.int G289), some (.int (y4 + 1))]) (st1 := []) (hp1 := (hz F A L)) rfl ?_
    subst T
    have hb2 := i_up (B := (F 3 0)) hb
    have hb3 : y4.toInt < (F 3 0).toInt := hb
    exact ih (show m = ((F 3 0).toInt - (y4 + 1).toInt).toNat by rw [hb2]; omega) (fun q2 q4 => cvE rfl rfl rfl (K q2 q4))
noncomputable def kv_lastLeft (f3_0 : Int32) (a35 : List Int32) (a38 : List Int32) (x1 : Int32) : Int32 := (kv_lastLeft_13 f3_0 a35 a38 x1 f3_0.toInt.toNat (kt_allMeasures f3_0) 0 0)
theorem t_kv_lastLeft {f D : Nat} {F : Nat → Nat → Int32} {A : Nat → List Int32} {L : Nat → List Int64} {Q : Option Value → sm_H → Prop} {x1 : Int32} (K : Q (some (.int (kv_lastLeft (F 3 0) (A 35) (A 38) x1))) (hz F A L)) : wl_M f D 116 [.ref 30, .int x1] (hz F A L) Q := by
  generalize hT : (kv_lastLeft (F 3 0) (A 35) (A 38) x1) = T at K
  have hE : T = (kv_lastLeft_13 (F 3 0) (A 35) (A 38) x1 (F 3 0).toInt.toNat (kt_allMeasures (F 3 0)) 0 0) := hT.symm
  clear hT
  refine w_m (E := mm116) rfl ?_
  show wl_E f f (D - 1) mm116.2.2.2.2.2.2.2.2 0 [some (.ref 30), some (.int x1), none, none, none] [] (hz F A L) Q
  refine w_n 2 (pc1 := 4) (ls1 := [some (.ref 30), some (.int x1), none, none, none]) (st1 := [.ref 3]) (hp1 := (hz F A L)) rfl ?_
  refine w_c rfl rfl (t_kt_allMeasures ?_)
  show wl_E f _ _ mm116.2.2.2.2.2.2.2.2 7 [some (.ref 30), some (.int x1), none, none, none] [.int (kt_allMeasures (F 3 0))] (hz F A L) _
  generalize hG287 : (kt_allMeasures (F 3 0)) = G287 at hE ⊢
  refine w_n 5 (pc1 := 13) (ls1 := [some (.ref 30), some (.int x1), some (.int G287), some (.int 0), some (.int 0)]) (st1 := []) (hp1 := (hz F A L)) rfl ?_
  refine t_kv_lastLeft_13 (F 3 0).toInt.toNat (show (F 3 0).toInt.toNat = ((F 3 0).toInt - (0 : Int32).toInt).toNat by have e0 : (0 : Int32).toInt = 0 := rfl; first | rfl | omega) ?_
  intro r1 r2
  show wl_E f _ _ mm116.2.2.2.2.2.2.2.2 51 [some (.ref 30), some (.int x1), some (.int r1), some (.int (kv_lastLeft_13 (F 3 0) (A 35) (A 38) x1 (F 3 0).toInt.toNat G287 0 0)), some (.int r2)] [] (hz F A L) _
  generalize hG290 : (kv_lastLeft_13 (F 3 0) (A 35) (A 38) x1 (F 3 0).toInt.toNat G287 0 0) = G290 at hE ⊢
  refine w_n 1 (pc1 := 52) (ls1 := [some (.ref 30), some (.int x1), some (.int r1), some (.int G290), some (.int r2)]) (st1 := [.int G290]) (hp1 := (hz F A L)) rfl ?_
  subst T
  exact w_ri rfl (cvQ rfl rfl rfl K)
noncomputable def kv_nextRow_14 (a38 : List Int32)  : Nat → Int32 → Int32
  | 0, y2 => y2
  | m + 1, y2 => (if (a38.getD (y2 + 1).toInt.toNat 0).toInt < (a38.getD y2.toInt.toNat 0).toInt then (kv_nextRow_14 a38 m (y2 + (-1))) else y2)
theorem t_kv_nextRow_14 {f : Nat} {Q : Option Value → sm_H → Prop} : ∀ (m : Nat) {B D : Nat} {F : Nat → Nat → Int32} {A : Nat → List Int32} {L : Nat → List Int64} {x1 : Int32} {y2 : Int32} {o3 : Option Value} {o4 : Option Value} {o5 : Option Value}, m = (y2.toInt + 1 - 0).toNat → (wl_E f B D mm118.2.2.2.2.2.2.2.2 41 [some (.ref 30), some (.int x1), some (.int (kv_nextRow_14 (A 38) m y2)), o3, o4, o5] [] (hz F A L) Q) → wl_E f B D mm118.2.2.2.2.2.2.2.2 14 [some (.ref 30), some (.int x1), some (.int y2), o3, o4, o5] [] (hz F A L) Q := by
  intro m
  induction m with
  | zero =>
    intro B D F A L x1 y2 o3 o4 o5 hm K
    generalize hT : (kv_nextRow_14 (A 38) 0 y2) = T at K
    have hE : T = y2 := hT.symm
    clear hT
    refine w_n 1 (pc1 := 15) (ls1 := [some (.ref 30), some (.int x1), some (.int y2), o3, o4, o5]) (st1 := [.int y2]) (hp1 := (hz F A L)) rfl ?_
    refine w_zlt (p3 := 18) rfl rfl (fun hb => ?_) (fun h => False.elim (by have h : 0 ≤ y2.toInt := h; omega))
    subst T
    exact cvE rfl rfl rfl (K)
  | succ m ih =>
    intro B D F A L x1 y2 o3 o4 o5 hm K
    generalize hT : (kv_nextRow_14 (A 38) (m + 1) y2) = T at K
    have hE : T = (if ((A 38).getD (y2 + 1).toInt.toNat 0).toInt < ((A 38).getD y2.toInt.toNat 0).toInt then (kv_nextRow_14 (A 38) m (y2 + (-1))) else y2) := hT.symm
    clear hT
    refine w_n 1 (pc1 := 15) (ls1 := [some (.ref 30), some (.int x1), some (.int y2), o3, o4, o5]) (st1 := [.int y2]) (hp1 := (hz F A L)) rfl ?_
    refine w_zlt (p3 := 18) rfl rfl (fun h => False.elim (by have h : y2.toInt < 0 := h; omega)) (fun hb => ?_)
    refine w_n 3 (pc1 := 23) (ls1 := [some (.ref 30), some (.int x1), some (.int y2), o3, o4, o5]) (st1 := [.int y2, .ref 38]) (hp1 := (hz F A L)) rfl ?_
    refine w_al (k := 38) (l := (A 38)) rfl rfl rfl (fun ab => ?_)
    refine w_n 5 (pc1 := 31) (ls1 := [some (.ref 30), some (.int x1), some (.int y2), o3, o4, o5]) (st1 := [.int (y2 + 1), .ref 38, .int ((A 38).getD y2.toInt.toNat 0)]) (hp1 := (hz F A L)) rfl ?_
    refine w_al (k := 38) (l := (A 38)) rfl rfl rfl (fun _ => ?_)
    refine w_le (p3 := 35) rfl rfl (fun h => ?_) (fun h => ?_)
    · have h1 : ((A 38).getD y2.toInt.toNat 0).toInt ≤ ((A 38).getD (y2 + 1).toInt.toNat 0).toInt := h
      rw [if_neg (Int.not_lt.mpr h1)] at hE
      subst T
      exact cvE rfl rfl rfl (K)
    · have h1 : ((A 38).getD (y2 + 1).toInt.toNat 0).toInt < ((A 38).getD y2.toInt.toNat 0).toInt := h
      rw [if_pos h1] at hE
      refine w_n 2 (pc1 := 14) (ls1 := [some (.ref 30), some (.int x1), some (.int (y2 + (-1))), o3, o4, o5]) (st1 := []) (hp1 := (hz F A L)) rfl ?_
      subst T
      have hb2 := i_dn32 (B := (0 : Int32)) hb (by first | decide | exact hB | assumption)
      have hb3 : 0 ≤ y2.toInt := hb
      exact ih (show m = ((y2 + (-1)).toInt + 1 - 0).toNat by rw [hb2]; omega) (cvE rfl rfl rfl (K))
noncomputable def kv_nextRow_49 (a38 : List Int32) (x2 : Int32) : Nat → Int32 → Int32
  | 0, y3 => y3
  | m + 1, y3 => (if (a38.getD y3.toInt.toNat 0).toInt < (a38.getD x2.toInt.toNat 0).toInt then (kv_nextRow_49 a38 x2 m (y3 + (-1))) else y3)
theorem t_kv_nextRow_49 {f : Nat} {Q : Option Value → sm_H → Prop} : ∀ (m : Nat) {B D : Nat} {F : Nat → Nat → Int32} {A : Nat → List Int32} {L : Nat → List Int64} {x1 : Int32} {x2 : Int32} {y3 : Int32} {o4 : Option Value} {o5 : Option Value}, m = (y3.toInt - x2.toInt).toNat → (wl_E f B D mm118.2.2.2.2.2.2.2.2 75 [some (.ref 30), some (.int x1), some (.int x2), some (.int (kv_nextRow_49 (A 38) x2 m y3)), o4, o5] [] (hz F A L) Q) → wl_E f B D mm118.2.2.2.2.2.2.2.2 49 [some (.ref 30), some (.int x1), some (.int x2), some (.int y3), o4, o5] [] (hz F A L) Q := by
  intro m
  induction m with
  | zero =>
    intro B D F A L x1 x2 y3 o4 o5 hm K
    generalize hT : (kv_nextRow_49 (A 38) x2 0 y3) = T at K
    have hE : T = y3 := hT.symm
    clear hT
    refine w_n 2 (pc1 := 51) (ls1 := [some (.ref 30), some (.int x1), some (.int x2), some (.int y3), o4, o5]) (st1 := [.int x2, .int y3]) (hp1 := (hz F A L)) rfl ?_
    refine w_le (p3 := 54) rfl rfl (fun hb => ?_) (fun h => False.elim (by have h : x2.toInt < y3.toInt := h; omega))
    subst T
    exact cvE rfl rfl rfl (K)
  | succ m ih =>
    intro B D F A L x1 x2 y3 o4 o5 hm K
    generalize hT : (kv_nextRow_49 (A 38) x2 (m + 1) y3) = T at K
    have hE : T = (if ((A 38).getD y3.toInt.toNat 0).toInt < ((A 38).getD x2.toInt.toNat 0).toInt then (kv_nextRow_49 (A 38) x2 m (y3 + (-1))) else y3) := hT.symm
    clear hT
    refine w_n 2 (pc1 := 51) (ls1 := [some (.ref 30), some (.int x1), some (.int x2), some (.int y3), o4, o5]) (st1 := [.int x2, .int y3]) (hp1 := (hz F A L)) rfl ?_
    refine w_le (p3 := 54) rfl rfl (fun h => False.elim (by have h : y3.toInt ≤ x2.toInt := h; omega)) (fun hb => ?_)
    refine w_n 3 (pc1 := 59) (ls1 := [some (.ref 30), some (.int x1), some (.int x2), some (.int y3), o4, o5]) (st1 := [.int y3, .ref 38]) (hp1 := (hz F A L)) rfl ?_
    refine w_al (k := 38) (l := (A 38)) rfl rfl rfl (fun ab => ?_)
    refine w_n 3 (pc1 := 65) (ls1 := [some (.ref 30), some (.int x1), some (.int x2), some (.int y3), o4, o5]) (st1 := [.int x2, .ref 38, .int ((A 38).getD y3.toInt.toNat 0)]) (hp1 := (hz F A L)) rfl ?_
    refine w_al (k := 38) (l := (A 38)) rfl rfl rfl (fun _ => ?_)
    refine w_ge (p3 := 69) rfl rfl (fun h => ?_) (fun h => ?_)
    · have h1 : ((A 38).getD x2.toInt.toNat 0).toInt ≤ ((A 38).getD y3.toInt.toNat 0).toInt := h
      rw [if_neg (Int.not_lt.mpr h1)] at hE
      subst T
      exact cvE rfl rfl rfl (K)
    · have h1 : ((A 38).getD y3.toInt.toNat 0).toInt < ((A 38).getD x2.toInt.toNat 0).toInt := h
      rw [if_pos h1] at hE
      refine w_n 2 (pc1 := 49) (ls1 := [some (.ref 30), some (.int x1), some (.int x2), some (.int (y3 + (-1))), o4, o5]) (st1 := []) (hp1 := (hz F A L)) rfl ?_
      subst T
      have hb2 := i_dn2 (B := x2) hb
      have hb3 : x2.toInt < y3.toInt := hb
      exact ih (show m = ((y3 + (-1)).toInt - x2.toInt).toNat by rw [hb2]; omega) (cvE rfl rfl rfl (K))
noncomputable def kv_swapInRow (a38 : List Int32) (x1 : Int32) (x2 : Int32) : List Int32 := ((a38.set x1.toInt.toNat (a38.getD x2.toInt.toNat 0)).set x2.toInt.toNat (a38.getD x1.toInt.toNat 0))
theorem t_kv_swapInRow {f D : Nat} {F : Nat → Nat → Int32} {A : Nat → List Int32} {L : Nat → List Int64} {Q : Option Value → sm_H → Prop} {x1 : Int32} {x2 : Int32} (K : Q none (hz F (uA A 38 (kv_swapInRow (A 38) x1 x2)) L)) : wl_M f D 119 [.ref 30, .int x1, .int x2] (hz F A L) Q := by
  generalize hT : (kv_swapInRow (A 38) x1 x2) = T at K
  have hE : T = (((A 38).set x1.toInt.toNat ((A 38).getD x2.toInt.toNat 0)).set x2.toInt.toNat ((A 38).getD x1.toInt.toNat 0)) := hT.symm
  clear hT
  refine w_m (E := mm119) rfl ?_
  show wl_E f f (D - 1) mm119.2.2.2.2.2.2.2.2 0 [some (.ref 30), some (.int x1), some (.int x2), none] [] (hz F A L) Q
  refine w_n 3 (pc1 := 5) (ls1 := [some (.ref 30), some (.int x1), some (.int x2), none]) (st1 := [.int x1, .ref 38]) (hp1 := (hz F A L)) rfl ?_
  refine w_al (k := 38) (l := (A 38)) rfl rfl rfl (fun _ => ?_)
  refine w_n 7 (pc1 := 17) (ls1 := [some (.ref 30), some (.int x1), some (.int x2), some (.int ((A 38).getD x1.toInt.toNat 0))]) (st1 := [.int x2, .ref 38, .int x1, .ref 38]) (hp1 := (hz F A L)) rfl ?_
  refine w_al (k := 38) (l := (A 38)) rfl rfl rfl (fun _ => ?_)
  refine w_as (k := 38) (l := (A 38)) (hp1 := (hz F (uA A 38 ((A 38).set x1.toInt.toNat ((A 38).getD x2.toInt.toNat 0))) L)) rfl rfl rfl (hz_s38 _) (fun _ => ?_)
  refine w_n 4 (pc1 := 25) (ls1 := [some (.ref 30), some (.int x1), some (.int x2), some (.int ((A 38).getD x1.toInt.toNat 0))]) (st1 := [.int ((A 38).getD x1.toInt.toNat 0), .int x2, .ref 38]) (hp1 := (hz F (uA A 38 ((A 38).set x1.toInt.toNat ((A 38).getD x2.toInt.toNat 0))) L)) rfl ?_
  refine w_as (k := 38) (l := ((A 38).set x1.toInt.toNat ((A 38).getD x2.toInt.toNat 0))) (hp1 := (hz F (uA (uA A 38 ((A 38).set x1.toInt.toNat ((A 38).getD x2.toInt.toNat 0))) 38 (((A 38).set x1.toInt.toNat ((A 38).getD x2.toInt.toNat 0)).set x2.toInt.toNat ((A 38).getD x1.toInt.toNat 0))) L)) rfl rfl rfl (hz_s38 _) (fun _ => ?_)
  subst T
  exact w_r rfl rfl (cvQ rfl (funext fun q => if k0 : q = 38 then by subst k0; exact Eq.trans (b := (((A 38).set x1.toInt.toNat ((A 38).getD x2.toInt.toNat 0)).set x2.toInt.toNat ((A 38).getD x1.toInt.toNat 0))) rfl rfl else by unfold uA; simp only [nb1 k0, cond_false]) rfl K)
noncomputable def kv_nextRow_89   : Nat → Int32 → Int32 → List Int32 → List Int32
  | 0, _, _, a38 => a38
  | m + 1, y4, y5, a38 => (if y4.toInt < y5.toInt then (kv_nextRow_89 m (y4 + 1) (y5 + (-1)) (kv_swapInRow a38 y4 y5)) else a38)
theorem t_kv_nextRow_89 {f : Nat} {Q : Option Value → sm_H → Prop} : ∀ (m : Nat) (B : Nat) {D : Nat} {F : Nat → Nat → Int32} {A : Nat → List Int32} {L : Nat → List Int64} {x1 : Int32} {x2 : Int32} {x3 : Int32} {y4 : Int32} {y5 : Int32}, B ≤ m → (∀ q4 : Int32, ∀ q5 : Int32, wl_E f B D mm118.2.2.2.2.2.2.2.2 113 [some (.ref 30), some (.int x1), some (.int x2), some (.int x3), some (.int q4), some (.int q5)] [] (hz F (uA A 38 (kv_nextRow_89 m y4 y5 (A 38))) L) Q) → wl_E f B D mm118.2.2.2.2.2.2.2.2 89 [some (.ref 30), some (.int x1), some (.int x2), some (.int x3), some (.int y4), some (.int y5)] [] (hz F A L) Q := by
  intro m
  induction m with
  | zero =>
    intro B D F A L x1 x2 x3 y4 y5 hm K
    rw [show B = 0 by omega]
    exact w_0
  | succ m ih =>
    intro B D F A L x1 x2 x3 y4 y5 hm K
    cases B with
    | zero => exact w_0
    | succ B =>
      generalize hT : (kv_nextRow_89 (m + 1) y4 y5 (A 38)) = T at K
      have hE : T = (if y4.toInt < y5.toInt then (kv_nextRow_89 m (y4 + 1) (y5 + (-1)) (kv_swapInRow (A 38) y4 y5)) else (A 38)) := hT.symm
      clear hT
      refine w_n1 (pc1 := 91) (ls1 := [some (.ref 30), some (.int x1), some (.int x2), some (.int x3), some (.int y4), some (.int y5)]) (st1 := [.int y4]) (hp1 := (hz F A L)) rfl ?_
      refine w_n 1 (pc1 := 93) (ls1 := [some (.ref 30), some (.int x1), some (.int x2), some (.int x3), some (.int y4), some (.int y5)]) (st1 := [.int y5, .int y4]) (hp1 := (hz F A L)) rfl ?_
      refine w_ge (p3 := 96) rfl rfl (fun h => ?_) (fun h => ?_)
      · have h1 : y5.toInt ≤ y4.toInt := h
        rw [if_neg (Int.not_lt.mpr h1)] at hE
        subst T
        exact cvE rfl (funext fun q => if k0 : q = 38 then by subst k0; exact Eq.trans (b := (A 38)) rfl rfl else by unfold uA; simp only [nb1 k0, cond_false]) rfl (wl_le (Nat.le_succ _) (K _ _))
      · have h1 : y4.toInt < y5.toInt := h
        rw [if_pos h1] at hE
        refine w_n 3 (pc1 := 101) (ls1 := [some (.ref 30), some (.int x1), some (.int x2), some (.int x3), some (.int y4), some (.int y5)]) (st1 := [.int y5, .int y4, .ref 30]) (hp1 := (hz F A L)) rfl ?_
        refine w_c rfl rfl (t_kv_swapInRow ?_)
        show wl_E f _ _ mm118.2.2.2.2.2.2.2.2 104 [some (.ref 30), some (.int x1), some (.int x2), some (.int x3), some (.int y4), some (.int y5)] [] (hz F (uA A 38 (kv_swapInRow (A 38) y4 y5)) L) _
        generalize hG295 : (kv_swapInRow (A 38) y4 y5) = G295 at hE ⊢
        refine w_n 3 (pc1 := 89) (ls1 := [some (.ref 30), some (.int x1), some (.int x2), some (.int x3), some (.int (y4 + 1)), some (.int (y5 + (-1)))]) (st1 := []) (hp1 := (hz F (uA A 38 G295) L)) rfl ?_
        subst T
        exact ih _ (by omega) (fun q4 q5 => cvE rfl (funext fun q => if k0 : q = 38 then by subst k0; exact Eq.trans (b := (kv_nextRow_89 m (y4 + 1) (y5 + (-1)) G295)) rfl rfl else by unfold uA; simp only [nb1 k0, cond_false]) rfl (wl_le (Nat.le_succ _) (K q4 q5)))
noncomputable def kv_nextRow (f : Nat) (f3_0 : Int32) (a38 : List Int32) : Int32 × List Int32 := (if (kv_nextRow_14 a38 (((f3_0 - 1) - 1).toInt + 1).toNat ((f3_0 - 1) - 1)).toInt < 0 then (0, a38) else (1, (kv_nextRow_89 f ((kv_nextRow_14 a38 (((f3_0 - 1) - 1).toInt + 1).toNat ((f3_0 - 1) - 1)) + 1) (f3_0 - 1) (kv_swapInRow a38 (kv_nextRow_14 a38 (((f3_0 - 1) - 1).toInt + 1).toNat ((f3_0 - 1) - 1)) (kv_nextRow_49 a38 (kv_nextRow_14 a38 (((f3_0 - 1) - 1).toInt + 1).toNat ((f3_0 - 1) - 1)) ((f3_0 - 1).toInt - (kv_nextRow_14 a38 (((f3_0 - 1) - 1).toInt + 1).toNat ((f3_0 - 1) - 1)).toInt).toNat (f3_0 - 1))))))
theorem t_kv_nextRow {f D : Nat} {F : Nat → Nat → Int32} {A : Nat → List Int32} {L : Nat → List Int64} {Q : Option Value → sm_H → Prop} (K : Q (some (.int ((kv_nextRow f (F 3 0) (A 38)).1))) (hz F (uA A 38 ((kv_nextRow f (F 3 0) (A 38)).2)) L)) : wl_M f D 118 [.ref 30] (hz F A L) Q := by
  generalize hT : (kv_nextRow f (F 3 0) (A 38)) = T at K
  have hE : T = (if (kv_nextRow_14 (A 38) ((((F 3 0) - 1) - 1).toInt + 1).toNat (((F 3 0) - 1) - 1)).toInt < 0 then (0, (A 38)) else (1, (kv_nextRow_89 f ((kv_nextRow_14 (A 38) ((((F 3 0) - 1) - 1).toInt + 1).toNat (((F 3 0) - 1) - 1)) + 1) ((F 3 0) - 1) (kv_swapInRow (A 38) (kv_nextRow_14 (A 38) ((((F 3 0) - 1) - 1).toInt + 1).toNat (((F 3 0) - 1) - 1)) (kv_nextRow_49 (A 38) (kv_nextRow_14 (A 38) ((((F 3 0) - 1) - 1).toInt + 1).toNat (((F 3 0) - 1) - 1)) (((F 3 0) - 1).toInt - (kv_nextRow_14 (A 38) ((((F 3 0) - 1) - 1).toInt + 1).toNat (((F 3 0) - 1) - 1)).toInt).toNat ((F 3 0) - 1)))))) := hT.symm
  clear hT
  refine w_m (E := mm118) rfl ?_
  show wl_E f f (D - 1) mm118.2.2.2.2.2.2.2.2 0 [some (.ref 30), none, none, none, none, none] [] (hz F A L) Q
  refine w_n 10 (pc1 := 14) (ls1 := [some (.ref 30), some (.int ((F 3 0) - 1)), some (.int (((F 3 0) - 1) - 1)), none, none, none]) (st1 := []) (hp1 := (hz F A L)) rfl ?_
  refine t_kv_nextRow_14 (((((F 3 0) - 1) - 1).toInt + 1).toNat) (show ((((F 3 0) - 1) - 1).toInt + 1).toNat = ((((F 3 0) - 1) - 1).toInt + 1 - 0).toNat by first | rfl | omega) ?_
  show wl_E f _ _ mm118.2.2.2.2.2.2.2.2 41 [some (.ref 30), some (.int ((F 3 0) - 1)), some (.int (kv_nextRow_14 (A 38) ((((F 3 0) - 1) - 1).toInt + 1).toNat (((F 3 0) - 1) - 1))), none, none, none] [] (hz F A L) _
  generalize hG292 : (kv_nextRow_14 (A 38) ((((F 3 0) - 1) - 1).toInt + 1).toNat (((F 3 0) - 1) - 1)) = G292 at hE ⊢
  refine w_n 1 (pc1 := 42) (ls1 := [some (.ref 30), some (.int ((F 3 0) - 1)), some (.int G292), none, none, none]) (st1 := [.int G292]) (hp1 := (hz F A L)) rfl ?_
  refine w_zge (p3 := 45) rfl rfl (fun h => ?_) (fun h => ?_)
  · have h1 : 0 ≤ G292.toInt := h
    rw [if_neg (Int.not_lt.mpr h1)] at hE
    refine w_n 2 (pc1 := 49) (ls1 := [some (.ref 30), some (.int ((F 3 0) - 1)), some (.int G292), some (.int ((F 3 0) - 1)), none, none]) (st1 := []) (hp1 := (hz F A L)) rfl ?_
    refine t_kv_nextRow_49 ((((F 3 0) - 1).toInt - G292.toInt).toNat) (show (((F 3 0) - 1).toInt - G292.toInt).toNat = (((F 3 0) - 1).toInt - G292.toInt).toNat by first | rfl | omega) ?_
    show wl_E f _ _ mm118.2.2.2.2.2.2.2.2 75 [some (.ref 30), some (.int ((F 3 0) - 1)), some (.int G292), some (.int (kv_nextRow_49 (A 38) G292 (((F 3 0) - 1).toInt - G292.toInt).toNat ((F 3 0) - 1))), none, none] [] (hz F A L) _
    generalize hG293 : (kv_nextRow_49 (A 38) G292 (((F 3 0) - 1).toInt - G292.toInt).toNat ((F 3 0) - 1)) = G293 at hE ⊢
    refine w_n 3 (pc1 := 78) (ls1 := [some (.ref 30), some (.int ((F 3 0) - 1)), some (.int G292), some (.int G293), none, none]) (st1 := [.int G293, .int G292, .ref 30]) (hp1 := (hz F A L)) rfl ?_
    refine w_c rfl rfl (t_kv_swapInRow ?_)
    show wl_E f _ _ mm118.2.2.2.2.2.2.2.2 81 [some (.ref 30), some (.int ((F 3 0) - 1)), some (.int G292), some (.int G293), none, none] [] (hz F (uA A 38 (kv_swapInRow (A 38) G292 G293)) L) _
    generalize hG294 : (kv_swapInRow (A 38) G292 G293) = G294 at hE ⊢
    refine w_n 6 (pc1 := 89) (ls1 := [some (.ref 30), some (.int ((F 3 0) - 1)), some (.int G292), some (.int G293), some (.int (G292 + 1)), some (.int ((F 3 0) - 1))]) (st1 := []) (hp1 := (hz F (uA A 38 G294) L)) rfl ?_
    refine t_kv_nextRow_89 f _ (Nat.le_refl _) ?_
    intro r1 r2
    show wl_E f _ _ mm118.2.2.2.2.2.2.2.2 113 [some (.ref 30), some (.int ((F 3 0) - 1)), some (.int G292), some (.int G293), some (.int r1), some (.int r2)] [] (hz F (uA (uA A 38 G294) 38 (kv_nextRow_89 f (G292 + 1) ((F 3 0) - 1) G294)) L) _
    generalize hG296 : (kv_nextRow_89 f (G292 + 1) ((F 3 0) - 1) G294) = G296 at hE ⊢
    refine w_n 1 (pc1 := 114) (ls1 := [some (.ref 30), some (.int ((F 3 0) - 1)), some (.int G292), some (.int G293), some (.int r1), some (.int r2)]) (st1 := [.int 1]) (hp1 := (hz F (uA (uA A 38 G294) 38 G296) L)) rfl ?_
    subst T
    exact w_ri rfl (cvQ rfl (funext fun q => if k0 : q = 38 then by subst k0; exact Eq.trans (b := G296) rfl rfl else by unfold uA; simp only [nb1 k0, cond_false]) rfl K)
  · have h1 : G292.toInt < 0 := h
    rw [if_pos h1] at hE
    refine w_n 1 (pc1 := 46) (ls1 := [some (.ref 30), some (.int ((F 3 0) - 1)), some (.int G292), none, none, none]) (st1 := [.int 0]) (hp1 := (hz F A L)) rfl ?_
    subst T
    exact w_ri rfl (cvQ rfl (funext fun q => if k0 : q = 38 then by subst k0; exact Eq.trans (b := (A 38)) rfl rfl else by unfold uA; simp only [nb1 k0, cond_false]) rfl K)
noncomputable def kv_countLies_78 (f : Nat) (f3_0 : Int32) (a6 : List Int32) (a35 : List Int32) (x1 : Int32) (x2 : Int32) : Nat → Int32 → Int32 → List Int32 → List Int32 → Int32 × List Int32 × List Int32
  | 0, y3, _, a38, a39 => (y3, a38, a39)
  | m + 1, y3, y4, a38, a39 => (if ((x2 >>> ((kv_lastLeft f3_0 a35 a38 (a6.getD x1.toInt.toNat 0)) &&& 31)) &&& 1) = 0 then (if (kv_nextRow f f3_0 a38).1 = 0 then (y3, (kv_nextRow f f3_0 a38).2, a39) else (kv_countLies_78 f f3_0 a6 a35 x1 x2 m y3 (y4 + 1) (kv_nextRow f f3_0 a38).2 a39)) else (if y3 = 0 then (if (kv_nextRow f f3_0 a38).1 = 0 then ((y3 + 1), (kv_nextRow f f3_0 a38).2, (sm_cpy a38 a39 0 0 6)) else (kv_countLies_78 f f3_0 a6 a35 x1 x2 m (y3 + 1) (y4 + 1) (kv_nextRow f f3_0 a38).2 (sm_cpy a38 a39 0 0 6))) else (if (kv_nextRow f f3_0 a38).1 = 0 then ((y3 + 1), (kv_nextRow f f3_0 a38).2, a39) else (kv_countLies_78 f f3_0 a6 a35 x1 x2 m (y3 + 1) (y4 + 1) (kv_nextRow f f3_0 a38).2 a39))))
theorem t_kv_countLies_78 {f : Nat} {Q : Option Value → sm_H → Prop} : ∀ (m : Nat) {B D : Nat} {F : Nat → Nat → Int32} {A : Nat → List Int32} {L : Nat → List Int64} {x1 : Int32} {x2 : Int32} {y3 : Int32} {y4 : Int32}, m = (120 - y4.toInt).toNat → (∀ q4 : Int32, wl_E f B D mm115.2.2.2.2.2.2.2.2 143 [some (.ref 30), some (.int x1), some (.int x2), some (.int ((kv_countLies_78 f (F 3 0) (A 6) (A 35) x1 x2 m y3 y4 (A 38) (A 39)).1)), some (.int q4)] [] (hz F (uA (uA A 38 ((kv_countLies_78 f (F 3 0) (A 6) (A 35) x1 x2 m y3 y4 (A 38) (A 39)).2.1)) 39 ((kv_countLies_78 f (F 3 0) (A 6) (A 35) x1 x2 m y3 y4 (A 38) (A 39)).2.2)) L) Q) → wl_E f B D mm115.2.2.2.2.2.2.2.2 78 [some (.ref 30), some (.int x1), some (.int x2), some (.int y3), some (.int y4)] [] (hz F A L) Q := by
  intro m
  induction m with
  | zero =>
    intro B D F A L x1 x2 y3 y4 hm K
    generalize hT : (kv_countLies_78 f (F 3 0) (A 6) (A 35) x1 x2 0 y3 y4 (A 38) (A 39)) = T at K
    have hE : T = (y3, (A 38), (A 39)) := hT.symm
    clear hT
    refine w_n 2 (pc1 := 82) (ls1 := [some (.ref 30), some (.int x1), some (.int x2), some (.int y3), some (.int y4)]) (st1 := [.int 120, .int y4]) (hp1 := (hz F A L)) rfl ?_
    refine w_ge (p3 := 85) rfl rfl (fun hb => ?_) (fun h => False.elim (by have h : y4.toInt < 120 := h; omega))
    subst T
    exact cvE rfl (funext fun q => if k0 : q = 38 then by subst k0; exact Eq.trans (b := (A 38)) rfl rfl else if k1 : q = 39 then by subst k1; exact Eq.trans (b := (A 39)) rfl rfl else by unfold uA; simp only [nb1 k0, nb1 k1, cond_false]) rfl (K _)
  | succ m ih =>
    intro B D F A L x1 x2 y3 y4 hm K
    generalize hT : (kv_countLies_78 f (F 3 0) (A 6) (A 35) x1 x2 (m + 1) y3 y4 (A 38) (A 39)) = T at K
    have hE : T = (if ((x2 >>> ((kv_lastLeft (F 3 0) (A 35) (A 38) ((A 6).getD x1.toInt.toNat 0)) &&& 31)) &&& 1) = 0 then (if (kv_nextRow f (F 3 0) (A 38)).1 = 0 then (y3, (kv_nextRow f (F 3 0) (A 38)).2, (A 39)) else (kv_countLies_78 f (F 3 0) (A 6) (A 35) x1 x2 m y3 (y4 + 1) (kv_nextRow f (F 3 0) (A 38)).2 (A 39))) else (if y3 = 0 then (if (kv_nextRow f (F 3 0) (A 38)).1 = 0 then ((y3 + 1), (kv_nextRow f (F 3 0) (A 38)).2, (sm_cpy (A 38) (A 39) 0 0 6)) else (kv_countLies_78 f (F 3 0) (A 6) (A 35) x1 x2 m (y3 + 1) (y4 + 1) (kv_nextRow f (F 3 0) (A 38)).2 (sm_cpy (A 38) (A 39) 0 0 6))) else (if (kv_nextRow f (F 3 0) (A 38)).1 = 0 then ((y3 + 1), (kv_nextRow f (F 3 0) (A 38)).2, (A 39)) else (kv_countLies_78 f (F 3 0) (A 6) (A 35) x1 x2 m (y3 + 1) (y4 + 1) (kv_nextRow f (F 3 0) (A 38)).2 (A 39))))) := hT.symm
    clear hT
    refine w_n 2 (pc1 := 82) (ls1 := [some (.ref 30), some (.int x1), some (.int x2), some (.int y3), some (.int y4)]) (st1 := [.int 120, .int y4]) (hp1 := (hz F A L)) rfl ?_
    refine w_ge (p3 := 85) rfl rfl (fun h => False.elim (by have h : 120 ≤ y4.toInt := h; omega)) (fun hb => ?_)
    refine w_n 6 (pc1 := 95) (ls1 := [some (.ref 30), some (.int x1), some (.int x2), some (.int y3), some (.int y4)]) (st1 := [.int x1, .ref 6, .ref 30, .int x2]) (hp1 := (hz F A L)) rfl ?_
    refine w_al (k := 6) (l := (A 6)) rfl rfl rfl (fun _ => ?_)
    refine w_c rfl rfl (t_kv_lastLeft ?_)
    show wl_E f _ _ mm115.2.2.2.2.2.2.2.2 99 [some (.ref 30), some (.int x1), some (.int x2), some (.int y3), some (.int y4)] [.int (kv_lastLeft (F 3 0) (A 35) (A 38) ((A 6).getD x1.toInt.toNat 0)), .int x2] (hz F A L) _
    generalize hG291 : (kv_lastLeft (F 3 0) (A 35) (A 38) ((A 6).getD x1.toInt.toNat 0)) = G291 at hE ⊢
    refine w_n 3 (pc1 := 102) (ls1 := [some (.ref 30), some (.int x1), some (.int x2), some (.int y3), some (.int y4)]) (st1 := [.int ((x2 >>> (G291 &&& 31)) &&& 1)]) (hp1 := (hz F A L)) rfl ?_
    refine w_zeq (p3 := 105) rfl rfl (fun h => ?_) (fun h => ?_)
    · have h1 : ((x2 >>> (G291 &&& 31)) &&& 1) = 0 := h
      rw [if_pos h1] at hE
      refine w_n 1 (pc1 := 128) (ls1 := [some (.ref 30), some (.int x1), some (.int x2), some (.int y3), some (.int y4)]) (st1 := [.ref 30]) (hp1 := (hz F A L)) rfl ?_
      refine w_c rfl rfl (t_kv_nextRow ?_)
      show wl_E f _ _ mm115.2.2.2.2.2.2.2.2 131 [some (.ref 30), some (.int x1), some (.int x2), some (.int y3), some (.int y4)] [.int (kv_nextRow f (F 3 0) (A 38)).1] (hz F (uA A 38 (kv_nextRow f (F 3 0) (A 38)).2) L) _
      generalize hG297 : (kv_nextRow f (F 3 0) (A 38)) = G297 at hE ⊢
      refine w_zne (p3 := 134) rfl rfl (fun h => ?_) (fun h => ?_)
      · have h2 : ¬ G297.1 = 0 := h
        rw [if_neg h2] at hE
        refine w_n 2 (pc1 := 78) (ls1 := [some (.ref 30), some (.int x1), some (.int x2), some (.int y3), some (.int (y4 + 1))]) (st1 := []) (hp1 := (hz F (uA A 38 G297.2) L)) rfl ?_
        subst T
        have hb2 := i_up (B := (120 : Int32)) hb
        have hb3 : y4.toInt < 120 := hb
        exact ih (show m = (120 - (y4 + 1).toInt).toNat by rw [hb2]; omega) (fun q4 => cvE rfl (funext fun q => if k0 : q = 38 then by subst k0; exact Eq.trans (b := (kv_countLies_78 f (F 3 0) (A 6) (A 35) x1 x2 m y3 (y4 + 1) G297.2 (A 39)).2.1) rfl rfl else if k1 : q = 39 then by subst k1; exact Eq.trans (b := (kv_countLies_78 f (F 3 0) (A 6) (A 35) x1 x2 m y3 (y4 + 1) G297.2 (A 39)).2.2) rfl rfl else by unfold uA; simp only [nb1 k0, nb1 k1, cond_false]) rfl (K q4))
      · have h2 : G297.1 = 0 := h
        rw [if_pos h2] at hE
        refine w_n 1 (pc1 := 143) (ls1 := [some (.ref 30), some (.int x1), some (.int x2), some (.int y3), some (.int y4)]) (st1 := []) (hp1 := (hz F (uA A 38 G297.2) L)) rfl ?_
        subst T
        exact cvE rfl (funext fun q => if k0 : q = 38 then by subst k0; exact Eq.trans (b := G297.2) rfl rfl else if k1 : q = 39 then by subst k1; exact Eq.trans (b := (A 39)) rfl rfl else by unfold uA; simp only [nb1 k0, nb1 k1, cond_false]) rfl (K _)
    · have h1 : ¬ ((x2 >>> (G291 &&& 31)) &&& 1) = 0 := h
      rw [if_neg h1] at hE
      refine w_n 1 (pc1 := 106) (ls1 := [some (.ref 30), some (.int x1), some (.int x2), some (.int y3), some (.int y4)]) (st1 := [.int y3]) (hp1 := (hz F A L)) rfl ?_
      refine w_zne (p3 := 109) rfl rfl (fun h => ?_) (fun h => ?_)
      · have h3 : ¬ y3 = 0 := h
        rw [if_neg h3] at hE
        refine w_n 2 (pc1 := 128) (ls1 := [some (.ref 30), some (.int x1), some (.int x2), some (.int (y3 + 1)), some (.int y4)]) (st1 := [.ref 30]) (hp1 := (hz F A L)) rfl ?_
        refine w_c rfl rfl (t_kv_nextRow ?_)
        show wl_E f _ _ mm115.2.2.2.2.2.2.2.2 131 [some (.ref 30), some (.int x1), some (.int x2), some (.int (y3 + 1)), some (.int y4)] [.int (kv_nextRow f (F 3 0) (A 38)).1] (hz F (uA A 38 (kv_nextRow f (F 3 0) (A 38)).2) L) _
        generalize hG298 : (kv_nextRow f (F 3 0) (A 38)) = G298 at hE ⊢
        refine w_zne (p3 := 134) rfl rfl (fun h => ?_) (fun h => ?_)
        · have h4 : ¬ G298.1 = 0 := h
          rw [if_neg h4] at hE
          refine w_n 2 (pc1 := 78) (ls1 := [some (.ref 30), some (.int x1), some (.int x2), some (.int (y3 + 1)), some (.int (y4 + 1))]) (st1 := []) (hp1 := (hz F (uA A 38 G298.2) L)) rfl ?_
          subst T
          have hb2 := i_up (B := (120 : Int32)) hb
          have hb3 : y4.toInt < 120 := hb
          exact ih (show m = (120 - (y4 + 1).toInt).toNat by rw [hb2]; omega) (fun q4 => cvE rfl (funext fun q => if k0 : q = 38 then by subst k0; exact Eq.trans (b := (kv_countLies_78 f (F 3 0) (A 6) (A 35) x1 x2 m (y3 + 1) (y4 + 1) G298.2 (A 39)).2.1) rfl rfl else if k1 : q = 39 then by subst k1; exact Eq.trans (b := (kv_countLies_78 f (F 3 0) (A 6) (A 35) x1 x2 m (y3 + 1) (y4 + 1) G298.2 (A 39)).2.2) rfl rfl else by unfold uA; simp only [nb1 k0, nb1 k1, cond_false]) rfl (K q4))
        · have h4 : G298.1 = 0 := h
          rw [if_pos h4] at hE
          refine w_n 1 (pc1 := 143) (ls1 := [some (.ref 30), some (.int x1), some (.int x2), some (.int (y3 + 1)), some (.int y4)]) (st1 := []) (hp1 := (hz F (uA A 38 G298.2) L)) rfl ?_
          subst T
          exact cvE rfl (funext fun q => if k0 : q = 38 then by subst k0; exact Eq.trans (b := G298.2) rfl rfl else if k1 : q = 39 then by subst k1; exact Eq.trans (b := (A 39)) rfl rfl else by unfold uA; simp only [nb1 k0, nb1 k1, cond_false]) rfl (K _)
      · have h3 : y3 = 0 := h
        rw [if_pos h3] at hE
        refine w_n 7 (pc1 := 121) (ls1 := [some (.ref 30), some (.int x1), some (.int x2), some (.int y3), some (.int y4)]) (st1 := [.int 6, .int 0, .ref 39, .int 0, .ref 38]) (hp1 := (hz F A L)) rfl ?_
        refine w_ac (ks := 38) (kd := 39) (u := (A 38)) (g := (A 39)) (hp1 := (hz F (uA A 39 (sm_cpy (A 38) (A 39) 0 0 6)) L)) rfl rfl rfl rfl (hz_s39 _) (fun _ => ?_)
        refine w_n 2 (pc1 := 128) (ls1 := [some (.ref 30), some (.int x1), some (.int x2), some (.int (y3 + 1)), some (.int y4)]) (st1 := [.ref 30]) (hp1 := (hz F (uA A 39 (sm_cpy (A 38) (A 39) 0 0 6)) L)) rfl ?_
        refine w_c rfl rfl (t_kv_nextRow ?_)
        show wl_E f _ _ mm115.2.2.2.2.2.2.2.2 131 [some (.ref 30), some (.int x1), some (.int x2), some (.int (y3 + 1)), some (.int y4)] [.int (kv_nextRow f (F 3 0) (A 38)).1] (hz F (uA (uA A 39 (sm_cpy (A 38) (A 39) 0 0 6)) 38 (kv_nextRow f (F 3 0) (A 38)).2) L) _
        generalize hG299 : (kv_nextRow f (F 3 0) (A 38)) = G299 at hE ⊢
        refine w_zne (p3 := 134) rfl rfl (fun h => ?_) (fun h => ?_)
        · have h5 : ¬ G299.1 = 0 := h
          rw [if_neg h5] at hE
          refine w_n 2 (pc1 := 78) (ls1 := [some (.ref 30), some (.int x1), some (.int x2), some (.int (y3 + 1)), some (.int (y4 + 1))]) (st1 := []) (hp1 := (hz F (uA (uA A 39 (sm_cpy (A 38) (A 39) 0 0 6)) 38 G299.2) L)) rfl ?_
          subst T
          have hb2 := i_up (B := (120 : Int32)) hb
          have hb3 : y4.toInt < 120 := hb
          exact ih (show m = (120 - (y4 + 1).toInt).toNat by rw [hb2]; omega) (fun q4 => cvE rfl (funext fun q => if k0 : q = 38 then by subst k0; exact Eq.trans (b := (kv_countLies_78 f (F 3 0) (A 6) (A 35) x1 x2 m (y3 + 1) (y4 + 1) G299.2 (sm_cpy (A 38) (A 39) 0 0 6)).2.1) rfl rfl else if k1 : q = 39 then by subst k1; exact Eq.trans (b := (kv_countLies_78 f (F 3 0) (A 6) (A 35) x1 x2 m (y3 + 1) (y4 + 1) G299.2 (sm_cpy (A 38) (A 39) 0 0 6)).2.2) rfl rfl else by unfold uA; simp only [nb1 k0, nb1 k1, cond_false]) rfl (K q4))
        · have h5 : G299.1 = 0 := h
          rw [if_pos h5] at hE
          refine w_n 1 (pc1 := 143) (ls1 := [some (.ref 30), some (.int x1), some (.int x2), some (.int (y3 + 1)), some (.int y4)]) (st1 := []) (hp1 := (hz F (uA (uA A 39 (sm_cpy (A 38) (A 39) 0 0 6)) 38 G299.2) L)) rfl ?_
          subst T
          exact cvE rfl (funext fun q => if k0 : q = 38 then by subst k0; exact Eq.trans (b := G299.2) rfl rfl else if k1 : q = 39 then by subst k1; exact Eq.trans (b := (sm_cpy (A 38) (A 39) 0 0 6)) rfl rfl else by unfold uA; simp only [nb1 k0, nb1 k1, cond_false]) rfl (K _)
noncomputable def kv_countLies (f : Nat) (f3_0 : Int32) (f3_1 : Int32) (a6 : List Int32) (a35 : List Int32) (a36 : List Int32) (a38 : List Int32) (a39 : List Int32) (l11 : List Int64) (x1 : Int32) : Int32 × List Int32 × List Int32 × List Int32 × List Int32 := ((kv_countLies_78 f f3_0 a6 (kv_countLies_29 f3_0 f3_1 a6 l11 x1 ((kt_allMeasures f3_0).toInt + 1 - 1).toNat 1 (kv_countRunOff f3_0 f3_1 a6 a35 a36 l11).1) x1 (kt_aheadOf l11 x1 ((kv_countRunOff f3_0 f3_1 a6 a35 a36 l11).2.getD (f3_0 - 1).toInt.toNat 0)) 120 0 0 (kv_countLies_54 6 0 a38) a39).1, (kv_countLies_29 f3_0 f3_1 a6 l11 x1 ((kt_allMeasures f3_0).toInt + 1 - 1).toNat 1 (kv_countRunOff f3_0 f3_1 a6 a35 a36 l11).1), (kv_countRunOff f3_0 f3_1 a6 a35 a36 l11).2, (kv_countLies_78 f f3_0 a6 (kv_countLies_29 f3_0 f3_1 a6 l11 x1 ((kt_allMeasures f3_0).toInt + 1 - 1).toNat 1 (kv_countRunOff f3_0 f3_1 a6 a35 a36 l11).1) x1 (kt_aheadOf l11 x1 ((kv_countRunOff f3_0 f3_1 a6 a35 a36 l11).2.getD (f3_0 - 1).toInt.toNat 0)) 120 0 0 (kv_countLies_54 6 0 a38) a39).2.1, (kv_countLies_78 f f3_0 a6 (kv_countLies_29 f3_0 f3_1 a6 l11 x1 ((kt_allMeasures f3_0).toInt + 1 - 1).toNat 1 (kv_countRunOff f3_0 f3_1 a6 a35 a36 l11).1) x1 (kt_aheadOf l11 x1 ((kv_countRunOff f3_0 f3_1 a6 a35 a36 l11).2.getD (f3_0 - 1).toInt.toNat 0)) 120 0 0 (kv_countLies_54 6 0 a38) a39).2.2)
theorem t_kv_countLies {f D : Nat} {F : Nat → Nat → Int32} {A : Nat → List Int32} {L : Nat → List Int64} {Q : Option Value → sm_H → Prop} {x1 : Int32} (hh0 : (kt_allMeasures (F 3 0)).toInt < 2147483647) (K : Q (some (.int ((kv_countLies f (F 3 0) (F 3 1) (A 6) (A 35) (A 36) (A 38) (A 39) (L 11) x1).1))) (hz F (uA (uA (uA (uA A 35 ((kv_countLies f (F 3 0) (F 3 1) (A 6) (A 35) (A 36) (A 38) (A 39) (L 11) x1).2.1)) 36 ((kv_countLies f (F 3 0) (F 3 1) (A 6) (A 35) (A 36) (A 38) (A 39) (L 11) x1).2.2.1)) 38 ((kv_countLies f (F 3 0) (F 3 1) (A 6) (A 35) (A 36) (A 38) (A 39) (L 11) x1).2.2.2.1)) 39 ((kv_countLies f (F 3 0) (F 3 1) (A 6) (A 35) (A 36) (A 38) (A 39) (L 11) x1).2.2.2.2)) L)) : wl_M f D 115 [.ref 30, .int x1] (hz F A L) Q := by
  generalize hT : (kv_countLies f (F 3 0) (F 3 1) (A 6) (A 35) (A 36) (A 38) (A 39) (L 11) x1) = T at K
  have hE : T = ((kv_countLies_78 f (F 3 0) (A 6) (kv_countLies_29 (F 3 0) (F 3 1) (A 6) (L 11) x1 ((kt_allMeasures (F 3 0)).toInt + 1 - 1).toNat 1 (kv_countRunOff (F 3 0) (F 3 1) (A 6) (A 35) (A 36) (L 11)).1) x1 (kt_aheadOf (L 11) x1 ((kv_countRunOff (F 3 0) (F 3 1) (A 6) (A 35) (A 36) (L 11)).2.getD ((F 3 0) - 1).toInt.toNat 0)) 120 0 0 (kv_countLies_54 6 0 (A 38)) (A 39)).1, (kv_countLies_29 (F 3 0) (F 3 1) (A 6) (L 11) x1 ((kt_allMeasures (F 3 0)).toInt + 1 - 1).toNat 1 (kv_countRunOff (F 3 0) (F 3 1) (A 6) (A 35) (A 36) (L 11)).1), (kv_countRunOff (F 3 0) (F 3 1) (A 6) (A 35) (A 36) (L 11)).2, (kv_countLies_78 f (F 3 0) (A 6) (kv_countLies_29 (F 3 0) (F 3 1) (A 6) (L 11) x1 ((kt_allMeasures (F 3 0)).toInt + 1 - 1).toNat 1 (kv_countRunOff (F 3 0) (F 3 1) (A 6) (A 35) (A 36) (L 11)).1) x1 (kt_aheadOf (L 11) x1 ((kv_countRunOff (F 3 0) (F 3 1) (A 6) (A 35) (A 36) (L 11)).2.getD ((F 3 0) - 1).toInt.toNat 0)) 120 0 0 (kv_countLies_54 6 0 (A 38)) (A 39)).2.1, (kv_countLies_78 f (F 3 0) (A 6) (kv_countLies_29 (F 3 0) (F 3 1) (A 6) (L 11) x1 ((kt_allMeasures (F 3 0)).toInt + 1 - 1).toNat 1 (kv_countRunOff (F 3 0) (F 3 1) (A 6) (A 35) (A 36) (L 11)).1) x1 (kt_aheadOf (L 11) x1 ((kv_countRunOff (F 3 0) (F 3 1) (A 6) (A 35) (A 36) (L 11)).2.getD ((F 3 0) - 1).toInt.toNat 0)) 120 0 0 (kv_countLies_54 6 0 (A 38)) (A 39)).2.2) := hT.symm
  clear hT
  refine w_m (E := mm115) rfl ?_
  show wl_E f f (D - 1) mm115.2.2.2.2.2.2.2.2 0 [some (.ref 30), some (.int x1), none, none, none] [] (hz F A L) Q
  refine w_n 1 (pc1 := 1) (ls1 := [some (.ref 30), some (.int x1), none, none, none]) (st1 := [.ref 30]) (hp1 := (hz F A L)) rfl ?_
  refine w_c rfl rfl (t_kv_countRunOff ?_)
  show wl_E f _ _ mm115.2.2.2.2.2.2.2.2 4 [some (.ref 30), some (.int x1), none, none, none] [] (hz F (uA (uA A 35 (kv_countRunOff (F 3 0) (F 3 1) (A 6) (A 35) (A 36) (L 11)).1) 36 (kv_countRunOff (F 3 0) (F 3 1) (A 6) (A 35) (A 36) (L 11)).2) L) _
  generalize hG282 : (kv_countRunOff (F 3 0) (F 3 1) (A 6) (A 35) (A 36) (L 11)) = G282 at hE ⊢
  refine w_n 10 (pc1 := 22) (ls1 := [some (.ref 30), some (.int x1), none, none, none]) (st1 := [.int ((F 3 0) - 1), .ref 36, .int x1, .ref 3]) (hp1 := (hz F (uA (uA A 35 G282.1) 36 G282.2) L)) rfl ?_
  refine w_al (k := 36) (l := G282.2) rfl rfl rfl (fun _ => ?_)
  refine w_c rfl rfl (t_kt_aheadOf ?_)
  show wl_E f _ _ mm115.2.2.2.2.2.2.2.2 26 [some (.ref 30), some (.int x1), none, none, none] [.int (kt_aheadOf (L 11) x1 (G282.2.getD ((F 3 0) - 1).toInt.toNat 0))] (hz F (uA (uA A 35 G282.1) 36 G282.2) L) _
  generalize hG283 : (kt_aheadOf (L 11) x1 (G282.2.getD ((F 3 0) - 1).toInt.toNat 0)) = G283 at hE ⊢
  refine w_n 3 (pc1 := 29) (ls1 := [some (.ref 30), some (.int x1), some (.int G283), some (.int 1), none]) (st1 := []) (hp1 := (hz F (uA (uA A 35 G282.1) 36 G282.2) L)) rfl ?_
  refine t_kv_countLies_29 (((kt_allMeasures (F 3 0)).toInt + 1 - 1).toNat) (show ((kt_allMeasures (F 3 0)).toInt + 1 - 1).toNat = ((kt_allMeasures (F 3 0)).toInt + 1 - (1 : Int32).toInt).toNat by have e0 : (1 : Int32).toInt = 1 := rfl; first | rfl | omega) hh0 ?_
  intro r1
  show wl_E f _ _ mm115.2.2.2.2.2.2.2.2 52 [some (.ref 30), some (.int x1), some (.int G283), some (.int r1), none] [] (hz F (uA (uA (uA A 35 G282.1) 36 G282.2) 35 (kv_countLies_29 (F 3 0) (F 3 1) (A 6) (L 11) x1 ((kt_allMeasures (F 3 0)).toInt + 1 - 1).toNat 1 G282.1)) L) _
  generalize hG285 : (kv_countLies_29 (F 3 0) (F 3 1) (A 6) (L 11) x1 ((kt_allMeasures (F 3 0)).toInt + 1 - 1).toNat 1 G282.1) = G285 at hE ⊢
  refine w_n 2 (pc1 := 54) (ls1 := [some (.ref 30), some (.int x1), some (.int G283), some (.int 0), none]) (st1 := []) (hp1 := (hz F (uA (uA (uA A 35 G282.1) 36 G282.2) 35 G285) L)) rfl ?_
  refine t_kv_countLies_54 6 (show (6 : Nat) = (6 - (0 : Int32).toInt).toNat by have e0 : (0 : Int32).toInt = 0 := rfl; first | rfl | omega) ?_
  intro r2
  show wl_E f _ _ mm115.2.2.2.2.2.2.2.2 73 [some (.ref 30), some (.int x1), some (.int G283), some (.int r2), none] [] (hz F (uA (uA (uA (uA A 35 G282.1) 36 G282.2) 35 G285) 38 (kv_countLies_54 6 0 (A 38))) L) _
  generalize hG286 : (kv_countLies_54 6 0 (A 38)) = G286 at hE ⊢
  refine w_n 4 (pc1 := 78) (ls1 := [some (.ref 30), some (.int x1), some (.int G283), some (.int 0), some (.int 0)]) (st1 := []) (hp1 := (hz F (uA (uA (uA (uA A 35 G282.1) 36 G282.2) 35 G285) 38 G286) L)) rfl ?_
  refine t_kv_countLies_78 120 (show (120 : Nat) = (120 - (0 : Int32).toInt).toNat by have e0 : (0 : Int32).toInt = 0 := rfl; first | rfl | omega) ?_
  intro r3
  show wl_E f _ _ mm115.2.2.2.2.2.2.2.2 143 [some (.ref 30), some (.int x1), some (.int G283), some (.int (kv_countLies_78 f (F 3 0) (A 6) G285 x1 G283 120 0 0 G286 (A 39)).1), some (.int r3)] [] (hz F (uA (uA (uA (uA (uA (uA A 35 G282.1) 36 G282.2) 35 G285) 38 G286) 38 (kv_countLies_78 f (F 3 0) (A 6) G285 x1 G283 120 0 0 G286 (A 39)).2.1) 39 (kv_countLies_78 f (F 3 0) (A 6) G285 x1 G283 120 0 0 G286 (A 39)).2.2) L) _
  generalize hG300 : (kv_countLies_78 f (F 3 0) (A 6) G285 x1 G283 120 0 0 G286 (A 39)) = G300 at hE ⊢
  refine w_n 1 (pc1 := 144) (ls1 := [some (.ref 30), some (.int x1), some (.int G283), some (.int G300.1), some (.int r3)]) (st1 := [.int G300.1]) (hp1 := (hz F (uA (uA (uA (uA (uA (uA A 35 G282.1) 36 G282.2) 35 G285) 38 G286) 38 G300.2.1) 39 G300.2.2) L)) rfl ?_
  subst T
  exact w_ri rfl (cvQ rfl (funext fun q => if k0 : q = 35 then by subst k0; exact Eq.trans (b := G285) rfl rfl else if k1 : q = 36 then by subst k1; exact Eq.trans (b := G282.2) rfl rfl else if k2 : q = 38 then by subst k2; exact Eq.trans (b := G300.2.1) rfl rfl else if k3 : q = 39 then by subst k3; exact Eq.trans (b := G300.2.2) rfl rfl else by unfold uA; simp only [nb1 k0, nb1 k1, nb1 k2, nb1 k3, cond_false]) rfl K)
noncomputable def kc_lie (f : Nat) (f3_0 : Int32) (f3_1 : Int32) (a6 : List Int32) (a35 : List Int32) (a36 : List Int32) (a38 : List Int32) (a39 : List Int32) (l11 : List Int64) (x1 : Int32) (x2 : Int32) : Int32 × List Int32 × List Int32 × List Int32 × List Int32 := (if (kt_isTold f3_1 x1) = 0 then ((-1), a35, a36, a38, a39) else (if x2 = 10 then (if f3_0 = 6 then ((-3), a35, a36, a38, a39) else ((kv_countLies f f3_0 f3_1 a6 a35 a36 a38 a39 l11 x1).1, (kv_countLies f f3_0 f3_1 a6 a35 a36 a38 a39 l11 x1).2.1, (kv_countLies f f3_0 f3_1 a6 a35 a36 a38 a39 l11 x1).2.2.1, (kv_countLies f f3_0 f3_1 a6 a35 a36 a38 a39 l11 x1).2.2.2.1, (kv_countLies f f3_0 f3_1 a6 a35 a36 a38 a39 l11 x1).2.2.2.2)) else (if (kt_isMeasure f3_0 x2) = 0 then ((-1), a35, a36, a38, a39) else (if f3_0 = 6 then ((-3), a35, a36, a38, a39) else (if (kv_countLies f f3_0 f3_1 a6 a35 a36 a38 a39 l11 x1).1 = 0 then ((-2), (kv_countLies f f3_0 f3_1 a6 a35 a36 a38 a39 l11 x1).2.1, (kv_countLies f f3_0 f3_1 a6 a35 a36 a38 a39 l11 x1).2.2.1, (kv_countLies f f3_0 f3_1 a6 a35 a36 a38 a39 l11 x1).2.2.2.1, (kv_countLies f f3_0 f3_1 a6 a35 a36 a38 a39 l11 x1).2.2.2.2) else (((kv_countLies f f3_0 f3_1 a6 a35 a36 a38 a39 l11 x1).2.2.2.2.getD x2.toInt.toNat 0), (kv_countLies f f3_0 f3_1 a6 a35 a36 a38 a39 l11 x1).2.1, (kv_countLies f f3_0 f3_1 a6 a35 a36 a38 a39 l11 x1).2.2.1, (kv_countLies f f3_0 f3_1 a6 a35 a36 a38 a39 l11 x1).2.2.2.1, (kv_countLies f f3_0 f3_1 a6 a35 a36 a38 a39 l11 x1).2.2.2.2))))))
theorem t_kc_lie {f D : Nat} {F : Nat → Nat → Int32} {A : Nat → List Int32} {L : Nat → List Int64} {Q : Option Value → sm_H → Prop} {x1 : Int32} {x2 : Int32} (hh0 : (kt_allMeasures (F 3 0)).toInt < 2147483647) (K : Q (some (.int ((kc_lie f (F 3 0) (F 3 1) (A 6) (A 35) (A 36) (A 38) (A 39) (L 11) x1 x2).1))) (hz F (uA (uA (uA (uA A 35 ((kc_lie f (F 3 0) (F 3 1) (A 6) (A 35) (A 36) (A 38) (A 39) (L 11) x1 x2).2.1)) 36 ((kc_lie f (F 3 0) (F 3 1) (A 6) (A 35) (A 36) (A 38) (A 39) (L 11) x1 x2).2.2.1)) 38 ((kc_lie f (F 3 0) (F 3 1) (A 6) (A 35) (A 36) (A 38) (A 39) (L 11) x1 x2).2.2.2.1)) 39 ((kc_lie f (F 3 0) (F 3 1) (A 6) (A 35) (A 36) (A 38) (A 39) (L 11) x1 x2).2.2.2.2)) L)) : wl_M f D 114 [.ref 0, .int x1, .int x2] (hz F A L) Q := by
  generalize hT : (kc_lie f (F 3 0) (F 3 1) (A 6) (A 35) (A 36) (A 38) (A 39) (L 11) x1 x2) = T at K
  have hE : T = (if (kt_isTold (F 3 1) x1) = 0 then ((-1), (A 35), (A 36), (A 38), (A 39)) else (if x2 = 10 then (if (F 3 0) = 6 then ((-3), (A 35), (A 36), (A 38), (A 39)) else ((kv_countLies f (F 3 0) (F 3 1) (A 6) (A 35) (A 36) (A 38) (A 39) (L 11) x1).1, (kv_countLies f (F 3 0) (F 3 1) (A 6) (A 35) (A 36) (A 38) (A 39) (L 11) x1).2.1, (kv_countLies f (F 3 0) (F 3 1) (A 6) (A 35) (A 36) (A 38) (A 39) (L 11) x1).2.2.1, (kv_countLies f (F 3 0) (F 3 1) (A 6) (A 35) (A 36) (A 38) (A 39) (L 11) x1).2.2.2.1, (kv_countLies f (F 3 0) (F 3 1) (A 6) (A 35) (A 36) (A 38) (A 39) (L 11) x1).2.2.2.2)) else (if (kt_isMeasure (F 3 0) x2) = 0 then ((-1), (A 35), (A 36), (A 38), (A 39)) else (if (F 3 0) = 6 then ((-3), (A 35), (A 36), (A 38), (A 39)) else (if (kv_countLies f (F 3 0) (F 3 1) (A 6) (A 35) (A 36) (A 38) (A 39) (L 11) x1).1 = 0 then ((-2), (kv_countLies f (F 3 0) (F 3 1) (A 6) (A 35) (A 36) (A 38) (A 39) (L 11) x1).2.1, (kv_countLies f (F 3 0) (F 3 1) (A 6) (A 35) (A 36) (A 38) (A 39) (L 11) x1).2.2.1, (kv_countLies f (F 3 0) (F 3 1) (A 6) (A 35) (A 36) (A 38) (A 39) (L 11) x1).2.2.2.1, (kv_countLies f (F 3 0) (F 3 1) (A 6) (A 35) (A 36) (A 38) (A 39) (L 11) x1).2.2.2.2) else (((kv_countLies f (F 3 0) (F 3 1) (A 6) (A 35) (A 36) (A 38) (A 39) (L 11) x1).2.2.2.2.getD x2.toInt.toNat 0), (kv_countLies f (F 3 0) (F 3 1) (A 6) (A 35) (A 36) (A 38) (A 39) (L 11) x1).2.1, (kv_countLies f (F 3 0) (F 3 1) (A 6) (A 35) (A 36) (A 38) (A 39) (L 11) x1).2.2.1, (kv_countLies f (F 3 0) (F 3 1) (A 6) (A 35) (A 36) (A 38) (A 39) (L 11) x1).2.2.2.1, (kv_countLies f (F 3 0) (F 3 1) (A 6) (A 35) (A 36) (A 38) (A 39) (L 11) x1).2.2.2.2)))))) := hT.symm
  clear hT
  refine w_m (E := mm114) rfl ?_
  show wl_E f f (D - 1) mm114.2.2.2.2.2.2.2.2 0 [some (.ref 0), some (.int x1), some (.int x2), none] [] (hz F A L) Q
  refine w_n 3 (pc1 := 5) (ls1 := [some (.ref 0), some (.int x1), some (.int x2), none]) (st1 := [.int x1, .ref 3]) (hp1 := (hz F A L)) rfl ?_
  refine w_c rfl rfl (t_kt_isTold ?_)
  show wl_E f _ _ mm114.2.2.2.2.2.2.2.2 8 [some (.ref 0), some (.int x1), some (.int x2), none] [.int (kt_isTold (F 3 1) x1)] (hz F A L) _
  generalize hG281 : (kt_isTold (F 3 1) x1) = G281 at hE ⊢
  refine w_zeq (p3 := 11) rfl rfl (fun h => ?_) (fun h => ?_)
  · have h1 : G281 = 0 := h
    rw [if_pos h1] at hE
    refine w_n 1 (pc1 := 29) (ls1 := [some (.ref 0), some (.int x1), some (.int x2), none]) (st1 := [.int (-1)]) (hp1 := (hz F A L)) rfl ?_
    subst T
    exact w_ri rfl (cvQ rfl (funext fun q => if k0 : q = 35 then by subst k0; exact Eq.trans (b := (A 35)) rfl rfl else if k1 : q = 36 then by subst k1; exact Eq.trans (b := (A 36)) rfl rfl else if k2 : q = 38 then by subst k2; exact Eq.trans (b := (A 38)) rfl rfl else if k3 : q = 39 then by subst k3; exact Eq.trans (b := (A 39)) rfl rfl else by unfold uA; simp only [nb1 k0, nb1 k1, nb1 k2, nb1 k3, cond_false]) rfl K)
  · have h1 : ¬ G281 = 0 := h
    rw [if_neg h1] at hE
    refine w_n 2 (pc1 := 14) (ls1 := [some (.ref 0), some (.int x1), some (.int x2), none]) (st1 := [.int 10, .int x2]) (hp1 := (hz F A L)) rfl ?_
    refine w_eq (p3 := 17) rfl rfl (fun h => ?_) (fun h => ?_)
    · have h2 : x2 = 10 := h
      rw [if_pos h2] at hE
      refine w_n 4 (pc1 := 39) (ls1 := [some (.ref 0), some (.int x1), some (.int x2), none]) (st1 := [.int 6, .int (F 3 0)]) (hp1 := (hz F A L)) rfl ?_
      refine w_ne (p3 := 42) rfl rfl (fun h => ?_) (fun h => ?_)
      · have h3 : ¬ (F 3 0) = 6 := h
        rw [if_neg h3] at hE
        refine w_n 3 (pc1 := 50) (ls1 := [some (.ref 0), some (.int x1), some (.int x2), none]) (st1 := [.int x1, .ref 30]) (hp1 := (hz F A L)) rfl ?_
        refine w_c rfl rfl (t_kv_countLies hh0 ?_)
        show wl_E f _ _ mm114.2.2.2.2.2.2.2.2 53 [some (.ref 0), some (.int x1), some (.int x2), none] [.int (kv_countLies f (F 3 0) (F 3 1) (A 6) (A 35) (A 36) (A 38) (A 39) (L 11) x1).1] (hz F (uA (uA (uA (uA A 35 (kv_countLies f (F 3 0) (F 3 1) (A 6) (A 35) (A 36) (A 38) (A 39) (L 11) x1).2.1) 36 (kv_countLies f (F 3 0) (F 3 1) (A 6) (A 35) (A 36) (A 38) (A 39) (L 11) x1).2.2.1) 38 (kv_countLies f (F 3 0) (F 3 1) (A 6) (A 35) (A 36) (A 38) (A 39) (L 11) x1).2.2.2.1) 39 (kv_countLies f (F 3 0) (F 3 1) (A 6) (A 35) (A 36) (A 38) (A 39) (L 11) x1).2.2.2.2) L) _
        generalize hG301 : (kv_countLies f (F 3 0) (F 3 1) (A 6) (A 35) (A 36) (A 38) (A 39) (L 11) x1) = G301 at hE ⊢
        refine w_n 3 (pc1 := 57) (ls1 := [some (.ref 0), some (.int x1), some (.int x2), some (.int G301.1)]) (st1 := [.int 10, .int x2]) (hp1 := (hz F (uA (uA (uA (uA A 35 G301.2.1) 36 G301.2.2.1) 38 G301.2.2.2.1) 39 G301.2.2.2.2) L)) rfl ?_
        refine w_ne (p3 := 60) rfl rfl (fun h => absurd h2 h) (fun _ => ?_)
        refine w_n 1 (pc1 := 61) (ls1 := [some (.ref 0), some (.int x1), some (.int x2), some (.int G301.1)]) (st1 := [.int G301.1]) (hp1 := (hz F (uA (uA (uA (uA A 35 G301.2.1) 36 G301.2.2.1) 38 G301.2.2.2.1) 39 G301.2.2.2.2) L)) rfl ?_
        subst T
        exact w_ri rfl (cvQ rfl rfl rfl K)
      · have h3 : (F 3 0) = 6 := h
        rw [if_pos h3] at hE
        refine w_n 1 (pc1 := 44) (ls1 := [some (.ref 0), some (.int x1), some (.int x2), none]) (st1 := [.int (-3)]) (hp1 := (hz F A L)) rfl ?_
        subst T
        exact w_ri rfl (cvQ rfl (funext fun q => if k0 : q = 35 then by subst k0; exact Eq.trans (b := (A 35)) rfl rfl else if k1 : q = 36 then by subst k1; exact Eq.trans (b := (A 36)) rfl rfl else if k2 : q = 38 then by subst k2; exact Eq.trans (b := (A 38)) rfl rfl else if k3 : q = 39 then by subst k3; exact Eq.trans (b := (A 39)) rfl rfl else by unfold uA; simp only [nb1 k0, nb1 k1, nb1 k2, nb1 k3, cond_false]) rfl K)
    · have h2 : ¬ x2 = 10 := h
      rw [if_neg h2] at hE
      refine w_n 3 (pc1 := 22) (ls1 := [some (.ref 0), some (.int x1), some (.int x2), none]) (st1 := [.int x2, .ref 3]) (hp1 := (hz F A L)) rfl ?_
      refine w_c rfl rfl (t_kt_isMeasure ?_)
      show wl_E f _ _ mm114.2.2.2.2.2.2.2.2 25 [some (.ref 0), some (.int x1), some (.int x2), none] [.int (kt_isMeasure (F 3 0) x2)] (hz F A L) _
      generalize hG302 : (kt_isMeasure (F 3 0) x2) = G302 at hE ⊢
      refine w_zne (p3 := 28) rfl rfl (fun h => ?_) (fun h => ?_)
      · have h4 : ¬ G302 = 0 := h
        rw [if_neg h4] at hE
        refine w_n 4 (pc1 := 39) (ls1 := [some (.ref 0), some (.int x1), some (.int x2), none]) (st1 := [.int 6, .int (F 3 0)]) (hp1 := (hz F A L)) rfl ?_
        refine w_ne (p3 := 42) rfl rfl (fun h => ?_) (fun h => ?_)
        · have h5 : ¬ (F 3 0) = 6 := h
          rw [if_neg h5] at hE
          refine w_n 3 (pc1 := 50) (ls1 := [some (.ref 0), some (.int x1), some (.int x2), none]) (st1 := [.int x1, .ref 30]) (hp1 := (hz F A L)) rfl ?_
          refine w_c rfl rfl (t_kv_countLies hh0 ?_)
          show wl_E f _ _ mm114.2.2.2.2.2.2.2.2 53 [some (.ref 0), some (.int x1), some (.int x2), none] [.int (kv_countLies f (F 3 0) (F 3 1) (A 6) (A 35) (A 36) (A 38) (A 39) (L 11) x1).1] (hz F (uA (uA (uA (uA A 35 (kv_countLies f (F 3 0) (F 3 1) (A 6) (A 35) (A 36) (A 38) (A 39) (L 11) x1).2.1) 36 (kv_countLies f (F 3 0) (F 3 1) (A 6) (A 35) (A 36) (A 38) (A 39) (L 11) x1).2.2.1) 38 (kv_countLies f (F 3 0) (F 3 1) (A 6) (A 35) (A 36) (A 38) (A 39) (L 11) x1).2.2.2.1) 39 (kv_countLies f (F 3 0) (F 3 1) (A 6) (A 35) (A 36) (A 38) (A 39) (L 11) x1).2.2.2.2) L) _
          generalize hG303 : (kv_countLies f (F 3 0) (F 3 1) (A 6) (A 35) (A 36) (A 38) (A 39) (L 11) x1) = G303 at hE ⊢
          refine w_n 3 (pc1 := 57) (ls1 := [some (.ref 0), some (.int x1), some (.int x2), some (.int G303.1)]) (st1 := [.int 10, .int x2]) (hp1 := (hz F (uA (uA (uA (uA A 35 G303.2.1) 36 G303.2.2.1) 38 G303.2.2.2.1) 39 G303.2.2.2.2) L)) rfl ?_
          refine w_ne (p3 := 60) rfl rfl (fun _ => ?_) (fun h => absurd h h2)
          refine w_n 1 (pc1 := 63) (ls1 := [some (.ref 0), some (.int x1), some (.int x2), some (.int G303.1)]) (st1 := [.int G303.1]) (hp1 := (hz F (uA (uA (uA (uA A 35 G303.2.1) 36 G303.2.2.1) 38 G303.2.2.2.1) 39 G303.2.2.2.2) L)) rfl ?_
          refine w_zne (p3 := 66) rfl rfl (fun h => ?_) (fun h => ?_)
          · have h6 : ¬ G303.1 = 0 := h
            rw [if_neg h6] at hE
            refine w_n 4 (pc1 := 79) (ls1 := [some (.ref 0), some (.int x1), some (.int x2), some (.int G303.1)]) (st1 := [.int x2, .ref 39]) (hp1 := (hz F (uA (uA (uA (uA A 35 G303.2.1) 36 G303.2.2.1) 38 G303.2.2.2.1) 39 G303.2.2.2.2) L)) rfl ?_
            refine w_al (k := 39) (l := G303.2.2.2.2) rfl rfl rfl (fun _ => ?_)
            subst T
            exact w_ri rfl (cvQ rfl rfl rfl K)
          · have h6 : G303.1 = 0 := h
            rw [if_pos h6] at hE
            refine w_n 2 (pc1 := 80) (ls1 := [some (.ref 0), some (.int x1), some (.int x2), some (.int G303.1)]) (st1 := [.int (-2)]) (hp1 := (hz F (uA (uA (uA (uA A 35 G303.2.1) 36 G303.2.2.1) 38 G303.2.2.2.1) 39 G303.2.2.2.2) L)) rfl ?_
            subst T
            exact w_ri rfl (cvQ rfl rfl rfl K)
        · have h5 : (F 3 0) = 6 := h
          rw [if_pos h5] at hE
          refine w_n 1 (pc1 := 44) (ls1 := [some (.ref 0), some (.int x1), some (.int x2), none]) (st1 := [.int (-3)]) (hp1 := (hz F A L)) rfl ?_
          subst T
          exact w_ri rfl (cvQ rfl (funext fun q => if k0 : q = 35 then by subst k0; exact Eq.trans (b := (A 35)) rfl rfl else if k1 : q = 36 then by subst k1; exact Eq.trans (b := (A 36)) rfl rfl else if k2 : q = 38 then by subst k2; exact Eq.trans (b := (A 38)) rfl rfl else if k3 : q = 39 then by subst k3; exact Eq.trans (b := (A 39)) rfl rfl else by unfold uA; simp only [nb1 k0, nb1 k1, nb1 k2, nb1 k3, cond_false]) rfl K)
      · have h4 : G302 = 0 := h
        rw [if_pos h4] at hE
        refine w_n 1 (pc1 := 29) (ls1 := [some (.ref 0), some (.int x1), some (.int x2), none]) (st1 := [.int (-1)]) (hp1 := (hz F A L)) rfl ?_
        subst T
        exact w_ri rfl (cvQ rfl (funext fun q => if k0 : q = 35 then by subst k0; exact Eq.trans (b := (A 35)) rfl rfl else if k1 : q = 36 then by subst k1; exact Eq.trans (b := (A 36)) rfl rfl else if k2 : q = 38 then by subst k2; exact Eq.trans (b := (A 38)) rfl rfl else if k3 : q = 39 then by subst k3; exact Eq.trans (b := (A 39)) rfl rfl else by unfold uA; simp only [nb1 k0, nb1 k1, nb1 k2, nb1 k3, cond_false]) rfl K)
noncomputable def km_lie_44 (a68 : List Int32) (x1 : Int32) : Nat → Int32 → List Int32 → List Int32
  | 0, _, a94 => a94
  | m + 1, y4, a94 => (km_lie_44 a68 x1 m (y4 + 1) (a94.set y4.toInt.toNat (km_placeOf a68 x1 y4)))
theorem t_km_lie_44 {f : Nat} {Q : Option Value → sm_H → Prop} : ∀ (m : Nat) {B D : Nat} {F : Nat → Nat → Int32} {A : Nat → List Int32} {L : Nat → List Int64} {x1 : Int32} {x2 : Int32} {x3 : Int32} {y4 : Int32} {o5 : Option Value} {o6 : Option Value}, m = (6 - y4.toInt).toNat → (∀ q4 : Int32, wl_E f B D mm234.2.2.2.2.2.2.2.2 71 [some (.ref 67), some (.int x1), some (.int x2), some (.int x3), some (.int q4), o5, o6] [] (hz F (uA A 94 (km_lie_44 (A 68) x1 m y4 (A 94))) L) Q) → wl_E f B D mm234.2.2.2.2.2.2.2.2 44 [some (.ref 67), some (.int x1), some (.int x2), some (.int x3), some (.int y4), o5, o6] [] (hz F A L) Q := by
  intro m
  induction m with
  | zero =>
    intro B D F A L x1 x2 x3 y4 o5 o6 hm K
    generalize hT : (km_lie_44 (A 68) x1 0 y4 (A 94)) = T at K
    have hE : T = (A 94) := hT.symm
    clear hT
    refine w_n 2 (pc1 := 48) (ls1 := [some (.ref 67), some (.int x1), some (.int x2), some (.int x3), some (.int y4), o5, o6]) (st1 := [.int 6, .int y4]) (hp1 := (hz F A L)) rfl ?_
    refine w_ge (p3 := 51) rfl rfl (fun hb => ?_) (fun h => False.elim (by have h : y4.toInt < 6 := h; omega))
    subst T
    exact cvE rfl (funext fun q => if k0 : q = 94 then by subst k0; exact Eq.trans (b := (A 94)) rfl rfl else by unfold uA; simp only [nb1 k0, cond_false]) rfl (K _)
  | succ m ih =>
    intro B D F A L x1 x2 x3 y4 o5 o6 hm K
    generalize hT : (km_lie_44 (A 68) x1 (m + 1) y4 (A 94)) = T at K
    have hE : T = (km_lie_44 (A 68) x1 m (y4 + 1) ((A 94).set y4.toInt.toNat (km_placeOf (A 68) x1 y4))) := hT.symm
    clear hT
    refine w_n 2 (pc1 := 48) (ls1 := [some (.ref 67), some (.int x1), some (.int x2), some (.int x3), some (.int y4), o5, o6]) (st1 := [.int 6, .int y4]) (hp1 := (hz F A L)) rfl ?_
    refine w_ge (p3 := 51) rfl rfl (fun h => False.elim (by have h : 6 ≤ y4.toInt := h; omega)) (fun hb => ?_)
    refine w_n 6 (pc1 := 61) (ls1 := [some (.ref 67), some (.int x1), some (.int x2), some (.int x3), some (.int y4), o5, o6]) (st1 := [.int y4, .int x1, .ref 67, .int y4, .ref 94]) (hp1 := (hz F A L)) rfl ?_
    refine w_c rfl rfl (t_km_placeOf ?_)
    show wl_E f _ _ mm234.2.2.2.2.2.2.2.2 64 [some (.ref 67), some (.int x1), some (.int x2), some (.int x3), some (.int y4), o5, o6] [.int (km_placeOf (A 68) x1 y4), .int y4, .ref 94] (hz F A L) _
    generalize hG306 : (km_placeOf (A 68) x1 y4) = G306 at hE ⊢
    refine w_as (k := 94) (l := (A 94)) (hp1 := (hz F (uA A 94 ((A 94).set y4.toInt.toNat G306)) L)) rfl rfl rfl (hz_s94 _) (fun ab => ?_)
    refine w_n 2 (pc1 := 44) (ls1 := [some (.ref 67), some (.int x1), some (.int x2), some (.int x3), some (.int (y4 + 1)), o5, o6]) (st1 := []) (hp1 := (hz F (uA A 94 ((A 94).set y4.toInt.toNat G306)) L)) rfl ?_
    subst T
    have hb2 := i_up (B := (6 : Int32)) hb
    have hb3 : y4.toInt < 6 := hb
    exact ih (show m = (6 - (y4 + 1).toInt).toNat by rw [hb2]; omega) (fun q4 => cvE rfl (funext fun q => if k0 : q = 94 then by subst k0; exact Eq.trans (b := (km_lie_44 (A 68) x1 m (y4 + 1) ((A 94).set y4.toInt.toNat G306))) rfl rfl else by unfold uA; simp only [nb1 k0, cond_false]) rfl (K q4))
noncomputable def km_lie_89 (a92 : List Int32) (x1 : Int32) : Nat → Int32 → List Int32 → List Int32
  | 0, _, a68 => a68
  | m + 1, y6, a68 => (km_lie_89 a92 x1 m (y6 + 1) (a68.set ((72 + (6 * x1)) + (a92.getD y6.toInt.toNat 0)).toInt.toNat y6))
theorem t_km_lie_89 {f : Nat} {Q : Option Value → sm_H → Prop} : ∀ (m : Nat) {B D : Nat} {F : Nat → Nat → Int32} {A : Nat → List Int32} {L : Nat → List Int64} {x1 : Int32} {x2 : Int32} {x3 : Int32} {x4 : Int32} {x5 : Int32} {y6 : Int32}, m = ((F 67 3).toInt - y6.toInt).toNat → (∀ q6 : Int32, wl_E f B D mm234.2.2.2.2.2.2.2.2 126 [some (.ref 67), some (.int x1), some (.int x2), some (.int x3), some (.int x4), some (.int x5), some (.int q6)] [] (hz F (uA A 68 (km_lie_89 (A 92) x1 m y6 (A 68))) L) Q) → wl_E f B D mm234.2.2.2.2.2.2.2.2 89 [some (.ref 67), some (.int x1), some (.int x2), some (.int x3), some (.int x4), some (.int x5), some (.int y6)] [] (hz F A L) Q := by
  intro m
  induction m with
  | zero =>
    intro B D F A L x1 x2 x3 x4 x5 y6 hm K
    generalize hT : (km_lie_89 (A 92) x1 0 y6 (A 68)) = T at K
    have hE : T = (A 68) := hT.symm
    clear hT
    refine w_n 3 (pc1 := 95) (ls1 := [some (.ref 67), some (.int x1), some (.int x2), some (.int x3), some (.int x4), some (.int x5), some (.int y6)]) (st1 := [.int (F 67 3), .int y6]) (hp1 := (hz F A L)) rfl ?_
    refine w_ge (p3 := 98) rfl rfl (fun hb => ?_) (fun h => False.elim (by have h : y6.toInt < (F 67 3).toInt := h; omega))
    subst T
    exact cvE rfl (funext fun q => if k0 : q = 68 then by subst k0; exact Eq.trans (b := (A 68)) rfl rfl else by unfold uA; simp only [nb1 k0, cond_false]) rfl (K _)
  | succ m ih =>
    intro B D F A L x1 x2 x3 x4 x5 y6 hm K
    generalize hT : (km_lie_89 (A 92) x1 (m + 1) y6 (A 68)) = T at K
    have hE : T = (km_lie_89 (A 92) x1 m (y6 + 1) ((A 68).set ((72 + (6 * x1)) + ((A 92).getD y6.toInt.toNat 0)).toInt.toNat y6)) := hT.symm
    clear hT
    refine w_n 3 (pc1 := 95) (ls1 := [some (.ref 67), some (.int x1), some (.int x2), some (.int x3), some (.int x4), some (.int x5), some (.int y6)]) (st1 := [.int (F 67 3), .int y6]) (hp1 := (hz F A L)) rfl ?_
    refine w_ge (p3 := 98) rfl rfl (fun h => False.elim (by have h : (F 67 3).toInt ≤ y6.toInt := h; omega)) (fun hb => ?_)
    refine w_n 10 (pc1 := 115) (ls1 := [some (.ref 67), some (.int x1), some (.int x2), some (.int x3), some (.int x4), some (.int x5), some (.int y6)]) (st1 := [.int y6, .ref 92, .int (72 + (6 * x1)), .ref 68]) (hp1 := (hz F A L)) rfl ?_
    refine w_al (k := 92) (l := (A 92)) rfl rfl rfl (fun ab => ?_)
    refine w_n 2 (pc1 := 119) (ls1 := [some (.ref 67), some (.int x1), some (.int x2), some (.int x3), some (.int x4), some (.int x5), some (.int y6)]) (st1 := [.int y6, .int ((72 + (6 * x1)) + ((A 92).getD y6.toInt.toNat 0)), .ref 68]) (hp1 := (hz F A L)) rfl ?_
    refine w_as (k := 68) (l := (A 68)) (hp1 := (hz F (uA A 68 ((A 68).set ((72 + (6 * x1)) + ((A 92).getD y6.toInt.toNat 0)).toInt.toNat y6)) L)) rfl rfl rfl (hz_s68 _) (fun _ => ?_)
    refine w_n 2 (pc1 := 89) (ls1 := [some (.ref 67), some (.int x1), some (.int x2), some (.int x3), some (.int x4), some (.int x5), some (.int (y6 + 1))]) (st1 := []) (hp1 := (hz F (uA A 68 ((A 68).set ((72 + (6 * x1)) + ((A 92).getD y6.toInt.toNat 0)).toInt.toNat y6)) L)) rfl ?_
    subst T
    have hb2 := i_up (B := (F 67 3)) hb
    have hb3 : y6.toInt < (F 67 3).toInt := hb
    exact ih (show m = ((F 67 3).toInt - (y6 + 1).toInt).toNat by rw [hb2]; omega) (fun q6 => cvE rfl (funext fun q => if k0 : q = 68 then by subst k0; exact Eq.trans (b := (km_lie_89 (A 92) x1 m (y6 + 1) ((A 68).set ((72 + (6 * x1)) + ((A 92).getD y6.toInt.toNat 0)).toInt.toNat y6))) rfl rfl else by unfold uA; simp only [nb1 k0, cond_false]) rfl (K q6))
noncomputable def km_lie_81 (f : Nat) (f67_3 : Int32) (a94 : List Int32) (x1 : Int32) (x3 : Int32) : Nat → Int32 → Int32 → List Int32 → List Int32 → List Int32 → List Int32 → List Int32 → Int32 × List Int32 × List Int32 × List Int32 × List Int32 × List Int32
  | 0, y4, _, a68, a87, a89, a92, a93 => (y4, a68, a87, a89, a92, a93)
  | m + 1, y4, y5, a68, a87, a89, a92, a93 => (if y5 = 0 then (y4, a68, a87, a89, a92, a93) else (if (a94.getD (km_runsOff f f67_3 (km_lie_89 a92 x1 f67_3.toInt.toNat 0 a68) a87 a89).1.toInt.toNat 0).toInt < (a94.getD x3.toInt.toNat 0).toInt then (if y4 = 0 then (km_lie_81 f f67_3 a94 x1 x3 m (y4 + 1) (km_goesNext f a92 f67_3).1 (km_lie_89 a92 x1 f67_3.toInt.toNat 0 a68) (km_runsOff f f67_3 (km_lie_89 a92 x1 f67_3.toInt.toNat 0 a68) a87 a89).2.1 (km_runsOff f f67_3 (km_lie_89 a92 x1 f67_3.toInt.toNat 0 a68) a87 a89).2.2 (km_goesNext f a92 f67_3).2 (km_keepsRow f67_3 a92 a93)) else (km_lie_81 f f67_3 a94 x1 x3 m (y4 + 1) (km_goesNext f a92 f67_3).1 (km_lie_89 a92 x1 f67_3.toInt.toNat 0 a68) (km_runsOff f f67_3 (km_lie_89 a92 x1 f67_3.toInt.toNat 0 a68) a87 a89).2.1 (km_runsOff f f67_3 (km_lie_89 a92 x1 f67_3.toInt.toNat 0 a68) a87 a89).2.2 (km_goesNext f a92 f67_3).2 a93)) else (km_lie_81 f f67_3 a94 x1 x3 m y4 (km_goesNext f a92 f67_3).1 (km_lie_89 a92 x1 f67_3.toInt.toNat 0 a68) (km_runsOff f f67_3 (km_lie_89 a92 x1 f67_3.toInt.toNat 0 a68) a87 a89).2.1 (km_runsOff f f67_3 (km_lie_89 a92 x1 f67_3.toInt.toNat 0 a68) a87 a89).2.2 (km_goesNext f a92 f67_3).2 a93)))
theorem t_km_lie_81 {f : Nat} {Q : Option Value → sm_H → Prop} : ∀ (m : Nat) (B : Nat) {D : Nat} {F : Nat → Nat → Int32} {A : Nat → List Int32} {L : Nat → List Int64} {x1 : Int32} {x2 : Int32} {x3 : Int32} {y4 : Int32} {y5 : Int32} {o6 : Option Value}, B ≤ m → (∀ q5 : Int32, ∀ q6 : Option Value, wl_E f B D mm234.2.2.2.2.2.2.2.2 172 [some (.ref 67), some (.int x1), some (.int x2), some (.int x3), some (.int ((km_lie_81 f (F 67 3) (A 94) x1 x3 m y4 y5 (A 68) (A 87) (A 89) (A 92) (A 93)).1)), some (.int q5), q6] [] (hz F (uA (uA (uA (uA (uA A 68 ((km_lie_81 f (F 67 3) (A 94) x1 x3 m y4 y5 (A 68) (A 87) (A 89) (A 92) (A 93)).2.1)) 87 ((km_lie_81 f (F 67 3) (A 94) x1 x3 m y4 y5 (A 68) (A 87) (A 89) (A 92) (A 93)).2.2.1)) 89 ((km_lie_81 f (F 67 3) (A 94) x1 x3 m y4 y5 (A 68) (A 87) (A 89) (A 92) (A 93)).2.2.2.1)) 92 ((km_lie_81 f (F 67 3) (A 94) x1 x3 m y4 y5 (A 68) (A 87) (A 89) (A 92) (A 93)).2.2.2.2.1)) 93 ((km_lie_81 f (F 67 3) (A 94) x1 x3 m y4 y5 (A 68) (A 87) (A 89) (A 92) (A 93)).2.2.2.2.2)) L) Q) → wl_E f B D mm234.2.2.2.2.2.2.2.2 81 [some (.ref 67), some (.int x1), some (.int x2), some (.int x3), some (.int y4), some (.int y5), o6] [] (hz F A L) Q := by
  intro m
  induction m with
  | zero =>
    intro B D F A L x1 x2 x3 y4 y5 o6 hm K
    rw [show B = 0 by omega]
    exact w_0
  | succ m ih =>
    intro B D F A L x1 x2 x3 y4 y5 o6 hm K
    cases B with
    | zero => exact w_0
    | succ B =>
      generalize hT : (km_lie_81 f (F 67 3) (A 94) x1 x3 (m + 1) y4 y5 (A 68) (A 87) (A 89) (A 92) (A 93)) = T at K
      have hE : T = (if y5 = 0 then (y4, (A 68), (A 87), (A 89), (A 92), (A 93)) else (if ((A 94).getD (km_runsOff f (F 67 3) (km_lie_89 (A 92) x1 (F 67 3).toInt.toNat 0 (A 68)) (A 87) (A 89)).1.toInt.toNat 0).toInt < ((A 94).getD x3.toInt.toNat 0).toInt then (if y4 = 0 then (km_lie_81 f (F 67 3) (A 94) x1 x3 m (y4 + 1) (km_goesNext f (A 92) (F 67 3)).1 (km_lie_89 (A 92) x1 (F 67 3).toInt.toNat 0 (A 68)) (km_runsOff f (F 67 3) (km_lie_89 (A 92) x1 (F 67 3).toInt.toNat 0 (A 68)) (A 87) (A 89)).2.1 (km_runsOff f (F 67 3) (km_lie_89 (A 92) x1 (F 67 3).toInt.toNat 0 (A 68)) (A 87) (A 89)).2.2 (km_goesNext f (A 92) (F 67 3)).2 (km_keepsRow (F 67 3) (A 92) (A 93))) else (km_lie_81 f (F 67 3) (A 94) x1 x3 m (y4 + 1) (km_goesNext f (A 92) (F 67 3)).1 (km_lie_89 (A 92) x1 (F 67 3).toInt.toNat 0 (A 68)) (km_runsOff f (F 67 3) (km_lie_89 (A 92) x1 (F 67 3).toInt.toNat 0 (A 68)) (A 87) (A 89)).2.1 (km_runsOff f (F 67 3) (km_lie_89 (A 92) x1 (F 67 3).toInt.toNat 0 (A 68)) (A 87) (A 89)).2.2 (km_goesNext f (A 92) (F 67 3)).2 (A 93))) else (km_lie_81 f (F 67 3) (A 94) x1 x3 m y4 (km_goesNext f (A 92) (F 67 3)).1 (km_lie_89 (A 92) x1 (F 67 3).toInt.toNat 0 (A 68)) (km_runsOff f (F 67 3) (km_lie_89 (A 92) x1 (F 67 3).toInt.toNat 0 (A 68)) (A 87) (A 89)).2.1 (km_runsOff f (F 67 3) (km_lie_89 (A 92) x1 (F 67 3).toInt.toNat 0 (A 68)) (A 87) (A 89)).2.2 (km_goesNext f (A 92) (F 67 3)).2 (A 93)))) := hT.symm
      clear hT
      refine w_n1 (pc1 := 83) (ls1 := [some (.ref 67), some (.int x1), some (.int x2), some (.int x3), some (.int y4), some (.int y5), o6]) (st1 := [.int y5]) (hp1 := (hz F A L)) rfl ?_
      refine w_zeq (p3 := 86) rfl rfl (fun h => ?_) (fun h => ?_)
      · have h1 : y5 = 0 := h
        rw [if_pos h1] at hE
        subst T
        exact cvE rfl (funext fun q => if k0 : q = 68 then by subst k0; exact Eq.trans (b := (A 68)) rfl rfl else if k1 : q = 87 then by subst k1; exact Eq.trans (b := (A 87)) rfl rfl else if k2 : q = 89 then by subst k2; exact Eq.trans (b := (A 89)) rfl rfl else if k3 : q = 92 then by subst k3; exact Eq.trans (b := (A 92)) rfl rfl else if k4 : q = 93 then by subst k4; exact Eq.trans (b := (A 93)) rfl rfl else by unfold uA; simp only [nb1 k0, nb1 k1, nb1 k2, nb1 k3, nb1 k4, cond_false]) rfl (wl_le (Nat.le_succ _) (K _ _))
      · have h1 : ¬ y5 = 0 := h
        rw [if_neg h1] at hE
        refine w_n 2 (pc1 := 89) (ls1 := [some (.ref 67), some (.int x1), some (.int x2), some (.int x3), some (.int y4), some (.int y5), some (.int 0)]) (st1 := []) (hp1 := (hz F A L)) rfl ?_
        refine t_km_lie_89 (F 67 3).toInt.toNat (show (F 67 3).toInt.toNat = ((F 67 3).toInt - (0 : Int32).toInt).toNat by have e0 : (0 : Int32).toInt = 0 := rfl; first | rfl | omega) ?_
        intro r1
        show wl_E f _ _ mm234.2.2.2.2.2.2.2.2 126 [some (.ref 67), some (.int x1), some (.int x2), some (.int x3), some (.int y4), some (.int y5), some (.int r1)] [] (hz F (uA A 68 (km_lie_89 (A 92) x1 (F 67 3).toInt.toNat 0 (A 68))) L) _
        generalize hG309 : (km_lie_89 (A 92) x1 (F 67 3).toInt.toNat 0 (A 68)) = G309 at hE ⊢
        refine w_n 3 (pc1 := 131) (ls1 := [some (.ref 67), some (.int x1), some (.int x2), some (.int x3), some (.int y4), some (.int y5), some (.int r1)]) (st1 := [.ref 67, .ref 94]) (hp1 := (hz F (uA A 68 G309) L)) rfl ?_
        refine w_c rfl rfl (t_km_runsOff ?_)
        show wl_E f _ _ mm234.2.2.2.2.2.2.2.2 134 [some (.ref 67), some (.int x1), some (.int x2), some (.int x3), some (.int y4), some (.int y5), some (.int r1)] [.int (km_runsOff f (F 67 3) G309 (A 87) (A 89)).1, .ref 94] (hz F (uA (uA (uA A 68 G309) 87 (km_runsOff f (F 67 3) G309 (A 87) (A 89)).2.1) 89 (km_runsOff f (F 67 3) G309 (A 87) (A 89)).2.2) L) _
        generalize hG310 : (km_runsOff f (F 67 3) G309 (A 87) (A 89)) = G310 at hE ⊢
        refine w_al (k := 94) (l := (A 94)) rfl rfl rfl (fun _ => ?_)
        refine w_n 3 (pc1 := 140) (ls1 := [some (.ref 67), some (.int x1), some (.int x2), some (.int x3), some (.int y4), some (.int y5), some (.int r1)]) (st1 := [.int x3, .ref 94, .int ((A 94).getD G310.1.toInt.toNat 0)]) (hp1 := (hz F (uA (uA (uA A 68 G309) 87 G310.2.1) 89 G310.2.2) L)) rfl ?_
        refine w_al (k := 94) (l := (A 94)) rfl rfl rfl (fun _ => ?_)
        refine w_ge (p3 := 144) rfl rfl (fun h => ?_) (fun h => ?_)
        · have h2 : ((A 94).getD x3.toInt.toNat 0).toInt ≤ ((A 94).getD G310.1.toInt.toNat 0).toInt := h
          rw [if_neg (Int.not_lt.mpr h2)] at hE
          refine w_n 3 (pc1 := 164) (ls1 := [some (.ref 67), some (.int x1), some (.int x2), some (.int x3), some (.int y4), some (.int y5), some (.int r1)]) (st1 := [.int (F 67 3), .ref 67]) (hp1 := (hz F (uA (uA (uA A 68 G309) 87 G310.2.1) 89 G310.2.2) L)) rfl ?_
          refine w_c rfl rfl (t_km_goesNext ?_)
          show wl_E f _ _ mm234.2.2.2.2.2.2.2.2 167 [some (.ref 67), some (.int x1), some (.int x2), some (.int x3), some (.int y4), some (.int y5), some (.int r1)] [.int (km_goesNext f (A 92) (F 67 3)).1] (hz F (uA (uA (uA (uA A 68 G309) 87 G310.2.1) 89 G310.2.2) 92 (km_goesNext f (A 92) (F 67 3)).2) L) _
          generalize hG311 : (km_goesNext f (A 92) (F 67 3)) = G311 at hE ⊢
          refine w_n 2 (pc1 := 81) (ls1 := [some (.ref 67), some (.int x1), some (.int x2), some (.int x3), some (.int y4), some (.int G311.1), some (.int r1)]) (st1 := []) (hp1 := (hz F (uA (uA (uA (uA A 68 G309) 87 G310.2.1) 89 G310.2.2) 92 G311.2) L)) rfl ?_
          subst T
          exact ih _ (by omega) (fun q5 q6 => cvE rfl (funext fun q => if k0 : q = 68 then by subst k0; exact Eq.trans (b := (km_lie_81 f (F 67 3) (A 94) x1 x3 m y4 G311.1 G309 G310.2.1 G310.2.2 G311.2 (A 93)).2.1) rfl rfl else if k1 : q = 87 then by subst k1; exact Eq.trans (b := (km_lie_81 f (F 67 3) (A 94) x1 x3 m y4 G311.1 G309 G310.2.1 G310.2.2 G311.2 (A 93)).2.2.1) rfl rfl else if k2 : q = 89 then by subst k2; exact Eq.trans (b := (km_lie_81 f (F 67 3) (A 94) x1 x3 m y4 G311.1 G309 G310.2.1 G310.2.2 G311.2 (A 93)).2.2.2.1) rfl rfl else if k3 : q = 92 then by subst k3; exact Eq.trans (b := (km_lie_81 f (F 67 3) (A 94) x1 x3 m y4 G311.1 G309 G310.2.1 G310.2.2 G311.2 (A 93)).2.2.2.2.1) rfl rfl else if k4 : q = 93 then by subst k4; exact Eq.trans (b := (km_lie_81 f (F 67 3) (A 94) x1 x3 m y4 G311.1 G309 G310.2.1 G310.2.2 G311.2 (A 93)).2.2.2.2.2) rfl rfl else by unfold uA; simp only [nb1 k0, nb1 k1, nb1 k2, nb1 k3, nb1 k4, cond_false]) rfl (wl_le (Nat.le_succ _) (K q5 q6)))
        · have h2 : ((A 94).getD G310.1.toInt.toNat 0).toInt < ((A 94).getD x3.toInt.toNat 0).toInt := h
          rw [if_pos h2] at hE
          refine w_n 1 (pc1 := 146) (ls1 := [some (.ref 67), some (.int x1), some (.int x2), some (.int x3), some (.int y4), some (.int y5), some (.int r1)]) (st1 := [.int y4]) (hp1 := (hz F (uA (uA (uA A 68 G309) 87 G310.2.1) 89 G310.2.2) L)) rfl ?_
          refine w_zne (p3 := 149) rfl rfl (fun h => ?_) (fun h => ?_)
          · have h3 : ¬ y4 = 0 := h
            rw [if_neg h3] at hE
            refine w_n 7 (pc1 := 164) (ls1 := [some (.ref 67), some (.int x1), some (.int x2), some (.int x3), some (.int (y4 + 1)), some (.int y5), some (.int r1)]) (st1 := [.int (F 67 3), .ref 67]) (hp1 := (hz F (uA (uA (uA A 68 G309) 87 G310.2.1) 89 G310.2.2) L)) rfl ?_
            refine w_c rfl rfl (t_km_goesNext ?_)
            show wl_E f _ _ mm234.2.2.2.2.2.2.2.2 167 [some (.ref 67), some (.int x1), some (.int x2), some (.int x3), some (.int (y4 + 1)), some (.int y5), some (.int r1)] [.int (km_goesNext f (A 92) (F 67 3)).1] (hz F (uA (uA (uA (uA A 68 G309) 87 G310.2.1) 89 G310.2.2) 92 (km_goesNext f (A 92) (F 67 3)).2) L) _
            generalize hG312 : (km_goesNext f (A 92) (F 67 3)) = G312 at hE ⊢
            refine w_n 2 (pc1 := 81) (ls1 := [some (.ref 67), some (.int x1), some (.int x2), some (.int x3), some (.int (y4 + 1)), some (.int G312.1), some (.int r1)]) (st1 := []) (hp1 := (hz F (uA (uA (uA (uA A 68 G309) 87 G310.2.1) 89 G310.2.2) 92 G312.2) L)) rfl ?_
            subst T
            exact ih _ (by omega) (fun q5 q6 => cvE rfl (funext fun q => if k0 : q = 68 then by subst k0; exact Eq.trans (b := (km_lie_81 f (F 67 3) (A 94) x1 x3 m (y4 + 1) G312.1 G309 G310.2.1 G310.2.2 G312.2 (A 93)).2.1) rfl rfl else if k1 : q = 87 then by subst k1; exact Eq.trans (b := (km_lie_81 f (F 67 3) (A 94) x1 x3 m (y4 + 1) G312.1 G309 G310.2.1 G310.2.2 G312.2 (A 93)).2.2.1) rfl rfl else if k2 : q = 89 then by subst k2; exact Eq.trans (b := (km_lie_81 f (F 67 3) (A 94) x1 x3 m (y4 + 1) G312.1 G309 G310.2.1 G310.2.2 G312.2 (A 93)).2.2.2.1) rfl rfl else if k3 : q = 92 then by subst k3; exact Eq.trans (b := (km_lie_81 f (F 67 3) (A 94) x1 x3 m (y4 + 1) G312.1 G309 G310.2.1 G310.2.2 G312.2 (A 93)).2.2.2.2.1) rfl rfl else if k4 : q = 93 then by subst k4; exact Eq.trans (b := (km_lie_81 f (F 67 3) (A 94) x1 x3 m (y4 + 1) G312.1 G309 G310.2.1 G310.2.2 G312.2 (A 93)).2.2.2.2.2) rfl rfl else by unfold uA; simp only [nb1 k0, nb1 k1, nb1 k2, nb1 k3, nb1 k4, cond_false]) rfl (wl_le (Nat.le_succ _) (K q5 q6)))
          · have h3 : y4 = 0 := h
            rw [if_pos h3] at hE
            refine w_n 1 (pc1 := 150) (ls1 := [some (.ref 67), some (.int x1), some (.int x2), some (.int x3), some (.int y4), some (.int y5), some (.int r1)]) (st1 := [.ref 67]) (hp1 := (hz F (uA (uA (uA A 68 G309) 87 G310.2.1) 89 G310.2.2) L)) rfl ?_
            refine w_c rfl rfl (t_km_keepsRow ?_)
            show wl_E f _ _ mm234.2.2.2.2.2.2.2.2 153 [some (.ref 67), some (.int x1), some (.int x2), some (.int x3), some (.int y4), some (.int y5), some (.int r1)] [] (hz F (uA (uA (uA (uA A 68 G309) 87 G310.2.1) 89 G310.2.2) 93 (km_keepsRow (F 67 3) (A 92) (A 93))) L) _
            generalize hG313 : (km_keepsRow (F 67 3) (A 92) (A 93)) = G313 at hE ⊢
            refine w_n 7 (pc1 := 164) (ls1 := [some (.ref 67), some (.int x1), some (.int x2), some (.int x3), some (.int (y4 + 1)), some (.int y5), some (.int r1)]) (st1 := [.int (F 67 3), .ref 67]) (hp1 := (hz F (uA (uA (uA (uA A 68 G309) 87 G310.2.1) 89 G310.2.2) 93 G313) L)) rfl ?_
            refine w_c rfl rfl (t_km_goesNext ?_)
            show wl_E f _ _ mm234.2.2.2.2.2.2.2.2 167 [some (.ref 67), some (.int x1), some (.int x2), some (.int x3), some (.int (y4 + 1)), some (.int y5), some (.int r1)] [.int (km_goesNext f (A 92) (F 67 3)).1] (hz F (uA (uA (uA (uA (uA A 68 G309) 87 G310.2.1) 89 G310.2.2) 93 G313) 92 (km_goesNext f (A 92) (F 67 3)).2) L) _
            generalize hG314 : (km_goesNext f (A 92) (F 67 3)) = G314 at hE ⊢
            refine w_n 2 (pc1 := 81) (ls1 := [some (.ref 67), some (.int x1), some (.int x2), some (.int x3), some (.int (y4 + 1)), some (.int G314.1), some (.int r1)]) (st1 := []) (hp1 := (hz F (uA (uA (uA (uA (uA A 68 G309) 87 G310.2.1) 89 G310.2.2) 93 G313) 92 G314.2) L)) rfl ?_
            subst T
            exact ih _ (by omega) (fun q5 q6 => cvE rfl (funext fun q => if k0 : q = 68 then by subst k0; exact Eq.trans (b := (km_lie_81 f (F 67 3) (A 94) x1 x3 m (y4 + 1) G314.1 G309 G310.2.1 G310.2.2 G314.2 G313).2.1) rfl rfl else if k1 : q = 87 then by subst k1; exact Eq.trans (b := (km_lie_81 f (F 67 3) (A 94) x1 x3 m (y4 + 1) G314.1 G309 G310.2.1 G310.2.2 G314.2 G313).2.2.1) rfl rfl else if k2 : q = 89 then by subst k2; exact Eq.trans (b := (km_lie_81 f (F 67 3) (A 94) x1 x3 m (y4 + 1) G314.1 G309 G310.2.1 G310.2.2 G314.2 G313).2.2.2.1) rfl rfl else if k3 : q = 92 then by subst k3; exact Eq.trans (b := (km_lie_81 f (F 67 3) (A 94) x1 x3 m (y4 + 1) G314.1 G309 G310.2.1 G310.2.2 G314.2 G313).2.2.2.2.1) rfl rfl else if k4 : q = 93 then by subst k4; exact Eq.trans (b := (km_lie_81 f (F 67 3) (A 94) x1 x3 m (y4 + 1) G314.1 G309 G310.2.1 G310.2.2 G314.2 G313).2.2.2.2.2) rfl rfl else by unfold uA; simp only [nb1 k0, nb1 k1, nb1 k2, nb1 k3, nb1 k4, cond_false]) rfl (wl_le (Nat.le_succ _) (K q5 q6)))
noncomputable def km_lie_175 (a94 : List Int32) (x1 : Int32) : Nat → Int32 → List Int32 → List Int32
  | 0, _, a68 => a68
  | m + 1, y6, a68 => (km_lie_175 a94 x1 m (y6 + 1) (a68.set ((72 + (6 * x1)) + y6).toInt.toNat (a94.getD y6.toInt.toNat 0)))
theorem t_km_lie_175 {f : Nat} {Q : Option Value → sm_H → Prop} : ∀ (m : Nat) {B D : Nat} {F : Nat → Nat → Int32} {A : Nat → List Int32} {L : Nat → List Int64} {x1 : Int32} {x2 : Int32} {x3 : Int32} {x4 : Int32} {x5 : Int32} {y6 : Int32}, m = (6 - y6.toInt).toNat → (∀ q6 : Int32, wl_E f B D mm234.2.2.2.2.2.2.2.2 210 [some (.ref 67), some (.int x1), some (.int x2), some (.int x3), some (.int x4), some (.int x5), some (.int q6)] [] (hz F (uA A 68 (km_lie_175 (A 94) x1 m y6 (A 68))) L) Q) → wl_E f B D mm234.2.2.2.2.2.2.2.2 175 [some (.ref 67), some (.int x1), some (.int x2), some (.int x3), some (.int x4), some (.int x5), some (.int y6)] [] (hz F A L) Q := by
  intro m
  induction m with
  | zero =>
    intro B D F A L x1 x2 x3 x4 x5 y6 hm K
    generalize hT : (km_lie_175 (A 94) x1 0 y6 (A 68)) = T at K
    have hE : T = (A 68) := hT.symm
    clear hT
    refine w_n 2 (pc1 := 179) (ls1 := [some (.ref 67), some (.int x1), some (.int x2), some (.int x3), some (.int x4), some (.int x5), some (.int y6)]) (st1 := [.int 6, .int y6]) (hp1 := (hz F A L)) rfl ?_
    refine w_ge (p3 := 182) rfl rfl (fun hb => ?_) (fun h => False.elim (by have h : y6.toInt < 6 := h; omega))
    subst T
    exact cvE rfl (funext fun q => if k0 : q = 68 then by subst k0; exact Eq.trans (b := (A 68)) rfl rfl else by unfold uA; simp only [nb1 k0, cond_false]) rfl (K _)
  | succ m ih =>
    intro B D F A L x1 x2 x3 x4 x5 y6 hm K
    generalize hT : (km_lie_175 (A 94) x1 (m + 1) y6 (A 68)) = T at K
    have hE : T = (km_lie_175 (A 94) x1 m (y6 + 1) ((A 68).set ((72 + (6 * x1)) + y6).toInt.toNat ((A 94).getD y6.toInt.toNat 0))) := hT.symm
    clear hT
    refine w_n 2 (pc1 := 179) (ls1 := [some (.ref 67), some (.int x1), some (.int x2), some (.int x3), some (.int x4), some (.int x5), some (.int y6)]) (st1 := [.int 6, .int y6]) (hp1 := (hz F A L)) rfl ?_
    refine w_ge (p3 := 182) rfl rfl (fun h => False.elim (by have h : 6 ≤ y6.toInt := h; omega)) (fun hb => ?_)
    refine w_n 12 (pc1 := 202) (ls1 := [some (.ref 67), some (.int x1), some (.int x2), some (.int x3), some (.int x4), some (.int x5), some (.int y6)]) (st1 := [.int y6, .ref 94, .int ((72 + (6 * x1)) + y6), .ref 68]) (hp1 := (hz F A L)) rfl ?_
    refine w_al (k := 94) (l := (A 94)) rfl rfl rfl (fun ab => ?_)
    refine w_as (k := 68) (l := (A 68)) (hp1 := (hz F (uA A 68 ((A 68).set ((72 + (6 * x1)) + y6).toInt.toNat ((A 94).getD y6.toInt.toNat 0))) L)) rfl rfl rfl (hz_s68 _) (fun _ => ?_)
    refine w_n 2 (pc1 := 175) (ls1 := [some (.ref 67), some (.int x1), some (.int x2), some (.int x3), some (.int x4), some (.int x5), some (.int (y6 + 1))]) (st1 := []) (hp1 := (hz F (uA A 68 ((A 68).set ((72 + (6 * x1)) + y6).toInt.toNat ((A 94).getD y6.toInt.toNat 0))) L)) rfl ?_
    subst T
    have hb2 := i_up (B := (6 : Int32)) hb
    have hb3 : y6.toInt < 6 := hb
    exact ih (show m = (6 - (y6 + 1).toInt).toNat by rw [hb2]; omega) (fun q6 => cvE rfl (funext fun q => if k0 : q = 68 then by subst k0; exact Eq.trans (b := (km_lie_175 (A 94) x1 m (y6 + 1) ((A 68).set ((72 + (6 * x1)) + y6).toInt.toNat ((A 94).getD y6.toInt.toNat 0)))) rfl rfl else by unfold uA; simp only [nb1 k0, cond_false]) rfl (K q6))
noncomputable def km_lie (f : Nat) (f67_3 : Int32) (a68 : List Int32) (a87 : List Int32) (a89 : List Int32) (a92 : List Int32) (a93 : List Int32) (a94 : List Int32) (x1 : Int32) (x2 : Int32) : Int32 × List Int32 × List Int32 × List Int32 × List Int32 × List Int32 × List Int32 := (if (km_isGuest a68 x1) = 0 then ((-1), a68, a87, a89, a92, a93, a94) else (if x2 = 10 then (if f67_3 = 6 then ((-3), a68, a87, a89, a92, a93, a94) else ((km_lie_81 f f67_3 (km_lie_44 a68 x1 6 0 a94) x1 (km_runsOff f f67_3 a68 a87 a89).1 f 0 1 a68 (km_runsOff f f67_3 a68 a87 a89).2.1 (km_runsOff f f67_3 a68 a87 a89).2.2 (km_beginsRows f67_3 a92) a93).1, (km_lie_175 (km_lie_44 a68 x1 6 0 a94) x1 6 0 (km_lie_81 f f67_3 (km_lie_44 a68 x1 6 0 a94) x1 (km_runsOff f f67_3 a68 a87 a89).1 f 0 1 a68 (km_runsOff f f67_3 a68 a87 a89).2.1 (km_runsOff f f67_3 a68 a87 a89).2.2 (km_beginsRows f67_3 a92) a93).2.1), (km_lie_81 f f67_3 (km_lie_44 a68 x1 6 0 a94) x1 (km_runsOff f f67_3 a68 a87 a89).1 f 0 1 a68 (km_runsOff f f67_3 a68 a87 a89).2.1 (km_runsOff f f67_3 a68 a87 a89).2.2 (km_beginsRows f67_3 a92) a93).2.2.1, (km_lie_81 f f67_3 (km_lie_44 a68 x1 6 0 a94) x1 (km_runsOff f f67_3 a68 a87 a89).1 f 0 1 a68 (km_runsOff f f67_3 a68 a87 a89).2.1 (km_runsOff f f67_3 a68 a87 a89).2.2 (km_beginsRows f67_3 a92) a93).2.2.2.1, (km_lie_81 f f67_3 (km_lie_44 a68 x1 6 0 a94) x1 (km_runsOff f f67_3 a68 a87 a89).1 f 0 1 a68 (km_runsOff f f67_3 a68 a87 a89).2.1 (km_runsOff f f67_3 a68 a87 a89).2.2 (km_beginsRows f67_3 a92) a93).2.2.2.2.1, (km_lie_81 f f67_3 (km_lie_44 a68 x1 6 0 a94) x1 (km_runsOff f f67_3 a68 a87 a89).1 f 0 1 a68 (km_runsOff f f67_3 a68 a87 a89).2.1 (km_runsOff f f67_3 a68 a87 a89).2.2 (km_beginsRows f67_3 a92) a93).2.2.2.2.2, (km_lie_44 a68 x1 6 0 a94))) else (if (km_isMeasure f67_3 x2) = 0 then ((-1), a68, a87, a89, a92, a93, a94) else (if f67_3 = 6 then ((-3), a68, a87, a89, a92, a93, a94) else (if (km_lie_81 f f67_3 (km_lie_44 a68 x1 6 0 a94) x1 (km_runsOff f f67_3 a68 a87 a89).1 f 0 1 a68 (km_runsOff f f67_3 a68 a87 a89).2.1 (km_runsOff f f67_3 a68 a87 a89).2.2 (km_beginsRows f67_3 a92) a93).1 = 0 then ((-2), (km_lie_175 (km_lie_44 a68 x1 6 0 a94) x1 6 0 (km_lie_81 f f67_3 (km_lie_44 a68 x1 6 0 a94) x1 (km_runsOff f f67_3 a68 a87 a89).1 f 0 1 a68 (km_runsOff f f67_3 a68 a87 a89).2.1 (km_runsOff f f67_3 a68 a87 a89).2.2 (km_beginsRows f67_3 a92) a93).2.1), (km_lie_81 f f67_3 (km_lie_44 a68 x1 6 0 a94) x1 (km_runsOff f f67_3 a68 a87 a89).1 f 0 1 a68 (km_runsOff f f67_3 a68 a87 a89).2.1 (km_runsOff f f67_3 a68 a87 a89).2.2 (km_beginsRows f67_3 a92) a93).2.2.1, (km_lie_81 f f67_3 (km_lie_44 a68 x1 6 0 a94) x1 (km_runsOff f f67_3 a68 a87 a89).1 f 0 1 a68 (km_runsOff f f67_3 a68 a87 a89).2.1 (km_runsOff f f67_3 a68 a87 a89).2.2 (km_beginsRows f67_3 a92) a93).2.2.2.1, (km_lie_81 f f67_3 (km_lie_44 a68 x1 6 0 a94) x1 (km_runsOff f f67_3 a68 a87 a89).1 f 0 1 a68 (km_runsOff f f67_3 a68 a87 a89).2.1 (km_runsOff f f67_3 a68 a87 a89).2.2 (km_beginsRows f67_3 a92) a93).2.2.2.2.1, (km_lie_81 f f67_3 (km_lie_44 a68 x1 6 0 a94) x1 (km_runsOff f f67_3 a68 a87 a89).1 f 0 1 a68 (km_runsOff f f67_3 a68 a87 a89).2.1 (km_runsOff f f67_3 a68 a87 a89).2.2 (km_beginsRows f67_3 a92) a93).2.2.2.2.2, (km_lie_44 a68 x1 6 0 a94)) else (((km_lie_81 f f67_3 (km_lie_44 a68 x1 6 0 a94) x1 (km_runsOff f f67_3 a68 a87 a89).1 f 0 1 a68 (km_runsOff f f67_3 a68 a87 a89).2.1 (km_runsOff f f67_3 a68 a87 a89).2.2 (km_beginsRows f67_3 a92) a93).2.2.2.2.2.getD x2.toInt.toNat 0), (km_lie_175 (km_lie_44 a68 x1 6 0 a94) x1 6 0 (km_lie_81 f f67_3 (km_lie_44 a68 x1 6 0 a94) x1 (km_runsOff f f67_3 a68 a87 a89).1 f 0 1 a68 (km_runsOff f f67_3 a68 a87 a89).2.1 (km_runsOff f f67_3 a68 a87 a89).2.2 (km_beginsRows f67_3 a92) a93).2.1), (km_lie_81 f f67_3 (km_lie_44 a68 x1 6 0 a94) x1 (km_runsOff f f67_3 a68 a87 a89).1 f 0 1 a68 (km_runsOff f f67_3 a68 a87 a89).2.1 (km_runsOff f f67_3 a68 a87 a89).2.2 (km_beginsRows f67_3 a92) a93).2.2.1, (km_lie_81 f f67_3 (km_lie_44 a68 x1 6 0 a94) x1 (km_runsOff f f67_3 a68 a87 a89).1 f 0 1 a68 (km_runsOff f f67_3 a68 a87 a89).2.1 (km_runsOff f f67_3 a68 a87 a89).2.2 (km_beginsRows f67_3 a92) a93).2.2.2.1, (km_lie_81 f f67_3 (km_lie_44 a68 x1 6 0 a94) x1 (km_runsOff f f67_3 a68 a87 a89).1 f 0 1 a68 (km_runsOff f f67_3 a68 a87 a89).2.1 (km_runsOff f f67_3 a68 a87 a89).2.2 (km_beginsRows f67_3 a92) a93).2.2.2.2.1, (km_lie_81 f f67_3 (km_lie_44 a68 x1 6 0 a94) x1 (km_runsOff f f67_3 a68 a87 a89).1 f 0 1 a68 (km_runsOff f f67_3 a68 a87 a89).2.1 (km_runsOff f f67_3 a68 a87 a89).2.2 (km_beginsRows f67_3 a92) a93).2.2.2.2.2, (km_lie_44 a68 x1 6 0 a94)))))))
theorem t_km_lie {f D : Nat} {F : Nat → Nat → Int32} {A : Nat → List Int32} {L : Nat → List Int64} {Q : Option Value → sm_H → Prop} {x1 : Int32} {x2 : Int32} (K : Q (some (.int ((km_lie f (F 67 3) (A 68) (A 87) (A 89) (A 92) (A 93) (A 94) x1 x2).1))) (hz F (uA (uA (uA (uA (uA (uA A 68 ((km_lie f (F 67 3) (A 68) (A 87) (A 89) (A 92) (A 93) (A 94) x1 x2).2.1)) 87 ((km_lie f (F 67 3) (A 68) (A 87) (A 89) (A 92) (A 93) (A 94) x1 x2).2.2.1)) 89 ((km_lie f (F 67 3) (A 68) (A 87) (A 89) (A 92) (A 93) (A 94) x1 x2).2.2.2.1)) 92 ((km_lie f (F 67 3) (A 68) (A 87) (A 89) (A 92) (A 93) (A 94) x1 x2).2.2.2.2.1)) 93 ((km_lie f (F 67 3) (A 68) (A 87) (A 89) (A 92) (A 93) (A 94) x1 x2).2.2.2.2.2.1)) 94 ((km_lie f (F 67 3) (A 68) (A 87) (A 89) (A 92) (A 93) (A 94) x1 x2).2.2.2.2.2.2)) L)) : wl_M f D 234 [.ref 67, .int x1, .int x2] (hz F A L) Q := by
  generalize hT : (km_lie f (F 67 3) (A 68) (A 87) (A 89) (A 92) (A 93) (A 94) x1 x2) = T at K
  have hE : T = (if (km_isGuest (A 68) x1) = 0 then ((-1), (A 68), (A 87), (A 89), (A 92), (A 93), (A 94)) else (if x2 = 10 then (if (F 67 3) = 6 then ((-3), (A 68), (A 87), (A 89), (A 92), (A 93), (A 94)) else ((km_lie_81 f (F 67 3) (km_lie_44 (A 68) x1 6 0 (A 94)) x1 (km_runsOff f (F 67 3) (A 68) (A 87) (A 89)).1 f 0 1 (A 68) (km_runsOff f (F 67 3) (A 68) (A 87) (A 89)).2.1 (km_runsOff f (F 67 3) (A 68) (A 87) (A 89)).2.2 (km_beginsRows (F 67 3) (A 92)) (A 93)).1, (km_lie_175 (km_lie_44 (A 68) x1 6 0 (A 94)) x1 6 0 (km_lie_81 f (F 67 3) (km_lie_44 (A 68) x1 6 0 (A 94)) x1 (km_runsOff f (F 67 3) (A 68) (A 87) (A 89)).1 f 0 1 (A 68) (km_runsOff f (F 67 3) (A 68) (A 87) (A 89)).2.1 (km_runsOff f (F 67 3) (A 68) (A 87) (A 89)).2.2 (km_beginsRows (F 67 3) (A 92)) (A 93)).2.1), (km_lie_81 f (F 67 3) (km_lie_44 (A 68) x1 6 0 (A 94)) x1 (km_runsOff f (F 67 3) (A 68) (A 87) (A 89)).1 f 0 1 (A 68) (km_runsOff f (F 67 3) (A 68) (A 87) (A 89)).2.1 (km_runsOff f (F 67 3) (A 68) (A 87) (A 89)).2.2 (km_beginsRows (F 67 3) (A 92)) (A 93)).2.2.1, (km_lie_81 f (F 67 3) (km_lie_44 (A 68) x1 6 0 (A 94)) x1 (km_runsOff f (F 67 3) (A 68) (A 87) (A 89)).1 f 0 1 (A 68) (km_runsOff f (F 67 3) (A 68) (A 87) (A 89)).2.1 (km_runsOff f (F 67 3) (A 68) (A 87) (A 89)).2.2 (km_beginsRows (F 67 3) (A 92)) (A 93)).2.2.2.1, (km_lie_81 f (F 67 3) (km_lie_44 (A 68) x1 6 0 (A 94)) x1 (km_runsOff f (F 67 3) (A 68) (A 87) (A 89)).1 f 0 1 (A 68) (km_runsOff f (F 67 3) (A 68) (A 87) (A 89)).2.1 (km_runsOff f (F 67 3) (A 68) (A 87) (A 89)).2.2 (km_beginsRows (F 67 3) (A 92)) (A 93)).2.2.2.2.1, (km_lie_81 f (F 67 3) (km_lie_44 (A 68) x1 6 0 (A 94)) x1 (km_runsOff f (F 67 3) (A 68) (A 87) (A 89)).1 f 0 1 (A 68) (km_runsOff f (F 67 3) (A 68) (A 87) (A 89)).2.1 (km_runsOff f (F 67 3) (A 68) (A 87) (A 89)).2.2 (km_beginsRows (F 67 3) (A 92)) (A 93)).2.2.2.2.2, (km_lie_44 (A 68) x1 6 0 (A 94)))) else (if (km_isMeasure (F 67 3) x2) = 0 then ((-1), (A 68), (A 87), (A 89), (A 92), (A 93), (A 94)) else (if (F 67 3) = 6 then ((-3), (A 68), (A 87), (A 89), (A 92), (A 93), (A 94)) else (if (km_lie_81 f (F 67 3) (km_lie_44 (A 68) x1 6 0 (A 94)) x1 (km_runsOff f (F 67 3) (A 68) (A 87) (A 89)).1 f 0 1 (A 68) (km_runsOff f (F 67 3) (A 68) (A 87) (A 89)).2.1 (km_runsOff f (F 67 3) (A 68) (A 87) (A 89)).2.2 (km_beginsRows (F 67 3) (A 92)) (A 93)).1 = 0 then ((-2), (km_lie_175 (km_lie_44 (A 68) x1 6 0 (A 94)) x1 6 0 (km_lie_81 f (F 67 3) (km_lie_44 (A 68) x1 6 0 (A 94)) x1 (km_runsOff f (F 67 3) (A 68) (A 87) (A 89)).1 f 0 1 (A 68) (km_runsOff f (F 67 3) (A 68) (A 87) (A 89)).2.1 (km_runsOff f (F 67 3) (A 68) (A 87) (A 89)).2.2 (km_beginsRows (F 67 3) (A 92)) (A 93)).2.1), (km_lie_81 f (F 67 3) (km_lie_44 (A 68) x1 6 0 (A 94)) x1 (km_runsOff f (F 67 3) (A 68) (A 87) (A 89)).1 f 0 1 (A 68) (km_runsOff f (F 67 3) (A 68) (A 87) (A 89)).2.1 (km_runsOff f (F 67 3) (A 68) (A 87) (A 89)).2.2 (km_beginsRows (F 67 3) (A 92)) (A 93)).2.2.1, (km_lie_81 f (F 67 3) (km_lie_44 (A 68) x1 6 0 (A 94)) x1 (km_runsOff f (F 67 3) (A 68) (A 87) (A 89)).1 f 0 1 (A 68) (km_runsOff f (F 67 3) (A 68) (A 87) (A 89)).2.1 (km_runsOff f (F 67 3) (A 68) (A 87) (A 89)).2.2 (km_beginsRows (F 67 3) (A 92)) (A 93)).2.2.2.1, (km_lie_81 f (F 67 3) (km_lie_44 (A 68) x1 6 0 (A 94)) x1 (km_runsOff f (F 67 3) (A 68) (A 87) (A 89)).1 f 0 1 (A 68) (km_runsOff f (F 67 3) (A 68) (A 87) (A 89)).2.1 (km_runsOff f (F 67 3) (A 68) (A 87) (A 89)).2.2 (km_beginsRows (F 67 3) (A 92)) (A 93)).2.2.2.2.1, (km_lie_81 f (F 67 3) (km_lie_44 (A 68) x1 6 0 (A 94)) x1 (km_runsOff f (F 67 3) (A 68) (A 87) (A 89)).1 f 0 1 (A 68) (km_runsOff f (F 67 3) (A 68) (A 87) (A 89)).2.1 (km_runsOff f (F 67 3) (A 68) (A 87) (A 89)).2.2 (km_beginsRows (F 67 3) (A 92)) (A 93)).2.2.2.2.2, (km_lie_44 (A 68) x1 6 0 (A 94))) else (((km_lie_81 f (F 67 3) (km_lie_44 (A 68) x1 6 0 (A 94)) x1 (km_runsOff f (F 67 3) (A 68) (A 87) (A 89)).1 f 0 1 (A 68) (km_runsOff f (F 67 3) (A 68) (A 87) (A 89)).2.1 (km_runsOff f (F 67 3) (A 68) (A 87) (A 89)).2.2 (km_beginsRows (F 67 3) (A 92)) (A 93)).2.2.2.2.2.getD x2.toInt.toNat 0), (km_lie_175 (km_lie_44 (A 68) x1 6 0 (A 94)) x1 6 0 (km_lie_81 f (F 67 3) (km_lie_44 (A 68) x1 6 0 (A 94)) x1 (km_runsOff f (F 67 3) (A 68) (A 87) (A 89)).1 f 0 1 (A 68) (km_runsOff f (F 67 3) (A 68) (A 87) (A 89)).2.1 (km_runsOff f (F 67 3) (A 68) (A 87) (A 89)).2.2 (km_beginsRows (F 67 3) (A 92)) (A 93)).2.1), (km_lie_81 f (F 67 3) (km_lie_44 (A 68) x1 6 0 (A 94)) x1 (km_runsOff f (F 67 3) (A 68) (A 87) (A 89)).1 f 0 1 (A 68) (km_runsOff f (F 67 3) (A 68) (A 87) (A 89)).2.1 (km_runsOff f (F 67 3) (A 68) (A 87) (A 89)).2.2 (km_beginsRows (F 67 3) (A 92)) (A 93)).2.2.1, (km_lie_81 f (F 67 3) (km_lie_44 (A 68) x1 6 0 (A 94)) x1 (km_runsOff f (F 67 3) (A 68) (A 87) (A 89)).1 f 0 1 (A 68) (km_runsOff f (F 67 3) (A 68) (A 87) (A 89)).2.1 (km_runsOff f (F 67 3) (A 68) (A 87) (A 89)).2.2 (km_beginsRows (F 67 3) (A 92)) (A 93)).2.2.2.1, (km_lie_81 f (F 67 3) (km_lie_44 (A 68) x1 6 0 (A 94)) x1 (km_runsOff f (F 67 3) (A 68) (A 87) (A 89)).1 f 0 1 (A 68) (km_runsOff f (F 67 3) (A 68) (A 87) (A 89)).2.1 (km_runsOff f (F 67 3) (A 68) (A 87) (A 89)).2.2 (km_beginsRows (F 67 3) (A 92)) (A 93)).2.2.2.2.1, (km_lie_81 f (F 67 3) (km_lie_44 (A 68) x1 6 0 (A 94)) x1 (km_runsOff f (F 67 3) (A 68) (A 87) (A 89)).1 f 0 1 (A 68) (km_runsOff f (F 67 3) (A 68) (A 87) (A 89)).2.1 (km_runsOff f (F 67 3) (A 68) (A 87) (A 89)).2.2 (km_beginsRows (F 67 3) (A 92)) (A 93)).2.2.2.2.2, (km_lie_44 (A 68) x1 6 0 (A 94)))))))) := hT.symm
  clear hT
  refine w_m (E := mm234) rfl ?_
  show wl_E f f (D - 1) mm234.2.2.2.2.2.2.2.2 0 [some (.ref 67), some (.int x1), some (.int x2), none, none, none, none] [] (hz F A L) Q
  refine w_n 2 (pc1 := 2) (ls1 := [some (.ref 67), some (.int x1), some (.int x2), none, none, none, none]) (st1 := [.int x1, .ref 67]) (hp1 := (hz F A L)) rfl ?_
  refine w_c rfl rfl (t_km_isGuest ?_)
  show wl_E f _ _ mm234.2.2.2.2.2.2.2.2 5 [some (.ref 67), some (.int x1), some (.int x2), none, none, none, none] [.int (km_isGuest (A 68) x1)] (hz F A L) _
  generalize hG304 : (km_isGuest (A 68) x1) = G304 at hE ⊢
  refine w_zeq (p3 := 8) rfl rfl (fun h => ?_) (fun h => ?_)
  · have h1 : G304 = 0 := h
    rw [if_pos h1] at hE
    refine w_n 1 (pc1 := 23) (ls1 := [some (.ref 67), some (.int x1), some (.int x2), none, none, none, none]) (st1 := [.int (-1)]) (hp1 := (hz F A L)) rfl ?_
    subst T
    exact w_ri rfl (cvQ rfl (funext fun q => if k0 : q = 68 then by subst k0; exact Eq.trans (b := (A 68)) rfl rfl else if k1 : q = 87 then by subst k1; exact Eq.trans (b := (A 87)) rfl rfl else if k2 : q = 89 then by subst k2; exact Eq.trans (b := (A 89)) rfl rfl else if k3 : q = 92 then by subst k3; exact Eq.trans (b := (A 92)) rfl rfl else if k4 : q = 93 then by subst k4; exact Eq.trans (b := (A 93)) rfl rfl else if k5 : q = 94 then by subst k5; exact Eq.trans (b := (A 94)) rfl rfl else by unfold uA; simp only [nb1 k0, nb1 k1, nb1 k2, nb1 k3, nb1 k4, nb1 k5, cond_false]) rfl K)
  · have h1 : ¬ G304 = 0 := h
    rw [if_neg h1] at hE
    refine w_n 2 (pc1 := 11) (ls1 := [some (.ref 67), some (.int x1), some (.int x2), none, none, none, none]) (st1 := [.int 10, .int x2]) (hp1 := (hz F A L)) rfl ?_
    refine w_eq (p3 := 14) rfl rfl (fun h => ?_) (fun h => ?_)
    · have h2 : x2 = 10 := h
      rw [if_pos h2] at hE
      refine w_n 3 (pc1 := 30) (ls1 := [some (.ref 67), some (.int x1), some (.int x2), none, none, none, none]) (st1 := [.int 6, .int (F 67 3)]) (hp1 := (hz F A L)) rfl ?_
      refine w_ne (p3 := 33) rfl rfl (fun h => ?_) (fun h => ?_)
      · have h3 : ¬ (F 67 3) = 6 := h
        rw [if_neg h3] at hE
        refine w_n 1 (pc1 := 37) (ls1 := [some (.ref 67), some (.int x1), some (.int x2), none, none, none, none]) (st1 := [.ref 67]) (hp1 := (hz F A L)) rfl ?_
        refine w_c rfl rfl (t_km_runsOff ?_)
        show wl_E f _ _ mm234.2.2.2.2.2.2.2.2 40 [some (.ref 67), some (.int x1), some (.int x2), none, none, none, none] [.int (km_runsOff f (F 67 3) (A 68) (A 87) (A 89)).1] (hz F (uA (uA A 87 (km_runsOff f (F 67 3) (A 68) (A 87) (A 89)).2.1) 89 (km_runsOff f (F 67 3) (A 68) (A 87) (A 89)).2.2) L) _
        generalize hG305 : (km_runsOff f (F 67 3) (A 68) (A 87) (A 89)) = G305 at hE ⊢
        refine w_n 3 (pc1 := 44) (ls1 := [some (.ref 67), some (.int x1), some (.int x2), some (.int G305.1), some (.int 0), none, none]) (st1 := []) (hp1 := (hz F (uA (uA A 87 G305.2.1) 89 G305.2.2) L)) rfl ?_
        refine t_km_lie_44 6 (show (6 : Nat) = (6 - (0 : Int32).toInt).toNat by have e0 : (0 : Int32).toInt = 0 := rfl; first | rfl | omega) ?_
        intro r1
        show wl_E f _ _ mm234.2.2.2.2.2.2.2.2 71 [some (.ref 67), some (.int x1), some (.int x2), some (.int G305.1), some (.int r1), none, none] [] (hz F (uA (uA (uA A 87 G305.2.1) 89 G305.2.2) 94 (km_lie_44 (A 68) x1 6 0 (A 94))) L) _
        generalize hG307 : (km_lie_44 (A 68) x1 6 0 (A 94)) = G307 at hE ⊢
        refine w_n 1 (pc1 := 72) (ls1 := [some (.ref 67), some (.int x1), some (.int x2), some (.int G305.1), some (.int r1), none, none]) (st1 := [.ref 67]) (hp1 := (hz F (uA (uA (uA A 87 G305.2.1) 89 G305.2.2) 94 G307) L)) rfl ?_
        refine w_c rfl rfl (t_km_beginsRows ?_)
        show wl_E f _ _ mm234.2.2.2.2.2.2.2.2 75 [some (.ref 67), some (.int x1), some (.int x2), some (.int G305.1), some (.int r1), none, none] [] (hz F (uA (uA (uA (uA A 87 G305.2.1) 89 G305.2.2) 94 G307) 92 (km_beginsRows (F 67 3) (A 92))) L) _
        generalize hG308 : (km_beginsRows (F 67 3) (A 92)) = G308 at hE ⊢
        refine w_n 4 (pc1 := 81) (ls1 := [some (.ref 67), some (.int x1), some (.int x2), some (.int G305.1), some (.int 0), some (.int 1), none]) (st1 := []) (hp1 := (hz F (uA (uA (uA (uA A 87 G305.2.1) 89 G305.2.2) 94 G307) 92 G308) L)) rfl ?_
        refine t_km_lie_81 f _ (Nat.le_refl _) ?_
        intro r2 r3
        show wl_E f _ _ mm234.2.2.2.2.2.2.2.2 172 [some (.ref 67), some (.int x1), some (.int x2), some (.int G305.1), some (.int (km_lie_81 f (F 67 3) G307 x1 G305.1 f 0 1 (A 68) G305.2.1 G305.2.2 G308 (A 93)).1), some (.int r2), r3] [] (hz F (uA (uA (uA (uA (uA (uA (uA (uA (uA A 87 G305.2.1) 89 G305.2.2) 94 G307) 92 G308) 68 (km_lie_81 f (F 67 3) G307 x1 G305.1 f 0 1 (A 68) G305.2.1 G305.2.2 G308 (A 93)).2.1) 87 (km_lie_81 f (F 67 3) G307 x1 G305.1 f 0 1 (A 68) G305.2.1 G305.2.2 G308 (A 93)).2.2.1) 89 (km_lie_81 f (F 67 3) G307 x1 G305.1 f 0 1 (A 68) G305.2.1 G305.2.2 G308 (A 93)).2.2.2.1) 92 (km_lie_81 f (F 67 3) G307 x1 G305.1 f 0 1 (A 68) G305.2.1 G305.2.2 G308 (A 93)).2.2.2.2.1) 93 (km_lie_81 f (F 67 3) G307 x1 G305.1 f 0 1 (A 68) G305.2.1 G305.2.2 G308 (A 93)).2.2.2.2.2) L) _
        generalize hG315 : (km_lie_81 f (F 67 3) G307 x1 G305.1 f 0 1 (A 68) G305.2.1 G305.2.2 G308 (A 93)) = G315 at hE ⊢
        refine w_n 2 (pc1 := 175) (ls1 := [some (.ref 67), some (.int x1), some (.int x2), some (.int G305.1), some (.int G315.1), some (.int r2), some (.int 0)]) (st1 := []) (hp1 := (hz F (uA (uA (uA (uA (uA (uA (uA (uA (uA A 87 G305.2.1) 89 G305.2.2) 94 G307) 92 G308) 68 G315.2.1) 87 G315.2.2.1) 89 G315.2.2.2.1) 92 G315.2.2.2.2.1) 93 G315.2.2.2.2.2) L)) rfl ?_
        refine t_km_lie_175 6 (show (6 : Nat) = (6 - (0 : Int32).toInt).toNat by have e0 : (0 : Int32).toInt = 0 := rfl; first | rfl | omega) ?_
        intro r4
        show wl_E f _ _ mm234.2.2.2.2.2.2.2.2 210 [some (.ref 67), some (.int x1), some (.int x2), some (.int G305.1), some (.int G315.1), some (.int r2), some (.int r4)] [] (hz F (uA (uA (uA (uA (uA (uA (uA (uA (uA (uA A 87 G305.2.1) 89 G305.2.2) 94 G307) 92 G308) 68 G315.2.1) 87 G315.2.2.1) 89 G315.2.2.2.1) 92 G315.2.2.2.2.1) 93 G315.2.2.2.2.2) 68 (km_lie_175 G307 x1 6 0 G315.2.1)) L) _
        generalize hG316 : (km_lie_175 G307 x1 6 0 G315.2.1) = G316 at hE ⊢
        refine w_n 2 (pc1 := 213) (ls1 := [some (.ref 67), some (.int x1), some (.int x2), some (.int G305.1), some (.int G315.1), some (.int r2), some (.int r4)]) (st1 := [.int 10, .int x2]) (hp1 := (hz F (uA (uA (uA (uA (uA (uA (uA (uA (uA (uA A 87 G305.2.1) 89 G305.2.2) 94 G307) 92 G308) 68 G315.2.1) 87 G315.2.2.1) 89 G315.2.2.2.1) 92 G315.2.2.2.2.1) 93 G315.2.2.2.2.2) 68 G316) L)) rfl ?_
        refine w_ne (p3 := 216) rfl rfl (fun h => absurd h2 h) (fun _ => ?_)
        refine w_n 2 (pc1 := 237) (ls1 := [some (.ref 67), some (.int x1), some (.int x2), some (.int G305.1), some (.int G315.1), some (.int r2), some (.int r4)]) (st1 := [.int G315.1]) (hp1 := (hz F (uA (uA (uA (uA (uA (uA (uA (uA (uA (uA A 87 G305.2.1) 89 G305.2.2) 94 G307) 92 G308) 68 G315.2.1) 87 G315.2.2.1) 89 G315.2.2.2.1) 92 G315.2.2.2.2.1) 93 G315.2.2.2.2.2) 68 G316) L)) rfl ?_
        subst T
        exact w_ri rfl (cvQ rfl (funext fun q => if k0 : q = 68 then by subst k0; exact Eq.trans (b := G316) rfl rfl else if k1 : q = 87 then by subst k1; exact Eq.trans (b := G315.2.2.1) rfl rfl else if k2 : q = 89 then by subst k2; exact Eq.trans (b := G315.2.2.2.1) rfl rfl else if k3 : q = 92 then by subst k3; exact Eq.trans (b := G315.2.2.2.2.1) rfl rfl else if k4 : q = 93 then by subst k4; exact Eq.trans (b := G315.2.2.2.2.2) rfl rfl else if k5 : q = 94 then by subst k5; exact Eq.trans (b := G307) rfl rfl else by unfold uA; simp only [nb1 k0, nb1 k1, nb1 k2, nb1 k3, nb1 k4, nb1 k5, cond_false]) rfl K)
      · have h3 : (F 67 3) = 6 := h
        rw [if_pos h3] at hE
        refine w_n 1 (pc1 := 35) (ls1 := [some (.ref 67), some (.int x1), some (.int x2), none, none, none, none]) (st1 := [.int (-3)]) (hp1 := (hz F A L)) rfl ?_
        subst T
        exact w_ri rfl (cvQ rfl (funext fun q => if k0 : q = 68 then by subst k0; exact Eq.trans (b := (A 68)) rfl rfl else if k1 : q = 87 then by subst k1; exact Eq.trans (b := (A 87)) rfl rfl else if k2 : q = 89 then by subst k2; exact Eq.trans (b := (A 89)) rfl rfl else if k3 : q = 92 then by subst k3; exact Eq.trans (b := (A 92)) rfl rfl else if k4 : q = 93 then by subst k4; exact Eq.trans (b := (A 93)) rfl rfl else if k5 : q = 94 then by subst k5; exact Eq.trans (b := (A 94)) rfl rfl else by unfold uA; simp only [nb1 k0, nb1 k1, nb1 k2, nb1 k3, nb1 k4, nb1 k5, cond_false]) rfl K)
    · have h2 : ¬ x2 = 10 := h
      rw [if_neg h2] at hE
      refine w_n 2 (pc1 := 16) (ls1 := [some (.ref 67), some (.int x1), some (.int x2), none, none, none, none]) (st1 := [.int x2, .ref 67]) (hp1 := (hz F A L)) rfl ?_
      refine w_c rfl rfl (t_km_isMeasure ?_)
      show wl_E f _ _ mm234.2.2.2.2.2.2.2.2 19 [some (.ref 67), some (.int x1), some (.int x2), none, none, none, none] [.int (km_isMeasure (F 67 3) x2)] (hz F A L) _
      generalize hG317 : (km_isMeasure (F 67 3) x2) = G317 at hE ⊢
      refine w_zne (p3 := 22) rfl rfl (fun h => ?_) (fun h => ?_)
      · have h4 : ¬ G317 = 0 := h
        rw [if_neg h4] at hE
        refine w_n 3 (pc1 := 30) (ls1 := [some (.ref 67), some (.int x1), some (.int x2), none, none, none, none]) (st1 := [.int 6, .int (F 67 3)]) (hp1 := (hz F A L)) rfl ?_
        refine w_ne (p3 := 33) rfl rfl (fun h => ?_) (fun h => ?_)
        · have h5 : ¬ (F 67 3) = 6 := h
          rw [if_neg h5] at hE
          refine w_n 1 (pc1 := 37) (ls1 := [some (.ref 67), some (.int x1), some (.int x2), none, none, none, none]) (st1 := [.ref 67]) (hp1 := (hz F A L)) rfl ?_
          refine w_c rfl rfl (t_km_runsOff ?_)
          show wl_E f _ _ mm234.2.2.2.2.2.2.2.2 40 [some (.ref 67), some (.int x1), some (.int x2), none, none, none, none] [.int (km_runsOff f (F 67 3) (A 68) (A 87) (A 89)).1] (hz F (uA (uA A 87 (km_runsOff f (F 67 3) (A 68) (A 87) (A 89)).2.1) 89 (km_runsOff f (F 67 3) (A 68) (A 87) (A 89)).2.2) L) _
          generalize hG318 : (km_runsOff f (F 67 3) (A 68) (A 87) (A 89)) = G318 at hE ⊢
          refine w_n 3 (pc1 := 44) (ls1 := [some (.ref 67), some (.int x1), some (.int x2), some (.int G318.1), some (.int 0), none, none]) (st1 := []) (hp1 := (hz F (uA (uA A 87 G318.2.1) 89 G318.2.2) L)) rfl ?_
          refine t_km_lie_44 6 (show (6 : Nat) = (6 - (0 : Int32).toInt).toNat by have e0 : (0 : Int32).toInt = 0 := rfl; first | rfl | omega) ?_
          intro r5
          show wl_E f _ _ mm234.2.2.2.2.2.2.2.2 71 [some (.ref 67), some (.int x1), some (.int x2), some (.int G318.1), some (.int r5), none, none] [] (hz F (uA (uA (uA A 87 G318.2.1) 89 G318.2.2) 94 (km_lie_44 (A 68) x1 6 0 (A 94))) L) _
          generalize hG319 : (km_lie_44 (A 68) x1 6 0 (A 94)) = G319 at hE ⊢
          refine w_n 1 (pc1 := 72) (ls1 := [some (.ref 67), some (.int x1), some (.int x2), some (.int G318.1), some (.int r5), none, none]) (st1 := [.ref 67]) (hp1 := (hz F (uA (uA (uA A 87 G318.2.1) 89 G318.2.2) 94 G319) L)) rfl ?_
          refine w_c rfl rfl (t_km_beginsRows ?_)
          show wl_E f _ _ mm234.2.2.2.2.2.2.2.2 75 [some (.ref 67), some (.int x1), some (.int x2), some (.int G318.1), some (.int r5), none, none] [] (hz F (uA (uA (uA (uA A 87 G318.2.1) 89 G318.2.2) 94 G319) 92 (km_beginsRows (F 67 3) (A 92))) L) _
          generalize hG320 : (km_beginsRows (F 67 3) (A 92)) = G320 at hE ⊢
          refine w_n 4 (pc1 := 81) (ls1 := [some (.ref 67), some (.int x1), some (.int x2), some (.int G318.1), some (.int 0), some (.int 1), none]) (st1 := []) (hp1 := (hz F (uA (uA (uA (uA A 87 G318.2.1) 89 G318.2.2) 94 G319) 92 G320) L)) rfl ?_
          refine t_km_lie_81 f _ (Nat.le_refl _) ?_
          intro r6 r7
          show wl_E f _ _ mm234.2.2.2.2.2.2.2.2 172 [some (.ref 67), some (.int x1), some (.int x2), some (.int G318.1), some (.int (km_lie_81 f (F 67 3) G319 x1 G318.1 f 0 1 (A 68) G318.2.1 G318.2.2 G320 (A 93)).1), some (.int r6), r7] [] (hz F (uA (uA (uA (uA (uA (uA (uA (uA (uA A 87 G318.2.1) 89 G318.2.2) 94 G319) 92 G320) 68 (km_lie_81 f (F 67 3) G319 x1 G318.1 f 0 1 (A 68) G318.2.1 G318.2.2 G320 (A 93)).2.1) 87 (km_lie_81 f (F 67 3) G319 x1 G318.1 f 0 1 (A 68) G318.2.1 G318.2.2 G320 (A 93)).2.2.1) 89 (km_lie_81 f (F 67 3) G319 x1 G318.1 f 0 1 (A 68) G318.2.1 G318.2.2 G320 (A 93)).2.2.2.1) 92 (km_lie_81 f (F 67 3) G319 x1 G318.1 f 0 1 (A 68) G318.2.1 G318.2.2 G320 (A 93)).2.2.2.2.1) 93 (km_lie_81 f (F 67 3) G319 x1 G318.1 f 0 1 (A 68) G318.2.1 G318.2.2 G320 (A 93)).2.2.2.2.2) L) _
          generalize hG321 : (km_lie_81 f (F 67 3) G319 x1 G318.1 f 0 1 (A 68) G318.2.1 G318.2.2 G320 (A 93)) = G321 at hE ⊢
          refine w_n 2 (pc1 := 175) (ls1 := [some (.ref 67), some (.int x1), some (.int x2), some (.int G318.1), some (.int G321.1), some (.int r6), some (.int 0)]) (st1 := []) (hp1 := (hz F (uA (uA (uA (uA (uA (uA (uA (uA (uA A 87 G318.2.1) 89 G318.2.2) 94 G319) 92 G320) 68 G321.2.1) 87 G321.2.2.1) 89 G321.2.2.2.1) 92 G321.2.2.2.2.1) 93 G321.2.2.2.2.2) L)) rfl ?_
          refine t_km_lie_175 6 (show (6 : Nat) = (6 - (0 : Int32).toInt).toNat by have e0 : (0 : Int32).toInt = 0 := rfl; first | rfl | omega) ?_
          intro r8
          show wl_E f _ _ mm234.2.2.2.2.2.2.2.2 210 [some (.ref 67), some (.int x1), some (.int x2), some (.int G318.1), some (.int G321.1), some (.int r6), some (.int r8)] [] (hz F (uA (uA (uA (uA (uA (uA (uA (uA (uA (uA A 87 G318.2.1) 89 G318.2.2) 94 G319) 92 G320) 68 G321.2.1) 87 G321.2.2.1) 89 G321.2.2.2.1) 92 G321.2.2.2.2.1) 93 G321.2.2.2.2.2) 68 (km_lie_175 G319 x1 6 0 G321.2.1)) L) _
          generalize hG322 : (km_lie_175 G319 x1 6 0 G321.2.1) = G322 at hE ⊢
          refine w_n 2 (pc1 := 213) (ls1 := [some (.ref 67), some (.int x1), some (.int x2), some (.int G318.1), some (.int G321.1), some (.int r6), some (.int r8)]) (st1 := [.int 10, .int x2]) (hp1 := (hz F (uA (uA (uA (uA (uA (uA (uA (uA (uA (uA A 87 G318.2.1) 89 G318.2.2) 94 G319) 92 G320) 68 G321.2.1) 87 G321.2.2.1) 89 G321.2.2.2.1) 92 G321.2.2.2.2.1) 93 G321.2.2.2.2.2) 68 G322) L)) rfl ?_
          refine w_ne (p3 := 216) rfl rfl (fun _ => ?_) (fun h => absurd h h2)
          refine w_n 1 (pc1 := 223) (ls1 := [some (.ref 67), some (.int x1), some (.int x2), some (.int G318.1), some (.int G321.1), some (.int r6), some (.int r8)]) (st1 := [.int G321.1]) (hp1 := (hz F (uA (uA (uA (uA (uA (uA (uA (uA (uA (uA A 87 G318.2.1) 89 G318.2.2) 94 G319) 92 G320) 68 G321.2.1) 87 G321.2.2.1) 89 G321.2.2.2.1) 92 G321.2.2.2.2.1) 93 G321.2.2.2.2.2) 68 G322) L)) rfl ?_
          refine w_zne (p3 := 226) rfl rfl (fun h => ?_) (fun h => ?_)
          · have h6 : ¬ G321.1 = 0 := h
            rw [if_neg h6] at hE
            refine w_n 3 (pc1 := 236) (ls1 := [some (.ref 67), some (.int x1), some (.int x2), some (.int G318.1), some (.int G321.1), some (.int r6), some (.int r8)]) (st1 := [.int x2, .ref 93]) (hp1 := (hz F (uA (uA (uA (uA (uA (uA (uA (uA (uA (uA A 87 G318.2.1) 89 G318.2.2) 94 G319) 92 G320) 68 G321.2.1) 87 G321.2.2.1) 89 G321.2.2.2.1) 92 G321.2.2.2.2.1) 93 G321.2.2.2.2.2) 68 G322) L)) rfl ?_
            refine w_al (k := 93) (l := G321.2.2.2.2.2) rfl rfl rfl (fun _ => ?_)
            subst T
            exact w_ri rfl (cvQ rfl (funext fun q => if k0 : q = 68 then by subst k0; exact Eq.trans (b := G322) rfl rfl else if k1 : q = 87 then by subst k1; exact Eq.trans (b := G321.2.2.1) rfl rfl else if k2 : q = 89 then by subst k2; exact Eq.trans (b := G321.2.2.2.1) rfl rfl else if k3 : q = 92 then by subst k3; exact Eq.trans (b := G321.2.2.2.2.1) rfl rfl else if k4 : q = 93 then by subst k4; exact Eq.trans (b := G321.2.2.2.2.2) rfl rfl else if k5 : q = 94 then by subst k5; exact Eq.trans (b := G319) rfl rfl else by unfold uA; simp only [nb1 k0, nb1 k1, nb1 k2, nb1 k3, nb1 k4, nb1 k5, cond_false]) rfl K)
          · have h6 : G321.1 = 0 := h
            rw [if_pos h6] at hE
            refine w_n 2 (pc1 := 237) (ls1 := [some (.ref 67), some (.int x1), some (.int x2), some (.int G318.1), some (.int G321.1), some (.int r6), some (.int r8)]) (st1 := [.int (-2)]) (hp1 := (hz F (uA (uA (uA (uA (uA (uA (uA (uA (uA (uA A 87 G318.2.1) 89 G318.2.2) 94 G319) 92 G320) 68 G321.2.1) 87 G321.2.2.1) 89 G321.2.2.2.1) 92 G321.2.2.2.2.1) 93 G321.2.2.2.2.2) 68 G322) L)) rfl ?_
            subst T
            exact w_ri rfl (cvQ rfl (funext fun q => if k0 : q = 68 then by subst k0; exact Eq.trans (b := G322) rfl rfl else if k1 : q = 87 then by subst k1; exact Eq.trans (b := G321.2.2.1) rfl rfl else if k2 : q = 89 then by subst k2; exact Eq.trans (b := G321.2.2.2.1) rfl rfl else if k3 : q = 92 then by subst k3; exact Eq.trans (b := G321.2.2.2.2.1) rfl rfl else if k4 : q = 93 then by subst k4; exact Eq.trans (b := G321.2.2.2.2.2) rfl rfl else if k5 : q = 94 then by subst k5; exact Eq.trans (b := G319) rfl rfl else by unfold uA; simp only [nb1 k0, nb1 k1, nb1 k2, nb1 k3, nb1 k4, nb1 k5, cond_false]) rfl K)
        · have h5 : (F 67 3) = 6 := h
          rw [if_pos h5] at hE
          refine w_n 1 (pc1 := 35) (ls1 := [some (.ref 67), some (.int x1), some (.int x2), none, none, none, none]) (st1 := [.int (-3)]) (hp1 := (hz F A L)) rfl ?_
          subst T
          exact w_ri rfl (cvQ rfl (funext fun q => if k0 : q = 68 then by subst k0; exact Eq.trans (b := (A 68)) rfl rfl else if k1 : q = 87 then by subst k1; exact Eq.trans (b := (A 87)) rfl rfl else if k2 : q = 89 then by subst k2; exact Eq.trans (b := (A 89)) rfl rfl else if k3 : q = 92 then by subst k3; exact Eq.trans (b := (A 92)) rfl rfl else if k4 : q = 93 then by subst k4; exact Eq.trans (b := (A 93)) rfl rfl else if k5 : q = 94 then by subst k5; exact Eq.trans (b := (A 94)) rfl rfl else by unfold uA; simp only [nb1 k0, nb1 k1, nb1 k2, nb1 k3, nb1 k4, nb1 k5, cond_false]) rfl K)
      · have h4 : G317 = 0 := h
        rw [if_pos h4] at hE
        refine w_n 1 (pc1 := 23) (ls1 := [some (.ref 67), some (.int x1), some (.int x2), none, none, none, none]) (st1 := [.int (-1)]) (hp1 := (hz F A L)) rfl ?_
        subst T
        exact w_ri rfl (cvQ rfl (funext fun q => if k0 : q = 68 then by subst k0; exact Eq.trans (b := (A 68)) rfl rfl else if k1 : q = 87 then by subst k1; exact Eq.trans (b := (A 87)) rfl rfl else if k2 : q = 89 then by subst k2; exact Eq.trans (b := (A 89)) rfl rfl else if k3 : q = 92 then by subst k3; exact Eq.trans (b := (A 92)) rfl rfl else if k4 : q = 93 then by subst k4; exact Eq.trans (b := (A 93)) rfl rfl else if k5 : q = 94 then by subst k5; exact Eq.trans (b := (A 94)) rfl rfl else by unfold uA; simp only [nb1 k0, nb1 k1, nb1 k2, nb1 k3, nb1 k4, nb1 k5, cond_false]) rfl K)
