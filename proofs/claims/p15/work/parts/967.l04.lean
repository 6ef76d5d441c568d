/-! lifts, printed by genlift.py: 4 -/
def km_biscuitsOf_4 (a68 : List Int32) (x1 : Int32) : Nat → Int32 → Int32 → Int32
  | 0, y2, _ => y2
  | m + 1, y2, y3 => (if (km_has x1 y3) = 0 then (km_biscuitsOf_4 a68 x1 m (y2 + 0) (y3 + 1)) else (km_biscuitsOf_4 a68 x1 m (y2 + (a68.getD (12 + y3).toInt.toNat 0)) (y3 + 1)))
theorem t_km_biscuitsOf_4 {f : Nat} {Q : Option Value → sm_H → Prop} : ∀ (m : Nat) {B D : Nat} {F : Nat → Nat → Int32} {A : Nat → List Int32} {L : Nat → List Int64} {x1 : Int32} {y2 : Int32} {y3 : Int32}, m = (12 - y3.toInt).toNat → (∀ q3 : Int32, wl_E f B D mm230.2.2.2.2.2.2.2.2 40 [some (.ref 67), some (.int x1), some (.int (km_biscuitsOf_4 (A 68) x1 m y2 y3)), some (.int q3)] [] (hz F A L) Q) → wl_E f B D mm230.2.2.2.2.2.2.2.2 4 [some (.ref 67), some (.int x1), some (.int y2), some (.int y3)] [] (hz F A L) Q := by
  intro m
  induction m with
  | zero =>
    intro B D F A L x1 y2 y3 hm K
    generalize hT : (km_biscuitsOf_4 (A 68) x1 0 y2 y3) = T at K
    have hE : T = y2 := hT.symm
    clear hT
    refine w_n 2 (pc1 := 7) (ls1 := [some (.ref 67), some (.int x1), some (.int y2), some (.int y3)]) (st1 := [.int 12, .int y3]) (hp1 := (hz F A L)) rfl ?_
    refine w_ge (p3 := 10) rfl rfl (fun hb => ?_) (fun h => False.elim (by have h : y3.toInt < 12 := h; omega))
    subst T
    exact cvE rfl rfl rfl (K _)
  | succ m ih =>
    intro B D F A L x1 y2 y3 hm K
    generalize hT : (km_biscuitsOf_4 (A 68) x1 (m + 1) y2 y3) = T at K
    have hE : T = (if (km_has x1 y3) = 0 then (km_biscuitsOf_4 (A 68) x1 m (y2 + 0) (y3 + 1)) else (km_biscuitsOf_4 (A 68) x1 m (y2 + ((A 68).getD (12 + y3).toInt.toNat 0)) (y3 + 1))) := hT.symm
    clear hT
    refine w_n 2 (pc1 := 7) (ls1 := [some (.ref 67), some (.int x1), some (.int y2), some (.int y3)]) (st1 := [.int 12, .int y3]) (hp1 := (hz F A L)) rfl ?_
    refine w_ge (p3 := 10) rfl rfl (fun h => False.elim (by have h : 12 ≤ y3.toInt := h; omega)) (fun hb => ?_)
    refine w_n 3 (pc1 := 13) (ls1 := [some (.ref 67), some (.int x1), some (.int y2), some (.int y3)]) (st1 := [.int y3, .int x1, .int y2]) (hp1 := (hz F A L)) rfl ?_
    refine w_c rfl rfl (t_km_has ?_)
    show wl_E f _ _ mm230.2.2.2.2.2.2.2.2 16 [some (.ref 67), some (.int x1), some (.int y2), some (.int y3)] [.int (km_has x1 y3), .int y2] (hz F A L) _
    generalize hG115 : (km_has x1 y3) = G115 at hE ⊢
    refine w_zeq (p3 := 19) rfl rfl (fun h => ?_) (fun h => ?_)
    · have h1 : G115 = 0 := h
      rw [if_pos h1] at hE
      refine w_n 5 (pc1 := 4) (ls1 := [some (.ref 67), some (.int x1), some (.int (y2 + 0)), some (.int (y3 + 1))]) (st1 := []) (hp1 := (hz F A L)) rfl ?_
      subst T
      have hb2 := i_up (B := (12 : Int32)) hb
      have hb3 : y3.toInt < 12 := hb
      exact ih (show m = (12 - (y3 + 1).toInt).toNat by rw [hb2]; omega) (fun q3 => cvE rfl rfl rfl (K q3))
    · have h1 : ¬ G115 = 0 := h
      rw [if_neg h1] at hE
      refine w_n 5 (pc1 := 27) (ls1 := [some (.ref 67), some (.int x1), some (.int y2), some (.int y3)]) (st1 := [.int (12 + y3), .ref 68, .int y2]) (hp1 := (hz F A L)) rfl ?_
      refine w_al (k := 68) (l := (A 68)) rfl rfl rfl (fun _ => ?_)
      refine w_n 5 (pc1 := 4) (ls1 := [some (.ref 67), some (.int x1), some (.int (y2 + ((A 68).getD (12 + y3).toInt.toNat 0))), some (.int (y3 + 1))]) (st1 := []) (hp1 := (hz F A L)) rfl ?_
      subst T
      have hb2 := i_up (B := (12 : Int32)) hb
      have hb3 : y3.toInt < 12 := hb
      exact ih (show m = (12 - (y3 + 1).toInt).toNat by rw [hb2]; omega) (fun q3 => cvE rfl rfl rfl (K q3))
def km_biscuitsOf (a68 : List Int32) (x1 : Int32) : Int32 := (km_biscuitsOf_4 a68 x1 12 0 0)
theorem t_km_biscuitsOf {f D : Nat} {F : Nat → Nat → Int32} {A : Nat → List Int32} {L : Nat → List Int64} {Q : Option Value → sm_H → Prop} {x1 : Int32} (K : Q (some (.int (km_biscuitsOf (A 68) x1))) (hz F A L)) : wl_M f D 230 [.ref 67, .int x1] (hz F A L) Q := by
  generalize hT : (km_biscuitsOf (A 68) x1) = T at K
  have hE : T = (km_biscuitsOf_4 (A 68) x1 12 0 0) := hT.symm
  clear hT
  refine w_m (E := mm230) rfl ?_
  show wl_E f f (D - 1) mm230.2.2.2.2.2.2.2.2 0 [some (.ref 67), some (.int x1), none, none] [] (hz F A L) Q
  refine w_n 4 (pc1 := 4) (ls1 := [some (.ref 67), some (.int x1), some (.int 0), some (.int 0)]) (st1 := []) (hp1 := (hz F A L)) rfl ?_
  refine t_km_biscuitsOf_4 12 (show (12 : Nat) = (12 - (0 : Int32).toInt).toNat by have e0 : (0 : Int32).toInt = 0 := rfl; first | rfl | omega) ?_
  intro r1
  show wl_E f _ _ mm230.2.2.2.2.2.2.2.2 40 [some (.ref 67), some (.int x1), some (.int (km_biscuitsOf_4 (A 68) x1 12 0 0)), some (.int r1)] [] (hz F A L) _
  generalize hG116 : (km_biscuitsOf_4 (A 68) x1 12 0 0) = G116 at hE ⊢
  refine w_n 1 (pc1 := 41) (ls1 := [some (.ref 67), some (.int x1), some (.int G116), some (.int r1)]) (st1 := [.int G116]) (hp1 := (hz F A L)) rfl ?_
  subst T
  exact w_ri rfl (cvQ rfl rfl rfl K)
def km_isMore (a68 : List Int32) (x1 : Int32) : Int32 := (if (km_biscuitsOf a68 (a68.getD 144 0)).toInt < (2 * (km_biscuitsOf a68 x1)).toInt then 1 else 0)
theorem t_km_isMore {f D : Nat} {F : Nat → Nat → Int32} {A : Nat → List Int32} {L : Nat → List Int64} {Q : Option Value → sm_H → Prop} {x1 : Int32} (K : Q (some (.int (km_isMore (A 68) x1))) (hz F A L)) : wl_M f D 229 [.ref 67, .int x1] (hz F A L) Q := by
  generalize hT : (km_isMore (A 68) x1) = T at K
  have hE : T = (if (km_biscuitsOf (A 68) ((A 68).getD 144 0)).toInt < (2 * (km_biscuitsOf (A 68) x1)).toInt then 1 else 0) := hT.symm
  clear hT
  refine w_m (E := mm229) rfl ?_
  show wl_E f f (D - 1) mm229.2.2.2.2.2.2.2.2 0 [some (.ref 67), some (.int x1)] [] (hz F A L) Q
  refine w_n 3 (pc1 := 3) (ls1 := [some (.ref 67), some (.int x1)]) (st1 := [.int x1, .ref 67, .int 2]) (hp1 := (hz F A L)) rfl ?_
  refine w_c rfl rfl (t_km_biscuitsOf ?_)
  show wl_E f _ _ mm229.2.2.2.2.2.2.2.2 6 [some (.ref 67), some (.int x1)] [.int (km_biscuitsOf (A 68) x1), .int 2] (hz F A L) _
  generalize hG117 : (km_biscuitsOf (A 68) x1) = G117 at hE ⊢
  refine w_n 5 (pc1 := 15) (ls1 := [some (.ref 67), some (.int x1)]) (st1 := [.int 144, .ref 68, .ref 67, .int (2 * G117)]) (hp1 := (hz F A L)) rfl ?_
  refine w_al (k := 68) (l := (A 68)) rfl rfl rfl (fun _ => ?_)
  refine w_c rfl rfl (t_km_biscuitsOf ?_)
  show wl_E f _ _ mm229.2.2.2.2.2.2.2.2 19 [some (.ref 67), some (.int x1)] [.int (km_biscuitsOf (A 68) ((A 68).getD 144 0)), .int (2 * G117)] (hz F A L) _
  generalize hG118 : (km_biscuitsOf (A 68) ((A 68).getD 144 0)) = G118 at hE ⊢
  refine w_le (p3 := 22) rfl rfl (fun h => ?_) (fun h => ?_)
  · have h1 : (2 * G117).toInt ≤ G118.toInt := h
    rw [if_neg (Int.not_lt.mpr h1)] at hE
    refine w_n 1 (pc1 := 27) (ls1 := [some (.ref 67), some (.int x1)]) (st1 := [.int 0]) (hp1 := (hz F A L)) rfl ?_
    subst T
    exact w_ri rfl (cvQ rfl rfl rfl K)
  · have h1 : G118.toInt < (2 * G117).toInt := h
    rw [if_pos h1] at hE
    refine w_n 2 (pc1 := 27) (ls1 := [some (.ref 67), some (.int x1)]) (st1 := [.int 1]) (hp1 := (hz F A L)) rfl ?_
    subst T
    exact w_ri rfl (cvQ rfl rfl rfl K)
def km_isLeast_2 (a68 : List Int32) (x1 : Int32) : Nat → Int32 → Int32
  | 0, _ => 1
  | m + 1, y2 => (if (km_has x1 y2) = 0 then (km_isLeast_2 a68 x1 m (y2 + 1)) else (if (km_isMore a68 (x1 &&& (((1 : Int32) <<< (y2 &&& 31)) ^^^ (-1)))) = 0 then (km_isLeast_2 a68 x1 m (y2 + 1)) else 0))
theorem t_km_isLeast_2 {f : Nat} {Q : Option Value → sm_H → Prop} : ∀ (m : Nat) {B D : Nat} {F : Nat → Nat → Int32} {A : Nat → List Int32} {L : Nat → List Int64} {x1 : Int32} {y2 : Int32}, m = (12 - y2.toInt).toNat → (Q (some (.int (km_isLeast_2 (A 68) x1 m y2))) (hz F A L)) → wl_E f B D mm231.2.2.2.2.2.2.2.2 2 [some (.ref 67), some (.int x1), some (.int y2)] [] (hz F A L) Q := by
  intro m
  induction m with
  | zero =>
    intro B D F A L x1 y2 hm K
    generalize hT : (km_isLeast_2 (A 68) x1 0 y2) = T at K
    have hE : T = 1 := hT.symm
    clear hT
    refine w_n 2 (pc1 := 5) (ls1 := [some (.ref 67), some (.int x1), some (.int y2)]) (st1 := [.int 12, .int y2]) (hp1 := (hz F A L)) rfl ?_
    refine w_ge (p3 := 8) rfl rfl (fun hb => ?_) (fun h => False.elim (by have h : y2.toInt < 12 := h; omega))
    refine w_n 1 (pc1 := 39) (ls1 := [some (.ref 67), some (.int x1), some (.int y2)]) (st1 := [.int 1]) (hp1 := (hz F A L)) rfl ?_
    subst T
    exact w_ri rfl (cvQ rfl rfl rfl K)
  | succ m ih =>
    intro B D F A L x1 y2 hm K
    generalize hT : (km_isLeast_2 (A 68) x1 (m + 1) y2) = T at K
    have hE : T = (if (km_has x1 y2) = 0 then (km_isLeast_2 (A 68) x1 m (y2 + 1)) else (if (km_isMore (A 68) (x1 &&& (((1 : Int32) <<< (y2 &&& 31)) ^^^ (-1)))) = 0 then (km_isLeast_2 (A 68) x1 m (y2 + 1)) else 0)) := hT.symm
    clear hT
    refine w_n 2 (pc1 := 5) (ls1 := [some (.ref 67), some (.int x1), some (.int y2)]) (st1 := [.int 12, .int y2]) (hp1 := (hz F A L)) rfl ?_
    refine w_ge (p3 := 8) rfl rfl (fun h => False.elim (by have h : 12 ≤ y2.toInt := h; omega)) (fun hb => ?_)
    refine w_n 2 (pc1 := 10) (ls1 := [some (.ref 67), some (.int x1), some (.int y2)]) (st1 := [.int y2, .int x1]) (hp1 := (hz F A L)) rfl ?_
    refine w_c rfl rfl (t_km_has ?_)
    show wl_E f _ _ mm231.2.2.2.2.2.2.2.2 13 [some (.ref 67), some (.int x1), some (.int y2)] [.int (km_has x1 y2)] (hz F A L) _
    generalize hG120 : (km_has x1 y2) = G120 at hE ⊢
    refine w_zeq (p3 := 16) rfl rfl (fun h => ?_) (fun h => ?_)
    · have h1 : G120 = 0 := h
      rw [if_pos h1] at hE
      refine w_n 2 (pc1 := 2) (ls1 := [some (.ref 67), some (.int x1), some (.int (y2 + 1))]) (st1 := []) (hp1 := (hz F A L)) rfl ?_
      subst T
      have hb2 := i_up (B := (12 : Int32)) hb
      have hb3 : y2.toInt < 12 := hb
      exact ih (show m = (12 - (y2 + 1).toInt).toNat by rw [hb2]; omega) (cvQ rfl rfl rfl K)
    · have h1 : ¬ G120 = 0 := h
      rw [if_neg h1] at hE
      refine w_n 8 (pc1 := 24) (ls1 := [some (.ref 67), some (.int x1), some (.int y2)]) (st1 := [.int (x1 &&& (((1 : Int32) <<< (y2 &&& 31)) ^^^ (-1))), .ref 67]) (hp1 := (hz F A L)) rfl ?_
      refine w_c rfl rfl (t_km_isMore ?_)
      show wl_E f _ _ mm231.2.2.2.2.2.2.2.2 27 [some (.ref 67), some (.int x1), some (.int y2)] [.int (km_isMore (A 68) (x1 &&& (((1 : Int32) <<< (y2 &&& 31)) ^^^ (-1))))] (hz F A L) _
      generalize hG121 : (km_isMore (A 68) (x1 &&& (((1 : Int32) <<< (y2 &&& 31)) ^^^ (-1)))) = G121 at hE ⊢
      refine w_zeq (p3 := 30) rfl rfl (fun h => ?_) (fun h => ?_)
      · have h2 : G121 = 0 := h
        rw [if_pos h2] at hE
        refine w_n 2 (pc1 := 2) (ls1 := [some (.ref 67), some (.int x1), some (.int (y2 + 1))]) (st1 := []) (hp1 := (hz F A L)) rfl ?_
        subst T
        have hb2 := i_up (B := (12 : Int32)) hb
        have hb3 : y2.toInt < 12 := hb
        exact ih (show m = (12 - (y2 + 1).toInt).toNat by rw [hb2]; omega) (cvQ rfl rfl rfl K)
      · have h2 : ¬ G121 = 0 := h
        rw [if_neg h2] at hE
        refine w_n 1 (pc1 := 31) (ls1 := [some (.ref 67), some (.int x1), some (.int y2)]) (st1 := [.int 0]) (hp1 := (hz F A L)) rfl ?_
        subst T
        exact w_ri rfl (cvQ rfl rfl rfl K)
def km_isLeast (a68 : List Int32) (x1 : Int32) : Int32 := (km_isLeast_2 a68 x1 12 0)
theorem t_km_isLeast {f D : Nat} {F : Nat → Nat → Int32} {A : Nat → List Int32} {L : Nat → List Int64} {Q : Option Value → sm_H → Prop} {x1 : Int32} (K : Q (some (.int (km_isLeast (A 68) x1))) (hz F A L)) : wl_M f D 231 [.ref 67, .int x1] (hz F A L) Q := by
  generalize hT : (km_isLeast (A 68) x1) = T at K
  have hE : T = (km_isLeast_2 (A 68) x1 12 0) := hT.symm
  clear hT
  refine w_m (E := mm231) rfl ?_
  show wl_E f f (D - 1) mm231.2.2.2.2.2.2.2.2 0 [some (.ref 67), some (.int x1), none] [] (hz F A L) Q
  refine w_n 2 (pc1 := 2) (ls1 := [some (.ref 67), some (.int x1), some (.int 0)]) (st1 := []) (hp1 := (hz F A L)) rfl ?_
  subst T
  exact t_km_isLeast_2 _ (show (12 : Nat) = (12 - (0 : Int32).toInt).toNat by have e0 : (0 : Int32).toInt = 0 := rfl; first | rfl | omega) (cvQ rfl rfl rfl K)
def km_power_37 (a68 : List Int32) (x1 : Int32) (x2 : Int32) : Nat → Int32 → Int32 → Int32
  | 0, y3, _ => y3
  | m + 1, y3, y4 => (if (y4 &&& ((a68.getD 144 0) ^^^ (-1))) = 0 then (if x2 = 0 then (if (km_has y4 x1) = 0 then (if (km_isMore a68 y4) = 0 then (if (km_isMore a68 (y4 ||| ((1 : Int32) <<< (x1 &&& 31)))) = 0 then (km_power_37 a68 x1 x2 m (y3 + 0) (y4 + 1)) else (km_power_37 a68 x1 x2 m (y3 + 1) (y4 + 1))) else (km_power_37 a68 x1 x2 m (y3 + 0) (y4 + 1))) else (km_power_37 a68 x1 x2 m (y3 + 0) (y4 + 1))) else (if (km_isMore a68 y4) = 0 then (km_power_37 a68 x1 x2 m (y3 + 0) (y4 + 1)) else (if x2 = 1 then (km_power_37 a68 x1 x2 m (y3 + 1) (y4 + 1)) else (if (km_isLeast a68 y4) = 0 then (km_power_37 a68 x1 x2 m (y3 + 0) (y4 + 1)) else (km_power_37 a68 x1 x2 m (y3 + 1) (y4 + 1)))))) else (km_power_37 a68 x1 x2 m y3 (y4 + 1)))
theorem t_km_power_37 {f : Nat} {Q : Option Value → sm_H → Prop} : ∀ (m : Nat) {B D : Nat} {F : Nat → Nat → Int32} {A : Nat → List Int32} {L : Nat → List Int64} {x1 : Int32} {x2 : Int32} {y3 : Int32} {y4 : Int32} {o5 : Option Value}, m = (((A 68).getD 144 0).toInt + 1 - y4.toInt).toNat → (_ : ((A 68).getD 144 0).toInt < 2147483647) → (∀ q4 : Int32, ∀ q5 : Option Value, wl_E f B D mm228.2.2.2.2.2.2.2.2 163 [some (.ref 67), some (.int x1), some (.int x2), some (.int (km_power_37 (A 68) x1 x2 m y3 y4)), some (.int q4), q5] [] (hz F A L) Q) → wl_E f B D mm228.2.2.2.2.2.2.2.2 37 [some (.ref 67), some (.int x1), some (.int x2), some (.int y3), some (.int y4), o5] [] (hz F A L) Q := by
  intro m
  induction m with
  | zero =>
    intro B D F A L x1 x2 y3 y4 o5 hm hh0 K
    generalize hT : (km_power_37 (A 68) x1 x2 0 y3 y4) = T at K
    have hE : T = y3 := hT.symm
    clear hT
    refine w_n 4 (pc1 := 46) (ls1 := [some (.ref 67), some (.int x1), some (.int x2), some (.int y3), some (.int y4), o5]) (st1 := [.int 144, .ref 68, .int y4]) (hp1 := (hz F A L)) rfl ?_
    refine w_al (k := 68) (l := (A 68)) rfl rfl rfl (fun _ => ?_)
    refine w_gt (p3 := 50) rfl rfl (fun hb => ?_) (fun h => False.elim (by have h : y4.toInt ≤ ((A 68).getD 144 0).toInt := h; omega))
    subst T
    exact cvE rfl rfl rfl (K _ _)
  | succ m ih =>
    intro B D F A L x1 x2 y3 y4 o5 hm hh0 K
    generalize hT : (km_power_37 (A 68) x1 x2 (m + 1) y3 y4) = T at K
    have hE : T = (if (y4 &&& (((A 68).getD 144 0) ^^^ (-1))) = 0 then (if x2 = 0 then (if (km_has y4 x1) = 0 then (if (km_isMore (A 68) y4) = 0 then (if (km_isMore (A 68) (y4 ||| ((1 : Int32) <<< (x1 &&& 31)))) = 0 then (km_power_37 (A 68) x1 x2 m (y3 + 0) (y4 + 1)) else (km_power_37 (A 68) x1 x2 m (y3 + 1) (y4 + 1))) else (km_power_37 (A 68) x1 x2 m (y3 + 0) (y4 + 1))) else (km_power_37 (A 68) x1 x2 m (y3 + 0) (y4 + 1))) else (if (km_isMore (A 68) y4) = 0 then (km_power_37 (A 68) x1 x2 m (y3 + 0) (y4 + 1)) else (if x2 = 1 then (km_power_37 (A 68) x1 x2 m (y3 + 1) (y4 + 1)) else (if (km_isLeast (A 68) y4) = 0 then (km_power_37 (A 68) x1 x2 m (y3 + 0) (y4 + 1)) else (km_power_37 (A 68) x1 x2 m (y3 + 1) (y4 + 1)))))) else (km_power_37 (A 68) x1 x2 m y3 (y4 + 1))) := hT.symm
    clear hT
    refine w_n 4 (pc1 := 46) (ls1 := [some (.ref 67), some (.int x1), some (.int x2), some (.int y3), some (.int y4), o5]) (st1 := [.int 144, .ref 68, .int y4]) (hp1 := (hz F A L)) rfl ?_
    refine w_al (k := 68) (l := (A 68)) rfl rfl rfl (fun _ => ?_)
    refine w_gt (p3 := 50) rfl rfl (fun h => False.elim (by have h : ((A 68).getD 144 0).toInt < y4.toInt := h; omega)) (fun hb => ?_)
    refine w_n 4 (pc1 := 59) (ls1 := [some (.ref 67), some (.int x1), some (.int x2), some (.int y3), some (.int y4), o5]) (st1 := [.int 144, .ref 68, .int y4]) (hp1 := (hz F A L)) rfl ?_
    refine w_al (k := 68) (l := (A 68)) rfl rfl rfl (fun _ => ?_)
    refine w_n 3 (pc1 := 63) (ls1 := [some (.ref 67), some (.int x1), some (.int x2), some (.int y3), some (.int y4), o5]) (st1 := [.int (y4 &&& (((A 68).getD 144 0) ^^^ (-1)))]) (hp1 := (hz F A L)) rfl ?_
    refine w_zeq (p3 := 66) rfl rfl (fun h => ?_) (fun h => ?_)
    · have h1 : (y4 &&& (((A 68).getD 144 0) ^^^ (-1))) = 0 := h
      rw [if_pos h1] at hE
      refine w_n 1 (pc1 := 70) (ls1 := [some (.ref 67), some (.int x1), some (.int x2), some (.int y3), some (.int y4), o5]) (st1 := [.int x2]) (hp1 := (hz F A L)) rfl ?_
      refine w_zne (p3 := 73) rfl rfl (fun h => ?_) (fun h => ?_)
      · have h2 : ¬ x2 = 0 := h
        rw [if_neg h2] at hE
        refine w_n 2 (pc1 := 117) (ls1 := [some (.ref 67), some (.int x1), some (.int x2), some (.int y3), some (.int y4), o5]) (st1 := [.int y4, .ref 67]) (hp1 := (hz F A L)) rfl ?_
        refine w_c rfl rfl (t_km_isMore ?_)
        show wl_E f _ _ mm228.2.2.2.2.2.2.2.2 120 [some (.ref 67), some (.int x1), some (.int x2), some (.int y3), some (.int y4), o5] [.int (km_isMore (A 68) y4)] (hz F A L) _
        generalize hG119 : (km_isMore (A 68) y4) = G119 at hE ⊢
        refine w_zeq (p3 := 123) rfl rfl (fun h => ?_) (fun h => ?_)
        · have h3 : G119 = 0 := h
          rw [if_pos h3] at hE
          refine w_n 4 (pc1 := 147) (ls1 := [some (.ref 67), some (.int x1), some (.int x2), some (.int y3), some (.int y4), some (.int 0)]) (st1 := [.int 0, .int y3]) (hp1 := (hz F A L)) rfl ?_
          refine w_zeq (p3 := 150) rfl rfl (fun _ => ?_) (fun h => absurd h (by decide))
          refine w_n 5 (pc1 := 37) (ls1 := [some (.ref 67), some (.int x1), some (.int x2), some (.int (y3 + 0)), some (.int (y4 + 1)), some (.int 0)]) (st1 := []) (hp1 := (hz F A L)) rfl ?_
          subst T
          have hb2 := i_up2 (B := ((A 68).getD 144 0)) hb (by first | decide | exact hB | assumption)
          have hb3 : y4.toInt ≤ ((A 68).getD 144 0).toInt := hb
          exact ih (show m = (((A 68).getD 144 0).toInt + 1 - (y4 + 1).toInt).toNat by rw [hb2]; omega) hh0 (fun q4 q5 => cvE rfl rfl rfl (K q4 q5))
        · have h3 : ¬ G119 = 0 := h
          rw [if_neg h3] at hE
          refine w_n 2 (pc1 := 125) (ls1 := [some (.ref 67), some (.int x1), some (.int x2), some (.int y3), some (.int y4), o5]) (st1 := [.int 1, .int x2]) (hp1 := (hz F A L)) rfl ?_
          refine w_eq (p3 := 128) rfl rfl (fun h => ?_) (fun h => ?_)
          · have h4 : x2 = 1 := h
            rw [if_pos h4] at hE
            refine w_n 5 (pc1 := 147) (ls1 := [some (.ref 67), some (.int x1), some (.int x2), some (.int y3), some (.int y4), some (.int 1)]) (st1 := [.int 1, .int y3]) (hp1 := (hz F A L)) rfl ?_
            refine w_zeq (p3 := 150) rfl rfl (fun h => absurd h (by decide)) (fun _ => ?_)
            refine w_n 6 (pc1 := 37) (ls1 := [some (.ref 67), some (.int x1), some (.int x2), some (.int (y3 + 1)), some (.int (y4 + 1)), some (.int 1)]) (st1 := []) (hp1 := (hz F A L)) rfl ?_
            subst T
            have hb2 := i_up2 (B := ((A 68).getD 144 0)) hb (by first | decide | exact hB | assumption)
            have hb3 : y4.toInt ≤ ((A 68).getD 144 0).toInt := hb
            exact ih (show m = (((A 68).getD 144 0).toInt + 1 - (y4 + 1).toInt).toNat by rw [hb2]; omega) hh0 (fun q4 q5 => cvE rfl rfl rfl (K q4 q5))
          · have h4 : ¬ x2 = 1 := h
            rw [if_neg h4] at hE
            refine w_n 2 (pc1 := 131) (ls1 := [some (.ref 67), some (.int x1), some (.int x2), some (.int y3), some (.int y4), o5]) (st1 := [.int y4, .ref 67]) (hp1 := (hz F A L)) rfl ?_
            refine w_c rfl rfl (t_km_isLeast ?_)
            show wl_E f _ _ mm228.2.2.2.2.2.2.2.2 134 [some (.ref 67), some (.int x1), some (.int x2), some (.int y3), some (.int y4), o5] [.int (km_isLeast (A 68) y4)] (hz F A L) _
            generalize hG122 : (km_isLeast (A 68) y4) = G122 at hE ⊢
            refine w_zeq (p3 := 137) rfl rfl (fun h => ?_) (fun h => ?_)
            · have h5 : G122 = 0 := h
              rw [if_pos h5] at hE
              refine w_n 4 (pc1 := 147) (ls1 := [some (.ref 67), some (.int x1), some (.int x2), some (.int y3), some (.int y4), some (.int 0)]) (st1 := [.int 0, .int y3]) (hp1 := (hz F A L)) rfl ?_
              refine w_zeq (p3 := 150) rfl rfl (fun _ => ?_) (fun h => absurd h (by decide))
              refine w_n 5 (pc1 := 37) (ls1 := [some (.ref 67), some (.int x1), some (.int x2), some (.int (y3 + 0)), some (.int (y4 + 1)), some (.int 0)]) (st1 := []) (hp1 := (hz F A L)) rfl ?_
              subst T
              have hb2 := i_up2 (B := ((A 68).getD 144 0)) hb (by first | decide | exact hB | assumption)
              have hb3 : y4.toInt ≤ ((A 68).getD 144 0).toInt := hb
              exact ih (show m = (((A 68).getD 144 0).toInt + 1 - (y4 + 1).toInt).toNat by rw [hb2]; omega) hh0 (fun q4 q5 => cvE rfl rfl rfl (K q4 q5))
            · have h5 : ¬ G122 = 0 := h
              rw [if_neg h5] at hE
              refine w_n 5 (pc1 := 147) (ls1 := [some (.ref 67), some (.int x1), some (.int x2), some (.int y3), some (.int y4), some (.int 1)]) (st1 := [.int 1, .int y3]) (hp1 := (hz F A L)) rfl ?_
              refine w_zeq (p3 := 150) rfl rfl (fun h => absurd h (by decide)) (fun _ => ?_)
              refine w_n 6 (pc1 := 37) (ls1 := [some (.ref 67), some (.int x1), some (.int x2), some (.int (y3 + 1)), some (.int (y4 + 1)), some (.int 1)]) (st1 := []) (hp1 := (hz F A L)) rfl ?_
              subst T
              have hb2 := i_up2 (B := ((A 68).getD 144 0)) hb (by first | decide | exact hB | assumption)
              have hb3 : y4.toInt ≤ ((A 68).getD 144 0).toInt := hb
              exact ih (show m = (((A 68).getD 144 0).toInt + 1 - (y4 + 1).toInt).toNat by rw [hb2]; omega) hh0 (fun q4 q5 => cvE rfl rfl rfl (K q4 q5))
      · have h2 : x2 = 0 := h
        rw [if_pos h2] at hE
        refine w_n 2 (pc1 := 76) (ls1 := [some (.ref 67), some (.int x1), some (.int x2), some (.int y3), some (.int y4), o5]) (st1 := [.int x1, .int y4]) (hp1 := (hz F A L)) rfl ?_
        refine w_c rfl rfl (t_km_has ?_)
        show wl_E f _ _ mm228.2.2.2.2.2.2.2.2 79 [some (.ref 67), some (.int x1), some (.int x2), some (.int y3), some (.int y4), o5] [.int (km_has y4 x1)] (hz F A L) _
        generalize hG123 : (km_has y4 x1) = G123 at hE ⊢
        refine w_zne (p3 := 82) rfl rfl (fun h => ?_) (fun h => ?_)
        · have h6 : ¬ G123 = 0 := h
          rw [if_neg h6] at hE
          refine w_n 5 (pc1 := 147) (ls1 := [some (.ref 67), some (.int x1), some (.int x2), some (.int y3), some (.int y4), some (.int 0)]) (st1 := [.int 0, .int y3]) (hp1 := (hz F A L)) rfl ?_
          refine w_zeq (p3 := 150) rfl rfl (fun _ => ?_) (fun h => absurd h (by decide))
          refine w_n 5 (pc1 := 37) (ls1 := [some (.ref 67), some (.int x1), some (.int x2), some (.int (y3 + 0)), some (.int (y4 + 1)), some (.int 0)]) (st1 := []) (hp1 := (hz F A L)) rfl ?_
          subst T
          have hb2 := i_up2 (B := ((A 68).getD 144 0)) hb (by first | decide | exact hB | assumption)
          have hb3 : y4.toInt ≤ ((A 68).getD 144 0).toInt := hb
          exact ih (show m = (((A 68).getD 144 0).toInt + 1 - (y4 + 1).toInt).toNat by rw [hb2]; omega) hh0 (fun q4 q5 => cvE rfl rfl rfl (K q4 q5))
        · have h6 : G123 = 0 := h
          rw [if_pos h6] at hE
          refine w_n 2 (pc1 := 85) (ls1 := [some (.ref 67), some (.int x1), some (.int x2), some (.int y3), some (.int y4), o5]) (st1 := [.int y4, .ref 67]) (hp1 := (hz F A L)) rfl ?_
          refine w_c rfl rfl (t_km_isMore ?_)
          show wl_E f _ _ mm228.2.2.2.2.2.2.2.2 88 [some (.ref 67), some (.int x1), some (.int x2), some (.int y3), some (.int y4), o5] [.int (km_isMore (A 68) y4)] (hz F A L) _
          generalize hG124 : (km_isMore (A 68) y4) = G124 at hE ⊢
          refine w_zne (p3 := 91) rfl rfl (fun h => ?_) (fun h => ?_)
          · have h7 : ¬ G124 = 0 := h
            rw [if_neg h7] at hE
            refine w_n 5 (pc1 := 147) (ls1 := [some (.ref 67), some (.int x1), some (.int x2), some (.int y3), some (.int y4), some (.int 0)]) (st1 := [.int 0, .int y3]) (hp1 := (hz F A L)) rfl ?_
            refine w_zeq (p3 := 150) rfl rfl (fun _ => ?_) (fun h => absurd h (by decide))
            refine w_n 5 (pc1 := 37) (ls1 := [some (.ref 67), some (.int x1), some (.int x2), some (.int (y3 + 0)), some (.int (y4 + 1)), some (.int 0)]) (st1 := []) (hp1 := (hz F A L)) rfl ?_
            subst T
            have hb2 := i_up2 (B := ((A 68).getD 144 0)) hb (by first | decide | exact hB | assumption)
            have hb3 : y4.toInt ≤ ((A 68).getD 144 0).toInt := hb
            exact ih (show m = (((A 68).getD 144 0).toInt + 1 - (y4 + 1).toInt).toNat by rw [hb2]; omega) hh0 (fun q4 q5 => cvE rfl rfl rfl (K q4 q5))
          · have h7 : G124 = 0 := h
            rw [if_pos h7] at hE
            refine w_n 6 (pc1 := 98) (ls1 := [some (.ref 67), some (.int x1), some (.int x2), some (.int y3), some (.int y4), o5]) (st1 := [.int (y4 ||| ((1 : Int32) <<< (x1 &&& 31))), .ref 67]) (hp1 := (hz F A L)) rfl ?_
            refine w_c rfl rfl (t_km_isMore ?_)
            show wl_E f _ _ mm228.2.2.2.2.2.2.2.2 101 [some (.ref 67), some (.int x1), some (.int x2), some (.int y3), some (.int y4), o5] [.int (km_isMore (A 68) (y4 ||| ((1 : Int32) <<< (x1 &&& 31))))] (hz F A L) _
            generalize hG125 : (km_isMore (A 68) (y4 ||| ((1 : Int32) <<< (x1 &&& 31)))) = G125 at hE ⊢
            refine w_zeq (p3 := 104) rfl rfl (fun h => ?_) (fun h => ?_)
            · have h8 : G125 = 0 := h
              rw [if_pos h8] at hE
              refine w_n 5 (pc1 := 147) (ls1 := [some (.ref 67), some (.int x1), some (.int x2), some (.int y3), some (.int y4), some (.int 0)]) (st1 := [.int 0, .int y3]) (hp1 := (hz F A L)) rfl ?_
              refine w_zeq (p3 := 150) rfl rfl (fun _ => ?_) (fun h => absurd h (by decide))
              refine w_n 5 (pc1 := 37) (ls1 := [some (.ref 67), some (.int x1), some (.int x2), some (.int (y3 + 0)), some (.int (y4 + 1)), some (.int 0)]) (st1 := []) (hp1 := (hz F A L)) rfl ?_
              subst T
              have hb2 := i_up2 (B := ((A 68).getD 144 0)) hb (by first | decide | exact hB | assumption)
              have hb3 : y4.toInt ≤ ((A 68).getD 144 0).toInt := hb
              exact ih (show m = (((A 68).getD 144 0).toInt + 1 - (y4 + 1).toInt).toNat by rw [hb2]; omega) hh0 (fun q4 q5 => cvE rfl rfl rfl (K q4 q5))
            · have h8 : ¬ G125 = 0 := h
              rw [if_neg h8] at hE
              refine w_n 6 (pc1 := 147) (ls1 := [some (.ref 67), some (.int x1), some (.int x2), some (.int y3), some (.int y4), some (.int 1)]) (st1 := [.int 1, .int y3]) (hp1 := (hz F A L)) rfl ?_
              refine w_zeq (p3 := 150) rfl rfl (fun h => absurd h (by decide)) (fun _ => ?_)
              refine w_n 6 (pc1 := 37) (ls1 := [some (.ref 67), some (.int x1), some (.int x2), some (.int (y3 + 1)), some (.int (y4 + 1)), some (.int 1)]) (st1 := []) (hp1 := (hz F A L)) rfl ?_
              subst T
              have hb2 := i_up2 (B := ((A 68).getD 144 0)) hb (by first | decide | exact hB | assumption)
              have hb3 : y4.toInt ≤ ((A 68).getD 144 0).toInt := hb
              exact ih (show m = (((A 68).getD 144 0).toInt + 1 - (y4 + 1).toInt).toNat by rw [hb2]; omega) hh0 (fun q4 q5 => cvE rfl rfl rfl (K q4 q5))
    · have h1 : ¬ (y4 &&& (((A 68).getD 144 0) ^^^ (-1))) = 0 := h
      rw [if_neg h1] at hE
      refine w_n 3 (pc1 := 37) (ls1 := [some (.ref 67), some (.int x1), some (.int x2), some (.int y3), some (.int (y4 + 1)), o5]) (st1 := []) (hp1 := (hz F A L)) rfl ?_
      subst T
      have hb2 := i_up2 (B := ((A 68).getD 144 0)) hb (by first | decide | exact hB | assumption)
      have hb3 : y4.toInt ≤ ((A 68).getD 144 0).toInt := hb
      exact ih (show m = (((A 68).getD 144 0).toInt + 1 - (y4 + 1).toInt).toNat by rw [hb2]; omega) hh0 (fun q4 q5 => cvE rfl rfl rfl (K q4 q5))
def km_power (a68 : List Int32) (x1 : Int32) (x2 : Int32) : Int32 := (if x2 = 0 then (if (km_isGuest a68 x1) = 0 then (-1) else (km_power_37 a68 x1 x2 ((a68.getD 144 0).toInt + 1).toNat 0 0)) else (if x1 = (-1) then (if (km_in x2 1 2) = 0 then (-1) else (km_power_37 a68 x1 x2 ((a68.getD 144 0).toInt + 1).toNat 0 0)) else (-1)))
theorem t_km_power {f D : Nat} {F : Nat → Nat → Int32} {A : Nat → List Int32} {L : Nat → List Int64} {Q : Option Value → sm_H → Prop} {x1 : Int32} {x2 : Int32} (hh0 : ((A 68).getD 144 0).toInt < 2147483647) (K : Q (some (.int (km_power (A 68) x1 x2))) (hz F A L)) : wl_M f D 228 [.ref 67, .int x1, .int x2] (hz F A L) Q := by
  generalize hT : (km_power (A 68) x1 x2) = T at K
  have hE : T = (if x2 = 0 then (if (km_isGuest (A 68) x1) = 0 then (-1) else (km_power_37 (A 68) x1 x2 (((A 68).getD 144 0).toInt + 1).toNat 0 0)) else (if x1 = (-1) then (if (km_in x2 1 2) = 0 then (-1) else (km_power_37 (A 68) x1 x2 (((A 68).getD 144 0).toInt + 1).toNat 0 0)) else (-1))) := hT.symm
  clear hT
  refine w_m (E := mm228) rfl ?_
  show wl_E f f (D - 1) mm228.2.2.2.2.2.2.2.2 0 [some (.ref 67), some (.int x1), some (.int x2), none, none, none] [] (hz F A L) Q
  refine w_n 1 (pc1 := 1) (ls1 := [some (.ref 67), some (.int x1), some (.int x2), none, none, none]) (st1 := [.int x2]) (hp1 := (hz F A L)) rfl ?_
  refine w_zne (p3 := 4) rfl rfl (fun h => ?_) (fun h => ?_)
  · have h1 : ¬ x2 = 0 := h
    rw [if_neg h1] at hE
    refine w_n 1 (pc1 := 13) (ls1 := [some (.ref 67), some (.int x1), some (.int x2), none, none, none]) (st1 := [.int x2]) (hp1 := (hz F A L)) rfl ?_
    refine w_zeq (p3 := 16) rfl rfl (fun h => absurd h h1) (fun _ => ?_)
    refine w_n 2 (pc1 := 18) (ls1 := [some (.ref 67), some (.int x1), some (.int x2), none, none, none]) (st1 := [.int (-1), .int x1]) (hp1 := (hz F A L)) rfl ?_
    refine w_ne (p3 := 21) rfl rfl (fun h => ?_) (fun h => ?_)
    · have h2 : ¬ x1 = (-1) := h
      rw [if_neg h2] at hE
      refine w_n 1 (pc1 := 31) (ls1 := [some (.ref 67), some (.int x1), some (.int x2), none, none, none]) (st1 := [.int (-1)]) (hp1 := (hz F A L)) rfl ?_
      subst T
      exact w_ri rfl (cvQ rfl rfl rfl K)
    · have h2 : x1 = (-1) := h
      rw [if_pos h2] at hE
      refine w_n 3 (pc1 := 24) (ls1 := [some (.ref 67), some (.int x1), some (.int x2), none, none, none]) (st1 := [.int 2, .int 1, .int x2]) (hp1 := (hz F A L)) rfl ?_
      refine w_c rfl rfl (t_km_in ?_)
      show wl_E f _ _ mm228.2.2.2.2.2.2.2.2 27 [some (.ref 67), some (.int x1), some (.int x2), none, none, none] [.int (km_in x2 1 2)] (hz F A L) _
      generalize hG114 : (km_in x2 1 2) = G114 at hE ⊢
      refine w_zne (p3 := 30) rfl rfl (fun h => ?_) (fun h => ?_)
      · have h3 : ¬ G114 = 0 := h
        rw [if_neg h3] at hE
        refine w_n 4 (pc1 := 37) (ls1 := [some (.ref 67), some (.int x1), some (.int x2), some (.int 0), some (.int 0), none]) (st1 := []) (hp1 := (hz F A L)) rfl ?_
        refine t_km_power_37 ((((A 68).getD 144 0).toInt + 1).toNat) (show (((A 68).getD 144 0).toInt + 1).toNat = (((A 68).getD 144 0).toInt + 1 - (0 : Int32).toInt).toNat by have e0 : (0 : Int32).toInt = 0 := rfl; first | rfl | omega) hh0 ?_
        intro r1 r2
        show wl_E f _ _ mm228.2.2.2.2.2.2.2.2 163 [some (.ref 67), some (.int x1), some (.int x2), some (.int (km_power_37 (A 68) x1 x2 (((A 68).getD 144 0).toInt + 1).toNat 0 0)), some (.int r1), r2] [] (hz F A L) _
        generalize hG126 : (km_power_37 (A 68) x1 x2 (((A 68).getD 144 0).toInt + 1).toNat 0 0) = G126 at hE ⊢
        refine w_n 1 (pc1 := 164) (ls1 := [some (.ref 67), some (.int x1), some (.int x2), some (.int G126), some (.int r1), r2]) (st1 := [.int G126]) (hp1 := (hz F A L)) rfl ?_
        subst T
        exact w_ri rfl (cvQ rfl rfl rfl K)
      · have h3 : G114 = 0 := h
        rw [if_pos h3] at hE
        refine w_n 1 (pc1 := 31) (ls1 := [some (.ref 67), some (.int x1), some (.int x2), none, none, none]) (st1 := [.int (-1)]) (hp1 := (hz F A L)) rfl ?_
        subst T
        exact w_ri rfl (cvQ rfl rfl rfl K)
  · have h1 : x2 = 0 := h
    rw [if_pos h1] at hE
    refine w_n 2 (pc1 := 6) (ls1 := [some (.ref 67), some (.int x1), some (.int x2), none, none, none]) (st1 := [.int x1, .ref 67]) (hp1 := (hz F A L)) rfl ?_
    refine w_c rfl rfl (t_km_isGuest ?_)
    show wl_E f _ _ mm228.2.2.2.2.2.2.2.2 9 [some (.ref 67), some (.int x1), some (.int x2), none, none, none] [.int (km_isGuest (A 68) x1)] (hz F A L) _
    generalize hG127 : (km_isGuest (A 68) x1) = G127 at hE ⊢
    refine w_zeq (p3 := 12) rfl rfl (fun h => ?_) (fun h => ?_)
    · have h4 : G127 = 0 := h
      rw [if_pos h4] at hE
      refine w_n 1 (pc1 := 31) (ls1 := [some (.ref 67), some (.int x1), some (.int x2), none, none, none]) (st1 := [.int (-1)]) (hp1 := (hz F A L)) rfl ?_
      subst T
      exact w_ri rfl (cvQ rfl rfl rfl K)
    · have h4 : ¬ G127 = 0 := h
      rw [if_neg h4] at hE
      refine w_n 1 (pc1 := 13) (ls1 := [some (.ref 67), some (.int x1), some (.int x2), none, none, none]) (st1 := [.int x2]) (hp1 := (hz F A L)) rfl ?_
      refine w_zeq (p3 := 16) rfl rfl (fun _ => ?_) (fun h => absurd h1 h)
      refine w_n 4 (pc1 := 37) (ls1 := [some (.ref 67), some (.int x1), some (.int x2), some (.int 0), some (.int 0), none]) (st1 := []) (hp1 := (hz F A L)) rfl ?_
      refine t_km_power_37 ((((A 68).getD 144 0).toInt + 1).toNat) (show (((A 68).getD 144 0).toInt + 1).toNat = (((A 68).getD 144 0).toInt + 1 - (0 : Int32).toInt).toNat by have e0 : (0 : Int32).toInt = 0 := rfl; first | rfl | omega) hh0 ?_
      intro r3 r4
      show wl_E f _ _ mm228.2.2.2.2.2.2.2.2 163 [some (.ref 67), some (.int x1), some (.int x2), some (.int (km_power_37 (A 68) x1 x2 (((A 68).getD 144 0).toInt + 1).toNat 0 0)), some (.int r3), r4] [] (hz F A L) _
      generalize hG128 : (km_power_37 (A 68) x1 x2 (((A 68).getD 144 0).toInt + 1).toNat 0 0) = G128 at hE ⊢
      refine w_n 1 (pc1 := 164) (ls1 := [some (.ref 67), some (.int x1), some (.int x2), some (.int G128), some (.int r3), r4]) (st1 := [.int G128]) (hp1 := (hz F A L)) rfl ?_
      subst T
      exact w_ri rfl (cvQ rfl rfl rfl K)
def kx_open (x1 : Int32) : Int32 × Int32 × Int32 := (x1, 0, 0)
theorem t_kx_open {f D : Nat} {F : Nat → Nat → Int32} {A : Nat → List Int32} {L : Nat → List Int64} {Q : Option Value → sm_H → Prop} {x1 : Int32} (K : Q none (hz (uF (uF (uF F 1 2 ((kx_open x1).1)) 1 3 ((kx_open x1).2.1)) 1 4 ((kx_open x1).2.2)) A L)) : wl_M f D 21 [.ref 1, .int x1] (hz F A L) Q := by
  generalize hT : (kx_open x1) = T at K
  have hE : T = (x1, 0, 0) := hT.symm
  clear hT
  refine w_m (E := mm21) rfl ?_
  show wl_E f f (D - 1) mm21.2.2.2.2.2.2.2.2 0 [some (.ref 1), some (.int x1)] [] (hz F A L) Q
  refine w_n 2 (pc1 := 2) (ls1 := [some (.ref 1), some (.int x1)]) (st1 := [.int x1, .ref 1]) (hp1 := (hz F A L)) rfl ?_
  refine w_pf (k := 1) (fs := hz_f1 F) (hp1 := (hz (uF F 1 2 x1) A L)) rfl rfl rfl (hz_p1_2 _) ?_
  refine w_n 2 (pc1 := 7) (ls1 := [some (.ref 1), some (.int x1)]) (st1 := [.int 0, .ref 1]) (hp1 := (hz (uF F 1 2 x1) A L)) rfl ?_
  refine w_pf (k := 1) (fs := hz_f1 (uF F 1 2 x1)) (hp1 := (hz (uF (uF F 1 2 x1) 1 3 0) A L)) rfl rfl rfl (hz_p1_3 _) ?_
  refine w_n 2 (pc1 := 12) (ls1 := [some (.ref 1), some (.int x1)]) (st1 := [.int 0, .ref 1]) (hp1 := (hz (uF (uF F 1 2 x1) 1 3 0) A L)) rfl ?_
  refine w_pf (k := 1) (fs := hz_f1 (uF (uF F 1 2 x1) 1 3 0)) (hp1 := (hz (uF (uF (uF F 1 2 x1) 1 3 0) 1 4 0) A L)) rfl rfl rfl (hz_p1_4 _) ?_
  subst T
  exact w_r rfl rfl (cvQ rfl rfl rfl K)
def kx_sign (f1_2 : Int32) (f1_3 : Int32) (a2 : List Int32) : Int32 := (if f1_3.toInt < 0 then (-1) else (if f1_3.toInt < f1_2.toInt then (if f1_3.toInt < (Int32.ofNat a2.length).toInt then (a2.getD f1_3.toInt.toNat 0) else (-1)) else (-1)))
theorem t_kx_sign {f D : Nat} {F : Nat → Nat → Int32} {A : Nat → List Int32} {L : Nat → List Int64} {Q : Option Value → sm_H → Prop} (K : Q (some (.int (kx_sign (F 1 2) (F 1 3) (A 2)))) (hz F A L)) : wl_M f D 24 [.ref 1] (hz F A L) Q := by
  generalize hT : (kx_sign (F 1 2) (F 1 3) (A 2)) = T at K
  have hE : T = (if (F 1 3).toInt < 0 then (-1) else (if (F 1 3).toInt < (F 1 2).toInt then (if (F 1 3).toInt < (Int32.ofNat (A 2).length).toInt then ((A 2).getD (F 1 3).toInt.toNat 0) else (-1)) else (-1))) := hT.symm
  clear hT
  refine w_m (E := mm24) rfl ?_
  show wl_E f f (D - 1) mm24.2.2.2.2.2.2.2.2 0 [some (.ref 1)] [] (hz F A L) Q
  refine w_n 2 (pc1 := 4) (ls1 := [some (.ref 1)]) (st1 := [.int (F 1 3)]) (hp1 := (hz F A L)) rfl ?_
  refine w_zlt (p3 := 7) rfl rfl (fun h => ?_) (fun h => ?_)
  · have h1 : (F 1 3).toInt < 0 := h
    rw [if_pos h1] at hE
    refine w_n 1 (pc1 := 43) (ls1 := [some (.ref 1)]) (st1 := [.int (-1)]) (hp1 := (hz F A L)) rfl ?_
    subst T
    exact w_ri rfl (cvQ rfl rfl rfl K)
  · have h1 : 0 ≤ (F 1 3).toInt := h
    rw [if_neg (Int.not_lt.mpr h1)] at hE
    refine w_n 4 (pc1 := 15) (ls1 := [some (.ref 1)]) (st1 := [.int (F 1 2), .int (F 1 3)]) (hp1 := (hz F A L)) rfl ?_
    refine w_ge (p3 := 18) rfl rfl (fun h => ?_) (fun h => ?_)
    · have h2 : (F 1 2).toInt ≤ (F 1 3).toInt := h
      rw [if_neg (Int.not_lt.mpr h2)] at hE
      refine w_n 1 (pc1 := 43) (ls1 := [some (.ref 1)]) (st1 := [.int (-1)]) (hp1 := (hz F A L)) rfl ?_
      subst T
      exact w_ri rfl (cvQ rfl rfl rfl K)
    · have h2 : (F 1 3).toInt < (F 1 2).toInt := h
      rw [if_pos h2] at hE
      refine w_n 5 (pc1 := 27) (ls1 := [some (.ref 1)]) (st1 := [.int (Int32.ofNat (A 2).length), .int (F 1 3)]) (hp1 := (hz F A L)) rfl ?_
      refine w_ge (p3 := 30) rfl rfl (fun h => ?_) (fun h => ?_)
      · have h3 : (Int32.ofNat (A 2).length).toInt ≤ (F 1 3).toInt := h
        rw [if_neg (Int.not_lt.mpr h3)] at hE
        refine w_n 1 (pc1 := 43) (ls1 := [some (.ref 1)]) (st1 := [.int (-1)]) (hp1 := (hz F A L)) rfl ?_
        subst T
        exact w_ri rfl (cvQ rfl rfl rfl K)
      · have h3 : (F 1 3).toInt < (Int32.ofNat (A 2).length).toInt := h
        rw [if_pos h3] at hE
        refine w_n 4 (pc1 := 38) (ls1 := [some (.ref 1)]) (st1 := [.int (F 1 3), .ref 2]) (hp1 := (hz F A L)) rfl ?_
        refine w_al (k := 2) (l := (A 2)) rfl rfl rfl (fun _ => ?_)
        refine w_n 1 (pc1 := 43) (ls1 := [some (.ref 1)]) (st1 := [.int ((A 2).getD (F 1 3).toInt.toNat 0)]) (hp1 := (hz F A L)) rfl ?_
        subst T
        exact w_ri rfl (cvQ rfl rfl rfl K)
def kx_fail (f1_3 : Int32) (f1_4 : Int32) (x1 : Int32) : Int32 × Int32 := (if f1_4 = 0 then ((-1), (((-1000) * x1) - f1_3)) else ((-1), f1_4))
theorem t_kx_fail {f D : Nat} {F : Nat → Nat → Int32} {A : Nat → List Int32} {L : Nat → List Int64} {Q : Option Value → sm_H → Prop} {x1 : Int32} (K : Q (some (.int ((kx_fail (F 1 3) (F 1 4) x1).1))) (hz (uF F 1 4 ((kx_fail (F 1 3) (F 1 4) x1).2)) A L)) : wl_M f D 25 [.ref 1, .int x1] (hz F A L) Q := by
  generalize hT : (kx_fail (F 1 3) (F 1 4) x1) = T at K
  have hE : T = (if (F 1 4) = 0 then ((-1), (((-1000) * x1) - (F 1 3))) else ((-1), (F 1 4))) := hT.symm
  clear hT
  refine w_m (E := mm25) rfl ?_
  show wl_E f f (D - 1) mm25.2.2.2.2.2.2.2.2 0 [some (.ref 1), some (.int x1)] [] (hz F A L) Q
  refine w_n 2 (pc1 := 4) (ls1 := [some (.ref 1), some (.int x1)]) (st1 := [.int (F 1 4)]) (hp1 := (hz F A L)) rfl ?_
  refine w_zne (p3 := 7) rfl rfl (fun h => ?_) (fun h => ?_)
  · have h1 : ¬ (F 1 4) = 0 := h
    rw [if_neg h1] at hE
    refine w_n 1 (pc1 := 22) (ls1 := [some (.ref 1), some (.int x1)]) (st1 := [.int (-1)]) (hp1 := (hz F A L)) rfl ?_
    subst T
    exact w_ri rfl (cvQ (funext fun q => funext fun z => if k0 : q = 1 ∧ z = 4 then by obtain ⟨w1, w2⟩ := k0; subst w1; subst w2; exact Eq.trans (b := (F 1 4)) rfl rfl else by unfold uF; simp only [nb2 k0, cond_false]) rfl rfl K)
  · have h1 : (F 1 4) = 0 := h
    rw [if_pos h1] at hE
    refine w_n 7 (pc1 := 18) (ls1 := [some (.ref 1), some (.int x1)]) (st1 := [.int (((-1000) * x1) - (F 1 3)), .ref 1]) (hp1 := (hz F A L)) rfl ?_
    refine w_pf (k := 1) (fs := hz_f1 F) (hp1 := (hz (uF F 1 4 (((-1000) * x1) - (F 1 3))) A L)) rfl rfl rfl (hz_p1_4 _) ?_
    refine w_n 1 (pc1 := 22) (ls1 := [some (.ref 1), some (.int x1)]) (st1 := [.int (-1)]) (hp1 := (hz (uF F 1 4 (((-1000) * x1) - (F 1 3))) A L)) rfl ?_
    subst T
    exact w_ri rfl (cvQ rfl rfl rfl K)
def kt_isMeasure (f3_0 : Int32) (x1 : Int32) : Int32 := (if x1.toInt < 0 then 0 else (if x1.toInt < f3_0.toInt then 1 else 0))
theorem t_kt_isMeasure {f D : Nat} {F : Nat → Nat → Int32} {A : Nat → List Int32} {L : Nat → List Int64} {Q : Option Value → sm_H → Prop} {x1 : Int32} (K : Q (some (.int (kt_isMeasure (F 3 0) x1))) (hz F A L)) : wl_M f D 44 [.ref 3, .int x1] (hz F A L) Q := by
  generalize hT : (kt_isMeasure (F 3 0) x1) = T at K
  have hE : T = (if x1.toInt < 0 then 0 else (if x1.toInt < (F 3 0).toInt then 1 else 0)) := hT.symm
  clear hT
  refine w_m (E := mm44) rfl ?_
  show wl_E f f (D - 1) mm44.2.2.2.2.2.2.2.2 0 [some (.ref 3), some (.int x1)] [] (hz F A L) Q
  refine w_n 1 (pc1 := 1) (ls1 := [some (.ref 3), some (.int x1)]) (st1 := [.int x1]) (hp1 := (hz F A L)) rfl ?_
  refine w_zlt (p3 := 4) rfl rfl (fun h => ?_) (fun h => ?_)
  · have h1 : x1.toInt < 0 := h
    rw [if_pos h1] at hE
    refine w_n 1 (pc1 := 17) (ls1 := [some (.ref 3), some (.int x1)]) (st1 := [.int 0]) (hp1 := (hz F A L)) rfl ?_
    subst T
    exact w_ri rfl (cvQ rfl rfl rfl K)
  · have h1 : 0 ≤ x1.toInt := h
    rw [if_neg (Int.not_lt.mpr h1)] at hE
    refine w_n 3 (pc1 := 9) (ls1 := [some (.ref 3), some (.int x1)]) (st1 := [.int (F 3 0), .int x1]) (hp1 := (hz F A L)) rfl ?_
    refine w_ge (p3 := 12) rfl rfl (fun h => ?_) (fun h => ?_)
    · have h2 : (F 3 0).toInt ≤ x1.toInt := h
      rw [if_neg (Int.not_lt.mpr h2)] at hE
      refine w_n 1 (pc1 := 17) (ls1 := [some (.ref 3), some (.int x1)]) (st1 := [.int 0]) (hp1 := (hz F A L)) rfl ?_
      subst T
      exact w_ri rfl (cvQ rfl rfl rfl K)
    · have h2 : x1.toInt < (F 3 0).toInt := h
      rw [if_pos h2] at hE
      refine w_n 2 (pc1 := 17) (ls1 := [some (.ref 3), some (.int x1)]) (st1 := [.int 1]) (hp1 := (hz F A L)) rfl ?_
      subst T
      exact w_ri rfl (cvQ rfl rfl rfl K)
def kc_readRanking_10 (f1_2 : Int32) (f1_4 : Int32) (f3_0 : Int32) (a2 : List Int32)  : Nat → Int64 → Int32 → Int32 → Int32 → Int32 → Int64 × Int32 × Int32
  | 0, y1, _, _, _, f1_3 => (if (kx_sign f1_2 f1_3 a2) = (-1) then (y1, f1_3, f1_4) else ((kx_fail f1_3 f1_4 1).1.toInt64, f1_3, (kx_fail f1_3 f1_4 1).2))
  | m + 1, y1, y3, y4, y5, f1_3 => (if 0 < y5.toInt then (if (kx_sign f1_2 f1_3 a2) = 62 then (if (kt_isMeasure f3_0 ((kx_sign f1_2 (f1_3 + 1) a2) - 97)) = 0 then ((kx_fail (f1_3 + 1) f1_4 1).1.toInt64, (f1_3 + 1), (kx_fail (f1_3 + 1) f1_4 1).2) else (if ((y3 >>> (((kx_sign f1_2 (f1_3 + 1) a2) - 97) &&& 31)) &&& 1) = 0 then (kc_readRanking_10 f1_2 f1_4 f3_0 a2 m (y1 ||| (y3.toInt64 <<< ((((kx_sign f1_2 (f1_3 + 1) a2) - 97) * 6).toInt64 &&& 63))) (y3 ||| ((1 : Int32) <<< (((kx_sign f1_2 (f1_3 + 1) a2) - 97) &&& 31))) y3 (y5 + 1) ((f1_3 + 1) + 1)) else ((kx_fail (f1_3 + 1) f1_4 6).1.toInt64, (f1_3 + 1), (kx_fail (f1_3 + 1) f1_4 6).2))) else (if (kx_sign f1_2 f1_3 a2) = 61 then (if (kt_isMeasure f3_0 ((kx_sign f1_2 (f1_3 + 1) a2) - 97)) = 0 then ((kx_fail (f1_3 + 1) f1_4 1).1.toInt64, (f1_3 + 1), (kx_fail (f1_3 + 1) f1_4 1).2) else (if ((y3 >>> (((kx_sign f1_2 (f1_3 + 1) a2) - 97) &&& 31)) &&& 1) = 0 then (kc_readRanking_10 f1_2 f1_4 f3_0 a2 m (y1 ||| (y4.toInt64 <<< ((((kx_sign f1_2 (f1_3 + 1) a2) - 97) * 6).toInt64 &&& 63))) (y3 ||| ((1 : Int32) <<< (((kx_sign f1_2 (f1_3 + 1) a2) - 97) &&& 31))) y4 (y5 + 1) ((f1_3 + 1) + 1)) else ((kx_fail (f1_3 + 1) f1_4 6).1.toInt64, (f1_3 + 1), (kx_fail (f1_3 + 1) f1_4 6).2))) else ((kx_fail f1_3 f1_4 1).1.toInt64, f1_3, (kx_fail f1_3 f1_4 1).2))) else (if (kt_isMeasure f3_0 ((kx_sign f1_2 f1_3 a2) - 97)) = 0 then ((kx_fail f1_3 f1_4 1).1.toInt64, f1_3, (kx_fail f1_3 f1_4 1).2) else (if ((y3 >>> (((kx_sign f1_2 f1_3 a2) - 97) &&& 31)) &&& 1) = 0 then (kc_readRanking_10 f1_2 f1_4 f3_0 a2 m (y1 ||| (y4.toInt64 <<< ((((kx_sign f1_2 f1_3 a2) - 97) * 6).toInt64 &&& 63))) (y3 ||| ((1 : Int32) <<< (((kx_sign f1_2 f1_3 a2) - 97) &&& 31))) y4 (y5 + 1) (f1_3 + 1)) else ((kx_fail f1_3 f1_4 6).1.toInt64, f1_3, (kx_fail f1_3 f1_4 6).2))))
theorem t_kc_readRanking_10 {f : Nat} {Q : Option Value → sm_H → Prop} : ∀ (m : Nat) {B D : Nat} {F : Nat → Nat → Int32} {A : Nat → List Int32} {L : Nat → List Int64} {y1 : Int64} {y3 : Int32} {y4 : Int32} {y5 : Int32} {o6 : Option Value}, m = ((F 3 0).toInt - y5.toInt).toNat → (Q (some (.long ((kc_readRanking_10 (F 1 2) (F 1 4) (F 3 0) (A 2) m y1 y3 y4 y5 (F 1 3)).1))) (hz (uF (uF F 1 3 ((kc_readRanking_10 (F 1 2) (F 1 4) (F 3 0) (A 2) m y1 y3 y4 y5 (F 1 3)).2.1)) 1 4 ((kc_readRanking_10 (F 1 2) (F 1 4) (F 3 0) (A 2) m y1 y3 y4 y5 (F 1 3)).2.2)) A L)) → wl_E f B D mm43.2.2.2.2.2.2.2.2 10 [some (.ref 0), some (.long y1), none, some (.int y3), some (.int y4), some (.int y5), o6] [] (hz F A L) Q := by
  intro m
  induction m with
  | zero =>
    intro B D F A L y1 y3 y4 y5 o6 hm K
    generalize hT : (kc_readRanking_10 (F 1 2) (F 1 4) (F 3 0) (A 2) 0 y1 y3 y4 y5 (F 1 3)) = T at K
    have hE : T = (if (kx_sign (F 1 2) (F 1 3) (A 2)) = (-1) then (y1, (F 1 3), (F 1 4)) else ((kx_fail (F 1 3) (F 1 4) 1).1.toInt64, (F 1 3), (kx_fail (F 1 3) (F 1 4) 1).2)) := hT.symm
    clear hT
    refine w_n 4 (pc1 := 19) (ls1 := [some (.ref 0), some (.long y1), none, some (.int y3), some (.int y4), some (.int y5), o6]) (st1 := [.int (F 3 0), .int y5]) (hp1 := (hz F A L)) rfl ?_
    refine w_ge (p3 := 22) rfl rfl (fun hb => ?_) (fun h => False.elim (by have h : y5.toInt < (F 3 0).toInt := h; omega))
    refine w_n 2 (pc1 := 179) (ls1 := [some (.ref 0), some (.long y1), none, some (.int y3), some (.int y4), some (.int y5), o6]) (st1 := [.ref 1]) (hp1 := (hz F A L)) rfl ?_
    refine w_c rfl rfl (t_kx_sign ?_)
    show wl_E f _ _ mm43.2.2.2.2.2.2.2.2 182 [some (.ref 0), some (.long y1), none, some (.int y3), some (.int y4), some (.int y5), o6] [.int (kx_sign (F 1 2) (F 1 3) (A 2))] (hz F A L) _
    generalize hG132 : (kx_sign (F 1 2) (F 1 3) (A 2)) = G132 at hE ⊢
    refine w_n 1 (pc1 := 183) (ls1 := [some (.ref 0), some (.long y1), none, some (.int y3), some (.int y4), some (.int y5), o6]) (st1 := [.int (-1), .int G132]) (hp1 := (hz F A L)) rfl ?_
    refine w_ne (p3 := 186) rfl rfl (fun h => ?_) (fun h => ?_)
    · have h1 : ¬ G132 = (-1) := h
      rw [if_neg h1] at hE
      refine w_n 3 (pc1 := 195) (ls1 := [some (.ref 0), some (.long y1), none, some (.int y3), some (.int y4), some (.int y5), o6]) (st1 := [.int 1, .ref 1]) (hp1 := (hz F A L)) rfl ?_
      refine w_c rfl rfl (t_kx_fail ?_)
      show wl_E f _ _ mm43.2.2.2.2.2.2.2.2 198 [some (.ref 0), some (.long y1), none, some (.int y3), some (.int y4), some (.int y5), o6] [.int (kx_fail (F 1 3) (F 1 4) 1).1] (hz (uF F 1 4 (kx_fail (F 1 3) (F 1 4) 1).2) A L) _
      generalize hG133 : (kx_fail (F 1 3) (F 1 4) 1) = G133 at hE ⊢
      refine w_n 1 (pc1 := 199) (ls1 := [some (.ref 0), some (.long y1), none, some (.int y3), some (.int y4), some (.int y5), o6]) (st1 := [.long G133.1.toInt64]) (hp1 := (hz (uF F 1 4 G133.2) A L)) rfl ?_
      subst T
      exact w_r rfl rfl (cvQ (funext fun q => funext fun z => if k0 : q = 1 ∧ z = 3 then by obtain ⟨w1, w2⟩ := k0; subst w1; subst w2; exact Eq.trans (b := (F 1 3)) rfl rfl else if k1 : q = 1 ∧ z = 4 then by obtain ⟨w1, w2⟩ := k1; subst w1; subst w2; exact Eq.trans (b := G133.2) rfl rfl else by unfold uF; simp only [nb2 k0, nb2 k1, cond_false]) rfl rfl K)
    · have h1 : G132 = (-1) := h
      rw [if_pos h1] at hE
      refine w_n 2 (pc1 := 199) (ls1 := [some (.ref 0), some (.long y1), none, some (.int y3), some (.int y4), some (.int y5), o6]) (st1 := [.long y1]) (hp1 := (hz F A L)) rfl ?_
      subst T
      exact w_r rfl rfl (cvQ (funext fun q => funext fun z => if k0 : q = 1 ∧ z = 3 then by obtain ⟨w1, w2⟩ := k0; subst w1; subst w2; exact Eq.trans (b := (F 1 3)) rfl rfl else if k1 : q = 1 ∧ z = 4 then by obtain ⟨w1, w2⟩ := k1; subst w1; subst w2; exact Eq.trans (b := (F 1 4)) rfl rfl else by unfold uF; simp only [nb2 k0, nb2 k1, cond_false]) rfl rfl K)
  | succ m ih =>
    intro B D F A L y1 y3 y4 y5 o6 hm K
    generalize hT : (kc_readRanking_10 (F 1 2) (F 1 4) (F 3 0) (A 2) (m + 1) y1 y3 y4 y5 (F 1 3)) = T at K
    have hE : T = (if 0 < y5.toInt then (if (kx_sign (F 1 2) (F 1 3) (A 2)) = 62 then (if (kt_isMeasure (F 3 0) ((kx_sign (F 1 2) ((F 1 3) + 1) (A 2)) - 97)) = 0 then ((kx_fail ((F 1 3) + 1) (F 1 4) 1).1.toInt64, ((F 1 3) + 1), (kx_fail ((F 1 3) + 1) (F 1 4) 1).2) else (if ((y3 >>> (((kx_sign (F 1 2) ((F 1 3) + 1) (A 2)) - 97) &&& 31)) &&& 1) = 0 then (kc_readRanking_10 (F 1 2) (F 1 4) (F 3 0) (A 2) m (y1 ||| (y3.toInt64 <<< ((((kx_sign (F 1 2) ((F 1 3) + 1) (A 2)) - 97) * 6).toInt64 &&& 63))) (y3 ||| ((1 : Int32) <<< (((kx_sign (F 1 2) ((F 1 3) + 1) (A 2)) - 97) &&& 31))) y3 (y5 + 1) (((F 1 3) + 1) + 1)) else ((kx_fail ((F 1 3) + 1) (F 1 4) 6).1.toInt64, ((F 1 3) + 1), (kx_fail ((F 1 3) + 1) (F 1 4) 6).2))) else (if (kx_sign (F 1 2) (F 1 3) (A 2)) = 61 then (if (kt_isMeasure (F 3 0) ((kx_sign (F 1 2) ((F 1 3) + 1) (A 2)) - 97)) = 0 then ((kx_fail ((F 1 3) + 1) (F 1 4) 1).1.toInt64, ((F 1 3) + 1), (kx_fail ((F 1 3) + 1) (F 1 4) 1).2) else (if ((y3 >>> (((kx_sign (F 1 2) ((F 1 3) + 1) (A 2)) - 97) &&& 31)) &&& 1) = 0 then (kc_readRanking_10 (F 1 2) (F 1 4) (F 3 0) (A 2) m (y1 ||| (y4.toInt64 <<< ((((kx_sign (F 1 2) ((F 1 3) + 1) (A 2)) - 97) * 6).toInt64 &&& 63))) (y3 ||| ((1 : Int32) <<< (((kx_sign (F 1 2) ((F 1 3) + 1) (A 2)) - 97) &&& 31))) y4 (y5 + 1) (((F 1 3) + 1) + 1)) else ((kx_fail ((F 1 3) + 1) (F 1 4) 6).1.toInt64, ((F 1 3) + 1), (kx_fail ((F 1 3) + 1) (F 1 4) 6).2))) else ((kx_fail (F 1 3) (F 1 4) 1).1.toInt64, (F 1 3), (kx_fail (F 1 3) (F 1 4) 1).2))) else (if (kt_isMeasure (F 3 0) ((kx_sign (F 1 2) (F 1 3) (A 2)) - 97)) = 0 then ((kx_fail (F 1 3) (F 1 4) 1).1.toInt64, (F 1 3), (kx_fail (F 1 3) (F 1 4) 1).2) else (if ((y3 >>> (((kx_sign (F 1 2) (F 1 3) (A 2)) - 97) &&& 31)) &&& 1) = 0 then (kc_readRanking_10 (F 1 2) (F 1 4) (F 3 0) (A 2) m (y1 ||| (y4.toInt64 <<< ((((kx_sign (F 1 2) (F 1 3) (A 2)) - 97) * 6).toInt64 &&& 63))) (y3 ||| ((1 : Int32) <<< (((kx_sign (F 1 2) (F 1 3) (A 2)) - 97) &&& 31))) y4 (y5 + 1) ((F 1 3) + 1)) else ((kx_fail (F 1 3) (F 1 4) 6).1.toInt64, (F 1 3), (kx_fail (F 1 3) (F 1 4) 6).2)))) := hT.symm
    clear hT
    refine w_n 4 (pc1 := 19) (ls1 := [some (.ref 0), some (.long y1), none, some (.int y3), some (.int y4), some (.int y5), o6]) (st1 := [.int (F 3 0), .int y5]) (hp1 := (hz F A L)) rfl ?_
    refine w_ge (p3 := 22) rfl rfl (fun h => False.elim (by have h : (F 3 0).toInt ≤ y5.toInt := h; omega)) (fun hb => ?_)
    refine w_n 1 (pc1 := 24) (ls1 := [some (.ref 0), some (.long y1), none, some (.int y3), some (.int y4), some (.int y5), o6]) (st1 := [.int y5]) (hp1 := (hz F A L)) rfl ?_
    refine w_zle (p3 := 27) rfl rfl (fun h => ?_) (fun h => ?_)
    · have h2 : y5.toInt ≤ 0 := h
      rw [if_neg (Int.not_lt.mpr h2)] at hE
      refine w_n 2 (pc1 := 87) (ls1 := [some (.ref 0), some (.long y1), none, some (.int y3), some (.int y4), some (.int y5), o6]) (st1 := [.ref 1]) (hp1 := (hz F A L)) rfl ?_
      refine w_c rfl rfl (t_kx_sign ?_)
      show wl_E f _ _ mm43.2.2.2.2.2.2.2.2 90 [some (.ref 0), some (.long y1), none, some (.int y3), some (.int y4), some (.int y5), o6] [.int (kx_sign (F 1 2) (F 1 3) (A 2))] (hz F A L) _
      generalize hG134 : (kx_sign (F 1 2) (F 1 3) (A 2)) = G134 at hE ⊢
      refine w_n 6 (pc1 := 101) (ls1 := [some (.ref 0), some (.long y1), none, some (.int y3), some (.int y4), some (.int y5), some (.int (G134 - 97))]) (st1 := [.int (G134 - 97), .ref 3]) (hp1 := (hz F A L)) rfl ?_
      refine w_c rfl rfl (t_kt_isMeasure ?_)
      show wl_E f _ _ mm43.2.2.2.2.2.2.2.2 104 [some (.ref 0), some (.long y1), none, some (.int y3), some (.int y4), some (.int y5), some (.int (G134 - 97))] [.int (kt_isMeasure (F 3 0) (G134 - 97))] (hz F A L) _
      generalize hG135 : (kt_isMeasure (F 3 0) (G134 - 97)) = G135 at hE ⊢
      refine w_zne (p3 := 107) rfl rfl (fun h => ?_) (fun h => ?_)
      · have h3 : ¬ G135 = 0 := h
        rw [if_neg h3] at hE
        refine w_n 5 (pc1 := 123) (ls1 := [some (.ref 0), some (.long y1), none, some (.int y3), some (.int y4), some (.int y5), some (.int (G134 - 97))]) (st1 := [.int ((y3 >>> ((G134 - 97) &&& 31)) &&& 1)]) (hp1 := (hz F A L)) rfl ?_
        refine w_zeq (p3 := 126) rfl rfl (fun h => ?_) (fun h => ?_)
        · have h4 : ((y3 >>> ((G134 - 97) &&& 31)) &&& 1) = 0 := h
          rw [if_pos h4] at hE
          refine w_n 21 (pc1 := 166) (ls1 := [some (.ref 0), some (.long (y1 ||| (y4.toInt64 <<< (((G134 - 97) * 6).toInt64 &&& 63)))), none, some (.int (y3 ||| ((1 : Int32) <<< ((G134 - 97) &&& 31)))), some (.int y4), some (.int y5), some (.int (G134 - 97))]) (st1 := [.int ((F 1 3) + 1), .ref 1]) (hp1 := (hz F A L)) rfl ?_
          refine w_pf (k := 1) (fs := hz_f1 F) (hp1 := (hz (uF F 1 3 ((F 1 3) + 1)) A L)) rfl rfl rfl (hz_p1_3 _) ?_
          refine w_n 2 (pc1 := 10) (ls1 := [some (.ref 0), some (.long (y1 ||| (y4.toInt64 <<< (((G134 - 97) * 6).toInt64 &&& 63)))), none, some (.int (y3 ||| ((1 : Int32) <<< ((G134 - 97) &&& 31)))), some (.int y4), some (.int (y5 + 1)), some (.int (G134 - 97))]) (st1 := []) (hp1 := (hz (uF F 1 3 ((F 1 3) + 1)) A L)) rfl ?_
          subst T
          have hb2 := i_up (B := (F 3 0)) hb
          have hb3 : y5.toInt < (F 3 0).toInt := hb
          exact ih (show m = ((F 3 0).toInt - (y5 + 1).toInt).toNat by rw [hb2]; omega) (cvQ (funext fun q => funext fun z => if k0 : q = 1 ∧ z = 3 then by obtain ⟨w1, w2⟩ := k0; subst w1; subst w2; exact Eq.trans (b := (kc_readRanking_10 (F 1 2) (F 1 4) (F 3 0) (A 2) m (y1 ||| (y4.toInt64 <<< (((G134 - 97) * 6).toInt64 &&& 63))) (y3 ||| ((1 : Int32) <<< ((G134 - 97) &&& 31))) y4 (y5 + 1) ((F 1 3) + 1)).2.1) rfl rfl else if k1 : q = 1 ∧ z = 4 then by obtain ⟨w1, w2⟩ := k1; subst w1; subst w2; exact Eq.trans (b := (kc_readRanking_10 (F 1 2) (F 1 4) (F 3 0) (A 2) m (y1 ||| (y4.toInt64 <<< (((G134 - 97) * 6).toInt64 &&& 63))) (y3 ||| ((1 : Int32) <<< ((G134 - 97) &&& 31))) y4 (y5 + 1) ((F 1 3) + 1)).2.2) rfl rfl else by unfold uF; simp only [nb2 k0, nb2 k1, cond_false]) rfl rfl K)
        · have h4 : ¬ ((y3 >>> ((G134 - 97) &&& 31)) &&& 1) = 0 := h
          rw [if_neg h4] at hE
          refine w_n 3 (pc1 := 132) (ls1 := [some (.ref 0), some (.long y1), none, some (.int y3), some (.int y4), some (.int y5), some (.int (G134 - 97))]) (st1 := [.int 6, .ref 1]) (hp1 := (hz F A L)) rfl ?_
          refine w_c rfl rfl (t_kx_fail ?_)
          show wl_E f _ _ mm43.2.2.2.2.2.2.2.2 135 [some (.ref 0), some (.long y1), none, some (.int y3), some (.int y4), some (.int y5), some (.int (G134 - 97))] [.int (kx_fail (F 1 3) (F 1 4) 6).1] (hz (uF F 1 4 (kx_fail (F 1 3) (F 1 4) 6).2) A L) _
          generalize hG136 : (kx_fail (F 1 3) (F 1 4) 6) = G136 at hE ⊢
          refine w_n 1 (pc1 := 136) (ls1 := [some (.ref 0), some (.long y1), none, some (.int y3), some (.int y4), some (.int y5), some (.int (G134 - 97))]) (st1 := [.long G136.1.toInt64]) (hp1 := (hz (uF F 1 4 G136.2) A L)) rfl ?_
          subst T
          exact w_r rfl rfl (cvQ (funext fun q => funext fun z => if k0 : q = 1 ∧ z = 3 then by obtain ⟨w1, w2⟩ := k0; subst w1; subst w2; exact Eq.trans (b := (F 1 3)) rfl rfl else if k1 : q = 1 ∧ z = 4 then by obtain ⟨w1, w2⟩ := k1; subst w1; subst w2; exact Eq.trans (b := G136.2) rfl rfl else by unfold uF; simp only [nb2 k0, nb2 k1, cond_false]) rfl rfl K)
      · have h3 : G135 = 0 := h
        rw [if_pos h3] at hE
        refine w_n 3 (pc1 := 112) (ls1 := [some (.ref 0), some (.long y1), none, some (.int y3), some (.int y4), some (.int y5), some (.int (G134 - 97))]) (st1 := [.int 1, .ref 1]) (hp1 := (hz F A L)) rfl ?_
        refine w_c rfl rfl (t_kx_fail ?_)
        show wl_E f _ _ mm43.2.2.2.2.2.2.2.2 115 [some (.ref 0), some (.long y1), none, some (.int y3), some (.int y4), some (.int y5), some (.int (G134 - 97))] [.int (kx_fail (F 1 3) (F 1 4) 1).1] (hz (uF F 1 4 (kx_fail (F 1 3) (F 1 4) 1).2) A L) _
        generalize hG137 : (kx_fail (F 1 3) (F 1 4) 1) = G137 at hE ⊢
        refine w_n 1 (pc1 := 116) (ls1 := [some (.ref 0), some (.long y1), none, some (.int y3), some (.int y4), some (.int y5), some (.int (G134 - 97))]) (st1 := [.long G137.1.toInt64]) (hp1 := (hz (uF F 1 4 G137.2) A L)) rfl ?_
        subst T
        exact w_r rfl rfl (cvQ (funext fun q => funext fun z => if k0 : q = 1 ∧ z = 3 then by obtain ⟨w1, w2⟩ := k0; subst w1; subst w2; exact Eq.trans (b := (F 1 3)) rfl rfl else if k1 : q = 1 ∧ z = 4 then by obtain ⟨w1, w2⟩ := k1; subst w1; subst w2; exact Eq.trans (b := G137.2) rfl rfl else by unfold uF; simp only [nb2 k0, nb2 k1, cond_false]) rfl rfl K)
    · have h2 : 0 < y5.toInt := h
      rw [if_pos h2] at hE
      refine w_n 2 (pc1 := 31) (ls1 := [some (.ref 0), some (.long y1), none, some (.int y3), some (.int y4), some (.int y5), o6]) (st1 := [.ref 1]) (hp1 := (hz F A L)) rfl ?_
      refine w_c rfl rfl (t_kx_sign ?_)
      show wl_E f _ _ mm43.2.2.2.2.2.2.2.2 34 [some (.ref 0), some (.long y1), none, some (.int y3), some (.int y4), some (.int y5), o6] [.int (kx_sign (F 1 2) (F 1 3) (A 2))] (hz F A L) _
      generalize hG138 : (kx_sign (F 1 2) (F 1 3) (A 2)) = G138 at hE ⊢
      refine w_n 3 (pc1 := 40) (ls1 := [some (.ref 0), some (.long y1), none, some (.int y3), some (.int y4), some (.int y5), some (.int G138)]) (st1 := [.int 62, .int G138]) (hp1 := (hz F A L)) rfl ?_
      refine w_eq (p3 := 43) rfl rfl (fun h => ?_) (fun h => ?_)
      · have h5 : G138 = 62 := h
        rw [if_pos h5] at hE
        refine w_n 2 (pc1 := 64) (ls1 := [some (.ref 0), some (.long y1), none, some (.int y3), some (.int y4), some (.int y5), some (.int G138)]) (st1 := [.int 62, .int G138]) (hp1 := (hz F A L)) rfl ?_
        refine w_ne (p3 := 67) rfl rfl (fun h => absurd h5 h) (fun _ => ?_)
        refine w_n 8 (pc1 := 80) (ls1 := [some (.ref 0), some (.long y1), none, some (.int y3), some (.int y3), some (.int y5), some (.int G138)]) (st1 := [.int ((F 1 3) + 1), .ref 1]) (hp1 := (hz F A L)) rfl ?_
        refine w_pf (k := 1) (fs := hz_f1 F) (hp1 := (hz (uF F 1 3 ((F 1 3) + 1)) A L)) rfl rfl rfl (hz_p1_3 _) ?_
        refine w_n 2 (pc1 := 87) (ls1 := [some (.ref 0), some (.long y1), none, some (.int y3), some (.int y3), some (.int y5), some (.int G138)]) (st1 := [.ref 1]) (hp1 := (hz (uF F 1 3 ((F 1 3) + 1)) A L)) rfl ?_
        refine w_c rfl rfl (t_kx_sign ?_)
        show wl_E f _ _ mm43.2.2.2.2.2.2.2.2 90 [some (.ref 0), some (.long y1), none, some (.int y3), some (.int y3), some (.int y5), some (.int G138)] [.int (kx_sign (F 1 2) ((F 1 3) + 1) (A 2))] (hz (uF F 1 3 ((F 1 3) + 1)) A L) _
        generalize hG139 : (kx_sign (F 1 2) ((F 1 3) + 1) (A 2)) = G139 at hE ⊢
        refine w_n 6 (pc1 := 101) (ls1 := [some (.ref 0), some (.long y1), none, some (.int y3), some (.int y3), some (.int y5), some (.int (G139 - 97))]) (st1 := [.int (G139 - 97), .ref 3]) (hp1 := (hz (uF F 1 3 ((F 1 3) + 1)) A L)) rfl ?_
        refine w_c rfl rfl (t_kt_isMeasure ?_)
        show wl_E f _ _ mm43.2.2.2.2.2.2.2.2 104 [some (.ref 0), some (.long y1), none, some (.int y3), some (.int y3), some (.int y5), some (.int (G139 - 97))] [.int (kt_isMeasure (F 3 0) (G139 - 97))] (hz (uF F 1 3 ((F 1 3) + 1)) A L) _
        generalize hG140 : (kt_isMeasure (F 3 0) (G139 - 97)) = G140 at hE ⊢
        refine w_zne (p3 := 107) rfl rfl (fun h => ?_) (fun h => ?_)
        · have h6 : ¬ G140 = 0 := h
          rw [if_neg h6] at hE
          refine w_n 5 (pc1 := 123) (ls1 := [some (.ref 0), some (.long y1), none, some (.int y3), some (.int y3), some (.int y5), some (.int (G139 - 97))]) (st1 := [.int ((y3 >>> ((G139 - 97) &&& 31)) &&& 1)]) (hp1 := (hz (uF F 1 3 ((F 1 3) + 1)) A L)) rfl ?_
          refine w_zeq (p3 := 126) rfl rfl (fun h => ?_) (fun h => ?_)
          · have h7 : ((y3 >>> ((G139 - 97) &&& 31)) &&& 1) = 0 := h
            rw [if_pos h7] at hE
            refine w_n 21 (pc1 := 166) (ls1 := [some (.ref 0), some (.long (y1 ||| (y3.toInt64 <<< (((G139 - 97) * 6).toInt64 &&& 63)))), none, some (.int (y3 ||| ((1 : Int32) <<< ((G139 - 97) &&& 31)))), some (.int y3), some (.int y5), some (.int (G139 - 97))]) (st1 := [.int (((F 1 3) + 1) + 1), .ref 1]) (hp1 := (hz (uF F 1 3 ((F 1 3) + 1)) A L)) rfl ?_
            refine w_pf (k := 1) (fs := hz_f1 (uF F 1 3 ((F 1 3) + 1))) (hp1 := (hz (uF (uF F 1 3 ((F 1 3) + 1)) 1 3 (((F 1 3) + 1) + 1)) A L)) rfl rfl rfl (hz_p1_3 _) ?_
            refine w_n 2 (pc1 := 10) (ls1 := [some (.ref 0), some (.long (y1 ||| (y3.toInt64 <<< (((G139 - 97) * 6).toInt64 &&& 63)))), none, some (.int (y3 ||| ((1 : Int32) <<< ((G139 - 97) &&& 31)))), some (.int y3), some (.int (y5 + 1)), some (.int (G139 - 97))]) (st1 := []) (hp1 := (hz (uF (uF F 1 3 ((F 1 3) + 1)) 1 3 (((F 1 3) + 1) + 1)) A L)) rfl ?_
            subst T
            have hb2 := i_up (B := (F 3 0)) hb
            have hb3 : y5.toInt < (F 3 0).toInt := hb
            exact ih (show m = ((F 3 0).toInt - (y5 + 1).toInt).toNat by rw [hb2]; omega) (cvQ (funext fun q => funext fun z => if k0 : q = 1 ∧ z = 3 then by obtain ⟨w1, w2⟩ := k0; subst w1; subst w2; exact Eq.trans (b := (kc_readRanking_10 (F 1 2) (F 1 4) (F 3 0) (A 2) m (y1 ||| (y3.toInt64 <<< (((G139 - 97) * 6).toInt64 &&& 63))) (y3 ||| ((1 : Int32) <<< ((G139 - 97) &&& 31))) y3 (y5 + 1) (((F 1 3) + 1) + 1)).2.1) rfl rfl else if k1 : q = 1 ∧ z = 4 then by obtain ⟨w1, w2⟩ := k1; subst w1; subst w2; exact Eq.trans (b := (kc_readRanking_10 (F 1 2) (F 1 4) (F 3 0) (A 2) m (y1 ||| (y3.toInt64 <<< (((G139 - 97) * 6).toInt64 &&& 63))) (y3 ||| ((1 : Int32) <<< ((G139 - 97) &&& 31))) y3 (y5 + 1) (((F 1 3) + 1) + 1)).2.2) rfl rfl else by unfold uF; simp only [nb2 k0, nb2 k1, cond_false]) rfl rfl K)
          · have h7 : ¬ ((y3 >>> ((G139 - 97) &&& 31)) &&& 1) = 0 := h
            rw [if_neg h7] at hE
            refine w_n 3 (pc1 := 132) (ls1 := [some (.ref 0), some (.long y1), none, some (.int y3), some (.int y3), some (.int y5), some (.int (G139 - 97))]) (st1 := [.int 6, .ref 1]) (hp1 := (hz (uF F 1 3 ((F 1 3) + 1)) A L)) rfl ?_
            refine w_c rfl rfl (t_kx_fail ?_)
            show wl_E f _ _ mm43.2.2.2.2.2.2.2.2 135 [some (.ref 0), some (.long y1), none, some (.int y3), some (.int y3), some (.int y5), some (.int (G139 - 97))] [.int (kx_fail ((F 1 3) + 1) (F 1 4) 6).1] (hz (uF (uF F 1 3 ((F 1 3) + 1)) 1 4 (kx_fail ((F 1 3) + 1) (F 1 4) 6).2) A L) _
            generalize hG141 : (kx_fail ((F 1 3) + 1) (F 1 4) 6) = G141 at hE ⊢
            refine w_n 1 (pc1 := 136) (ls1 := [some (.ref 0), some (.long y1), none, some (.int y3), some (.int y3), some (.int y5), some (.int (G139 - 97))]) (st1 := [.long G141.1.toInt64]) (hp1 := (hz (uF (uF F 1 3 ((F 1 3) + 1)) 1 4 G141.2) A L)) rfl ?_
            subst T
            exact w_r rfl rfl (cvQ rfl rfl rfl K)
        · have h6 : G140 = 0 := h
          rw [if_pos h6] at hE
          refine w_n 3 (pc1 := 112) (ls1 := [some (.ref 0), some (.long y1), none, some (.int y3), some (.int y3), some (.int y5), some (.int (G139 - 97))]) (st1 := [.int 1, .ref 1]) (hp1 := (hz (uF F 1 3 ((F 1 3) + 1)) A L)) rfl ?_
          refine w_c rfl rfl (t_kx_fail ?_)
          show wl_E f _ _ mm43.2.2.2.2.2.2.2.2 115 [some (.ref 0), some (.long y1), none, some (.int y3), some (.int y3), some (.int y5), some (.int (G139 - 97))] [.int (kx_fail ((F 1 3) + 1) (F 1 4) 1).1] (hz (uF (uF F 1 3 ((F 1 3) + 1)) 1 4 (kx_fail ((F 1 3) + 1) (F 1 4) 1).2) A L) _
          generalize hG142 : (kx_fail ((F 1 3) + 1) (F 1 4) 1) = G142 at hE ⊢
          refine w_n 1 (pc1 := 116) (ls1 := [some (.ref 0), some (.long y1), none, some (.int y3), some (.int y3), some (.int y5), some (.int (G139 - 97))]) (st1 := [.long G142.1.toInt64]) (hp1 := (hz (uF (uF F 1 3 ((F 1 3) + 1)) 1 4 G142.2) A L)) rfl ?_
          subst T
          exact w_r rfl rfl (cvQ rfl rfl rfl K)
      · have h5 : ¬ G138 = 62 := h
        rw [if_neg h5] at hE
        refine w_n 2 (pc1 := 47) (ls1 := [some (.ref 0), some (.long y1), none, some (.int y3), some (.int y4), some (.int y5), some (.int G138)]) (st1 := [.int 61, .int G138]) (hp1 := (hz F A L)) rfl ?_
        refine w_eq (p3 := 50) rfl rfl (fun h => ?_) (fun h => ?_)
        · have h8 : G138 = 61 := h
          rw [if_pos h8] at hE
          refine w_n 2 (pc1 := 64) (ls1 := [some (.ref 0), some (.long y1), none, some (.int y3), some (.int y4), some (.int y5), some (.int G138)]) (st1 := [.int 62, .int G138]) (hp1 := (hz F A L)) rfl ?_
          refine w_ne (p3 := 67) rfl rfl (fun _ => ?_) (fun h => absurd h h5)
          refine w_n 6 (pc1 := 80) (ls1 := [some (.ref 0), some (.long y1), none, some (.int y3), some (.int y4), some (.int y5), some (.int G138)]) (st1 := [.int ((F 1 3) + 1), .ref 1]) (hp1 := (hz F A L)) rfl ?_
          refine w_pf (k := 1) (fs := hz_f1 F) (hp1 := (hz (uF F 1 3 ((F 1 3) + 1)) A L)) rfl rfl rfl (hz_p1_3 _) ?_
          refine w_n 2 (pc1 := 87) (ls1 := [some (.ref 0), some (.long y1), none, some (.int y3), some (.int y4), some (.int y5), some (.int G138)]) (st1 := [.ref 1]) (hp1 := (hz (uF F 1 3 ((F 1 3) + 1)) A L)) rfl ?_
          refine w_c rfl rfl (t_kx_sign ?_)
          show wl_E f _ _ mm43.2.2.2.2.2.2.2.2 90 [some (.ref 0), some (.long y1), none, some (.int y3), some (.int y4), some (.int y5), some (.int G138)] [.int (kx_sign (F 1 2) ((F 1 3) + 1) (A 2))] (hz (uF F 1 3 ((F 1 3) + 1)) A L) _
          generalize hG143 : (kx_sign (F 1 2) ((F 1 3) + 1) (A 2)) = G143 at hE ⊢
          refine w_n 6 (pc1 := 101) (ls1 := [some (.ref 0), some (.long y1), none, some (.int y3), some (.int y4), some (.int y5), some (.int (G143 - 97))]) (st1 := [.int (G143 - 97), .ref 3]) (hp1 := (hz (uF F 1 3 ((F 1 3) + 1)) A L)) rfl ?_
          refine w_c rfl rfl (t_kt_isMeasure ?_)
          show wl_E f _ _ mm43.2.2.2.2.2.2.2.2 104 [some (.ref 0), some (.long y1), none, some (.int y3), some (.int y4), some (.int y5), some (.int (G143 - 97))] [.int (kt_isMeasure (F 3 0) (G143 - 97))] (hz (uF F 1 3 ((F 1 3) + 1)) A L) _
          generalize hG144 : (kt_isMeasure (F 3 0) (G143 - 97)) = G144 at hE ⊢
          refine w_zne (p3 := 107) rfl rfl (fun h => ?_) (fun h => ?_)
          · have h9 : ¬ G144 = 0 := h
            rw [if_neg h9] at hE
            refine w_n 5 (pc1 := 123) (ls1 := [some (.ref 0), some (.long y1), none, some (.int y3), some (.int y4), some (.int y5), some (.int (G143 - 97))]) (st1 := [.int ((y3 >>> ((G143 - 97) &&& 31)) &&& 1)]) (hp1 := (hz (uF F 1 3 ((F 1 3) + 1)) A L)) rfl ?_
            refine w_zeq (p3 := 126) rfl rfl (fun h => ?_) (fun h => ?_)
            · have h10 : ((y3 >>> ((G143 - 97) &&& 31)) &&& 1) = 0 := h
              rw [if_pos h10] at hE
              refine w_n 21 (pc1 := 166) (ls1 := [some (.ref 0), some (.long (y1 ||| (y4.toInt64 <<< (((G143 - 97) * 6).toInt64 &&& 63)))), none, some (.int (y3 ||| ((1 : Int32) <<< ((G143 - 97) &&& 31)))), some (.int y4), some (.int y5), some (.int (G143 - 97))]) (st1 := [.int (((F 1 3) + 1) + 1), .ref 1]) (hp1 := (hz (uF F 1 3 ((F 1 3) + 1)) A L)) rfl ?_
              refine w_pf (k := 1) (fs := hz_f1 (uF F 1 3 ((F 1 3) + 1))) (hp1 := (hz (uF (uF F 1 3 ((F 1 3) + 1)) 1 3 (((F 1 3) + 1) + 1)) A L)) rfl rfl rfl (hz_p1_3 _) ?_
              refine w_n 2 (pc1 := 10) (ls1 := [some (.ref 0), some (.long (y1 ||| (y4.toInt64 <<< (((G143 - 97) * 6).toInt64 &&& 63)))), none, some (.int (y3 ||| ((1 : Int32) <<< ((G143 - 97) &&& 31)))), some (.int y4), some (.int (y5 + 1)), some (.int (G143 - 97))]) (st1 := []) (hp1 := (hz (uF (uF F 1 3 ((F 1 3) + 1)) 1 3 (((F 1 3) + 1) + 1)) A L)) rfl ?_
              subst T
              have hb2 := i_up (B := (F 3 0)) hb
              have hb3 : y5.toInt < (F 3 0).toInt := hb
              exact ih (show m = ((F 3 0).toInt - (y5 + 1).toInt).toNat by rw [hb2]; omega) (cvQ (funext fun q => funext fun z => if k0 : q = 1 ∧ z = 3 then by obtain ⟨w1, w2⟩ := k0; subst w1; subst w2; exact Eq.trans (b := (kc_readRanking_10 (F 1 2) (F 1 4) (F 3 0) (A 2) m (y1 ||| (y4.toInt64 <<< (((G143 - 97) * 6).toInt64 &&& 63))) (y3 ||| ((1 : Int32) <<< ((G143 - 97) &&& 31))) y4 (y5 + 1) (((F 1 3) + 1) + 1)).2.1) rfl rfl else if k1 : q = 1 ∧ z = 4 then by obtain ⟨w1, w2⟩ := k1; subst w1; subst w2; exact Eq.trans (b := (kc_readRanking_10 (F 1 2) (F 1 4) (F 3 0) (A 2) m (y1 ||| (y4.toInt64 <<< (((G143 - 97) * 6).toInt64 &&& 63))) (y3 ||| ((1 : Int32) <<< ((G143 - 97) &&& 31))) y4 (y5 + 1) (((F 1 3) + 1) + 1)).2.2) rfl rfl else by unfold uF; simp only [nb2 k0, nb2 k1, cond_false]) rfl rfl K)
            · have h10 : ¬ ((y3 >>> ((G143 - 97) &&& 31)) &&& 1) = 0 := h
              rw [if_neg h10] at hE
              refine w_n 3 (pc1 := 132) (ls1 := [some (.ref 0), some (.long y1), none, some (.int y3), some (.int y4), some (.int y5), some (.int (G143 - 97))]) (st1 := [.int 6, .ref 1]) (hp1 := (hz (uF F 1 3 ((F 1 3) + 1)) A L)) rfl ?_
              refine w_c rfl rfl (t_kx_fail ?_)
              show wl_E f _ _ mm43.2.2.2.2.2.2.2.2 135 [some (.ref 0), some (.long y1), none, some (.int y3), some (.int y4), some (.int y5), some (.int (G143 - 97))] [.int (kx_fail ((F 1 3) + 1) (F 1 4) 6).1] (hz (uF (uF F 1 3 ((F 1 3) + 1)) 1 4 (kx_fail ((F 1 3) + 1) (F 1 4) 6).2) A L) _
              generalize hG145 : (kx_fail ((F 1 3) + 1) (F 1 4) 6) = G145 at hE ⊢
              refine w_n 1 (pc1 := 136) (ls1 := [some (.ref 0), some (.long y1), none, some (.int y3), some (.int y4), some (.int y5), some (.int (G143 - 97))]) (st1 := [.long G145.1.toInt64]) (hp1 := (hz (uF (uF F 1 3 ((F 1 3) + 1)) 1 4 G145.2) A L)) rfl ?_
              subst T
              exact w_r rfl rfl (cvQ rfl rfl rfl K)
          · have h9 : G144 = 0 := h
            rw [if_pos h9] at hE
            refine w_n 3 (pc1 := 112) (ls1 := [some (.ref 0), some (.long y1), none, some (.int y3), some (.int y4), some (.int y5), some (.int (G143 - 97))]) (st1 := [.int 1, .ref 1]) (hp1 := (hz (uF F 1 3 ((F 1 3) + 1)) A L)) rfl ?_
            refine w_c rfl rfl (t_kx_fail ?_)
            show wl_E f _ _ mm43.2.2.2.2.2.2.2.2 115 [some (.ref 0), some (.long y1), none, some (.int y3), some (.int y4), some (.int y5), some (.int (G143 - 97))] [.int (kx_fail ((F 1 3) + 1) (F 1 4) 1).1] (hz (uF (uF F 1 3 ((F 1 3) + 1)) 1 4 (kx_fail ((F 1 3) + 1) (F 1 4) 1).2) A L) _
            generalize hG146 : (kx_fail ((F 1 3) + 1) (F 1 4) 1) = G146 at hE ⊢
            refine w_n 1 (pc1 := 116) (ls1 := [some (.ref 0), some (.long y1), none, some (.int y3), some (.int y4), some (.int y5), some (.int (G143 - 97))]) (st1 := [.long G146.1.toInt64]) (hp1 := (hz (uF (uF F 1 3 ((F 1 3) + 1)) 1 4 G146.2) A L)) rfl ?_
            subst T
            exact w_r rfl rfl (cvQ rfl rfl rfl K)
        · have h8 : ¬ G138 = 61 := h
          rw [if_neg h8] at hE
          refine w_n 3 (pc1 := 55) (ls1 := [some (.ref 0), some (.long y1), none, some (.int y3), some (.int y4), some (.int y5), some (.int G138)]) (st1 := [.int 1, .ref 1]) (hp1 := (hz F A L)) rfl ?_
          refine w_c rfl rfl (t_kx_fail ?_)
          show wl_E f _ _ mm43.2.2.2.2.2.2.2.2 58 [some (.ref 0), some (.long y1), none, some (.int y3), some (.int y4), some (.int y5), some (.int G138)] [.int (kx_fail (F 1 3) (F 1 4) 1).1] (hz (uF F 1 4 (kx_fail (F 1 3) (F 1 4) 1).2) A L) _
          generalize hG147 : (kx_fail (F 1 3) (F 1 4) 1) = G147 at hE ⊢
          refine w_n 1 (pc1 := 59) (ls1 := [some (.ref 0), some (.long y1), none, some (.int y3), some (.int y4), some (.int y5), some (.int G138)]) (st1 := [.long G147.1.toInt64]) (hp1 := (hz (uF F 1 4 G147.2) A L)) rfl ?_
          subst T
          exact w_r rfl rfl (cvQ (funext fun q => funext fun z => if k0 : q = 1 ∧ z = 3 then by obtain ⟨w1, w2⟩ := k0; subst w1; subst w2; exact Eq.trans (b := (F 1 3)) rfl rfl else if k1 : q = 1 ∧ z = 4 then by obtain ⟨w1, w2⟩ := k1; subst w1; subst w2; exact Eq.trans (b := G147.2) rfl rfl else by unfold uF; simp only [nb2 k0, nb2 k1, cond_false]) rfl rfl K)
def kc_readRanking (f1_2 : Int32) (f1_3 : Int32) (f1_4 : Int32) (f3_0 : Int32) (a2 : List Int32) : Int64 × Int32 × Int32 := (kc_readRanking_10 f1_2 f1_4 f3_0 a2 f3_0.toInt.toNat 0 0 0 0 f1_3)
theorem t_kc_readRanking {f D : Nat} {F : Nat → Nat → Int32} {A : Nat → List Int32} {L : Nat → List Int64} {Q : Option Value → sm_H → Prop} (K : Q (some (.long ((kc_readRanking (F 1 2) (F 1 3) (F 1 4) (F 3 0) (A 2)).1))) (hz (uF (uF F 1 3 ((kc_readRanking (F 1 2) (F 1 3) (F 1 4) (F 3 0) (A 2)).2.1)) 1 4 ((kc_readRanking (F 1 2) (F 1 3) (F 1 4) (F 3 0) (A 2)).2.2)) A L)) : wl_M f D 43 [.ref 0] (hz F A L) Q := by
  generalize hT : (kc_readRanking (F 1 2) (F 1 3) (F 1 4) (F 3 0) (A 2)) = T at K
  have hE : T = (kc_readRanking_10 (F 1 2) (F 1 4) (F 3 0) (A 2) (F 3 0).toInt.toNat 0 0 0 0 (F 1 3)) := hT.symm
  clear hT
  refine w_m (E := mm43) rfl ?_
  show wl_E f f (D - 1) mm43.2.2.2.2.2.2.2.2 0 [some (.ref 0), none, none, none, none, none, none] [] (hz F A L) Q
  refine w_n 8 (pc1 := 10) (ls1 := [some (.ref 0), some (.long 0), none, some (.int 0), some (.int 0), some (.int 0), none]) (st1 := []) (hp1 := (hz F A L)) rfl ?_
  subst T
  exact t_kc_readRanking_10 _ (show (F 3 0).toInt.toNat = ((F 3 0).toInt - (0 : Int32).toInt).toNat by have e0 : (0 : Int32).toInt = 0 := rfl; first | rfl | omega) (cvQ (funext fun q => funext fun z => if k0 : q = 1 ∧ z = 3 then by obtain ⟨w1, w2⟩ := k0; subst w1; subst w2; exact Eq.trans (b := (kc_readRanking_10 (F 1 2) (F 1 4) (F 3 0) (A 2) (F 3 0).toInt.toNat 0 0 0 0 (F 1 3)).2.1) rfl rfl else if k1 : q = 1 ∧ z = 4 then by obtain ⟨w1, w2⟩ := k1; subst w1; subst w2; exact Eq.trans (b := (kc_readRanking_10 (F 1 2) (F 1 4) (F 3 0) (A 2) (F 3 0).toInt.toNat 0 0 0 0 (F 1 3)).2.2) rfl rfl else by unfold uF; simp only [nb2 k0, nb2 k1, cond_false]) rfl rfl K)
def kt_aheadOf (l11 : List Int64) (x1 : Int32) (x2 : Int32) : Int32 := (((((l11.getD x1.toInt.toNat 0).toUInt64 >>> ((x2 * 6).toInt64.toUInt64 &&& Int64.toUInt64 63)).toInt64).toInt32) &&& 63)
theorem t_kt_aheadOf {f D : Nat} {F : Nat → Nat → Int32} {A : Nat → List Int32} {L : Nat → List Int64} {Q : Option Value → sm_H → Prop} {x1 : Int32} {x2 : Int32} (K : Q (some (.int (kt_aheadOf (L 11) x1 x2))) (hz F A L)) : wl_M f D 46 [.ref 3, .int x1, .int x2] (hz F A L) Q := by
  generalize hT : (kt_aheadOf (L 11) x1 x2) = T at K
  have hE : T = ((((((L 11).getD x1.toInt.toNat 0).toUInt64 >>> ((x2 * 6).toInt64.toUInt64 &&& Int64.toUInt64 63)).toInt64).toInt32) &&& 63) := hT.symm
  clear hT
  refine w_m (E := mm46) rfl ?_
  show wl_E f f (D - 1) mm46.2.2.2.2.2.2.2.2 0 [some (.ref 3), some (.int x1), some (.int x2)] [] (hz F A L) Q
  refine w_n 3 (pc1 := 5) (ls1 := [some (.ref 3), some (.int x1), some (.int x2)]) (st1 := [.int x1, .ref 11]) (hp1 := (hz F A L)) rfl ?_
  refine w_ll (k := 11) (l := (L 11)) rfl rfl rfl (fun _ => ?_)
  refine w_n 7 (pc1 := 15) (ls1 := [some (.ref 3), some (.int x1), some (.int x2)]) (st1 := [.int ((((((L 11).getD x1.toInt.toNat 0).toUInt64 >>> ((x2 * 6).toInt64.toUInt64 &&& Int64.toUInt64 63)).toInt64).toInt32) &&& 63)]) (hp1 := (hz F A L)) rfl ?_
  subst T
  exact w_ri rfl (cvQ rfl rfl rfl K)
def kt_steps_18 (l11 : List Int64) (x1 : Int32) (x3 : Int32) : Nat → Int32 → Int32 → Int32
  | 0, y4, _ => y4
  | m + 1, y4, y5 => (if (kt_aheadOf l11 x1 x3) = (kt_aheadOf l11 x1 y5) then (kt_steps_18 l11 x1 x3 m (y4 ||| 1) (y5 + 1)) else (kt_steps_18 l11 x1 x3 m (y4 ||| 0) (y5 + 1)))
theorem t_kt_steps_18 {f : Nat} {Q : Option Value → sm_H → Prop} : ∀ (m : Nat) {B D : Nat} {F : Nat → Nat → Int32} {A : Nat → List Int32} {L : Nat → List Int64} {x1 : Int32} {x2 : Int32} {x3 : Int32} {y4 : Int32} {y5 : Int32}, m = (x3.toInt - y5.toInt).toNat → (∀ q5 : Int32, wl_E f B D mm45.2.2.2.2.2.2.2.2 56 [some (.ref 3), some (.int x1), some (.int x2), some (.int x3), some (.int (kt_steps_18 (L 11) x1 x3 m y4 y5)), some (.int q5)] [] (hz F A L) Q) → wl_E f B D mm45.2.2.2.2.2.2.2.2 18 [some (.ref 3), some (.int x1), some (.int x2), some (.int x3), some (.int y4), some (.int y5)] [] (hz F A L) Q := by
  intro m
  induction m with
  | zero =>
    intro B D F A L x1 x2 x3 y4 y5 hm K
    generalize hT : (kt_steps_18 (L 11) x1 x3 0 y4 y5) = T at K
    have hE : T = y4 := hT.symm
    clear hT
    refine w_n 2 (pc1 := 21) (ls1 := [some (.ref 3), some (.int x1), some (.int x2), some (.int x3), some (.int y4), some (.int y5)]) (st1 := [.int x3, .int y5]) (hp1 := (hz F A L)) rfl ?_
    refine w_ge (p3 := 24) rfl rfl (fun hb => ?_) (fun h => False.elim (by have h : y5.toInt < x3.toInt := h; omega))
    subst T
    exact cvE rfl rfl rfl (K _)
  | succ m ih =>
    intro B D F A L x1 x2 x3 y4 y5 hm K
    generalize hT : (kt_steps_18 (L 11) x1 x3 (m + 1) y4 y5) = T at K
    have hE : T = (if (kt_aheadOf (L 11) x1 x3) = (kt_aheadOf (L 11) x1 y5) then (kt_steps_18 (L 11) x1 x3 m (y4 ||| 1) (y5 + 1)) else (kt_steps_18 (L 11) x1 x3 m (y4 ||| 0) (y5 + 1))) := hT.symm
    clear hT
    refine w_n 2 (pc1 := 21) (ls1 := [some (.ref 3), some (.int x1), some (.int x2), some (.int x3), some (.int y4), some (.int y5)]) (st1 := [.int x3, .int y5]) (hp1 := (hz F A L)) rfl ?_
    refine w_ge (p3 := 24) rfl rfl (fun h => False.elim (by have h : x3.toInt ≤ y5.toInt := h; omega)) (fun hb => ?_)
    refine w_n 4 (pc1 := 29) (ls1 := [some (.ref 3), some (.int x1), some (.int x2), some (.int x3), some (.int y4), some (.int y5)]) (st1 := [.int x3, .int x1, .ref 3, .int y4]) (hp1 := (hz F A L)) rfl ?_
    refine w_c rfl rfl (t_kt_aheadOf ?_)
    show wl_E f _ _ mm45.2.2.2.2.2.2.2.2 32 [some (.ref 3), some (.int x1), some (.int x2), some (.int x3), some (.int y4), some (.int y5)] [.int (kt_aheadOf (L 11) x1 x3), .int y4] (hz F A L) _
    generalize hG149 : (kt_aheadOf (L 11) x1 x3) = G149 at hE ⊢
    refine w_n 3 (pc1 := 36) (ls1 := [some (.ref 3), some (.int x1), some (.int x2), some (.int x3), some (.int y4), some (.int y5)]) (st1 := [.int y5, .int x1, .ref 3, .int G149, .int y4]) (hp1 := (hz F A L)) rfl ?_
    refine w_c rfl rfl (t_kt_aheadOf ?_)
    show wl_E f _ _ mm45.2.2.2.2.2.2.2.2 39 [some (.ref 3), some (.int x1), some (.int x2), some (.int x3), some (.int y4), some (.int y5)] [.int (kt_aheadOf (L 11) x1 y5), .int G149, .int y4] (hz F A L) _
    generalize hG150 : (kt_aheadOf (L 11) x1 y5) = G150 at hE ⊢
    refine w_ne (p3 := 42) rfl rfl (fun h => ?_) (fun h => ?_)
    · have h1 : ¬ G149 = G150 := h
      rw [if_neg h1] at hE
      refine w_n 5 (pc1 := 18) (ls1 := [some (.ref 3), some (.int x1), some (.int x2), some (.int x3), some (.int (y4 ||| 0)), some (.int (y5 + 1))]) (st1 := []) (hp1 := (hz F A L)) rfl ?_
      subst T
      have hb2 := i_up (B := x3) hb
      have hb3 : y5.toInt < x3.toInt := hb
      exact ih (show m = (x3.toInt - (y5 + 1).toInt).toNat by rw [hb2]; omega) (fun q5 => cvE rfl rfl rfl (K q5))
    · have h1 : G149 = G150 := h
      rw [if_pos h1] at hE
      refine w_n 6 (pc1 := 18) (ls1 := [some (.ref 3), some (.int x1), some (.int x2), some (.int x3), some (.int (y4 ||| 1)), some (.int (y5 + 1))]) (st1 := []) (hp1 := (hz F A L)) rfl ?_
      subst T
      have hb2 := i_up (B := x3) hb
      have hb3 : y5.toInt < x3.toInt := hb
      exact ih (show m = (x3.toInt - (y5 + 1).toInt).toNat by rw [hb2]; omega) (fun q5 => cvE rfl rfl rfl (K q5))
def kt_steps_4 (l11 : List Int64) (x1 : Int32) : Nat → Int32 → Int32 → Int32
  | 0, y2, _ => y2
  | m + 1, y2, y3 => (if (kt_steps_18 l11 x1 y3 y3.toInt.toNat 0 0) = 0 then (kt_steps_4 l11 x1 m (y2 + 1) (y3 + 1)) else (kt_steps_4 l11 x1 m y2 (y3 + 1)))
theorem t_kt_steps_4 {f : Nat} {Q : Option Value → sm_H → Prop} : ∀ (m : Nat) {B D : Nat} {F : Nat → Nat → Int32} {A : Nat → List Int32} {L : Nat → List Int64} {x1 : Int32} {y2 : Int32} {y3 : Int32} {o4 : Option Value} {o5 : Option Value}, m = ((F 3 0).toInt - y3.toInt).toNat → (∀ q3 : Int32, ∀ q4 : Option Value, ∀ q5 : Option Value, wl_E f B D mm45.2.2.2.2.2.2.2.2 70 [some (.ref 3), some (.int x1), some (.int (kt_steps_4 (L 11) x1 m y2 y3)), some (.int q3), q4, q5] [] (hz F A L) Q) → wl_E f B D mm45.2.2.2.2.2.2.2.2 4 [some (.ref 3), some (.int x1), some (.int y2), some (.int y3), o4, o5] [] (hz F A L) Q := by
  intro m
  induction m with
  | zero =>
    intro B D F A L x1 y2 y3 o4 o5 hm K
    generalize hT : (kt_steps_4 (L 11) x1 0 y2 y3) = T at K
    have hE : T = y2 := hT.symm
    clear hT
    refine w_n 3 (pc1 := 9) (ls1 := [some (.ref 3), some (.int x1), some (.int y2), some (.int y3), o4, o5]) (st1 := [.int (F 3 0), .int y3]) (hp1 := (hz F A L)) rfl ?_
    refine w_ge (p3 := 12) rfl rfl (fun hb => ?_) (fun h => False.elim (by have h : y3.toInt < (F 3 0).toInt := h; omega))
    subst T
    exact cvE rfl rfl rfl (K _ _ _)
  | succ m ih =>
    intro B D F A L x1 y2 y3 o4 o5 hm K
    generalize hT : (kt_steps_4 (L 11) x1 (m + 1) y2 y3) = T at K
    have hE : T = (if (kt_steps_18 (L 11) x1 y3 y3.toInt.toNat 0 0) = 0 then (kt_steps_4 (L 11) x1 m (y2 + 1) (y3 + 1)) else (kt_steps_4 (L 11) x1 m y2 (y3 + 1))) := hT.symm
    clear hT
    refine w_n 3 (pc1 := 9) (ls1 := [some (.ref 3), some (.int x1), some (.int y2), some (.int y3), o4, o5]) (st1 := [.int (F 3 0), .int y3]) (hp1 := (hz F A L)) rfl ?_
    refine w_ge (p3 := 12) rfl rfl (fun h => False.elim (by have h : (F 3 0).toInt ≤ y3.toInt := h; omega)) (fun hb => ?_)
    refine w_n 4 (pc1 := 18) (ls1 := [some (.ref 3), some (.int x1), some (.int y2), some (.int y3), some (.int 0), some (.int 0)]) (st1 := []) (hp1 := (hz F A L)) rfl ?_
    refine t_kt_steps_18 y3.toInt.toNat (show y3.toInt.toNat = (y3.toInt - (0 : Int32).toInt).toNat by have e0 : (0 : Int32).toInt = 0 := rfl; first | rfl | omega) ?_
    intro r1
    show wl_E f _ _ mm45.2.2.2.2.2.2.2.2 56 [some (.ref 3), some (.int x1), some (.int y2), some (.int y3), some (.int (kt_steps_18 (L 11) x1 y3 y3.toInt.toNat 0 0)), some (.int r1)] [] (hz F A L) _
    generalize hG151 : (kt_steps_18 (L 11) x1 y3 y3.toInt.toNat 0 0) = G151 at hE ⊢
    refine w_n 1 (pc1 := 58) (ls1 := [some (.ref 3), some (.int x1), some (.int y2), some (.int y3), some (.int G151), some (.int r1)]) (st1 := [.int G151]) (hp1 := (hz F A L)) rfl ?_
    refine w_zne (p3 := 61) rfl rfl (fun h => ?_) (fun h => ?_)
    · have h1 : ¬ G151 = 0 := h
      rw [if_neg h1] at hE
      refine w_n 2 (pc1 := 4) (ls1 := [some (.ref 3), some (.int x1), some (.int y2), some (.int (y3 + 1)), some (.int G151), some (.int r1)]) (st1 := []) (hp1 := (hz F A L)) rfl ?_
      subst T
      have hb2 := i_up (B := (F 3 0)) hb
      have hb3 : y3.toInt < (F 3 0).toInt := hb
      exact ih (show m = ((F 3 0).toInt - (y3 + 1).toInt).toNat by rw [hb2]; omega) (fun q3 q4 q5 => cvE rfl rfl rfl (K q3 q4 q5))
    · have h1 : G151 = 0 := h
      rw [if_pos h1] at hE
      refine w_n 3 (pc1 := 4) (ls1 := [some (.ref 3), some (.int x1), some (.int (y2 + 1)), some (.int (y3 + 1)), some (.int G151), some (.int r1)]) (st1 := []) (hp1 := (hz F A L)) rfl ?_
      subst T
      have hb2 := i_up (B := (F 3 0)) hb
      have hb3 : y3.toInt < (F 3 0).toInt := hb
      exact ih (show m = ((F 3 0).toInt - (y3 + 1).toInt).toNat by rw [hb2]; omega) (fun q3 q4 q5 => cvE rfl rfl rfl (K q3 q4 q5))
def kt_steps (f3_0 : Int32) (l11 : List Int64) (x1 : Int32) : Int32 := (kt_steps_4 l11 x1 f3_0.toInt.toNat 0 0)
theorem t_kt_steps {f D : Nat} {F : Nat → Nat → Int32} {A : Nat → List Int32} {L : Nat → List Int64} {Q : Option Value → sm_H → Prop} {x1 : Int32} (K : Q (some (.int (kt_steps (F 3 0) (L 11) x1))) (hz F A L)) : wl_M f D 45 [.ref 3, .int x1] (hz F A L) Q := by
  generalize hT : (kt_steps (F 3 0) (L 11) x1) = T at K
  have hE : T = (kt_steps_4 (L 11) x1 (F 3 0).toInt.toNat 0 0) := hT.symm
  clear hT
  refine w_m (E := mm45) rfl ?_
  show wl_E f f (D - 1) mm45.2.2.2.2.2.2.2.2 0 [some (.ref 3), some (.int x1), none, none, none, none] [] (hz F A L) Q
  refine w_n 4 (pc1 := 4) (ls1 := [some (.ref 3), some (.int x1), some (.int 0), some (.int 0), none, none]) (st1 := []) (hp1 := (hz F A L)) rfl ?_
  refine t_kt_steps_4 (F 3 0).toInt.toNat (show (F 3 0).toInt.toNat = ((F 3 0).toInt - (0 : Int32).toInt).toNat by have e0 : (0 : Int32).toInt = 0 := rfl; first | rfl | omega) ?_
  intro r1 r2 r3
  show wl_E f _ _ mm45.2.2.2.2.2.2.2.2 70 [some (.ref 3), some (.int x1), some (.int (kt_steps_4 (L 11) x1 (F 3 0).toInt.toNat 0 0)), some (.int r1), r2, r3] [] (hz F A L) _
  generalize hG152 : (kt_steps_4 (L 11) x1 (F 3 0).toInt.toNat 0 0) = G152 at hE ⊢
  refine w_n 1 (pc1 := 71) (ls1 := [some (.ref 3), some (.int x1), some (.int G152), some (.int r1), r2, r3]) (st1 := [.int G152]) (hp1 := (hz F A L)) rfl ?_
  subst T
  exact w_ri rfl (cvQ rfl rfl rfl K)
def kc_ranking (f1_1 : Int32) (f1_2 : Int32) (f1_3 : Int32) (f1_4 : Int32) (f3_0 : Int32) (f3_1 : Int32) (a2 : List Int32) (l11 : List Int64) (x1 : Int32) (x2 : Int32) : Int32 × Int32 × Int32 × Int32 × Int32 × List Int64 := (if (kt_isTold f3_1 x1) = 0 then ((-1), f1_1, f1_2, f1_3, f1_4, l11) else (if (kx_has f1_1 x2 1 40) = 0 then ((-1), f1_1, f1_2, f1_3, f1_4, l11) else (if (kc_readRanking (kx_open x2).1 (kx_open x2).2.1 (kx_open x2).2.2 f3_0 a2).2.2 = 0 then ((kt_steps f3_0 (l11.set x1.toInt.toNat (kc_readRanking (kx_open x2).1 (kx_open x2).2.1 (kx_open x2).2.2 f3_0 a2).1) x1), 0, (kx_open x2).1, (kc_readRanking (kx_open x2).1 (kx_open x2).2.1 (kx_open x2).2.2 f3_0 a2).2.1, (kc_readRanking (kx_open x2).1 (kx_open x2).2.1 (kx_open x2).2.2 f3_0 a2).2.2, (l11.set x1.toInt.toNat (kc_readRanking (kx_open x2).1 (kx_open x2).2.1 (kx_open x2).2.2 f3_0 a2).1)) else ((kc_readRanking (kx_open x2).1 (kx_open x2).2.1 (kx_open x2).2.2 f3_0 a2).2.2, 0, (kx_open x2).1, (kc_readRanking (kx_open x2).1 (kx_open x2).2.1 (kx_open x2).2.2 f3_0 a2).2.1, (kc_readRanking (kx_open x2).1 (kx_open x2).2.1 (kx_open x2).2.2 f3_0 a2).2.2, l11))))
theorem t_kc_ranking {f D : Nat} {F : Nat → Nat → Int32} {A : Nat → List Int32} {L : Nat → List Int64} {Q : Option Value → sm_H → Prop} {x1 : Int32} {x2 : Int32} (K : Q (some (.int ((kc_ranking (F 1 1) (F 1 2) (F 1 3) (F 1 4) (F 3 0) (F 3 1) (A 2) (L 11) x1 x2).1))) (hz (uF (uF (uF (uF F 1 1 ((kc_ranking (F 1 1) (F 1 2) (F 1 3) (F 1 4) (F 3 0) (F 3 1) (A 2) (L 11) x1 x2).2.1)) 1 2 ((kc_ranking (F 1 1) (F 1 2) (F 1 3) (F 1 4) (F 3 0) (F 3 1) (A 2) (L 11) x1 x2).2.2.1)) 1 3 ((kc_ranking (F 1 1) (F 1 2) (F 1 3) (F 1 4) (F 3 0) (F 3 1) (A 2) (L 11) x1 x2).2.2.2.1)) 1 4 ((kc_ranking (F 1 1) (F 1 2) (F 1 3) (F 1 4) (F 3 0) (F 3 1) (A 2) (L 11) x1 x2).2.2.2.2.1)) A (uL L 11 ((kc_ranking (F 1 1) (F 1 2) (F 1 3) (F 1 4) (F 3 0) (F 3 1) (A 2) (L 11) x1 x2).2.2.2.2.2)))) : wl_M f D 42 [.ref 0, .int x1, .int x2] (hz F A L) Q := by
  generalize hT : (kc_ranking (F 1 1) (F 1 2) (F 1 3) (F 1 4) (F 3 0) (F 3 1) (A 2) (L 11) x1 x2) = T at K
  have hE : T = (if (kt_isTold (F 3 1) x1) = 0 then ((-1), (F 1 1), (F 1 2), (F 1 3), (F 1 4), (L 11)) else (if (kx_has (F 1 1) x2 1 40) = 0 then ((-1), (F 1 1), (F 1 2), (F 1 3), (F 1 4), (L 11)) else (if (kc_readRanking (kx_open x2).1 (kx_open x2).2.1 (kx_open x2).2.2 (F 3 0) (A 2)).2.2 = 0 then ((kt_steps (F 3 0) ((L 11).set x1.toInt.toNat (kc_readRanking (kx_open x2).1 (kx_open x2).2.1 (kx_open x2).2.2 (F 3 0) (A 2)).1) x1), 0, (kx_open x2).1, (kc_readRanking (kx_open x2).1 (kx_open x2).2.1 (kx_open x2).2.2 (F 3 0) (A 2)).2.1, (kc_readRanking (kx_open x2).1 (kx_open x2).2.1 (kx_open x2).2.2 (F 3 0) (A 2)).2.2, ((L 11).set x1.toInt.toNat (kc_readRanking (kx_open x2).1 (kx_open x2).2.1 (kx_open x2).2.2 (F 3 0) (A 2)).1)) else ((kc_readRanking (kx_open x2).1 (kx_open x2).2.1 (kx_open x2).2.2 (F 3 0) (A 2)).2.2, 0, (kx_open x2).1, (kc_readRanking (kx_open x2).1 (kx_open x2).2.1 (kx_open x2).2.2 (F 3 0) (A 2)).2.1, (kc_readRanking (kx_open x2).1 (kx_open x2).2.1 (kx_open x2).2.2 (F 3 0) (A 2)).2.2, (L 11))))) := hT.symm
  clear hT
  refine w_m (E := mm42) rfl ?_
  show wl_E f f (D - 1) mm42.2.2.2.2.2.2.2.2 0 [some (.ref 0), some (.int x1), some (.int x2), none, none] [] (hz F A L) Q
  refine w_n 3 (pc1 := 5) (ls1 := [some (.ref 0), some (.int x1), some (.int x2), none, none]) (st1 := [.int x1, .ref 3]) (hp1 := (hz F A L)) rfl ?_
  refine w_c rfl rfl (t_kt_isTold ?_)
  show wl_E f _ _ mm42.2.2.2.2.2.2.2.2 8 [some (.ref 0), some (.int x1), some (.int x2), none, none] [.int (kt_isTold (F 3 1) x1)] (hz F A L) _
  generalize hG129 : (kt_isTold (F 3 1) x1) = G129 at hE ⊢
  refine w_zeq (p3 := 11) rfl rfl (fun h => ?_) (fun h => ?_)
  · have h1 : G129 = 0 := h
    rw [if_pos h1] at hE
    refine w_n 1 (pc1 := 26) (ls1 := [some (.ref 0), some (.int x1), some (.int x2), none, none]) (st1 := [.int (-1)]) (hp1 := (hz F A L)) rfl ?_
    subst T
    exact w_ri rfl (cvQ (funext fun q => funext fun z => if k0 : q = 1 ∧ z = 1 then by obtain ⟨w1, w2⟩ := k0; subst w1; subst w2; exact Eq.trans (b := (F 1 1)) rfl rfl else if k1 : q = 1 ∧ z = 2 then by obtain ⟨w1, w2⟩ := k1; subst w1; subst w2; exact Eq.trans (b := (F 1 2)) rfl rfl else if k2 : q = 1 ∧ z = 3 then by obtain ⟨w1, w2⟩ := k2; subst w1; subst w2; exact Eq.trans (b := (F 1 3)) rfl rfl else if k3 : q = 1 ∧ z = 4 then by obtain ⟨w1, w2⟩ := k3; subst w1; subst w2; exact Eq.trans (b := (F 1 4)) rfl rfl else by unfold uF; simp only [nb2 k0, nb2 k1, nb2 k2, nb2 k3, cond_false]) rfl (funext fun q => if k0 : q = 11 then by subst k0; exact Eq.trans (b := (L 11)) rfl rfl else by unfold uL; simp only [nb1 k0, cond_false]) K)
  · have h1 : ¬ G129 = 0 := h
    rw [if_neg h1] at hE
    refine w_n 5 (pc1 := 19) (ls1 := [some (.ref 0), some (.int x1), some (.int x2), none, none]) (st1 := [.int 40, .int 1, .int x2, .ref 1]) (hp1 := (hz F A L)) rfl ?_
    refine w_c rfl rfl (t_kx_has ?_)
    show wl_E f _ _ mm42.2.2.2.2.2.2.2.2 22 [some (.ref 0), some (.int x1), some (.int x2), none, none] [.int (kx_has (F 1 1) x2 1 40)] (hz F A L) _
    generalize hG130 : (kx_has (F 1 1) x2 1 40) = G130 at hE ⊢
    refine w_zne (p3 := 25) rfl rfl (fun h => ?_) (fun h => ?_)
    · have h2 : ¬ G130 = 0 := h
      rw [if_neg h2] at hE
      refine w_n 3 (pc1 := 32) (ls1 := [some (.ref 0), some (.int x1), some (.int x2), none, none]) (st1 := [.int x2, .ref 1]) (hp1 := (hz F A L)) rfl ?_
      refine w_c rfl rfl (t_kx_open ?_)
      show wl_E f _ _ mm42.2.2.2.2.2.2.2.2 35 [some (.ref 0), some (.int x1), some (.int x2), none, none] [] (hz (uF (uF (uF F 1 2 (kx_open x2).1) 1 3 (kx_open x2).2.1) 1 4 (kx_open x2).2.2) A L) _
      generalize hG131 : (kx_open x2) = G131 at hE ⊢
      refine w_n 1 (pc1 := 36) (ls1 := [some (.ref 0), some (.int x1), some (.int x2), none, none]) (st1 := [.ref 0]) (hp1 := (hz (uF (uF (uF F 1 2 G131.1) 1 3 G131.2.1) 1 4 G131.2.2) A L)) rfl ?_
      refine w_c rfl rfl (t_kc_readRanking ?_)
      show wl_E f _ _ mm42.2.2.2.2.2.2.2.2 39 [some (.ref 0), some (.int x1), some (.int x2), none, none] [.long (kc_readRanking G131.1 G131.2.1 G131.2.2 (F 3 0) (A 2)).1] (hz (uF (uF (uF (uF (uF F 1 2 G131.1) 1 3 G131.2.1) 1 4 G131.2.2) 1 3 (kc_readRanking G131.1 G131.2.1 G131.2.2 (F 3 0) (A 2)).2.1) 1 4 (kc_readRanking G131.1 G131.2.1 G131.2.2 (F 3 0) (A 2)).2.2) A L) _
      generalize hG148 : (kc_readRanking G131.1 G131.2.1 G131.2.2 (F 3 0) (A 2)) = G148 at hE ⊢
      refine w_n 4 (pc1 := 45) (ls1 := [some (.ref 0), some (.int x1), some (.int x2), some (.long G148.1), none]) (st1 := [.int 0, .ref 1]) (hp1 := (hz (uF (uF (uF (uF (uF F 1 2 G131.1) 1 3 G131.2.1) 1 4 G131.2.2) 1 3 G148.2.1) 1 4 G148.2.2) A L)) rfl ?_
      refine w_pf (k := 1) (fs := hz_f1 (uF (uF (uF (uF (uF F 1 2 G131.1) 1 3 G131.2.1) 1 4 G131.2.2) 1 3 G148.2.1) 1 4 G148.2.2)) (hp1 := (hz (uF (uF (uF (uF (uF (uF F 1 2 G131.1) 1 3 G131.2.1) 1 4 G131.2.2) 1 3 G148.2.1) 1 4 G148.2.2) 1 1 0) A L)) rfl rfl rfl (hz_p1_1 _) ?_
      refine w_n 3 (pc1 := 55) (ls1 := [some (.ref 0), some (.int x1), some (.int x2), some (.long G148.1), none]) (st1 := [.int G148.2.2]) (hp1 := (hz (uF (uF (uF (uF (uF (uF F 1 2 G131.1) 1 3 G131.2.1) 1 4 G131.2.2) 1 3 G148.2.1) 1 4 G148.2.2) 1 1 0) A L)) rfl ?_
      refine w_zeq (p3 := 58) rfl rfl (fun h => ?_) (fun h => ?_)
      · have h3 : G148.2.2 = 0 := h
        rw [if_pos h3] at hE
        refine w_n 5 (pc1 := 75) (ls1 := [some (.ref 0), some (.int x1), some (.int x2), some (.long G148.1), none]) (st1 := [.long G148.1, .int x1, .ref 11]) (hp1 := (hz (uF (uF (uF (uF (uF (uF F 1 2 G131.1) 1 3 G131.2.1) 1 4 G131.2.2) 1 3 G148.2.1) 1 4 G148.2.2) 1 1 0) A L)) rfl ?_
        refine w_ls (k := 11) (l := (L 11)) (hp1 := (hz (uF (uF (uF (uF (uF (uF F 1 2 G131.1) 1 3 G131.2.1) 1 4 G131.2.2) 1 3 G148.2.1) 1 4 G148.2.2) 1 1 0) A (uL L 11 ((L 11).set x1.toInt.toNat G148.1)))) rfl rfl rfl (hz_s11 _) (fun _ => ?_)
        refine w_n 3 (pc1 := 81) (ls1 := [some (.ref 0), some (.int x1), some (.int x2), some (.long G148.1), none]) (st1 := [.int x1, .ref 3]) (hp1 := (hz (uF (uF (uF (uF (uF (uF F 1 2 G131.1) 1 3 G131.2.1) 1 4 G131.2.2) 1 3 G148.2.1) 1 4 G148.2.2) 1 1 0) A (uL L 11 ((L 11).set x1.toInt.toNat G148.1)))) rfl ?_
        refine w_c rfl rfl (t_kt_steps ?_)
        show wl_E f _ _ mm42.2.2.2.2.2.2.2.2 84 [some (.ref 0), some (.int x1), some (.int x2), some (.long G148.1), none] [.int (kt_steps (F 3 0) ((L 11).set x1.toInt.toNat G148.1) x1)] (hz (uF (uF (uF (uF (uF (uF F 1 2 G131.1) 1 3 G131.2.1) 1 4 G131.2.2) 1 3 G148.2.1) 1 4 G148.2.2) 1 1 0) A (uL L 11 ((L 11).set x1.toInt.toNat G148.1))) _
        generalize hG153 : (kt_steps (F 3 0) ((L 11).set x1.toInt.toNat G148.1) x1) = G153 at hE ⊢
        subst T
        exact w_ri rfl (cvQ (funext fun q => funext fun z => if k0 : q = 1 ∧ z = 1 then by obtain ⟨w1, w2⟩ := k0; subst w1; subst w2; exact Eq.trans (b := 0) rfl rfl else if k1 : q = 1 ∧ z = 2 then by obtain ⟨w1, w2⟩ := k1; subst w1; subst w2; exact Eq.trans (b := G131.1) rfl rfl else if k2 : q = 1 ∧ z = 3 then by obtain ⟨w1, w2⟩ := k2; subst w1; subst w2; exact Eq.trans (b := G148.2.1) rfl rfl else if k3 : q = 1 ∧ z = 4 then by obtain ⟨w1, w2⟩ := k3; subst w1; subst w2; exact Eq.trans (b := G148.2.2) rfl rfl else by unfold uF; simp only [nb2 k0, nb2 k1, nb2 k2, nb2 k3, cond_false]) rfl rfl K)
      · have h3 : ¬ G148.2.2 = 0 := h
        rw [if_neg h3] at hE
        refine w_n 3 (pc1 := 65) (ls1 := [some (.ref 0), some (.int x1), some (.int x2), some (.long G148.1), none]) (st1 := [.int G148.2.2]) (hp1 := (hz (uF (uF (uF (uF (uF (uF F 1 2 G131.1) 1 3 G131.2.1) 1 4 G131.2.2) 1 3 G148.2.1) 1 4 G148.2.2) 1 1 0) A L)) rfl ?_
        subst T
        exact w_ri rfl (cvQ (funext fun q => funext fun z => if k0 : q = 1 ∧ z = 1 then by obtain ⟨w1, w2⟩ := k0; subst w1; subst w2; exact Eq.trans (b := 0) rfl rfl else if k1 : q = 1 ∧ z = 2 then by obtain ⟨w1, w2⟩ := k1; subst w1; subst w2; exact Eq.trans (b := G131.1) rfl rfl else if k2 : q = 1 ∧ z = 3 then by obtain ⟨w1, w2⟩ := k2; subst w1; subst w2; exact Eq.trans (b := G148.2.1) rfl rfl else if k3 : q = 1 ∧ z = 4 then by obtain ⟨w1, w2⟩ := k3; subst w1; subst w2; exact Eq.trans (b := G148.2.2) rfl rfl else by unfold uF; simp only [nb2 k0, nb2 k1, nb2 k2, nb2 k3, cond_false]) rfl (funext fun q => if k0 : q = 11 then by subst k0; exact Eq.trans (b := (L 11)) rfl rfl else by unfold uL; simp only [nb1 k0, cond_false]) K)
    · have h2 : G130 = 0 := h
      rw [if_pos h2] at hE
      refine w_n 1 (pc1 := 26) (ls1 := [some (.ref 0), some (.int x1), some (.int x2), none, none]) (st1 := [.int (-1)]) (hp1 := (hz F A L)) rfl ?_
      subst T
      exact w_ri rfl (cvQ (funext fun q => funext fun z => if k0 : q = 1 ∧ z = 1 then by obtain ⟨w1, w2⟩ := k0; subst w1; subst w2; exact Eq.trans (b := (F 1 1)) rfl rfl else if k1 : q = 1 ∧ z = 2 then by obtain ⟨w1, w2⟩ := k1; subst w1; subst w2; exact Eq.trans (b := (F 1 2)) rfl rfl else if k2 : q = 1 ∧ z = 3 then by obtain ⟨w1, w2⟩ := k2; subst w1; subst w2; exact Eq.trans (b := (F 1 3)) rfl rfl else if k3 : q = 1 ∧ z = 4 then by obtain ⟨w1, w2⟩ := k3; subst w1; subst w2; exact Eq.trans (b := (F 1 4)) rfl rfl else by unfold uF; simp only [nb2 k0, nb2 k1, nb2 k2, nb2 k3, cond_false]) rfl (funext fun q => if k0 : q = 11 then by subst k0; exact Eq.trans (b := (L 11)) rfl rfl else by unfold uL; simp only [nb1 k0, cond_false]) K)
