/-! lifts, printed by genlift.py: 2 -/
noncomputable def kt_allBiscuits (f3_1 : Int32) (a6 : List Int32) : Int32 := (kt_allBiscuits_4 f3_1 a6 12 0 0)
theorem t_kt_allBiscuits {f D : Nat} {F : Nat → Nat → Int32} {A : Nat → List Int32} {L : Nat → List Int64} {Q : Option Value → sm_H → Prop} (K : Q (some (.int (kt_allBiscuits (F 3 1) (A 6)))) (hz F A L)) : wl_M f D 107 [.ref 3] (hz F A L) Q := by
  generalize hT : (kt_allBiscuits (F 3 1) (A 6)) = T at K
  have hE : T = (kt_allBiscuits_4 (F 3 1) (A 6) 12 0 0) := hT.symm
  clear hT
  refine w_m (E := mm107) rfl ?_
  show wl_E f f (D - 1) mm107.2.2.2.2.2.2.2.2 0 [some (.ref 3), none, none] [] (hz F A L) Q
  refine w_n 4 (pc1 := 4) (ls1 := [some (.ref 3), some (.int 0), some (.int 0)]) (st1 := []) (hp1 := (hz F A L)) rfl ?_
  refine t_kt_allBiscuits_4 12 (show (12 : Nat) = (12 - (0 : Int32).toInt).toNat by have e0 : (0 : Int32).toInt = 0 := rfl; first | rfl | omega) ?_
  intro r1
  show wl_E f _ _ mm107.2.2.2.2.2.2.2.2 33 [some (.ref 3), some (.int (kt_allBiscuits_4 (F 3 1) (A 6) 12 0 0)), some (.int r1)] [] (hz F A L) _
  generalize hG41 : (kt_allBiscuits_4 (F 3 1) (A 6) 12 0 0) = G41 at hE ⊢
  refine w_n 1 (pc1 := 34) (ls1 := [some (.ref 3), some (.int G41), some (.int r1)]) (st1 := [.int G41]) (hp1 := (hz F A L)) rfl ?_
  subst T
  exact w_ri rfl (cvQ rfl rfl rfl K)
noncomputable def kv_setsTurnedBy_13 (a40 : List Int32) (x1 : Int32) (x2 : Int32) : Nat → Int32 → Int32 → Int32
  | 0, y3, _ => y3
  | m + 1, y3, y4 => (if x2.toInt < (2 * y4).toInt then (kv_setsTurnedBy_13 a40 x1 x2 m y3 (y4 + 1)) else (if x2.toInt < (2 * (y4 + x1)).toInt then (kv_setsTurnedBy_13 a40 x1 x2 m (y3 + (a40.getD y4.toInt.toNat 0)) (y4 + 1)) else (kv_setsTurnedBy_13 a40 x1 x2 m y3 (y4 + 1))))
theorem t_kv_setsTurnedBy_13 {f : Nat} {Q : Option Value → sm_H → Prop} : ∀ (m : Nat) {B D : Nat} {F : Nat → Nat → Int32} {A : Nat → List Int32} {L : Nat → List Int64} {x1 : Int32} {x2 : Int32} {y3 : Int32} {y4 : Int32}, m = ((Int32.ofNat (A 40).length).toInt - y4.toInt).toNat → (∀ q4 : Int32, wl_E f B D mm109.2.2.2.2.2.2.2.2 57 [some (.ref 30), some (.int x1), some (.int x2), some (.int (kv_setsTurnedBy_13 (A 40) x1 x2 m y3 y4)), some (.int q4)] [] (hz F A L) Q) → wl_E f B D mm109.2.2.2.2.2.2.2.2 13 [some (.ref 30), some (.int x1), some (.int x2), some (.int y3), some (.int y4)] [] (hz F A L) Q := by
  intro m
  induction m with
  | zero =>
    intro B D F A L x1 x2 y3 y4 hm K
    generalize hT : (kv_setsTurnedBy_13 (A 40) x1 x2 0 y3 y4) = T at K
    have hE : T = y3 := hT.symm
    clear hT
    refine w_n 4 (pc1 := 20) (ls1 := [some (.ref 30), some (.int x1), some (.int x2), some (.int y3), some (.int y4)]) (st1 := [.int (Int32.ofNat (A 40).length), .int y4]) (hp1 := (hz F A L)) rfl ?_
    refine w_ge (p3 := 23) rfl rfl (fun hb => ?_) (fun h => False.elim (by have h : y4.toInt < (Int32.ofNat (A 40).length).toInt := h; omega))
    subst T
    exact cvE rfl rfl rfl (K _)
  | succ m ih =>
    intro B D F A L x1 x2 y3 y4 hm K
    generalize hT : (kv_setsTurnedBy_13 (A 40) x1 x2 (m + 1) y3 y4) = T at K
    have hE : T = (if x2.toInt < (2 * y4).toInt then (kv_setsTurnedBy_13 (A 40) x1 x2 m y3 (y4 + 1)) else (if x2.toInt < (2 * (y4 + x1)).toInt then (kv_setsTurnedBy_13 (A 40) x1 x2 m (y3 + ((A 40).getD y4.toInt.toNat 0)) (y4 + 1)) else (kv_setsTurnedBy_13 (A 40) x1 x2 m y3 (y4 + 1)))) := hT.symm
    clear hT
    refine w_n 4 (pc1 := 20) (ls1 := [some (.ref 30), some (.int x1), some (.int x2), some (.int y3), some (.int y4)]) (st1 := [.int (Int32.ofNat (A 40).length), .int y4]) (hp1 := (hz F A L)) rfl ?_
    refine w_ge (p3 := 23) rfl rfl (fun h => False.elim (by have h : (Int32.ofNat (A 40).length).toInt ≤ y4.toInt := h; omega)) (fun hb => ?_)
    refine w_n 4 (pc1 := 28) (ls1 := [some (.ref 30), some (.int x1), some (.int x2), some (.int y3), some (.int y4)]) (st1 := [.int x2, .int (2 * y4)]) (hp1 := (hz F A L)) rfl ?_
    refine w_gt (p3 := 31) rfl rfl (fun h => ?_) (fun h => ?_)
    · have h1 : x2.toInt < (2 * y4).toInt := h
      rw [if_pos h1] at hE
      refine w_n 2 (pc1 := 13) (ls1 := [some (.ref 30), some (.int x1), some (.int x2), some (.int y3), some (.int (y4 + 1))]) (st1 := []) (hp1 := (hz F A L)) rfl ?_
      subst T
      have hb2 := i_up (B := (Int32.ofNat (A 40).length)) hb
      have hb3 : y4.toInt < (Int32.ofNat (A 40).length).toInt := hb
      exact ih (show m = ((Int32.ofNat (A 40).length).toInt - (y4 + 1).toInt).toNat by rw [hb2]; omega) (fun q4 => cvE rfl rfl rfl (K q4))
    · have h1 : (2 * y4).toInt ≤ x2.toInt := h
      rw [if_neg (Int.not_lt.mpr h1)] at hE
      refine w_n 6 (pc1 := 38) (ls1 := [some (.ref 30), some (.int x1), some (.int x2), some (.int y3), some (.int y4)]) (st1 := [.int x2, .int (2 * (y4 + x1))]) (hp1 := (hz F A L)) rfl ?_
      refine w_le (p3 := 41) rfl rfl (fun h => ?_) (fun h => ?_)
      · have h2 : (2 * (y4 + x1)).toInt ≤ x2.toInt := h
        rw [if_neg (Int.not_lt.mpr h2)] at hE
        refine w_n 2 (pc1 := 13) (ls1 := [some (.ref 30), some (.int x1), some (.int x2), some (.int y3), some (.int (y4 + 1))]) (st1 := []) (hp1 := (hz F A L)) rfl ?_
        subst T
        have hb2 := i_up (B := (Int32.ofNat (A 40).length)) hb
        have hb3 : y4.toInt < (Int32.ofNat (A 40).length).toInt := hb
        exact ih (show m = ((Int32.ofNat (A 40).length).toInt - (y4 + 1).toInt).toNat by rw [hb2]; omega) (fun q4 => cvE rfl rfl rfl (K q4))
      · have h2 : x2.toInt < (2 * (y4 + x1)).toInt := h
        rw [if_pos h2] at hE
        refine w_n 4 (pc1 := 48) (ls1 := [some (.ref 30), some (.int x1), some (.int x2), some (.int y3), some (.int y4)]) (st1 := [.int y4, .ref 40, .int y3]) (hp1 := (hz F A L)) rfl ?_
        refine w_al (k := 40) (l := (A 40)) rfl rfl rfl (fun ab => ?_)
        refine w_n 4 (pc1 := 13) (ls1 := [some (.ref 30), some (.int x1), some (.int x2), some (.int (y3 + ((A 40).getD y4.toInt.toNat 0))), some (.int (y4 + 1))]) (st1 := []) (hp1 := (hz F A L)) rfl ?_
        subst T
        have hb2 := i_up (B := (Int32.ofNat (A 40).length)) hb
        have hb3 : y4.toInt < (Int32.ofNat (A 40).length).toInt := hb
        exact ih (show m = ((Int32.ofNat (A 40).length).toInt - (y4 + 1).toInt).toNat by rw [hb2]; omega) (fun q4 => cvE rfl rfl rfl (K q4))
noncomputable def kv_setsTurnedBy (f3_1 : Int32) (a6 : List Int32) (a40 : List Int32) (x1 : Int32) : Int32 := (kv_setsTurnedBy_13 a40 x1 (kt_allBiscuits f3_1 a6) ((Int32.ofNat a40.length).toInt).toNat 0 0)
theorem t_kv_setsTurnedBy {f D : Nat} {F : Nat → Nat → Int32} {A : Nat → List Int32} {L : Nat → List Int64} {Q : Option Value → sm_H → Prop} {x1 : Int32} (K : Q (some (.int (kv_setsTurnedBy (F 3 1) (A 6) (A 40) x1))) (hz F A L)) : wl_M f D 109 [.ref 30, .int x1] (hz F A L) Q := by
  generalize hT : (kv_setsTurnedBy (F 3 1) (A 6) (A 40) x1) = T at K
  have hE : T = (kv_setsTurnedBy_13 (A 40) x1 (kt_allBiscuits (F 3 1) (A 6)) ((Int32.ofNat (A 40).length).toInt).toNat 0 0) := hT.symm
  clear hT
  refine w_m (E := mm109) rfl ?_
  show wl_E f f (D - 1) mm109.2.2.2.2.2.2.2.2 0 [some (.ref 30), some (.int x1), none, none, none] [] (hz F A L) Q
  refine w_n 2 (pc1 := 4) (ls1 := [some (.ref 30), some (.int x1), none, none, none]) (st1 := [.ref 3]) (hp1 := (hz F A L)) rfl ?_
  refine w_c rfl rfl (t_kt_allBiscuits ?_)
  show wl_E f _ _ mm109.2.2.2.2.2.2.2.2 7 [some (.ref 30), some (.int x1), none, none, none] [.int (kt_allBiscuits (F 3 1) (A 6))] (hz F A L) _
  generalize hG42 : (kt_allBiscuits (F 3 1) (A 6)) = G42 at hE ⊢
  refine w_n 5 (pc1 := 13) (ls1 := [some (.ref 30), some (.int x1), some (.int G42), some (.int 0), some (.int 0)]) (st1 := []) (hp1 := (hz F A L)) rfl ?_
  refine t_kv_setsTurnedBy_13 (((Int32.ofNat (A 40).length).toInt).toNat) (show ((Int32.ofNat (A 40).length).toInt).toNat = ((Int32.ofNat (A 40).length).toInt - (0 : Int32).toInt).toNat by have e0 : (0 : Int32).toInt = 0 := rfl; first | rfl | omega) ?_
  intro r1
  show wl_E f _ _ mm109.2.2.2.2.2.2.2.2 57 [some (.ref 30), some (.int x1), some (.int G42), some (.int (kv_setsTurnedBy_13 (A 40) x1 G42 ((Int32.ofNat (A 40).length).toInt).toNat 0 0)), some (.int r1)] [] (hz F A L) _
  generalize hG43 : (kv_setsTurnedBy_13 (A 40) x1 G42 ((Int32.ofNat (A 40).length).toInt).toNat 0 0) = G43 at hE ⊢
  refine w_n 1 (pc1 := 58) (ls1 := [some (.ref 30), some (.int x1), some (.int G42), some (.int G43), some (.int r1)]) (st1 := [.int G43]) (hp1 := (hz F A L)) rfl ?_
  subst T
  exact w_ri rfl (cvQ rfl rfl rfl K)
noncomputable def kv_setsSwungBy (f3_1 : Int32) (a6 : List Int32) (a40 : List Int32) (x1 : Int32) : Int32 × List Int32 := ((kv_setsTurnedBy f3_1 a6 (kv_setsSwungBy_6 f3_1 a6 x1 12 0 (kv_beginSets a40)) (a6.getD x1.toInt.toNat 0)), (kv_setsSwungBy_6 f3_1 a6 x1 12 0 (kv_beginSets a40)))
theorem t_kv_setsSwungBy {f D : Nat} {F : Nat → Nat → Int32} {A : Nat → List Int32} {L : Nat → List Int64} {Q : Option Value → sm_H → Prop} {x1 : Int32} (K : Q (some (.int ((kv_setsSwungBy (F 3 1) (A 6) (A 40) x1).1))) (hz F (uA A 40 ((kv_setsSwungBy (F 3 1) (A 6) (A 40) x1).2)) L)) : wl_M f D 110 [.ref 30, .int x1] (hz F A L) Q := by
  generalize hT : (kv_setsSwungBy (F 3 1) (A 6) (A 40) x1) = T at K
  have hE : T = ((kv_setsTurnedBy (F 3 1) (A 6) (kv_setsSwungBy_6 (F 3 1) (A 6) x1 12 0 (kv_beginSets (A 40))) ((A 6).getD x1.toInt.toNat 0)), (kv_setsSwungBy_6 (F 3 1) (A 6) x1 12 0 (kv_beginSets (A 40)))) := hT.symm
  clear hT
  refine w_m (E := mm110) rfl ?_
  show wl_E f f (D - 1) mm110.2.2.2.2.2.2.2.2 0 [some (.ref 30), some (.int x1), none] [] (hz F A L) Q
  refine w_n 1 (pc1 := 1) (ls1 := [some (.ref 30), some (.int x1), none]) (st1 := [.ref 30]) (hp1 := (hz F A L)) rfl ?_
  refine w_c rfl rfl (t_kv_beginSets ?_)
  show wl_E f _ _ mm110.2.2.2.2.2.2.2.2 4 [some (.ref 30), some (.int x1), none] [] (hz F (uA A 40 (kv_beginSets (A 40))) L) _
  generalize hG35 : (kv_beginSets (A 40)) = G35 at hE ⊢
  refine w_n 2 (pc1 := 6) (ls1 := [some (.ref 30), some (.int x1), some (.int 0)]) (st1 := []) (hp1 := (hz F (uA A 40 G35) L)) rfl ?_
  refine t_kv_setsSwungBy_6 12 (show (12 : Nat) = (12 - (0 : Int32).toInt).toNat by have e0 : (0 : Int32).toInt = 0 := rfl; first | rfl | omega) ?_
  intro r1
  show wl_E f _ _ mm110.2.2.2.2.2.2.2.2 47 [some (.ref 30), some (.int x1), some (.int r1)] [] (hz F (uA (uA A 40 G35) 40 (kv_setsSwungBy_6 (F 3 1) (A 6) x1 12 0 G35)) L) _
  generalize hG39 : (kv_setsSwungBy_6 (F 3 1) (A 6) x1 12 0 G35) = G39 at hE ⊢
  refine w_n 5 (pc1 := 56) (ls1 := [some (.ref 30), some (.int x1), some (.int r1)]) (st1 := [.int x1, .ref 6, .ref 30]) (hp1 := (hz F (uA (uA A 40 G35) 40 G39) L)) rfl ?_
  refine w_al (k := 6) (l := (A 6)) rfl rfl rfl (fun _ => ?_)
  refine w_c rfl rfl (t_kv_setsTurnedBy ?_)
  show wl_E f _ _ mm110.2.2.2.2.2.2.2.2 60 [some (.ref 30), some (.int x1), some (.int r1)] [.int (kv_setsTurnedBy (F 3 1) (A 6) G39 ((A 6).getD x1.toInt.toNat 0))] (hz F (uA (uA A 40 G35) 40 G39) L) _
  generalize hG44 : (kv_setsTurnedBy (F 3 1) (A 6) G39 ((A 6).getD x1.toInt.toNat 0)) = G44 at hE ⊢
  subst T
  exact w_ri rfl (cvQ rfl (funext fun q => if k0 : q = 40 then by subst k0; exact Eq.trans (b := G39) rfl rfl else by unfold uA; simp only [nb1 k0, cond_false]) rfl K)
noncomputable def kv_leastWinningSets_15 (f3_1 : Int32) (a6 : List Int32) (x2 : Int32) : Nat → Int32 → Int32 → List Int32 → Int32 × List Int32
  | 0, y1, _, a40 => (y1, a40)
  | m + 1, y1, y3, a40 => (if (kt_isTold f3_1 y3) = 0 then (kv_leastWinningSets_15 f3_1 a6 x2 m y1 (y3 + 1) a40) else (if (a6.getD y3.toInt.toNat 0) = x2 then (kv_leastWinningSets_15 f3_1 a6 x2 m (y1 + (kv_setsTurnedBy f3_1 a6 a40 x2)) (y3 + 1) (kv_joinSets a40 x2)) else (kv_leastWinningSets_15 f3_1 a6 x2 m y1 (y3 + 1) a40)))
theorem t_kv_leastWinningSets_15 {f : Nat} {Q : Option Value → sm_H → Prop} : ∀ (m : Nat) {B D : Nat} {F : Nat → Nat → Int32} {A : Nat → List Int32} {L : Nat → List Int64} {y1 : Int32} {x2 : Int32} {y3 : Int32}, m = (12 - y3.toInt).toNat → (∀ q3 : Int32, wl_E f B D mm108.2.2.2.2.2.2.2.2 67 [some (.ref 30), some (.int ((kv_leastWinningSets_15 (F 3 1) (A 6) x2 m y1 y3 (A 40)).1)), some (.int x2), some (.int q3)] [] (hz F (uA A 40 ((kv_leastWinningSets_15 (F 3 1) (A 6) x2 m y1 y3 (A 40)).2)) L) Q) → wl_E f B D mm108.2.2.2.2.2.2.2.2 15 [some (.ref 30), some (.int y1), some (.int x2), some (.int y3)] [] (hz F A L) Q := by
  intro m
  induction m with
  | zero =>
    intro B D F A L y1 x2 y3 hm K
    generalize hT : (kv_leastWinningSets_15 (F 3 1) (A 6) x2 0 y1 y3 (A 40)) = T at K
    have hE : T = (y1, (A 40)) := hT.symm
    clear hT
    refine w_n 2 (pc1 := 18) (ls1 := [some (.ref 30), some (.int y1), some (.int x2), some (.int y3)]) (st1 := [.int 12, .int y3]) (hp1 := (hz F A L)) rfl ?_
    refine w_ge (p3 := 21) rfl rfl (fun hb => ?_) (fun h => False.elim (by have h : y3.toInt < 12 := h; omega))
    subst T
    exact cvE rfl (funext fun q => if k0 : q = 40 then by subst k0; exact Eq.trans (b := (A 40)) rfl rfl else by unfold uA; simp only [nb1 k0, cond_false]) rfl (K _)
  | succ m ih =>
    intro B D F A L y1 x2 y3 hm K
    generalize hT : (kv_leastWinningSets_15 (F 3 1) (A 6) x2 (m + 1) y1 y3 (A 40)) = T at K
    have hE : T = (if (kt_isTold (F 3 1) y3) = 0 then (kv_leastWinningSets_15 (F 3 1) (A 6) x2 m y1 (y3 + 1) (A 40)) else (if ((A 6).getD y3.toInt.toNat 0) = x2 then (kv_leastWinningSets_15 (F 3 1) (A 6) x2 m (y1 + (kv_setsTurnedBy (F 3 1) (A 6) (A 40) x2)) (y3 + 1) (kv_joinSets (A 40) x2)) else (kv_leastWinningSets_15 (F 3 1) (A 6) x2 m y1 (y3 + 1) (A 40)))) := hT.symm
    clear hT
    refine w_n 2 (pc1 := 18) (ls1 := [some (.ref 30), some (.int y1), some (.int x2), some (.int y3)]) (st1 := [.int 12, .int y3]) (hp1 := (hz F A L)) rfl ?_
    refine w_ge (p3 := 21) rfl rfl (fun h => False.elim (by have h : 12 ≤ y3.toInt := h; omega)) (fun hb => ?_)
    refine w_n 3 (pc1 := 26) (ls1 := [some (.ref 30), some (.int y1), some (.int x2), some (.int y3)]) (st1 := [.int y3, .ref 3]) (hp1 := (hz F A L)) rfl ?_
    refine w_c rfl rfl (t_kt_isTold ?_)
    show wl_E f _ _ mm108.2.2.2.2.2.2.2.2 29 [some (.ref 30), some (.int y1), some (.int x2), some (.int y3)] [.int (kt_isTold (F 3 1) y3)] (hz F A L) _
    generalize hG49 : (kt_isTold (F 3 1) y3) = G49 at hE ⊢
    refine w_zeq (p3 := 32) rfl rfl (fun h => ?_) (fun h => ?_)
    · have h1 : G49 = 0 := h
      rw [if_pos h1] at hE
      refine w_n 2 (pc1 := 15) (ls1 := [some (.ref 30), some (.int y1), some (.int x2), some (.int (y3 + 1))]) (st1 := []) (hp1 := (hz F A L)) rfl ?_
      subst T
      have hb2 := i_up (B := (12 : Int32)) hb
      have hb3 : y3.toInt < 12 := hb
      exact ih (show m = (12 - (y3 + 1).toInt).toNat by rw [hb2]; omega) (fun q3 => cvE rfl (funext fun q => if k0 : q = 40 then by subst k0; exact Eq.trans (b := (kv_leastWinningSets_15 (F 3 1) (A 6) x2 m y1 (y3 + 1) (A 40)).2) rfl rfl else by unfold uA; simp only [nb1 k0, cond_false]) rfl (K q3))
    · have h1 : ¬ G49 = 0 := h
      rw [if_neg h1] at hE
      refine w_n 4 (pc1 := 40) (ls1 := [some (.ref 30), some (.int y1), some (.int x2), some (.int y3)]) (st1 := [.int y3, .ref 6]) (hp1 := (hz F A L)) rfl ?_
      refine w_al (k := 6) (l := (A 6)) rfl rfl rfl (fun ab => ?_)
      refine w_n 1 (pc1 := 42) (ls1 := [some (.ref 30), some (.int y1), some (.int x2), some (.int y3)]) (st1 := [.int x2, .int ((A 6).getD y3.toInt.toNat 0)]) (hp1 := (hz F A L)) rfl ?_
      refine w_eq (p3 := 45) rfl rfl (fun h => ?_) (fun h => ?_)
      · have h2 : ((A 6).getD y3.toInt.toNat 0) = x2 := h
        rw [if_pos h2] at hE
        refine w_n 3 (pc1 := 51) (ls1 := [some (.ref 30), some (.int y1), some (.int x2), some (.int y3)]) (st1 := [.int x2, .ref 30, .int y1]) (hp1 := (hz F A L)) rfl ?_
        refine w_c rfl rfl (t_kv_setsTurnedBy ?_)
        show wl_E f _ _ mm108.2.2.2.2.2.2.2.2 54 [some (.ref 30), some (.int y1), some (.int x2), some (.int y3)] [.int (kv_setsTurnedBy (F 3 1) (A 6) (A 40) x2), .int y1] (hz F A L) _
        generalize hG50 : (kv_setsTurnedBy (F 3 1) (A 6) (A 40) x2) = G50 at hE ⊢
        refine w_n 4 (pc1 := 58) (ls1 := [some (.ref 30), some (.int (y1 + G50)), some (.int x2), some (.int y3)]) (st1 := [.int x2, .ref 30]) (hp1 := (hz F A L)) rfl ?_
        refine w_c rfl rfl (t_kv_joinSets ?_)
        show wl_E f _ _ mm108.2.2.2.2.2.2.2.2 61 [some (.ref 30), some (.int (y1 + G50)), some (.int x2), some (.int y3)] [] (hz F (uA A 40 (kv_joinSets (A 40) x2)) L) _
        generalize hG51 : (kv_joinSets (A 40) x2) = G51 at hE ⊢
        refine w_n 2 (pc1 := 15) (ls1 := [some (.ref 30), some (.int (y1 + G50)), some (.int x2), some (.int (y3 + 1))]) (st1 := []) (hp1 := (hz F (uA A 40 G51) L)) rfl ?_
        subst T
        have hb2 := i_up (B := (12 : Int32)) hb
        have hb3 : y3.toInt < 12 := hb
        exact ih (show m = (12 - (y3 + 1).toInt).toNat by rw [hb2]; omega) (fun q3 => cvE rfl (funext fun q => if k0 : q = 40 then by subst k0; exact Eq.trans (b := (kv_leastWinningSets_15 (F 3 1) (A 6) x2 m (y1 + G50) (y3 + 1) G51).2) rfl rfl else by unfold uA; simp only [nb1 k0, cond_false]) rfl (K q3))
      · have h2 : ¬ ((A 6).getD y3.toInt.toNat 0) = x2 := h
        rw [if_neg h2] at hE
        refine w_n 3 (pc1 := 15) (ls1 := [some (.ref 30), some (.int y1), some (.int x2), some (.int (y3 + 1))]) (st1 := []) (hp1 := (hz F A L)) rfl ?_
        subst T
        have hb2 := i_up (B := (12 : Int32)) hb
        have hb3 : y3.toInt < 12 := hb
        exact ih (show m = (12 - (y3 + 1).toInt).toNat by rw [hb2]; omega) (fun q3 => cvE rfl (funext fun q => if k0 : q = 40 then by subst k0; exact Eq.trans (b := (kv_leastWinningSets_15 (F 3 1) (A 6) x2 m y1 (y3 + 1) (A 40)).2) rfl rfl else by unfold uA; simp only [nb1 k0, cond_false]) rfl (K q3))
noncomputable def kv_leastWinningSets_9 (f3_1 : Int32) (a6 : List Int32)  : Nat → Int32 → Int32 → List Int32 → Int32 × List Int32
  | 0, y1, _, a40 => (y1, a40)
  | m + 1, y1, y2, a40 => (kv_leastWinningSets_9 f3_1 a6 m (kv_leastWinningSets_15 f3_1 a6 y2 12 y1 0 a40).1 (y2 + (-1)) (kv_leastWinningSets_15 f3_1 a6 y2 12 y1 0 a40).2)
theorem t_kv_leastWinningSets_9 {f : Nat} {Q : Option Value → sm_H → Prop} : ∀ (m : Nat) {B D : Nat} {F : Nat → Nat → Int32} {A : Nat → List Int32} {L : Nat → List Int64} {y1 : Int32} {y2 : Int32} {o3 : Option Value}, m = (y2.toInt - 0).toNat → (∀ q2 : Int32, ∀ q3 : Option Value, wl_E f B D mm108.2.2.2.2.2.2.2.2 73 [some (.ref 30), some (.int ((kv_leastWinningSets_9 (F 3 1) (A 6) m y1 y2 (A 40)).1)), some (.int q2), q3] [] (hz F (uA A 40 ((kv_leastWinningSets_9 (F 3 1) (A 6) m y1 y2 (A 40)).2)) L) Q) → wl_E f B D mm108.2.2.2.2.2.2.2.2 9 [some (.ref 30), some (.int y1), some (.int y2), o3] [] (hz F A L) Q := by
  intro m
  induction m with
  | zero =>
    intro B D F A L y1 y2 o3 hm K
    generalize hT : (kv_leastWinningSets_9 (F 3 1) (A 6) 0 y1 y2 (A 40)) = T at K
    have hE : T = (y1, (A 40)) := hT.symm
    clear hT
    refine w_n 1 (pc1 := 10) (ls1 := [some (.ref 30), some (.int y1), some (.int y2), o3]) (st1 := [.int y2]) (hp1 := (hz F A L)) rfl ?_
    refine w_zle (p3 := 13) rfl rfl (fun hb => ?_) (fun h => False.elim (by have h : 0 < y2.toInt := h; omega))
    subst T
    exact cvE rfl (funext fun q => if k0 : q = 40 then by subst k0; exact Eq.trans (b := (A 40)) rfl rfl else by unfold uA; simp only [nb1 k0, cond_false]) rfl (K _ _)
  | succ m ih =>
    intro B D F A L y1 y2 o3 hm K
    generalize hT : (kv_leastWinningSets_9 (F 3 1) (A 6) (m + 1) y1 y2 (A 40)) = T at K
    have hE : T = (kv_leastWinningSets_9 (F 3 1) (A 6) m (kv_leastWinningSets_15 (F 3 1) (A 6) y2 12 y1 0 (A 40)).1 (y2 + (-1)) (kv_leastWinningSets_15 (F 3 1) (A 6) y2 12 y1 0 (A 40)).2) := hT.symm
    clear hT
    refine w_n 1 (pc1 := 10) (ls1 := [some (.ref 30), some (.int y1), some (.int y2), o3]) (st1 := [.int y2]) (hp1 := (hz F A L)) rfl ?_
    refine w_zle (p3 := 13) rfl rfl (fun h => False.elim (by have h : y2.toInt ≤ 0 := h; omega)) (fun hb => ?_)
    refine w_n 2 (pc1 := 15) (ls1 := [some (.ref 30), some (.int y1), some (.int y2), some (.int 0)]) (st1 := []) (hp1 := (hz F A L)) rfl ?_
    refine t_kv_leastWinningSets_15 12 (show (12 : Nat) = (12 - (0 : Int32).toInt).toNat by have e0 : (0 : Int32).toInt = 0 := rfl; first | rfl | omega) ?_
    intro r1
    show wl_E f _ _ mm108.2.2.2.2.2.2.2.2 67 [some (.ref 30), some (.int (kv_leastWinningSets_15 (F 3 1) (A 6) y2 12 y1 0 (A 40)).1), some (.int y2), some (.int r1)] [] (hz F (uA A 40 (kv_leastWinningSets_15 (F 3 1) (A 6) y2 12 y1 0 (A 40)).2) L) _
    generalize hG52 : (kv_leastWinningSets_15 (F 3 1) (A 6) y2 12 y1 0 (A 40)) = G52 at hE ⊢
    refine w_n 2 (pc1 := 9) (ls1 := [some (.ref 30), some (.int G52.1), some (.int (y2 + (-1))), some (.int r1)]) (st1 := []) (hp1 := (hz F (uA A 40 G52.2) L)) rfl ?_
    subst T
    have hb2 := i_dn2 (B := (0 : Int32)) hb
    have hb3 : 0 < y2.toInt := hb
    exact ih (show m = ((y2 + (-1)).toInt - 0).toNat by rw [hb2]; omega) (fun q2 q3 => cvE rfl (funext fun q => if k0 : q = 40 then by subst k0; exact Eq.trans (b := (kv_leastWinningSets_9 (F 3 1) (A 6) m G52.1 (y2 + (-1)) G52.2).2) rfl rfl else by unfold uA; simp only [nb1 k0, cond_false]) rfl (K q2 q3))
noncomputable def kv_leastWinningSets (f3_1 : Int32) (a6 : List Int32) (a40 : List Int32) : Int32 × List Int32 := ((kv_leastWinningSets_9 f3_1 a6 20 0 20 (kv_beginSets a40)).1, (kv_leastWinningSets_9 f3_1 a6 20 0 20 (kv_beginSets a40)).2)
theorem t_kv_leastWinningSets {f D : Nat} {F : Nat → Nat → Int32} {A : Nat → List Int32} {L : Nat → List Int64} {Q : Option Value → sm_H → Prop} (K : Q (some (.int ((kv_leastWinningSets (F 3 1) (A 6) (A 40)).1))) (hz F (uA A 40 ((kv_leastWinningSets (F 3 1) (A 6) (A 40)).2)) L)) : wl_M f D 108 [.ref 30] (hz F A L) Q := by
  generalize hT : (kv_leastWinningSets (F 3 1) (A 6) (A 40)) = T at K
  have hE : T = ((kv_leastWinningSets_9 (F 3 1) (A 6) 20 0 20 (kv_beginSets (A 40))).1, (kv_leastWinningSets_9 (F 3 1) (A 6) 20 0 20 (kv_beginSets (A 40))).2) := hT.symm
  clear hT
  refine w_m (E := mm108) rfl ?_
  show wl_E f f (D - 1) mm108.2.2.2.2.2.2.2.2 0 [some (.ref 30), none, none, none] [] (hz F A L) Q
  refine w_n 1 (pc1 := 1) (ls1 := [some (.ref 30), none, none, none]) (st1 := [.ref 30]) (hp1 := (hz F A L)) rfl ?_
  refine w_c rfl rfl (t_kv_beginSets ?_)
  show wl_E f _ _ mm108.2.2.2.2.2.2.2.2 4 [some (.ref 30), none, none, none] [] (hz F (uA A 40 (kv_beginSets (A 40))) L) _
  generalize hG48 : (kv_beginSets (A 40)) = G48 at hE ⊢
  refine w_n 4 (pc1 := 9) (ls1 := [some (.ref 30), some (.int 0), some (.int 20), none]) (st1 := []) (hp1 := (hz F (uA A 40 G48) L)) rfl ?_
  refine t_kv_leastWinningSets_9 20 (show (20 : Nat) = ((20 : Int32).toInt - 0).toNat by have e0 : (20 : Int32).toInt = 20 := rfl; first | rfl | omega) ?_
  intro r1 r2
  show wl_E f _ _ mm108.2.2.2.2.2.2.2.2 73 [some (.ref 30), some (.int (kv_leastWinningSets_9 (F 3 1) (A 6) 20 0 20 G48).1), some (.int r1), r2] [] (hz F (uA (uA A 40 G48) 40 (kv_leastWinningSets_9 (F 3 1) (A 6) 20 0 20 G48).2) L) _
  generalize hG53 : (kv_leastWinningSets_9 (F 3 1) (A 6) 20 0 20 G48) = G53 at hE ⊢
  refine w_n 1 (pc1 := 74) (ls1 := [some (.ref 30), some (.int G53.1), some (.int r1), r2]) (st1 := [.int G53.1]) (hp1 := (hz F (uA (uA A 40 G48) 40 G53.2) L)) rfl ?_
  subst T
  exact w_ri rfl (cvQ rfl (funext fun q => if k0 : q = 40 then by subst k0; exact Eq.trans (b := G53.2) rfl rfl else by unfold uA; simp only [nb1 k0, cond_false]) rfl K)
noncomputable def kv_winningSets_6 (f3_1 : Int32) (a6 : List Int32)  : Nat → Int32 → List Int32 → List Int32
  | 0, _, a40 => a40
  | m + 1, y1, a40 => (if (kt_isTold f3_1 y1) = 0 then (kv_winningSets_6 f3_1 a6 m (y1 + 1) a40) else (kv_winningSets_6 f3_1 a6 m (y1 + 1) (kv_joinSets a40 (a6.getD y1.toInt.toNat 0))))
theorem t_kv_winningSets_6 {f : Nat} {Q : Option Value → sm_H → Prop} : ∀ (m : Nat) {B D : Nat} {F : Nat → Nat → Int32} {A : Nat → List Int32} {L : Nat → List Int64} {y1 : Int32} {o2 : Option Value} {o3 : Option Value}, m = (12 - y1.toInt).toNat → (∀ q1 : Int32, wl_E f B D mm104.2.2.2.2.2.2.2.2 42 [some (.ref 30), some (.int q1), o2, o3] [] (hz F (uA A 40 (kv_winningSets_6 (F 3 1) (A 6) m y1 (A 40))) L) Q) → wl_E f B D mm104.2.2.2.2.2.2.2.2 6 [some (.ref 30), some (.int y1), o2, o3] [] (hz F A L) Q := by
  intro m
  induction m with
  | zero =>
    intro B D F A L y1 o2 o3 hm K
    generalize hT : (kv_winningSets_6 (F 3 1) (A 6) 0 y1 (A 40)) = T at K
    have hE : T = (A 40) := hT.symm
    clear hT
    refine w_n 2 (pc1 := 9) (ls1 := [some (.ref 30), some (.int y1), o2, o3]) (st1 := [.int 12, .int y1]) (hp1 := (hz F A L)) rfl ?_
    refine w_ge (p3 := 12) rfl rfl (fun hb => ?_) (fun h => False.elim (by have h : y1.toInt < 12 := h; omega))
    subst T
    exact cvE rfl (funext fun q => if k0 : q = 40 then by subst k0; exact Eq.trans (b := (A 40)) rfl rfl else by unfold uA; simp only [nb1 k0, cond_false]) rfl (K _)
  | succ m ih =>
    intro B D F A L y1 o2 o3 hm K
    generalize hT : (kv_winningSets_6 (F 3 1) (A 6) (m + 1) y1 (A 40)) = T at K
    have hE : T = (if (kt_isTold (F 3 1) y1) = 0 then (kv_winningSets_6 (F 3 1) (A 6) m (y1 + 1) (A 40)) else (kv_winningSets_6 (F 3 1) (A 6) m (y1 + 1) (kv_joinSets (A 40) ((A 6).getD y1.toInt.toNat 0)))) := hT.symm
    clear hT
    refine w_n 2 (pc1 := 9) (ls1 := [some (.ref 30), some (.int y1), o2, o3]) (st1 := [.int 12, .int y1]) (hp1 := (hz F A L)) rfl ?_
    refine w_ge (p3 := 12) rfl rfl (fun h => False.elim (by have h : 12 ≤ y1.toInt := h; omega)) (fun hb => ?_)
    refine w_n 3 (pc1 := 17) (ls1 := [some (.ref 30), some (.int y1), o2, o3]) (st1 := [.int y1, .ref 3]) (hp1 := (hz F A L)) rfl ?_
    refine w_c rfl rfl (t_kt_isTold ?_)
    show wl_E f _ _ mm104.2.2.2.2.2.2.2.2 20 [some (.ref 30), some (.int y1), o2, o3] [.int (kt_isTold (F 3 1) y1)] (hz F A L) _
    generalize hG56 : (kt_isTold (F 3 1) y1) = G56 at hE ⊢
    refine w_zeq (p3 := 23) rfl rfl (fun h => ?_) (fun h => ?_)
    · have h1 : G56 = 0 := h
      rw [if_pos h1] at hE
      refine w_n 2 (pc1 := 6) (ls1 := [some (.ref 30), some (.int (y1 + 1)), o2, o3]) (st1 := []) (hp1 := (hz F A L)) rfl ?_
      subst T
      have hb2 := i_up (B := (12 : Int32)) hb
      have hb3 : y1.toInt < 12 := hb
      exact ih (show m = (12 - (y1 + 1).toInt).toNat by rw [hb2]; omega) (fun q1 => cvE rfl (funext fun q => if k0 : q = 40 then by subst k0; exact Eq.trans (b := (kv_winningSets_6 (F 3 1) (A 6) m (y1 + 1) (A 40))) rfl rfl else by unfold uA; simp only [nb1 k0, cond_false]) rfl (K q1))
    · have h1 : ¬ G56 = 0 := h
      rw [if_neg h1] at hE
      refine w_n 5 (pc1 := 32) (ls1 := [some (.ref 30), some (.int y1), o2, o3]) (st1 := [.int y1, .ref 6, .ref 30]) (hp1 := (hz F A L)) rfl ?_
      refine w_al (k := 6) (l := (A 6)) rfl rfl rfl (fun ab => ?_)
      refine w_c rfl rfl (t_kv_joinSets ?_)
      show wl_E f _ _ mm104.2.2.2.2.2.2.2.2 36 [some (.ref 30), some (.int y1), o2, o3] [] (hz F (uA A 40 (kv_joinSets (A 40) ((A 6).getD y1.toInt.toNat 0))) L) _
      generalize hG57 : (kv_joinSets (A 40) ((A 6).getD y1.toInt.toNat 0)) = G57 at hE ⊢
      refine w_n 2 (pc1 := 6) (ls1 := [some (.ref 30), some (.int (y1 + 1)), o2, o3]) (st1 := []) (hp1 := (hz F (uA A 40 G57) L)) rfl ?_
      subst T
      have hb2 := i_up (B := (12 : Int32)) hb
      have hb3 : y1.toInt < 12 := hb
      exact ih (show m = (12 - (y1 + 1).toInt).toNat by rw [hb2]; omega) (fun q1 => cvE rfl (funext fun q => if k0 : q = 40 then by subst k0; exact Eq.trans (b := (kv_winningSets_6 (F 3 1) (A 6) m (y1 + 1) G57)) rfl rfl else by unfold uA; simp only [nb1 k0, cond_false]) rfl (K q1))
noncomputable def kv_winningSets_54 (a40 : List Int32) (x1 : Int32) : Nat → Int32 → Int32 → Int32
  | 0, y2, _ => y2
  | m + 1, y2, y3 => (if x1.toInt < (2 * y3).toInt then (kv_winningSets_54 a40 x1 m (y2 + (a40.getD y3.toInt.toNat 0)) (y3 + 1)) else (kv_winningSets_54 a40 x1 m y2 (y3 + 1)))
theorem t_kv_winningSets_54 {f : Nat} {Q : Option Value → sm_H → Prop} : ∀ (m : Nat) {B D : Nat} {F : Nat → Nat → Int32} {A : Nat → List Int32} {L : Nat → List Int64} {x1 : Int32} {y2 : Int32} {y3 : Int32}, m = ((Int32.ofNat (A 40).length).toInt - y3.toInt).toNat → (∀ q3 : Int32, wl_E f B D mm104.2.2.2.2.2.2.2.2 85 [some (.ref 30), some (.int x1), some (.int (kv_winningSets_54 (A 40) x1 m y2 y3)), some (.int q3)] [] (hz F A L) Q) → wl_E f B D mm104.2.2.2.2.2.2.2.2 54 [some (.ref 30), some (.int x1), some (.int y2), some (.int y3)] [] (hz F A L) Q := by
  intro m
  induction m with
  | zero =>
    intro B D F A L x1 y2 y3 hm K
    generalize hT : (kv_winningSets_54 (A 40) x1 0 y2 y3) = T at K
    have hE : T = y2 := hT.symm
    clear hT
    refine w_n 4 (pc1 := 60) (ls1 := [some (.ref 30), some (.int x1), some (.int y2), some (.int y3)]) (st1 := [.int (Int32.ofNat (A 40).length), .int y3]) (hp1 := (hz F A L)) rfl ?_
    refine w_ge (p3 := 63) rfl rfl (fun hb => ?_) (fun h => False.elim (by have h : y3.toInt < (Int32.ofNat (A 40).length).toInt := h; omega))
    subst T
    exact cvE rfl rfl rfl (K _)
  | succ m ih =>
    intro B D F A L x1 y2 y3 hm K
    generalize hT : (kv_winningSets_54 (A 40) x1 (m + 1) y2 y3) = T at K
    have hE : T = (if x1.toInt < (2 * y3).toInt then (kv_winningSets_54 (A 40) x1 m (y2 + ((A 40).getD y3.toInt.toNat 0)) (y3 + 1)) else (kv_winningSets_54 (A 40) x1 m y2 (y3 + 1))) := hT.symm
    clear hT
    refine w_n 4 (pc1 := 60) (ls1 := [some (.ref 30), some (.int x1), some (.int y2), some (.int y3)]) (st1 := [.int (Int32.ofNat (A 40).length), .int y3]) (hp1 := (hz F A L)) rfl ?_
    refine w_ge (p3 := 63) rfl rfl (fun h => False.elim (by have h : (Int32.ofNat (A 40).length).toInt ≤ y3.toInt := h; omega)) (fun hb => ?_)
    refine w_n 4 (pc1 := 67) (ls1 := [some (.ref 30), some (.int x1), some (.int y2), some (.int y3)]) (st1 := [.int x1, .int (2 * y3)]) (hp1 := (hz F A L)) rfl ?_
    refine w_le (p3 := 70) rfl rfl (fun h => ?_) (fun h => ?_)
    · have h1 : (2 * y3).toInt ≤ x1.toInt := h
      rw [if_neg (Int.not_lt.mpr h1)] at hE
      refine w_n 2 (pc1 := 54) (ls1 := [some (.ref 30), some (.int x1), some (.int y2), some (.int (y3 + 1))]) (st1 := []) (hp1 := (hz F A L)) rfl ?_
      subst T
      have hb2 := i_up (B := (Int32.ofNat (A 40).length)) hb
      have hb3 : y3.toInt < (Int32.ofNat (A 40).length).toInt := hb
      exact ih (show m = ((Int32.ofNat (A 40).length).toInt - (y3 + 1).toInt).toNat by rw [hb2]; omega) (fun q3 => cvE rfl rfl rfl (K q3))
    · have h1 : x1.toInt < (2 * y3).toInt := h
      rw [if_pos h1] at hE
      refine w_n 4 (pc1 := 76) (ls1 := [some (.ref 30), some (.int x1), some (.int y2), some (.int y3)]) (st1 := [.int y3, .ref 40, .int y2]) (hp1 := (hz F A L)) rfl ?_
      refine w_al (k := 40) (l := (A 40)) rfl rfl rfl (fun ab => ?_)
      refine w_n 4 (pc1 := 54) (ls1 := [some (.ref 30), some (.int x1), some (.int (y2 + ((A 40).getD y3.toInt.toNat 0))), some (.int (y3 + 1))]) (st1 := []) (hp1 := (hz F A L)) rfl ?_
      subst T
      have hb2 := i_up (B := (Int32.ofNat (A 40).length)) hb
      have hb3 : y3.toInt < (Int32.ofNat (A 40).length).toInt := hb
      exact ih (show m = ((Int32.ofNat (A 40).length).toInt - (y3 + 1).toInt).toNat by rw [hb2]; omega) (fun q3 => cvE rfl rfl rfl (K q3))
noncomputable def kv_winningSets (f3_1 : Int32) (a6 : List Int32) (a40 : List Int32) : Int32 × List Int32 := ((kv_winningSets_54 (kv_winningSets_6 f3_1 a6 12 0 (kv_beginSets a40)) (kt_allBiscuits f3_1 a6) ((Int32.ofNat (kv_winningSets_6 f3_1 a6 12 0 (kv_beginSets a40)).length).toInt).toNat 0 0), (kv_winningSets_6 f3_1 a6 12 0 (kv_beginSets a40)))
theorem t_kv_winningSets {f D : Nat} {F : Nat → Nat → Int32} {A : Nat → List Int32} {L : Nat → List Int64} {Q : Option Value → sm_H → Prop} (K : Q (some (.int ((kv_winningSets (F 3 1) (A 6) (A 40)).1))) (hz F (uA A 40 ((kv_winningSets (F 3 1) (A 6) (A 40)).2)) L)) : wl_M f D 104 [.ref 30] (hz F A L) Q := by
  generalize hT : (kv_winningSets (F 3 1) (A 6) (A 40)) = T at K
  have hE : T = ((kv_winningSets_54 (kv_winningSets_6 (F 3 1) (A 6) 12 0 (kv_beginSets (A 40))) (kt_allBiscuits (F 3 1) (A 6)) ((Int32.ofNat (kv_winningSets_6 (F 3 1) (A 6) 12 0 (kv_beginSets (A 40))).length).toInt).toNat 0 0), (kv_winningSets_6 (F 3 1) (A 6) 12 0 (kv_beginSets (A 40)))) := hT.symm
  clear hT
  refine w_m (E := mm104) rfl ?_
  show wl_E f f (D - 1) mm104.2.2.2.2.2.2.2.2 0 [some (.ref 30), none, none, none] [] (hz F A L) Q
  refine w_n 1 (pc1 := 1) (ls1 := [some (.ref 30), none, none, none]) (st1 := [.ref 30]) (hp1 := (hz F A L)) rfl ?_
  refine w_c rfl rfl (t_kv_beginSets ?_)
  show wl_E f _ _ mm104.2.2.2.2.2.2.2.2 4 [some (.ref 30), none, none, none] [] (hz F (uA A 40 (kv_beginSets (A 40))) L) _
  generalize hG55 : (kv_beginSets (A 40)) = G55 at hE ⊢
  refine w_n 2 (pc1 := 6) (ls1 := [some (.ref 30), some (.int 0), none, none]) (st1 := []) (hp1 := (hz F (uA A 40 G55) L)) rfl ?_
  refine t_kv_winningSets_6 12 (show (12 : Nat) = (12 - (0 : Int32).toInt).toNat by have e0 : (0 : Int32).toInt = 0 := rfl; first | rfl | omega) ?_
  intro r1
  show wl_E f _ _ mm104.2.2.2.2.2.2.2.2 42 [some (.ref 30), some (.int r1), none, none] [] (hz F (uA (uA A 40 G55) 40 (kv_winningSets_6 (F 3 1) (A 6) 12 0 G55)) L) _
  generalize hG58 : (kv_winningSets_6 (F 3 1) (A 6) 12 0 G55) = G58 at hE ⊢
  refine w_n 2 (pc1 := 46) (ls1 := [some (.ref 30), some (.int r1), none, none]) (st1 := [.ref 3]) (hp1 := (hz F (uA (uA A 40 G55) 40 G58) L)) rfl ?_
  refine w_c rfl rfl (t_kt_allBiscuits ?_)
  show wl_E f _ _ mm104.2.2.2.2.2.2.2.2 49 [some (.ref 30), some (.int r1), none, none] [.int (kt_allBiscuits (F 3 1) (A 6))] (hz F (uA (uA A 40 G55) 40 G58) L) _
  generalize hG59 : (kt_allBiscuits (F 3 1) (A 6)) = G59 at hE ⊢
  refine w_n 5 (pc1 := 54) (ls1 := [some (.ref 30), some (.int G59), some (.int 0), some (.int 0)]) (st1 := []) (hp1 := (hz F (uA (uA A 40 G55) 40 G58) L)) rfl ?_
  refine t_kv_winningSets_54 (((Int32.ofNat G58.length).toInt).toNat) (show ((Int32.ofNat G58.length).toInt).toNat = ((Int32.ofNat G58.length).toInt - (0 : Int32).toInt).toNat by have e0 : (0 : Int32).toInt = 0 := rfl; first | rfl | omega) ?_
  intro r2
  show wl_E f _ _ mm104.2.2.2.2.2.2.2.2 85 [some (.ref 30), some (.int G59), some (.int (kv_winningSets_54 G58 G59 ((Int32.ofNat G58.length).toInt).toNat 0 0)), some (.int r2)] [] (hz F (uA (uA A 40 G55) 40 G58) L) _
  generalize hG60 : (kv_winningSets_54 G58 G59 ((Int32.ofNat G58.length).toInt).toNat 0 0) = G60 at hE ⊢
  refine w_n 1 (pc1 := 86) (ls1 := [some (.ref 30), some (.int G59), some (.int G60), some (.int r2)]) (st1 := [.int G60]) (hp1 := (hz F (uA (uA A 40 G55) 40 G58) L)) rfl ?_
  subst T
  exact w_ri rfl (cvQ rfl (funext fun q => if k0 : q = 40 then by subst k0; exact Eq.trans (b := G58) rfl rfl else by unfold uA; simp only [nb1 k0, cond_false]) rfl K)
noncomputable def kc_power (f3_1 : Int32) (a6 : List Int32) (a40 : List Int32) (x1 : Int32) (x2 : Int32) : Int32 × List Int32 := (if x1 = (-1) then (if x2 = 1 then ((kv_winningSets f3_1 a6 a40).1, (kv_winningSets f3_1 a6 a40).2) else (if x2 = 2 then ((kv_leastWinningSets f3_1 a6 a40).1, (kv_leastWinningSets f3_1 a6 a40).2) else (if (kt_isTold f3_1 x1) = 0 then ((-1), a40) else (if x2 = 0 then ((kv_setsSwungBy f3_1 a6 a40 x1).1, (kv_setsSwungBy f3_1 a6 a40 x1).2) else ((-1), a40))))) else (if (kt_isTold f3_1 x1) = 0 then ((-1), a40) else (if x2 = 0 then ((kv_setsSwungBy f3_1 a6 a40 x1).1, (kv_setsSwungBy f3_1 a6 a40 x1).2) else ((-1), a40))))
theorem t_kc_power {f D : Nat} {F : Nat → Nat → Int32} {A : Nat → List Int32} {L : Nat → List Int64} {Q : Option Value → sm_H → Prop} {x1 : Int32} {x2 : Int32} (K : Q (some (.int ((kc_power (F 3 1) (A 6) (A 40) x1 x2).1))) (hz F (uA A 40 ((kc_power (F 3 1) (A 6) (A 40) x1 x2).2)) L)) : wl_M f D 103 [.ref 0, .int x1, .int x2] (hz F A L) Q := by
  generalize hT : (kc_power (F 3 1) (A 6) (A 40) x1 x2) = T at K
  have hE : T = (if x1 = (-1) then (if x2 = 1 then ((kv_winningSets (F 3 1) (A 6) (A 40)).1, (kv_winningSets (F 3 1) (A 6) (A 40)).2) else (if x2 = 2 then ((kv_leastWinningSets (F 3 1) (A 6) (A 40)).1, (kv_leastWinningSets (F 3 1) (A 6) (A 40)).2) else (if (kt_isTold (F 3 1) x1) = 0 then ((-1), (A 40)) else (if x2 = 0 then ((kv_setsSwungBy (F 3 1) (A 6) (A 40) x1).1, (kv_setsSwungBy (F 3 1) (A 6) (A 40) x1).2) else ((-1), (A 40)))))) else (if (kt_isTold (F 3 1) x1) = 0 then ((-1), (A 40)) else (if x2 = 0 then ((kv_setsSwungBy (F 3 1) (A 6) (A 40) x1).1, (kv_setsSwungBy (F 3 1) (A 6) (A 40) x1).2) else ((-1), (A 40))))) := hT.symm
  clear hT
  refine w_m (E := mm103) rfl ?_
  show wl_E f f (D - 1) mm103.2.2.2.2.2.2.2.2 0 [some (.ref 0), some (.int x1), some (.int x2)] [] (hz F A L) Q
  refine w_n 2 (pc1 := 2) (ls1 := [some (.ref 0), some (.int x1), some (.int x2)]) (st1 := [.int (-1), .int x1]) (hp1 := (hz F A L)) rfl ?_
  refine w_ne (p3 := 5) rfl rfl (fun h => ?_) (fun h => ?_)
  · have h1 : ¬ x1 = (-1) := h
    rw [if_neg h1] at hE
    refine w_n 2 (pc1 := 20) (ls1 := [some (.ref 0), some (.int x1), some (.int x2)]) (st1 := [.int (-1), .int x1]) (hp1 := (hz F A L)) rfl ?_
    refine w_ne (p3 := 23) rfl rfl (fun _ => ?_) (fun h => absurd h h1)
    refine w_n 3 (pc1 := 41) (ls1 := [some (.ref 0), some (.int x1), some (.int x2)]) (st1 := [.int x1, .ref 3]) (hp1 := (hz F A L)) rfl ?_
    refine w_c rfl rfl (t_kt_isTold ?_)
    show wl_E f _ _ mm103.2.2.2.2.2.2.2.2 44 [some (.ref 0), some (.int x1), some (.int x2)] [.int (kt_isTold (F 3 1) x1)] (hz F A L) _
    generalize hG32 : (kt_isTold (F 3 1) x1) = G32 at hE ⊢
    refine w_zeq (p3 := 47) rfl rfl (fun h => ?_) (fun h => ?_)
    · have h2 : G32 = 0 := h
      rw [if_pos h2] at hE
      refine w_n 1 (pc1 := 52) (ls1 := [some (.ref 0), some (.int x1), some (.int x2)]) (st1 := [.int (-1)]) (hp1 := (hz F A L)) rfl ?_
      subst T
      exact w_ri rfl (cvQ rfl (funext fun q => if k0 : q = 40 then by subst k0; exact Eq.trans (b := (A 40)) rfl rfl else by unfold uA; simp only [nb1 k0, cond_false]) rfl K)
    · have h2 : ¬ G32 = 0 := h
      rw [if_neg h2] at hE
      refine w_n 1 (pc1 := 48) (ls1 := [some (.ref 0), some (.int x1), some (.int x2)]) (st1 := [.int x2]) (hp1 := (hz F A L)) rfl ?_
      refine w_zeq (p3 := 51) rfl rfl (fun h => ?_) (fun h => ?_)
      · have h3 : x2 = 0 := h
        rw [if_pos h3] at hE
        refine w_n 3 (pc1 := 58) (ls1 := [some (.ref 0), some (.int x1), some (.int x2)]) (st1 := [.int x1, .ref 30]) (hp1 := (hz F A L)) rfl ?_
        refine w_c rfl rfl (t_kv_setsSwungBy ?_)
        show wl_E f _ _ mm103.2.2.2.2.2.2.2.2 61 [some (.ref 0), some (.int x1), some (.int x2)] [.int (kv_setsSwungBy (F 3 1) (A 6) (A 40) x1).1] (hz F (uA A 40 (kv_setsSwungBy (F 3 1) (A 6) (A 40) x1).2) L) _
        generalize hG45 : (kv_setsSwungBy (F 3 1) (A 6) (A 40) x1) = G45 at hE ⊢
        subst T
        exact w_ri rfl (cvQ rfl rfl rfl K)
      · have h3 : ¬ x2 = 0 := h
        rw [if_neg h3] at hE
        refine w_n 1 (pc1 := 52) (ls1 := [some (.ref 0), some (.int x1), some (.int x2)]) (st1 := [.int (-1)]) (hp1 := (hz F A L)) rfl ?_
        subst T
        exact w_ri rfl (cvQ rfl (funext fun q => if k0 : q = 40 then by subst k0; exact Eq.trans (b := (A 40)) rfl rfl else by unfold uA; simp only [nb1 k0, cond_false]) rfl K)
  · have h1 : x1 = (-1) := h
    rw [if_pos h1] at hE
    refine w_n 2 (pc1 := 7) (ls1 := [some (.ref 0), some (.int x1), some (.int x2)]) (st1 := [.int 1, .int x2]) (hp1 := (hz F A L)) rfl ?_
    refine w_ne (p3 := 10) rfl rfl (fun h => ?_) (fun h => ?_)
    · have h4 : ¬ x2 = 1 := h
      rw [if_neg h4] at hE
      refine w_n 2 (pc1 := 20) (ls1 := [some (.ref 0), some (.int x1), some (.int x2)]) (st1 := [.int (-1), .int x1]) (hp1 := (hz F A L)) rfl ?_
      refine w_ne (p3 := 23) rfl rfl (fun h => absurd h1 h) (fun _ => ?_)
      refine w_n 2 (pc1 := 25) (ls1 := [some (.ref 0), some (.int x1), some (.int x2)]) (st1 := [.int 2, .int x2]) (hp1 := (hz F A L)) rfl ?_
      refine w_ne (p3 := 28) rfl rfl (fun h => ?_) (fun h => ?_)
      · have h5 : ¬ x2 = 2 := h
        rw [if_neg h5] at hE
        refine w_n 3 (pc1 := 41) (ls1 := [some (.ref 0), some (.int x1), some (.int x2)]) (st1 := [.int x1, .ref 3]) (hp1 := (hz F A L)) rfl ?_
        refine w_c rfl rfl (t_kt_isTold ?_)
        show wl_E f _ _ mm103.2.2.2.2.2.2.2.2 44 [some (.ref 0), some (.int x1), some (.int x2)] [.int (kt_isTold (F 3 1) x1)] (hz F A L) _
        generalize hG46 : (kt_isTold (F 3 1) x1) = G46 at hE ⊢
        refine w_zeq (p3 := 47) rfl rfl (fun h => ?_) (fun h => ?_)
        · have h6 : G46 = 0 := h
          rw [if_pos h6] at hE
          refine w_n 1 (pc1 := 52) (ls1 := [some (.ref 0), some (.int x1), some (.int x2)]) (st1 := [.int (-1)]) (hp1 := (hz F A L)) rfl ?_
          subst T
          exact w_ri rfl (cvQ rfl (funext fun q => if k0 : q = 40 then by subst k0; exact Eq.trans (b := (A 40)) rfl rfl else by unfold uA; simp only [nb1 k0, cond_false]) rfl K)
        · have h6 : ¬ G46 = 0 := h
          rw [if_neg h6] at hE
          refine w_n 1 (pc1 := 48) (ls1 := [some (.ref 0), some (.int x1), some (.int x2)]) (st1 := [.int x2]) (hp1 := (hz F A L)) rfl ?_
          refine w_zeq (p3 := 51) rfl rfl (fun h => ?_) (fun h => ?_)
          · have h7 : x2 = 0 := h
            rw [if_pos h7] at hE
            refine w_n 3 (pc1 := 58) (ls1 := [some (.ref 0), some (.int x1), some (.int x2)]) (st1 := [.int x1, .ref 30]) (hp1 := (hz F A L)) rfl ?_
            refine w_c rfl rfl (t_kv_setsSwungBy ?_)
            show wl_E f _ _ mm103.2.2.2.2.2.2.2.2 61 [some (.ref 0), some (.int x1), some (.int x2)] [.int (kv_setsSwungBy (F 3 1) (A 6) (A 40) x1).1] (hz F (uA A 40 (kv_setsSwungBy (F 3 1) (A 6) (A 40) x1).2) L) _
            generalize hG47 : (kv_setsSwungBy (F 3 1) (A 6) (A 40) x1) = G47 at hE ⊢
            subst T
            exact w_ri rfl (cvQ rfl rfl rfl K)
          · have h7 : ¬ x2 = 0 := h
            rw [if_neg h7] at hE
            refine w_n 1 (pc1 := 52) (ls1 := [some (.ref 0), some (.int x1), some (.int x2)]) (st1 := [.int (-1)]) (hp1 := (hz F A L)) rfl ?_
            subst T
            exact w_ri rfl (cvQ rfl (funext fun q => if k0 : q = 40 then by subst k0; exact Eq.trans (b := (A 40)) rfl rfl else by unfold uA; simp only [nb1 k0, cond_false]) rfl K)
      · have h5 : x2 = 2 := h
        rw [if_pos h5] at hE
        refine w_n 2 (pc1 := 32) (ls1 := [some (.ref 0), some (.int x1), some (.int x2)]) (st1 := [.ref 30]) (hp1 := (hz F A L)) rfl ?_
        refine w_c rfl rfl (t_kv_leastWinningSets ?_)
        show wl_E f _ _ mm103.2.2.2.2.2.2.2.2 35 [some (.ref 0), some (.int x1), some (.int x2)] [.int (kv_leastWinningSets (F 3 1) (A 6) (A 40)).1] (hz F (uA A 40 (kv_leastWinningSets (F 3 1) (A 6) (A 40)).2) L) _
        generalize hG54 : (kv_leastWinningSets (F 3 1) (A 6) (A 40)) = G54 at hE ⊢
        subst T
        exact w_ri rfl (cvQ rfl rfl rfl K)
    · have h4 : x2 = 1 := h
      rw [if_pos h4] at hE
      refine w_n 2 (pc1 := 14) (ls1 := [some (.ref 0), some (.int x1), some (.int x2)]) (st1 := [.ref 30]) (hp1 := (hz F A L)) rfl ?_
      refine w_c rfl rfl (t_kv_winningSets ?_)
      show wl_E f _ _ mm103.2.2.2.2.2.2.2.2 17 [some (.ref 0), some (.int x1), some (.int x2)] [.int (kv_winningSets (F 3 1) (A 6) (A 40)).1] (hz F (uA A 40 (kv_winningSets (F 3 1) (A 6) (A 40)).2) L) _
      generalize hG61 : (kv_winningSets (F 3 1) (A 6) (A 40)) = G61 at hE ⊢
      subst T
      exact w_ri rfl (cvQ rfl rfl rfl K)
noncomputable def km_biscuitsOf_4 (a68 : List Int32) (x1 : Int32) : Nat → Int32 → Int32 → Int32
  | 0, y2, _ => y2
  | m + 1, y2, y3 => (if (km_has x1 y3) = 0 then (km_biscuitsOf_4 a68 x1 m (y2 + 0) (y3 + 1)) else (km_biscuitsOf_4 a68 x1 m (y2 + (a68.getD (12 + y3).toInt.toNat 0)) (y3 + 1)))
theorem t_km_biscuitsOf_4 {f : Nat} {Q : Option Value → sm_H → Prop} : ∀ (m : Nat) {B D : Nat} {F : Nat → Nat → Int32} {A : Nat → List Int32} {L : Nat → List Int64} {x1 : Int32} {y2 : Int32} {y3 : Int32}, m = (12 - y3.toInt).toNat → (∀ q3 : Int32, wl_E f B D mm230.2.2.2.2.2.2.2.2 40 [some (.ref 67), some (.int x1), some (.int (km_biscuitsOf_4 (A 68) x1 m y2 y3)), some (.int q3)] [] (hz F A L) Q) → wl_E f B D mm230.2.2.2.2.2.2.2.2 4 [some (.ref 67), some (.int x1), some (.int y2), some (.int y3)] [] (hz F A L) Q := by
  intro m
  induction m with
  | zero =>
    intro B D F A L x1 y2 y3 hm K
    generalize hT : (km_biscuitsOf_4 (A 68) x1 0 y2 y3) = T at K
    have hE : T = y2 := hT.symm
    clear hT
    refine w_n 2 (pc1 := 7) (ls1 := [some (.ref 67), some (.int x1), some (.int y2), some (.int y3)]) (st1 := [.int 12, .int y3]) (hp1 := (hz F A L)) rfl ?_
    refine w_ge (p3 := 10) rfl rfl (fun hb => ?_) (fun h => False.elim (by have h : y3.toInt < 12 := h; omega))
    subst T
    exact cvE rfl rfl rfl (K _)
  | succ m ih =>
    intro B D F A L x1 y2 y3 hm K
    generalize hT : (km_biscuitsOf_4 (A 68) x1 (m + 1) y2 y3) = T at K
    have hE : T = (if (km_has x1 y3) = 0 then (km_biscuitsOf_4 (A 68) x1 m (y2 + 0) (y3 + 1)) else (km_biscuitsOf_4 (A 68) x1 m (y2 + ((A 68).getD (12 + y3).toInt.toNat 0)) (y3 + 1))) := hT.symm
    clear hT
    refine w_n 2 (pc1 := 7) (ls1 := [some (.ref 67), some (.int x1), some (.int y2), some (.int y3)]) (st1 := [.int 12, .int y3]) (hp1 := (hz F A L)) rfl ?_
    refine w_ge (p3 := 10) rfl rfl (fun h => False.elim (by have h : 12 ≤ y3.toInt := h; omega)) (fun hb => ?_)
    refine w_n 3 (pc1 := 13) (ls1 := [some (.ref 67), some (.int x1), some (.int y2), some (.int y3)]) (st1 := [.int y3, .int x1, .int y2]) (hp1 := (hz F A L)) rfl ?_
    refine w_c rfl rfl (t_km_has ?_)
    show wl_E f _ _ mm230.2.2.2.2.2.2.2.2 16 [some (.ref 67), some (.int x1), some (.int y2), some (.int y3)] [.int (km_has x1 y3), .int y2] (hz F A L) _
    generalize hG63 : (km_has x1 y3) = G63 at hE ⊢
    refine w_zeq (p3 := 19) rfl rfl (fun h => ?_) (fun h => ?_)
    · have h1 : G63 = 0 := h
      rw [if_pos h1] at hE
      refine w_n 5 (pc1 := 4) (ls1 := [some (.ref 67), some (.int x1), some (.int (y2 + 0)), some (.int (y3 + 1))]) (st1 := []) (hp1 := (hz F A L)) rfl ?_
      subst T
      have hb2 := i_up (B := (12 : Int32)) hb
      have hb3 : y3.toInt < 12 := hb
      exact ih (show m = (12 - (y3 + 1).toInt).toNat by rw [hb2]; omega) (fun q3 => cvE rfl rfl rfl (K q3))
    · have h1 : ¬ G63 = 0 := h
      rw [if_neg h1] at hE
      refine w_n 5 (pc1 := 27) (ls1 := [some (.ref 67), some (.int x1), some (.int y2), some (.int y3)]) (st1 := [.int (12 + y3), .ref 68, .int y2]) (hp1 := (hz F A L)) rfl ?_
      refine w_al (k := 68) (l := (A 68)) rfl rfl rfl (fun _ => ?_)
      refine w_n 5 (pc1 := 4) (ls1 := [some (.ref 67), some (.int x1), some (.int (y2 + ((A 68).getD (12 + y3).toInt.toNat 0))), some (.int (y3 + 1))]) (st1 := []) (hp1 := (hz F A L)) rfl ?_
      subst T
      have hb2 := i_up (B := (12 : Int32)) hb
      have hb3 : y3.toInt < 12 := hb
      exact ih (show m = (12 - (y3 + 1).toInt).toNat by rw [hb2]; omega) (fun q3 => cvE rfl rfl rfl (K q3))
noncomputable def km_biscuitsOf (a68 : List Int32) (x1 : Int32) : Int32 := (km_biscuitsOf_4 a68 x1 12 0 0)
theorem t_km_biscuitsOf {f D : Nat} {F : Nat → Nat → Int32} {A : Nat → List Int32} {L : Nat → List Int64} {Q : Option Value → sm_H → Prop} {x1 : Int32} (K : Q (some (.int (km_biscuitsOf (A 68) x1))) (hz F A L)) : wl_M f D 230 [.ref 67, .int x1] (hz F A L) Q := by
  generalize hT : (km_biscuitsOf (A 68) x1) = T at K
  have hE : T = (km_biscuitsOf_4 (A 68) x1 12 0 0) := hT.symm
  clear hT
  refine w_m (E := mm230) rfl ?_
  show wl_E f f (D - 1) mm230.2.2.2.2.2.2.2.2 0 [some (.ref 67), some (.int x1), none, none] [] (hz F A L) Q
  refine w_n 4 (pc1 := 4) (ls1 := [some (.ref 67), some (.int x1), some (.int 0), some (.int 0)]) (st1 := []) (hp1 := (hz F A L)) rfl ?_
  refine t_km_biscuitsOf_4 12 (show (12 : Nat) = (12 - (0 : Int32).toInt).toNat by have e0 : (0 : Int32).toInt = 0 := rfl; first | rfl | omega) ?_
  intro r1
  show wl_E f _ _ mm230.2.2.2.2.2.2.2.2 40 [some (.ref 67), some (.int x1), some (.int (km_biscuitsOf_4 (A 68) x1 12 0 0)), some (.int r1)] [] (hz F A L) _
  generalize hG64 : (km_biscuitsOf_4 (A 68) x1 12 0 0) = G64 at hE ⊢
  refine w_n 1 (pc1 := 41) (ls1 := [some (.ref 67), some (.int x1), some (.int G64), some (.int r1)]) (st1 := [.int G64]) (hp1 := (hz F A L)) rfl ?_
  subst T
  exact w_ri rfl (cvQ rfl rfl rfl K)
noncomputable def km_isMore (a68 : List Int32) (x1 : Int32) : Int32 := (if (km_biscuitsOf a68 (a68.getD 144 0)).toInt < (2 * (km_biscuitsOf a68 x1)).toInt then 1 else 0)
theorem t_km_isMore {f D : Nat} {F : Nat → Nat → Int32} {A : Nat → List Int32} {L : Nat → List Int64} {Q : Option Value → sm_H → Prop} {x1 : Int32} (K : Q (some (.int (km_isMore (A 68) x1))) (hz F A L)) : wl_M f D 229 [.ref 67, .int x1] (hz F A L) Q := by
  generalize hT : (km_isMore (A 68) x1) = T at K
  have hE : T = (if (km_biscuitsOf (A 68) ((A 68).getD 144 0)).toInt < (2 * (km_biscuitsOf (A 68) x1)).toInt then 1 else 0) := hT.symm
  clear hT
  refine w_m (E := mm229) rfl ?_
  show wl_E f f (D - 1) mm229.2.2.2.2.2.2.2.2 0 [some (.ref 67), some (.int x1)] [] (hz F A L) Q
  refine w_n 3 (pc1 := 3) (ls1 := [some (.ref 67), some (.int x1)]) (st1 := [.int x1, .ref 67, .int 2]) (hp1 := (hz F A L)) rfl ?_
  refine w_c rfl rfl (t_km_biscuitsOf ?_)
  show wl_E f _ _ mm229.2.2.2.2.2.2.2.2 6 [some (.ref 67), some (.int x1)] [.int (km_biscuitsOf (A 68) x1), .int 2] (hz F A L) _
  generalize hG65 : (km_biscuitsOf (A 68) x1) = G65 at hE ⊢
  refine w_n 5 (pc1 := 15) (ls1 := [some (.ref 67), some (.int x1)]) (st1 := [.int 144, .ref 68, .ref 67, .int (2 * G65)]) (hp1 := (hz F A L)) rfl ?_
  refine w_al (k := 68) (l := (A 68)) rfl rfl rfl (fun _ => ?_)
  refine w_c rfl rfl (t_km_biscuitsOf ?_)
  show wl_E f _ _ mm229.2.2.2.2.2.2.2.2 19 [some (.ref 67), some (.int x1)] [.int (km_biscuitsOf (A 68) ((A 68).getD 144 0)), .int (2 * G65)] (hz F A L) _
  generalize hG66 : (km_biscuitsOf (A 68) ((A 68).getD 144 0)) = G66 at hE ⊢
  refine w_le (p3 := 22) rfl rfl (fun h => ?_) (fun h => ?_)
  · have h1 : (2 * G65).toInt ≤ G66.toInt := h
    rw [if_neg (Int.not_lt.mpr h1)] at hE
    refine w_n 1 (pc1 := 27) (ls1 := [some (.ref 67), some (.int x1)]) (st1 := [.int 0]) (hp1 := (hz F A L)) rfl ?_
    subst T
    exact w_ri rfl (cvQ rfl rfl rfl K)
  · have h1 : G66.toInt < (2 * G65).toInt := h
    rw [if_pos h1] at hE
    refine w_n 2 (pc1 := 27) (ls1 := [some (.ref 67), some (.int x1)]) (st1 := [.int 1]) (hp1 := (hz F A L)) rfl ?_
    subst T
    exact w_ri rfl (cvQ rfl rfl rfl K)
noncomputable def km_isLeast_2 (a68 : List Int32) (x1 : Int32) : Nat → Int32 → Int32
  | 0, _ => 1
  | m + 1, y2 => (if (km_has x1 y2) = 0 then (km_isLeast_2 a68 x1 m (y2 + 1)) else (if (km_isMore a68 (x1 &&& (((1 : Int32) <<< (y2 &&& 31)) ^^^ (-1)))) = 0 then (km_isLeast_2 a68 x1 m (y2 + 1)) else 0))
theorem t_km_isLeast_2 {f : Nat} {Q : Option Value → sm_H → Prop} : ∀ (m : Nat) {B D : Nat} {F : Nat → Nat → Int32} {A : Nat → List Int32} {L : Nat → List Int64} {x1 : Int32} {y2 : Int32}, m = (12 - y2.toInt).toNat → (Q (some (.int (km_isLeast_2 (A 68) x1 m y2))) (hz F A L)) → wl_E f B D mm231.2.2.2.2.2.2.2.2 2 [some (.ref 67), some (.int x1), some (.int y2)] [] (hz F A L) Q := by
  intro m
  induction m with
  | zero =>
    intro B D F A L x1 y2 hm K
    generalize hT : (km_isLeast_2 (A 68) x1 0 y2) = T at K
    have hE : T = 1 := hT.symm
    clear hT
    refine w_n 2 (pc1 := 5) (ls1 := [some (.ref 67), some (.int x1), some (.int y2)]) (st1 := [.int 12, .int y2]) (hp1 := (hz F A L)) rfl ?_
    refine w_ge (p3 := 8) rfl rfl (fun hb => ?_) (fun h => False.elim (by have h : y2.toInt < 12 := h; omega))
    refine w_n 1 (pc1 := 39) (ls1 := [some (.ref 67), some (.int x1), some (.int y2)]) (st1 := [.int 1]) (hp1 := (hz F A L)) rfl ?_
    subst T
    exact w_ri rfl (cvQ rfl rfl rfl K)
  | succ m ih =>
    intro B D F A L x1 y2 hm K
    generalize hT : (km_isLeast_2 (A 68) x1 (m + 1) y2) = T at K
    have hE : T = (if (km_has x1 y2) = 0 then (km_isLeast_2 (A 68) x1 m (y2 + 1)) else (if (km_isMore (A 68) (x1 &&& (((1 : Int32) <<< (y2 &&& 31)) ^^^ (-1)))) = 0 then (km_isLeast_2 (A 68) x1 m (y2 + 1)) else 0)) := hT.symm
    clear hT
    refine w_n 2 (pc1 := 5) (ls1 := [some (.ref 67), some (.int x1), some (.int y2)]) (st1 := [.int 12, .int y2]) (hp1 := (hz F A L)) rfl ?_
    refine w_ge (p3 := 8) rfl rfl (fun h => False.elim (by have h : 12 ≤ y2.toInt := h; omega)) (fun hb => ?_)
    refine w_n 2 (pc1 := 10) (ls1 := [some (.ref 67), some (.int x1), some (.int y2)]) (st1 := [.int y2, .int x1]) (hp1 := (hz F A L)) rfl ?_
    refine w_c rfl rfl (t_km_has ?_)
    show wl_E f _ _ mm231.2.2.2.2.2.2.2.2 13 [some (.ref 67), some (.int x1), some (.int y2)] [.int (km_has x1 y2)] (hz F A L) _
    generalize hG68 : (km_has x1 y2) = G68 at hE ⊢
    refine w_zeq (p3 := 16) rfl rfl (fun h => ?_) (fun h => ?_)
    · have h1 : G68 = 0 := h
      rw [if_pos h1] at hE
      refine w_n 2 (pc1 := 2) (ls1 := [some (.ref 67), some (.int x1), some (.int (y2 + 1))]) (st1 := []) (hp1 := (hz F A L)) rfl ?_
      subst T
      have hb2 := i_up (B := (12 : Int32)) hb
      have hb3 : y2.toInt < 12 := hb
      exact ih (show m = (12 - (y2 + 1).toInt).toNat by rw [hb2]; omega) (cvQ rfl rfl rfl K)
    · have h1 : ¬ G68 = 0 := h
      rw [if_neg h1] at hE
      refine w_n 8 (pc1 := 24) (ls1 := [some (.ref 67), some (.int x1), some (.int y2)]) (st1 := [.int (x1 &&& (((1 : Int32) <<< (y2 &&& 31)) ^^^ (-1))), .ref 67]) (hp1 := (hz F A L)) rfl ?_
      refine w_c rfl rfl (t_km_isMore ?_)
      show wl_E f _ _ mm231.2.2.2.2.2.2.2.2 27 [some (.ref 67), some (.int x1), some (.int y2)] [.int (km_isMore (A 68) (x1 &&& (((1 : Int32) <<< (y2 &&& 31)) ^^^ (-1))))] (hz F A L) _
      generalize hG69 : (km_isMore (A 68) (x1 &&& (((1 : Int32) <<< (y2 &&& 31)) ^^^ (-1)))) = G69 at hE ⊢
      refine w_zeq (p3 := 30) rfl rfl (fun h => ?_) (fun h => ?_)
      · have h2 : G69 = 0 := h
        rw [if_pos h2] at hE
        refine w_n 2 (pc1 := 2) (ls1 := [some (.ref 67), some (.int x1), some (.int (y2 + 1))]) (st1 := []) (hp1 := (hz F A L)) rfl ?_
        subst T
        have hb2 := i_up (B := (12 : Int32)) hb
        have hb3 : y2.toInt < 12 := hb
        exact ih (show m = (12 - (y2 + 1).toInt).toNat by rw [hb2]; omega) (cvQ rfl rfl rfl K)
      · have h2 : ¬ G69 = 0 := h
        rw [if_neg h2] at hE
        refine w_n 1 (pc1 := 31) (ls1 := [some (.ref 67), some (.int x1), some (.int y2)]) (st1 := [.int 0]) (hp1 := (hz F A L)) rfl ?_
        subst T
        exact w_ri rfl (cvQ rfl rfl rfl K)
noncomputable def km_isLeast (a68 : List Int32) (x1 : Int32) : Int32 := (km_isLeast_2 a68 x1 12 0)
theorem t_km_isLeast {f D : Nat} {F : Nat → Nat → Int32} {A : Nat → List Int32} {L : Nat → List Int64} {Q : Option Value → sm_H → Prop} {x1 : Int32} (K : Q (some (.int (km_isLeast (A 68) x1))) (hz F A L)) : wl_M f D 231 [.ref 67, .int x1] (hz F A L) Q := by
  generalize hT : (km_isLeast (A 68) x1) = T at K
  have hE : T = (km_isLeast_2 (A 68) x1 12 0) := hT.symm
  clear hT
  refine w_m (E := mm231) rfl ?_
  show wl_E f f (D - 1) mm231.2.2.2.2.2.2.2.2 0 [some (.ref 67), some (.int x1), none] [] (hz F A L) Q
  refine w_n 2 (pc1 := 2) (ls1 := [some (.ref 67), some (.int x1), some (.int 0)]) (st1 := []) (hp1 := (hz F A L)) rfl ?_
  subst T
  exact t_km_isLeast_2 _ (show (12 : Nat) = (12 - (0 : Int32).toInt).toNat by have e0 : (0 : Int32).toInt = 0 := rfl; first | rfl | omega) (cvQ rfl rfl rfl K)
noncomputable def km_power_37 (a68 : List Int32) (x1 : Int32) (x2 : Int32) : Nat → Int32 → Int32 → Int32
  | 0, y3, _ => y3
  | m + 1, y3, y4 => (if (y4 &&& ((a68.getD 144 0) ^^^ (-1))) = 0 then (if x2 = 0 then (if (km_has y4 x1) = 0 then (if (km_isMore a68 y4) = 0 then (if (km_isMore a68 (y4 ||| ((1 : Int32) <<< (x1 &&& 31)))) = 0 then (km_power_37 a68 x1 x2 m (y3 + 0) (y4 + 1)) else (km_power_37 a68 x1 x2 m (y3 + 1) (y4 + 1))) else (km_power_37 a68 x1 x2 m (y3 + 0) (y4 + 1))) else (km_power_37 a68 x1 x2 m (y3 + 0) (y4 + 1))) else (if (km_isMore a68 y4) = 0 then (km_power_37 a68 x1 x2 m (y3 + 0) (y4 + 1)) else (if x2 = 1 then (km_power_37 a68 x1 x2 m (y3 + 1) (y4 + 1)) else (if (km_isLeast a68 y4) = 0 then (km_power_37 a68 x1 x2 m (y3 + 0) (y4 + 1)) else (km_power_37 a68 x1 x2 m (y3 + 1) (y4 + 1)))))) else (km_power_37 a68 x1 x2 m y3 (y4 + 1)))
theorem t_km_power_37 {f : Nat} {Q : Option Value → sm_H → Prop} : ∀ (m : Nat) {B D : Nat} {F : Nat → Nat → Int32} {A : Nat → List Int32} {L : Nat → List Int64} {x1 : Int32} {x2 : Int32} {y3 : Int32} {y4 : Int32} {o5 : Option Value}, m = (((A 68).getD 144 0).toInt + 1 - y4.toInt).toNat → (_ : ((A 68).getD 144 0).toInt < 2147483647) → (∀ q4 : Int32, ∀ q5 : Option Value, wl_E f B D mm228.2.2.2.2.2.2.2.2 163 [some (.ref 67), some (.int x1), some (.int x2), some (.int (km_power_37 (A 68) x1 x2 m y3 y4)), some (.int q4), q5] [] (hz F A L) Q) → wl_E f B D mm228.2.2.2.2.2.2.2.2 37 [some (.ref 67), some (.int x1), some (.int x2), some (.int y3), some (.int y4), o5] [] (hz F A L) Q := by
  intro m
  induction m with
  | zero =>
    intro B D F A L x1 x2 y3 y4 o5 hm hh0 K
    generalize hT : (km_power_37 (A 68) x1 x2 0 y3 y4) = T at K
    have hE : T = y3 := hT.symm
    clear hT
    refine w_n 4 (pc1 := 46) (ls1 := [some (.ref 67), some (.int x1), some (.int x2), some (.int y3), some (.int y4), o5]) (st1 := [.int 144, .ref 68, .int y4]) (hp1 := (hz F A L)) rfl ?_
    refine w_al (k := 68) (l := (A 68)) rfl rfl rfl (fun _ => ?_)
    refine w_gt (p3 := 50) rfl rfl (fun hb => ?_) (fun h => False.elim (by have h : y4.toInt ≤ ((A 68).getD 144 0).toInt := h; omega))
    subst T
    exact cvE rfl rfl rfl (K _ _)
  | succ m ih =>
    intro B D F A L x1 x2 y3 y4 o5 hm hh0 K
    generalize hT : (km_power_37 (A 68) x1 x2 (m + 1) y3 y4) = T at K
    have hE : T = (if (y4 &&& (((A 68).getD 144 0) ^^^ (-1))) = 0 then (if x2 = 0 then (if (km_has y4 x1) = 0 then (if (km_isMore (A 68) y4) = 0 then (if (km_isMore (A 68) (y4 ||| ((1 : Int32) <<< (x1 &&& 31)))) = 0 then (km_power_37 (A 68) x1 x2 m (y3 + 0) (y4 + 1)) else (km_power_37 (A 68) x1 x2 m (y3 + 1) (y4 + 1))) else (km_power_37 (A 68) x1 x2 m (y3 + 0) (y4 + 1))) else (km_power_37 (A 68) x1 x2 m (y3 + 0) (y4 + 1))) else (if (km_isMore (A 68) y4) = 0 then (km_power_37 (A 68) x1 x2 m (y3 + 0) (y4 + 1)) else (if x2 = 1 then (km_power_37 (A 68) x1 x2 m (y3 + 1) (y4 + 1)) else (if (km_isLeast (A 68) y4) = 0 then (km_power_37 (A 68) x1 x2 m (y3 + 0) (y4 + 1)) else (km_power_37 (A 68) x1 x2 m (y3 + 1) (y4 + 1)))))) else (km_power_37 (A 68) x1 x2 m y3 (y4 + 1))) := hT.symm
    clear hT
    refine w_n 4 (pc1 := 46) (ls1 := [some (.ref 67), some (.int x1), some (.int x2), some (.int y3), some (.int y4), o5]) (st1 := [.int 144, .ref 68, .int y4]) (hp1 := (hz F A L)) rfl ?_
    refine w_al (k := 68) (l := (A 68)) rfl rfl rfl (fun _ => ?_)
    refine w_gt (p3 := 50) rfl rfl (fun h => False.elim (by have h : ((A 68).getD 144 0).toInt < y4.toInt := h; omega)) (fun hb => ?_)
    refine w_n 4 (pc1 := 59) (ls1 := [some (.ref 67), some (.int x1), some (.int x2), some (.int y3), some (.int y4), o5]) (st1 := [.int 144, .ref 68, .int y4]) (hp1 := (hz F A L)) rfl ?_
    refine w_al (k := 68) (l := (A 68)) rfl rfl rfl (fun _ => ?_)
    refine w_n 3 (pc1 := 63) (ls1 := [some (.ref 67), some (.int x1), some (.int x2), some (.int y3), some (.int y4), o5]) (st1 := [.int (y4 &&& (((A 68).getD 144 0) ^^^ (-1)))]) (hp1 := (hz F A L)) rfl ?_
    refine w_zeq (p3 := 66) rfl rfl (fun h => ?_) (fun h => ?_)
    · have h1 : (y4 &&& (((A 68).getD 144 0) ^^^ (-1))) = 0 := h
      rw [if_pos h1] at hE
      refine w_n 1 (pc1 := 70) (ls1 := [some (.ref 67), some (.int x1), some (.int x2), some (.int y3), some (.int y4), o5]) (st1 := [.int x2]) (hp1 := (hz F A L)) rfl ?_
      refine w_zne (p3 := 73) rfl rfl (fun h => ?_) (fun h => ?_)
      · have h2 : ¬ x2 = 0 := h
        rw [if_neg h2] at hE
        refine w_n 2 (pc1 := 117) (ls1 := [some (.ref 67), some (.int x1), some (.int x2), some (.int y3), some (.int y4), o5]) (st1 := [.int y4, .ref 67]) (hp1 := (hz F A L)) rfl ?_
        refine w_c rfl rfl (t_km_isMore ?_)
        show wl_E f _ _ mm228.2.2.2.2.2.2.2.2 120 [some (.ref 67), some (.int x1), some (.int x2), some (.int y3), some (.int y4), o5] [.int (km_isMore (A 68) y4)] (hz F A L) _
        generalize hG67 : (km_isMore (A 68) y4) = G67 at hE ⊢
        refine w_zeq (p3 := 123) rfl rfl (fun h => ?_) (fun h => ?_)
        · have h3 : G67 = 0 := h
          rw [if_pos h3] at hE
          refine w_n 4 (pc1 := 147) (ls1 := [some (.ref 67), some (.int x1), some (.int x2), some (.int y3), some (.int y4), some (.int 0)]) (st1 := [.int 0, .int y3]) (hp1 := (hz F A L)) rfl ?_
          refine w_zeq (p3 := 150) rfl rfl (fun _ => ?_) (fun h => absurd h (by decide))
          refine w_n 5 (pc1 := 37) (ls1 := [some (.ref 67), some (.int x1), some (.int x2), some (.int (y3 + 0)), some (.int (y4 + 1)), some (.int 0)]) (st1 := []) (hp1 := (hz F A L)) rfl ?_
          subst T
          have hb2 := i_up2 (B := ((A 68).getD 144 0)) hb (by first | decide | exact hB | assumption)
          have hb3 : y4.toInt ≤ ((A 68).getD 144 0).toInt := hb
          exact ih (show m = (((A 68).getD 144 0).toInt + 1 - (y4 + 1).toInt).toNat by rw [hb2]; omega) hh0 (fun q4 q5 => cvE rfl rfl rfl (K q4 q5))
        · have h3 : ¬ G67 = 0 := h
          rw [if_neg h3] at hE
          refine w_n 2 (pc1 := 125) (ls1 := [some (.ref 67), some (.int x1), some (.int x2), some (.int y3), some (.int y4), o5]) (st1 := [.int 1, .int x2]) (hp1 := (hz F A L)) rfl ?_
          refine w_eq (p3 := 128) rfl rfl (fun h => ?_) (fun h => ?_)
          · have h4 : x2 = 1 := h
            rw [if_pos h4] at hE
            refine w_n 5 (pc1 := 147) (ls1 := [some (.ref 67), some (.int x1), some (.int x2), some (.int y3), some (.int y4), some (.int 1)]) (st1 := [.int 1, .int y3]) (hp1 := (hz F A L)) rfl ?_
            refine w_zeq (p3 := 150) rfl rfl (fun h => absurd h (by decide)) (fun _ => ?_)
            refine w_n 6 (pc1 := 37) (ls1 := [some (.ref 67), some (.int x1), some (.int x2), some (.int (y3 + 1)), some (.int (y4 + 1)), some (.int 1)]) (st1 := []) (hp1 := (hz F A L)) rfl ?_
            subst T
            have hb2 := i_up2 (B := ((A 68).getD 144 0)) hb (by first | decide | exact hB | assumption)
            have hb3 : y4.toInt ≤ ((A 68).getD 144 0).toInt := hb
            exact ih (show m = (((A 68).getD 144 0).toInt + 1 - (y4 + 1).toInt).toNat by rw [hb2]; omega) hh0 (fun q4 q5 => cvE rfl rfl rfl (K q4 q5))
          · have h4 : ¬ x2 = 1 := h
            rw [if_neg h4] at hE
            refine w_n 2 (pc1 := 131) (ls1 := [some (.ref 67), some (.int x1), some (.int x2), some (.int y3), some (.int y4), o5]) (st1 := [.int y4, .ref 67]) (hp1 := (hz F A L)) rfl ?_
            refine w_c rfl rfl (t_km_isLeast ?_)
            show wl_E f _ _ mm228.2.2.2.2.2.2.2.2 134 [some (.ref 67), some (.int x1), some (.int x2), some (.int y3), some (.int y4), o5] [.int (km_isLeast (A 68) y4)] (hz F A L) _
            generalize hG70 : (km_isLeast (A 68) y4) = G70 at hE ⊢
            refine w_zeq (p3 := 137) rfl rfl (fun h => ?_) (fun h => ?_)
            · have h5 : G70 = 0 := h
              rw [if_pos h5] at hE
              refine w_n 4 (pc1 := 147) (ls1 := [some (.ref 67), some (.int x1), some (.int x2), some (.int y3), some (.int y4), some (.int 0)]) (st1 := [.int 0, .int y3]) (hp1 := (hz F A L)) rfl ?_
              refine w_zeq (p3 := 150) rfl rfl (fun _ => ?_) (fun h => absurd h (by decide))
              refine w_n 5 (pc1 := 37) (ls1 := [some (.ref 67), some (.int x1), some (.int x2), some (.int (y3 + 0)), some (.int (y4 + 1)), some (.int 0)]) (st1 := []) (hp1 := (hz F A L)) rfl ?_
              subst T
              have hb2 := i_up2 (B := ((A 68).getD 144 0)) hb (by first | decide | exact hB | assumption)
              have hb3 : y4.toInt ≤ ((A 68).getD 144 0).toInt := hb
              exact ih (show m = (((A 68).getD 144 0).toInt + 1 - (y4 + 1).toInt).toNat by rw [hb2]; omega) hh0 (fun q4 q5 => cvE rfl rfl rfl (K q4 q5))
            · have h5 : ¬ G70 = 0 := h
              rw [if_neg h5] at hE
              refine w_n 5 (pc1 := 147) (ls1 := [some (.ref 67), some (.int x1), some (.int x2), some (.int y3), some (.int y4), some (.int 1)]) (st1 := [.int 1, .int y3]) (hp1 := (hz F A L)) rfl ?_
              refine w_zeq (p3 := 150) rfl rfl (fun h => absurd h (by decide)) (fun _ => ?_)
              refine w_n 6 (pc1 := 37) (ls1 := [some (.ref 67), some (.int x1), some (.int x2), some (.int (y3 + 1)), some (.int (y4 + 1)), some (.int 1)]) (st1 := []) (hp1 := (hz F A L)) rfl ?_
              subst T
              have hb2 := i_up2 (B := ((A 68).getD 144 0)) hb (by first | decide | exact hB | assumption)
              have hb3 : y4.toInt ≤ ((A 68).getD 144 0).toInt := hb
              exact ih (show m = (((A 68).getD 144 0).toInt + 1 - (y4 + 1).toInt).toNat by rw [hb2]; omega) hh0 (fun q4 q5 => cvE rfl rfl rfl (K q4 q5))
      · have h2 : x2 = 0 := h
        rw [if_pos h2] at hE
        refine w_n 2 (pc1 := 76) (ls1 := [some (.ref 67), some (.int x1), some (.int x2), some (.int y3), some (.int y4), o5]) (st1 := [.int x1, .int y4]) (hp1 := (hz F A L)) rfl ?_
        refine w_c rfl rfl (t_km_has ?_)
        show wl_E f _ _ mm228.2.2.2.2.2.2.2.2 79 [some (.ref 67), some (.int x1), some (.int x2), some (.int y3), some (.int y4), o5] [.int (km_has y4 x1)] (hz F A L) _
        generalize hG71 : (km_has y4 x1) = G71 at hE ⊢
        refine w_zne (p3 := 82) rfl rfl (fun h => ?_) (fun h => ?_)
        · have h6 : ¬ G71 = 0 := h
          rw [if_neg h6] at hE
          refine w_n 5 (pc1 := 147) (ls1 := [some (.ref 67), some (.int x1), some (.int x2), some (.int y3), some (.int y4), some (.int 0)]) (st1 := [.int 0, .int y3]) (hp1 := (hz F A L)) rfl ?_
          refine w_zeq (p3 := 150) rfl rfl (fun _ => ?_) (fun h => absurd h (by decide))
          refine w_n 5 (pc1 := 37) (ls1 := [some (.ref 67), some (.int x1), some (.int x2), some (.int (y3 + 0)), some (.int (y4 + 1)), some (.int 0)]) (st1 := []) (hp1 := (hz F A L)) rfl ?_
          subst T
          have hb2 := i_up2 (B := ((A 68).getD 144 0)) hb (by first | decide | exact hB | assumption)
          have hb3 : y4.toInt ≤ ((A 68).getD 144 0).toInt := hb
          exact ih (show m = (((A 68).getD 144 0).toInt + 1 - (y4 + 1).toInt).toNat by rw [hb2]; omega) hh0 (fun q4 q5 => cvE rfl rfl rfl (K q4 q5))
        · have h6 : G71 = 0 := h
          rw [if_pos h6] at hE
          refine w_n 2 (pc1 := 85) (ls1 := [some (.ref 67), some (.int x1), some (.int x2), some (.int y3), some (.int y4), o5]) (st1 := [.int y4, .ref 67]) (hp1 := (hz F A L)) rfl ?_
          refine w_c rfl rfl (t_km_isMore ?_)
          show wl_E f _ _ mm228.2.2.2.2.2.2.2.2 88 [some (.ref 67), some (.int x1), some (.int x2), some (.int y3), some (.int y4), o5] [.int (km_isMore (A 68) y4)] (hz F A L) _
          generalize hG72 : (km_isMore (A 68) y4) = G72 at hE ⊢
          refine w_zne (p3 := 91) rfl rfl (fun h => ?_) (fun h => ?_)
          · have h7 : ¬ G72 = 0 := h
            rw [if_neg h7] at hE
            refine w_n 5 (pc1 := 147) (ls1 := [some (.ref 67), some (.int x1), some (.int x2), some (.int y3), some (.int y4), some (.int 0)]) (st1 := [.int 0, .int y3]) (hp1 := (hz F A L)) rfl ?_
            refine w_zeq (p3 := 150) rfl rfl (fun _ => ?_) (fun h => absurd h (by decide))
            refine w_n 5 (pc1 := 37) (ls1 := [some (.ref 67), some (.int x1), some (.int x2), some (.int (y3 + 0)), some (.int (y4 + 1)), some (.int 0)]) (st1 := []) (hp1 := (hz F A L)) rfl ?_
            subst T
            have hb2 := i_up2 (B := ((A 68).getD 144 0)) hb (by first | decide | exact hB | assumption)
            have hb3 : y4.toInt ≤ ((A 68).getD 144 0).toInt := hb
            exact ih (show m = (((A 68).getD 144 0).toInt + 1 - (y4 + 1).toInt).toNat by rw [hb2]; omega) hh0 (fun q4 q5 => cvE rfl rfl rfl (K q4 q5))
          · have h7 : G72 = 0 := h
            rw [if_pos h7] at hE
            refine w_n 6 (pc1 := 98) (ls1 := [some (.ref 67), some (.int x1), some (.int x2), some (.int y3), some (.int y4), o5]) (st1 := [.int (y4 ||| ((1 : Int32) <<< (x1 &&& 31))), .ref 67]) (hp1 := (hz F A L)) rfl ?_
            refine w_c rfl rfl (t_km_isMore ?_)
            show wl_E f _ _ mm228.2.2.2.2.2.2.2.2 101 [some (.ref 67), some (.int x1), some (.int x2), some (.int y3), some (.int y4), o5] [.int (km_isMore (A 68) (y4 ||| ((1 : Int32) <<< (x1 &&& 31))))] (hz F A L) _
            generalize hG73 : (km_isMore (A 68) (y4 ||| ((1 : Int32) <<< (x1 &&& 31)))) = G73 at hE ⊢
            refine w_zeq (p3 := 104) rfl rfl (fun h => ?_) (fun h => ?_)
            · have h8 : G73 = 0 := h
              rw [if_pos h8] at hE
              refine w_n 5 (pc1 := 147) (ls1 := [some (.ref 67), some (.int x1), some (.int x2), some (.int y3), some (.int y4), some (.int 0)]) (st1 := [.int 0, .int y3]) (hp1 := (hz F A L)) rfl ?_
              refine w_zeq (p3 := 150) rfl rfl (fun _ => ?_) (fun h => absurd h (by decide))
              refine w_n 5 (pc1 := 37) (ls1 := [some (.ref 67), some (.int x1), some (.int x2), some (.int (y3 + 0)), some (.int (y4 + 1)), some (.int 0)]) (st1 := []) (hp1 := (hz F A L)) rfl ?_
              subst T
              have hb2 := i_up2 (B := ((A 68).getD 144 0)) hb (by first | decide | exact hB | assumption)
              have hb3 : y4.toInt ≤ ((A 68).getD 144 0).toInt := hb
              exact ih (show m = (((A 68).getD 144 0).toInt + 1 - (y4 + 1).toInt).toNat by rw [hb2]; omega) hh0 (fun q4 q5 => cvE rfl rfl rfl (K q4 q5))
            · have h8 : ¬ G73 = 0 := h
              rw [if_neg h8] at hE
              refine w_n 6 (pc1 := 147) (ls1 := [some (.ref 67), some (.int x1), some (.int x2), some (.int y3), some (.int y4), some (.int 1)]) (st1 := [.int 1, .int y3]) (hp1 := (hz F A L)) rfl ?_
              refine w_zeq (p3 := 150) rfl rfl (fun h => absurd h (by decide)) (fun _ => ?_)
              refine w_n 6 (pc1 := 37) (ls1 := [some (.ref 67), some (.int x1), some (.int x2), some (.int (y3 + 1)), some (.int (y4 + 1)), some (.int 1)]) (st1 := []) (hp1 := (hz F A L)) rfl ?_
              subst T
              have hb2 := i_up2 (B := ((A 68).getD 144 0)) hb (by first | decide | exact hB | assumption)
              have hb3 : y4.toInt ≤ ((A 68).getD 144 0).toInt := hb
              exact ih (show m = (((A 68).getD 144 0).toInt + 1 - (y4 + 1).toInt).toNat by rw [hb2]; omega) hh0 (fun q4 q5 => cvE rfl rfl rfl (K q4 q5))
    · have h1 : ¬ (y4 &&& (((A 68).getD 144 0) ^^^ (-1))) = 0 := h
      rw [if_neg h1] at hE
      refine w_n 3 (pc1 := 37) (ls1 := [some (.ref 67), some (.int x1), some (.int x2), some (.int y3), some (.int (y4 + 1)), o5]) (st1 := []) (hp1 := (hz F A L)) rfl ?_
      subst T
      have hb2 := i_up2 (B := ((A 68).getD 144 0)) hb (by first | decide | exact hB | assumption)
      have hb3 : y4.toInt ≤ ((A 68).getD 144 0).toInt := hb
      exact ih (show m = (((A 68).getD 144 0).toInt + 1 - (y4 + 1).toInt).toNat by rw [hb2]; omega) hh0 (fun q4 q5 => cvE rfl rfl rfl (K q4 q5))
noncomputable def km_power (a68 : List Int32) (x1 : Int32) (x2 : Int32) : Int32 := (if x2 = 0 then (if (km_isGuest a68 x1) = 0 then (-1) else (km_power_37 a68 x1 x2 ((a68.getD 144 0).toInt + 1).toNat 0 0)) else (if x1 = (-1) then (if (km_in x2 1 2) = 0 then (-1) else (km_power_37 a68 x1 x2 ((a68.getD 144 0).toInt + 1).toNat 0 0)) else (-1)))
theorem t_km_power {f D : Nat} {F : Nat → Nat → Int32} {A : Nat → List Int32} {L : Nat → List Int64} {Q : Option Value → sm_H → Prop} {x1 : Int32} {x2 : Int32} (hh0 : ((A 68).getD 144 0).toInt < 2147483647) (K : Q (some (.int (km_power (A 68) x1 x2))) (hz F A L)) : wl_M f D 228 [.ref 67, .int x1, .int x2] (hz F A L) Q := by
  generalize hT : (km_power (A 68) x1 x2) = T at K
  have hE : T = (if x2 = 0 then (if (km_isGuest (A 68) x1) = 0 then (-1) else (km_power_37 (A 68) x1 x2 (((A 68).getD 144 0).toInt + 1).toNat 0 0)) else (if x1 = (-1) then (if (km_in x2 1 2) = 0 then (-1) else (km_power_37 (A 68) x1 x2 (((A 68).getD 144 0).toInt + 1).toNat 0 0)) else (-1))) := hT.symm
  clear hT
  refine w_m (E := mm228) rfl ?_
  show wl_E f f (D - 1) mm228.2.2.2.2.2.2.2.2 0 [some (.ref 67), some (.int x1), some (.int x2), none, none, none] [] (hz F A L) Q
  refine w_n 1 (pc1 := 1) (ls1 := [some (.ref 67), some (.int x1), some (.int x2), none, none, none]) (st1 := [.int x2]) (hp1 := (hz F A L)) rfl ?_
  refine w_zne (p3 := 4) rfl rfl (fun h => ?_) (fun h => ?_)
  · have h1 : ¬ x2 = 0 := h
    rw [if_neg h1] at hE
    refine w_n 1 (pc1 := 13) (ls1 := [some (.ref 67), some (.int x1), some (.int x2), none, none, none]) (st1 := [.int x2]) (hp1 := (hz F A L)) rfl ?_
    refine w_zeq (p3 := 16) rfl rfl (fun h => absurd h h1) (fun _ => ?_)
    refine w_n 2 (pc1 := 18) (ls1 := [some (.ref 67), some (.int x1), some (.int x2), none, none, none]) (st1 := [.int (-1), .int x1]) (hp1 := (hz F A L)) rfl ?_
    refine w_ne (p3 := 21) rfl rfl (fun h => ?_) (fun h => ?_)
    · have h2 : ¬ x1 = (-1) := h
      rw [if_neg h2] at hE
      refine w_n 1 (pc1 := 31) (ls1 := [some (.ref 67), some (.int x1), some (.int x2), none, none, none]) (st1 := [.int (-1)]) (hp1 := (hz F A L)) rfl ?_
      subst T
      exact w_ri rfl (cvQ rfl rfl rfl K)
    · have h2 : x1 = (-1) := h
      rw [if_pos h2] at hE
      refine w_n 3 (pc1 := 24) (ls1 := [some (.ref 67), some (.int x1), some (.int x2), none, none, none]) (st1 := [.int 2, .int 1, .int x2]) (hp1 := (hz F A L)) rfl ?_
      refine w_c rfl rfl (t_km_in ?_)
      show wl_E f _ _ mm228.2.2.2.2.2.2.2.2 27 [some (.ref 67), some (.int x1), some (.int x2), none, none, none] [.int (km_in x2 1 2)] (hz F A L) _
      generalize hG62 : (km_in x2 1 2) = G62 at hE ⊢
      refine w_zne (p3 := 30) rfl rfl (fun h => ?_) (fun h => ?_)
      · have h3 : ¬ G62 = 0 := h
        rw [if_neg h3] at hE
        refine w_n 4 (pc1 := 37) (ls1 := [some (.ref 67), some (.int x1), some (.int x2), some (.int 0), some (.int 0), none]) (st1 := []) (hp1 := (hz F A L)) rfl ?_
        refine t_km_power_37 ((((A 68).getD 144 0).toInt + 1).toNat) (show (((A 68).getD 144 0).toInt + 1).toNat = (((A 68).getD 144 0).toInt + 1 - (0 : Int32).toInt).toNat by have e0 : (0 : Int32).toInt = 0 := rfl; first | rfl | omega) hh0 ?_
        intro r1 r2
        show wl_E f _ _ mm228.2.2.2.2.2.2.2.2 163 [some (.ref 67), some (.int x1), some (.int x2), some (.int (km_power_37 (A 68) x1 x2 (((A 68).getD 144 0).toInt + 1).toNat 0 0)), some (.int r1), r2] [] (hz F A L) _
        generalize hG74 : (km_power_37 (A 68) x1 x2 (((A 68).getD 144 0).toInt + 1).toNat 0 0) = G74 at hE ⊢
        refine w_n 1 (pc1 := 164) (ls1 := [some (.ref 67), some (.int x1), some (.int x2), some (.int G74), some (.int r1), r2]) (st1 := [.int G74]) (hp1 := (hz F A L)) rfl ?_
        subst T
        exact w_ri rfl (cvQ rfl rfl rfl K)
      · have h3 : G62 = 0 := h
        rw [if_pos h3] at hE
        refine w_n 1 (pc1 := 31) (ls1 := [some (.ref 67), some (.int x1), some (.int x2), none, none, none]) (st1 := [.int (-1)]) (hp1 := (hz F A L)) rfl ?_
        subst T
        exact w_ri rfl (cvQ rfl rfl rfl K)
  · have h1 : x2 = 0 := h
    rw [if_pos h1] at hE
    refine w_n 2 (pc1 := 6) (ls1 := [some (.ref 67), some (.int x1), some (.int x2), none, none, none]) (st1 := [.int x1, .ref 67]) (hp1 := (hz F A L)) rfl ?_
    refine w_c rfl rfl (t_km_isGuest ?_)
    show wl_E f _ _ mm228.2.2.2.2.2.2.2.2 9 [some (.ref 67), some (.int x1), some (.int x2), none, none, none] [.int (km_isGuest (A 68) x1)] (hz F A L) _
    generalize hG75 : (km_isGuest (A 68) x1) = G75 at hE ⊢
    refine w_zeq (p3 := 12) rfl rfl (fun h => ?_) (fun h => ?_)
    · have h4 : G75 = 0 := h
      rw [if_pos h4] at hE
      refine w_n 1 (pc1 := 31) (ls1 := [some (.ref 67), some (.int x1), some (.int x2), none, none, none]) (st1 := [.int (-1)]) (hp1 := (hz F A L)) rfl ?_
      subst T
      exact w_ri rfl (cvQ rfl rfl rfl K)
    · have h4 : ¬ G75 = 0 := h
      rw [if_neg h4] at hE
      refine w_n 1 (pc1 := 13) (ls1 := [some (.ref 67), some (.int x1), some (.int x2), none, none, none]) (st1 := [.int x2]) (hp1 := (hz F A L)) rfl ?_
      refine w_zeq (p3 := 16) rfl rfl (fun _ => ?_) (fun h => absurd h1 h)
      refine w_n 4 (pc1 := 37) (ls1 := [some (.ref 67), some (.int x1), some (.int x2), some (.int 0), some (.int 0), none]) (st1 := []) (hp1 := (hz F A L)) rfl ?_
      refine t_km_power_37 ((((A 68).getD 144 0).toInt + 1).toNat) (show (((A 68).getD 144 0).toInt + 1).toNat = (((A 68).getD 144 0).toInt + 1 - (0 : Int32).toInt).toNat by have e0 : (0 : Int32).toInt = 0 := rfl; first | rfl | omega) hh0 ?_
      intro r3 r4
      show wl_E f _ _ mm228.2.2.2.2.2.2.2.2 163 [some (.ref 67), some (.int x1), some (.int x2), some (.int (km_power_37 (A 68) x1 x2 (((A 68).getD 144 0).toInt + 1).toNat 0 0)), some (.int r3), r4] [] (hz F A L) _
      generalize hG76 : (km_power_37 (A 68) x1 x2 (((A 68).getD 144 0).toInt + 1).toNat 0 0) = G76 at hE ⊢
      refine w_n 1 (pc1 := 164) (ls1 := [some (.ref 67), some (.int x1), some (.int x2), some (.int G76), some (.int r3), r4]) (st1 := [.int G76]) (hp1 := (hz F A L)) rfl ?_
      subst T
      exact w_ri rfl (cvQ rfl rfl rfl K)
noncomputable def km_copies_68_69_2 (a68 : List Int32)  : Nat → Int32 → List Int32 → List Int32
  | 0, _, a69 => a69
  | m + 1, y2, a69 => (km_copies_68_69_2 a68 m (y2 + 1) (a69.set y2.toInt.toNat (a68.getD y2.toInt.toNat 0)))
theorem t_km_copies_68_69_2 {f : Nat} {Q : Option Value → sm_H → Prop} : ∀ (m : Nat) {B D : Nat} {F : Nat → Nat → Int32} {A : Nat → List Int32} {L : Nat → List Int64} {y2 : Int32}, m = (150 - y2.toInt).toNat → (∀ q2 : Int32, wl_E f B D mm199.2.2.2.2.2.2.2.2 21 [some (.ref 68), some (.ref 69), some (.int q2)] [] (hz F (uA A 69 (km_copies_68_69_2 (A 68) m y2 (A 69))) L) Q) → wl_E f B D mm199.2.2.2.2.2.2.2.2 2 [some (.ref 68), some (.ref 69), some (.int y2)] [] (hz F A L) Q := by
  intro m
  induction m with
  | zero =>
    intro B D F A L y2 hm K
    generalize hT : (km_copies_68_69_2 (A 68) 0 y2 (A 69)) = T at K
    have hE : T = (A 69) := hT.symm
    clear hT
    refine w_n 2 (pc1 := 6) (ls1 := [some (.ref 68), some (.ref 69), some (.int y2)]) (st1 := [.int 150, .int y2]) (hp1 := (hz F A L)) rfl ?_
    refine w_ge (p3 := 9) rfl rfl (fun hb => ?_) (fun h => False.elim (by have h : y2.toInt < 150 := h; omega))
    subst T
    exact cvE rfl (funext fun q => if k0 : q = 69 then by subst k0; exact Eq.trans (b := (A 69)) rfl rfl else by unfold uA; simp only [nb1 k0, cond_false]) rfl (K _)
  | succ m ih =>
    intro B D F A L y2 hm K
    generalize hT : (km_copies_68_69_2 (A 68) (m + 1) y2 (A 69)) = T at K
    have hE : T = (km_copies_68_69_2 (A 68) m (y2 + 1) ((A 69).set y2.toInt.toNat ((A 68).getD y2.toInt.toNat 0))) := hT.symm
    clear hT
    refine w_n 2 (pc1 := 6) (ls1 := [some (.ref 68), some (.ref 69), some (.int y2)]) (st1 := [.int 150, .int y2]) (hp1 := (hz F A L)) rfl ?_
    refine w_ge (p3 := 9) rfl rfl (fun h => False.elim (by have h : 150 ≤ y2.toInt := h; omega)) (fun hb => ?_)
    refine w_n 4 (pc1 := 13) (ls1 := [some (.ref 68), some (.ref 69), some (.int y2)]) (st1 := [.int y2, .ref 68, .int y2, .ref 69]) (hp1 := (hz F A L)) rfl ?_
    refine w_al (k := 68) (l := (A 68)) rfl rfl rfl (fun ab => ?_)
    refine w_as (k := 69) (l := (A 69)) (hp1 := (hz F (uA A 69 ((A 69).set y2.toInt.toNat ((A 68).getD y2.toInt.toNat 0))) L)) rfl rfl rfl (hz_s69 _) (fun ab => ?_)
    refine w_n 2 (pc1 := 2) (ls1 := [some (.ref 68), some (.ref 69), some (.int (y2 + 1))]) (st1 := []) (hp1 := (hz F (uA A 69 ((A 69).set y2.toInt.toNat ((A 68).getD y2.toInt.toNat 0))) L)) rfl ?_
    subst T
    have hb2 := i_up (B := (150 : Int32)) hb
    have hb3 : y2.toInt < 150 := hb
    exact ih (show m = (150 - (y2 + 1).toInt).toNat by rw [hb2]; omega) (fun q2 => cvE rfl (funext fun q => if k0 : q = 69 then by subst k0; exact Eq.trans (b := (km_copies_68_69_2 (A 68) m (y2 + 1) ((A 69).set y2.toInt.toNat ((A 68).getD y2.toInt.toNat 0)))) rfl rfl else by unfold uA; simp only [nb1 k0, cond_false]) rfl (K q2))
noncomputable def km_copies_68_69 (a68 : List Int32) (a69 : List Int32) : List Int32 := (km_copies_68_69_2 a68 150 0 a69)
theorem t_km_copies_68_69 {f D : Nat} {F : Nat → Nat → Int32} {A : Nat → List Int32} {L : Nat → List Int64} {Q : Option Value → sm_H → Prop} (K : Q none (hz F (uA A 69 (km_copies_68_69 (A 68) (A 69))) L)) : wl_M f D 199 [.ref 68, .ref 69] (hz F A L) Q := by
  generalize hT : (km_copies_68_69 (A 68) (A 69)) = T at K
  have hE : T = (km_copies_68_69_2 (A 68) 150 0 (A 69)) := hT.symm
  clear hT
  refine w_m (E := mm199) rfl ?_
  show wl_E f f (D - 1) mm199.2.2.2.2.2.2.2.2 0 [some (.ref 68), some (.ref 69), none] [] (hz F A L) Q
  refine w_n 2 (pc1 := 2) (ls1 := [some (.ref 68), some (.ref 69), some (.int 0)]) (st1 := []) (hp1 := (hz F A L)) rfl ?_
  refine t_km_copies_68_69_2 150 (show (150 : Nat) = (150 - (0 : Int32).toInt).toNat by have e0 : (0 : Int32).toInt = 0 := rfl; first | rfl | omega) ?_
  intro r1
  show wl_E f _ _ mm199.2.2.2.2.2.2.2.2 21 [some (.ref 68), some (.ref 69), some (.int r1)] [] (hz F (uA A 69 (km_copies_68_69_2 (A 68) 150 0 (A 69))) L) _
  generalize hG79 : (km_copies_68_69_2 (A 68) 150 0 (A 69)) = G79 at hE ⊢
  subst T
  exact w_r rfl rfl (cvQ rfl rfl rfl K)
noncomputable def km_feelsOne_2   : Nat → Int32 → List Int32 → List Int32
  | 0, _, a84 => a84
  | m + 1, y2, a84 => (km_feelsOne_2 m (y2 + 1) (a84.set y2.toInt.toNat 0))
theorem t_km_feelsOne_2 {f : Nat} {Q : Option Value → sm_H → Prop} : ∀ (m : Nat) {B D : Nat} {F : Nat → Nat → Int32} {A : Nat → List Int32} {L : Nat → List Int64} {x1 : Int32} {y2 : Int32}, m = (8 - y2.toInt).toNat → (∀ q2 : Int32, wl_E f B D mm179.2.2.2.2.2.2.2.2 21 [some (.ref 67), some (.int x1), some (.int q2)] [] (hz F (uA A 84 (km_feelsOne_2 m y2 (A 84))) L) Q) → wl_E f B D mm179.2.2.2.2.2.2.2.2 2 [some (.ref 67), some (.int x1), some (.int y2)] [] (hz F A L) Q := by
  intro m
  induction m with
  | zero =>
    intro B D F A L x1 y2 hm K
    generalize hT : (km_feelsOne_2 0 y2 (A 84)) = T at K
    have hE : T = (A 84) := hT.symm
    clear hT
    refine w_n 2 (pc1 := 5) (ls1 := [some (.ref 67), some (.int x1), some (.int y2)]) (st1 := [.int 8, .int y2]) (hp1 := (hz F A L)) rfl ?_
    refine w_ge (p3 := 8) rfl rfl (fun hb => ?_) (fun h => False.elim (by have h : y2.toInt < 8 := h; omega))
    subst T
    exact cvE rfl (funext fun q => if k0 : q = 84 then by subst k0; exact Eq.trans (b := (A 84)) rfl rfl else by unfold uA; simp only [nb1 k0, cond_false]) rfl (K _)
  | succ m ih =>
    intro B D F A L x1 y2 hm K
    generalize hT : (km_feelsOne_2 (m + 1) y2 (A 84)) = T at K
    have hE : T = (km_feelsOne_2 m (y2 + 1) ((A 84).set y2.toInt.toNat 0)) := hT.symm
    clear hT
    refine w_n 2 (pc1 := 5) (ls1 := [some (.ref 67), some (.int x1), some (.int y2)]) (st1 := [.int 8, .int y2]) (hp1 := (hz F A L)) rfl ?_
    refine w_ge (p3 := 8) rfl rfl (fun h => False.elim (by have h : 8 ≤ y2.toInt := h; omega)) (fun hb => ?_)
    refine w_n 4 (pc1 := 14) (ls1 := [some (.ref 67), some (.int x1), some (.int y2)]) (st1 := [.int 0, .int y2, .ref 84]) (hp1 := (hz F A L)) rfl ?_
    refine w_as (k := 84) (l := (A 84)) (hp1 := (hz F (uA A 84 ((A 84).set y2.toInt.toNat 0)) L)) rfl rfl rfl (hz_s84 _) (fun ab => ?_)
    refine w_n 2 (pc1 := 2) (ls1 := [some (.ref 67), some (.int x1), some (.int (y2 + 1))]) (st1 := []) (hp1 := (hz F (uA A 84 ((A 84).set y2.toInt.toNat 0)) L)) rfl ?_
    subst T
    have hb2 := i_up (B := (8 : Int32)) hb
    have hb3 : y2.toInt < 8 := hb
    exact ih (show m = (8 - (y2 + 1).toInt).toNat by rw [hb2]; omega) (fun q2 => cvE rfl (funext fun q => if k0 : q = 84 then by subst k0; exact Eq.trans (b := (km_feelsOne_2 m (y2 + 1) ((A 84).set y2.toInt.toNat 0))) rfl rfl else by unfold uA; simp only [nb1 k0, cond_false]) rfl (K q2))
noncomputable def km_feelsOne (a68 : List Int32) (a84 : List Int32) (x1 : Int32) : List Int32 := ((((((km_feelsOne_2 8 0 a84).set 0 x1).set 4 (a68.getD (12 + x1).toInt.toNat 0)).set 5 (a68.getD (36 + x1).toInt.toNat 0)).set 6 (a68.getD (60 + x1).toInt.toNat 0)).set 7 (a68.getD 147 0))
theorem t_km_feelsOne {f D : Nat} {F : Nat → Nat → Int32} {A : Nat → List Int32} {L : Nat → List Int64} {Q : Option Value → sm_H → Prop} {x1 : Int32} (K : Q none (hz F (uA A 84 (km_feelsOne (A 68) (A 84) x1)) L)) : wl_M f D 179 [.ref 67, .int x1] (hz F A L) Q := by
  generalize hT : (km_feelsOne (A 68) (A 84) x1) = T at K
  have hE : T = ((((((km_feelsOne_2 8 0 (A 84)).set 0 x1).set 4 ((A 68).getD (12 + x1).toInt.toNat 0)).set 5 ((A 68).getD (36 + x1).toInt.toNat 0)).set 6 ((A 68).getD (60 + x1).toInt.toNat 0)).set 7 ((A 68).getD 147 0)) := hT.symm
  clear hT
  refine w_m (E := mm179) rfl ?_
  show wl_E f f (D - 1) mm179.2.2.2.2.2.2.2.2 0 [some (.ref 67), some (.int x1), none] [] (hz F A L) Q
  refine w_n 2 (pc1 := 2) (ls1 := [some (.ref 67), some (.int x1), some (.int 0)]) (st1 := []) (hp1 := (hz F A L)) rfl ?_
  refine t_km_feelsOne_2 8 (show (8 : Nat) = (8 - (0 : Int32).toInt).toNat by have e0 : (0 : Int32).toInt = 0 := rfl; first | rfl | omega) ?_
  intro r1
  show wl_E f _ _ mm179.2.2.2.2.2.2.2.2 21 [some (.ref 67), some (.int x1), some (.int r1)] [] (hz F (uA A 84 (km_feelsOne_2 8 0 (A 84))) L) _
  generalize hG81 : (km_feelsOne_2 8 0 (A 84)) = G81 at hE ⊢
  refine w_n 4 (pc1 := 27) (ls1 := [some (.ref 67), some (.int x1), some (.int r1)]) (st1 := [.int x1, .int 0, .ref 84]) (hp1 := (hz F (uA A 84 G81) L)) rfl ?_
  refine w_as (k := 84) (l := G81) (hp1 := (hz F (uA (uA A 84 G81) 84 (G81.set 0 x1)) L)) rfl rfl rfl (hz_s84 _) (fun _ => ?_)
  refine w_n 8 (pc1 := 41) (ls1 := [some (.ref 67), some (.int x1), some (.int r1)]) (st1 := [.int (12 + x1), .ref 68, .int 4, .ref 84]) (hp1 := (hz F (uA (uA A 84 G81) 84 (G81.set 0 x1)) L)) rfl ?_
  refine w_al (k := 68) (l := (A 68)) rfl rfl rfl (fun _ => ?_)
  refine w_as (k := 84) (l := (G81.set 0 x1)) (hp1 := (hz F (uA (uA (uA A 84 G81) 84 (G81.set 0 x1)) 84 ((G81.set 0 x1).set 4 ((A 68).getD (12 + x1).toInt.toNat 0))) L)) rfl rfl rfl (hz_s84 _) (fun _ => ?_)
  refine w_n 8 (pc1 := 56) (ls1 := [some (.ref 67), some (.int x1), some (.int r1)]) (st1 := [.int (36 + x1), .ref 68, .int 5, .ref 84]) (hp1 := (hz F (uA (uA (uA A 84 G81) 84 (G81.set 0 x1)) 84 ((G81.set 0 x1).set 4 ((A 68).getD (12 + x1).toInt.toNat 0))) L)) rfl ?_
  refine w_al (k := 68) (l := (A 68)) rfl rfl rfl (fun _ => ?_)
  refine w_as (k := 84) (l := ((G81.set 0 x1).set 4 ((A 68).getD (12 + x1).toInt.toNat 0))) (hp1 := (hz F (uA (uA (uA (uA A 84 G81) 84 (G81.set 0 x1)) 84 ((G81.set 0 x1).set 4 ((A 68).getD (12 + x1).toInt.toNat 0))) 84 (((G81.set 0 x1).set 4 ((A 68).getD (12 + x1).toInt.toNat 0)).set 5 ((A 68).getD (36 + x1).toInt.toNat 0))) L)) rfl rfl rfl (hz_s84 _) (fun _ => ?_)
  refine w_n 8 (pc1 := 72) (ls1 := [some (.ref 67), some (.int x1), some (.int r1)]) (st1 := [.int (60 + x1), .ref 68, .int 6, .ref 84]) (hp1 := (hz F (uA (uA (uA (uA A 84 G81) 84 (G81.set 0 x1)) 84 ((G81.set 0 x1).set 4 ((A 68).getD (12 + x1).toInt.toNat 0))) 84 (((G81.set 0 x1).set 4 ((A 68).getD (12 + x1).toInt.toNat 0)).set 5 ((A 68).getD (36 + x1).toInt.toNat 0))) L)) rfl ?_
  refine w_al (k := 68) (l := (A 68)) rfl rfl rfl (fun _ => ?_)
  refine w_as (k := 84) (l := (((G81.set 0 x1).set 4 ((A 68).getD (12 + x1).toInt.toNat 0)).set 5 ((A 68).getD (36 + x1).toInt.toNat 0))) (hp1 := (hz F (uA (uA (uA (uA (uA A 84 G81) 84 (G81.set 0 x1)) 84 ((G81.set 0 x1).set 4 ((A 68).getD (12 + x1).toInt.toNat 0))) 84 (((G81.set 0 x1).set 4 ((A 68).getD (12 + x1).toInt.toNat 0)).set 5 ((A 68).getD (36 + x1).toInt.toNat 0))) 84 ((((G81.set 0 x1).set 4 ((A 68).getD (12 + x1).toInt.toNat 0)).set 5 ((A 68).getD (36 + x1).toInt.toNat 0)).set 6 ((A 68).getD (60 + x1).toInt.toNat 0))) L)) rfl rfl rfl (hz_s84 _) (fun _ => ?_)
  refine w_n 6 (pc1 := 87) (ls1 := [some (.ref 67), some (.int x1), some (.int r1)]) (st1 := [.int 147, .ref 68, .int 7, .ref 84]) (hp1 := (hz F (uA (uA (uA (uA (uA A 84 G81) 84 (G81.set 0 x1)) 84 ((G81.set 0 x1).set 4 ((A 68).getD (12 + x1).toInt.toNat 0))) 84 (((G81.set 0 x1).set 4 ((A 68).getD (12 + x1).toInt.toNat 0)).set 5 ((A 68).getD (36 + x1).toInt.toNat 0))) 84 ((((G81.set 0 x1).set 4 ((A 68).getD (12 + x1).toInt.toNat 0)).set 5 ((A 68).getD (36 + x1).toInt.toNat 0)).set 6 ((A 68).getD (60 + x1).toInt.toNat 0))) L)) rfl ?_
  refine w_al (k := 68) (l := (A 68)) rfl rfl rfl (fun _ => ?_)
  refine w_as (k := 84) (l := ((((G81.set 0 x1).set 4 ((A 68).getD (12 + x1).toInt.toNat 0)).set 5 ((A 68).getD (36 + x1).toInt.toNat 0)).set 6 ((A 68).getD (60 + x1).toInt.toNat 0))) (hp1 := (hz F (uA (uA (uA (uA (uA (uA A 84 G81) 84 (G81.set 0 x1)) 84 ((G81.set 0 x1).set 4 ((A 68).getD (12 + x1).toInt.toNat 0))) 84 (((G81.set 0 x1).set 4 ((A 68).getD (12 + x1).toInt.toNat 0)).set 5 ((A 68).getD (36 + x1).toInt.toNat 0))) 84 ((((G81.set 0 x1).set 4 ((A 68).getD (12 + x1).toInt.toNat 0)).set 5 ((A 68).getD (36 + x1).toInt.toNat 0)).set 6 ((A 68).getD (60 + x1).toInt.toNat 0))) 84 (((((G81.set 0 x1).set 4 ((A 68).getD (12 + x1).toInt.toNat 0)).set 5 ((A 68).getD (36 + x1).toInt.toNat 0)).set 6 ((A 68).getD (60 + x1).toInt.toNat 0)).set 7 ((A 68).getD 147 0))) L)) rfl rfl rfl (hz_s84 _) (fun _ => ?_)
  subst T
  exact w_r rfl rfl (cvQ rfl (funext fun q => if k0 : q = 84 then by subst k0; exact Eq.trans (b := (((((G81.set 0 x1).set 4 ((A 68).getD (12 + x1).toInt.toNat 0)).set 5 ((A 68).getD (36 + x1).toInt.toNat 0)).set 6 ((A 68).getD (60 + x1).toInt.toNat 0)).set 7 ((A 68).getD 147 0))) rfl rfl else by unfold uA; simp only [nb1 k0, cond_false]) rfl K)
noncomputable def km_reckon (x0 : Int32) (x1 : Int32) (x2 : Int32) : Int32 := (if x0 = 2 then (x1 + x2) else (if x0 = 3 then (x1 - x2) else (if x0 = 4 then (x1 * x2) else (if x0 = 5 then (x1 / x2) else (if x0 = 6 then (x1 - x1 / x2 * x2) else (if x0 = 7 then (if x1.toInt < x2.toInt then 1 else 0) else (if x0 = 8 then (if x2.toInt < x1.toInt then 1 else 0) else (if x1 = x2 then 1 else 0))))))))
theorem t_km_reckon {f D : Nat} {F : Nat → Nat → Int32} {A : Nat → List Int32} {L : Nat → List Int64} {Q : Option Value → sm_H → Prop} {x0 : Int32} {x1 : Int32} {x2 : Int32} (K : Q (some (.int (km_reckon x0 x1 x2))) (hz F A L)) : wl_M f D 182 [.int x0, .int x1, .int x2] (hz F A L) Q := by
  generalize hT : (km_reckon x0 x1 x2) = T at K
  have hE : T = (if x0 = 2 then (x1 + x2) else (if x0 = 3 then (x1 - x2) else (if x0 = 4 then (x1 * x2) else (if x0 = 5 then (x1 / x2) else (if x0 = 6 then (x1 - x1 / x2 * x2) else (if x0 = 7 then (if x1.toInt < x2.toInt then 1 else 0) else (if x0 = 8 then (if x2.toInt < x1.toInt then 1 else 0) else (if x1 = x2 then 1 else 0)))))))) := hT.symm
  clear hT
  refine w_m (E := mm182) rfl ?_
  show wl_E f f (D - 1) mm182.2.2.2.2.2.2.2.2 0 [some (.int x0), some (.int x1), some (.int x2)] [] (hz F A L) Q
  refine w_n 1 (pc1 := 1) (ls1 := [some (.int x0), some (.int x1), some (.int x2)]) (st1 := [.int x0]) (hp1 := (hz F A L)) rfl ?_
  by_cases h : x0 = 2
  · have h1 : x0 = 2 := h
    rw [if_pos h1] at hE
    refine w_k h1 ?_
    refine w_n 1 (pc1 := 44) (ls1 := [some (.int x0), some (.int x1), some (.int x2)]) (st1 := []) (hp1 := (hz F A L)) rfl ?_
    refine w_n 3 (pc1 := 47) (ls1 := [some (.int x0), some (.int x1), some (.int x2)]) (st1 := [.int (x1 + x2)]) (hp1 := (hz F A L)) rfl ?_
    subst T
    exact w_ri rfl (cvQ rfl rfl rfl K)
  · have h1 : ¬ x0 = 2 := h
    rw [if_neg h1] at hE
    by_cases h : x0 = 3
    · have h2 : x0 = 3 := h
      rw [if_pos h2] at hE
      refine w_k h2 ?_
      refine w_n 1 (pc1 := 48) (ls1 := [some (.int x0), some (.int x1), some (.int x2)]) (st1 := []) (hp1 := (hz F A L)) rfl ?_
      refine w_n 3 (pc1 := 51) (ls1 := [some (.int x0), some (.int x1), some (.int x2)]) (st1 := [.int (x1 - x2)]) (hp1 := (hz F A L)) rfl ?_
      subst T
      exact w_ri rfl (cvQ rfl rfl rfl K)
    · have h2 : ¬ x0 = 3 := h
      rw [if_neg h2] at hE
      by_cases h : x0 = 4
      · have h3 : x0 = 4 := h
        rw [if_pos h3] at hE
        refine w_k h3 ?_
        refine w_n 1 (pc1 := 52) (ls1 := [some (.int x0), some (.int x1), some (.int x2)]) (st1 := []) (hp1 := (hz F A L)) rfl ?_
        refine w_n 3 (pc1 := 55) (ls1 := [some (.int x0), some (.int x1), some (.int x2)]) (st1 := [.int (x1 * x2)]) (hp1 := (hz F A L)) rfl ?_
        subst T
        exact w_ri rfl (cvQ rfl rfl rfl K)
      · have h3 : ¬ x0 = 4 := h
        rw [if_neg h3] at hE
        by_cases h : x0 = 5
        · have h4 : x0 = 5 := h
          rw [if_pos h4] at hE
          refine w_k h4 ?_
          refine w_n 1 (pc1 := 56) (ls1 := [some (.int x0), some (.int x1), some (.int x2)]) (st1 := []) (hp1 := (hz F A L)) rfl ?_
          refine w_n 2 (pc1 := 58) (ls1 := [some (.int x0), some (.int x1), some (.int x2)]) (st1 := [.int x2, .int x1]) (hp1 := (hz F A L)) rfl ?_
          refine w_dv rfl rfl (fun _ => ?_)
          subst T
          exact w_ri rfl (cvQ rfl rfl rfl K)
        · have h4 : ¬ x0 = 5 := h
          rw [if_neg h4] at hE
          by_cases h : x0 = 6
          · have h5 : x0 = 6 := h
            rw [if_pos h5] at hE
            refine w_k h5 ?_
            refine w_n 1 (pc1 := 60) (ls1 := [some (.int x0), some (.int x1), some (.int x2)]) (st1 := []) (hp1 := (hz F A L)) rfl ?_
            refine w_n 2 (pc1 := 62) (ls1 := [some (.int x0), some (.int x1), some (.int x2)]) (st1 := [.int x2, .int x1]) (hp1 := (hz F A L)) rfl ?_
            refine w_rm rfl rfl (fun _ => ?_)
            subst T
            exact w_ri rfl (cvQ rfl rfl rfl K)
          · have h5 : ¬ x0 = 6 := h
            rw [if_neg h5] at hE
            by_cases h : x0 = 7
            · have h6 : x0 = 7 := h
              rw [if_pos h6] at hE
              refine w_k h6 ?_
              refine w_n 1 (pc1 := 64) (ls1 := [some (.int x0), some (.int x1), some (.int x2)]) (st1 := []) (hp1 := (hz F A L)) rfl ?_
              refine w_n 2 (pc1 := 66) (ls1 := [some (.int x0), some (.int x1), some (.int x2)]) (st1 := [.int x2, .int x1]) (hp1 := (hz F A L)) rfl ?_
              refine w_ge (p3 := 69) rfl rfl (fun h => ?_) (fun h => ?_)
              · have h7 : x2.toInt ≤ x1.toInt := h
                rw [if_neg (Int.not_lt.mpr h7)] at hE
                refine w_n 1 (pc1 := 74) (ls1 := [some (.int x0), some (.int x1), some (.int x2)]) (st1 := [.int 0]) (hp1 := (hz F A L)) rfl ?_
                subst T
                exact w_ri rfl (cvQ rfl rfl rfl K)
              · have h7 : x1.toInt < x2.toInt := h
                rw [if_pos h7] at hE
                refine w_n 2 (pc1 := 74) (ls1 := [some (.int x0), some (.int x1), some (.int x2)]) (st1 := [.int 1]) (hp1 := (hz F A L)) rfl ?_
                subst T
                exact w_ri rfl (cvQ rfl rfl rfl K)
            · have h6 : ¬ x0 = 7 := h
              rw [if_neg h6] at hE
              by_cases h : x0 = 8
              · have h8 : x0 = 8 := h
                rw [if_pos h8] at hE
                refine w_k h8 ?_
                refine w_n 1 (pc1 := 75) (ls1 := [some (.int x0), some (.int x1), some (.int x2)]) (st1 := []) (hp1 := (hz F A L)) rfl ?_
                refine w_n 2 (pc1 := 77) (ls1 := [some (.int x0), some (.int x1), some (.int x2)]) (st1 := [.int x2, .int x1]) (hp1 := (hz F A L)) rfl ?_
                refine w_le (p3 := 80) rfl rfl (fun h => ?_) (fun h => ?_)
                · have h9 : x1.toInt ≤ x2.toInt := h
                  rw [if_neg (Int.not_lt.mpr h9)] at hE
                  refine w_n 1 (pc1 := 85) (ls1 := [some (.int x0), some (.int x1), some (.int x2)]) (st1 := [.int 0]) (hp1 := (hz F A L)) rfl ?_
                  subst T
                  exact w_ri rfl (cvQ rfl rfl rfl K)
                · have h9 : x2.toInt < x1.toInt := h
                  rw [if_pos h9] at hE
                  refine w_n 2 (pc1 := 85) (ls1 := [some (.int x0), some (.int x1), some (.int x2)]) (st1 := [.int 1]) (hp1 := (hz F A L)) rfl ?_
                  subst T
                  exact w_ri rfl (cvQ rfl rfl rfl K)
              · have h8 : ¬ x0 = 8 := h
                rw [if_neg h8] at hE
                have n0 : ¬ x0.toInt = 2 := fun z => h1 (Int32.toInt_inj.mp (show _ = (2 : Int32).toInt from z))
                have n1 : ¬ x0.toInt = 3 := fun z => h2 (Int32.toInt_inj.mp (show _ = (3 : Int32).toInt from z))
                have n2 : ¬ x0.toInt = 4 := fun z => h3 (Int32.toInt_inj.mp (show _ = (4 : Int32).toInt from z))
                have n3 : ¬ x0.toInt = 5 := fun z => h4 (Int32.toInt_inj.mp (show _ = (5 : Int32).toInt from z))
                have n4 : ¬ x0.toInt = 6 := fun z => h5 (Int32.toInt_inj.mp (show _ = (6 : Int32).toInt from z))
                have n5 : ¬ x0.toInt = 7 := fun z => h6 (Int32.toInt_inj.mp (show _ = (7 : Int32).toInt from z))
                have n6 : ¬ x0.toInt = 8 := fun z => h8 (Int32.toInt_inj.mp (show _ = (8 : Int32).toInt from z))
                refine w_tsw rfl (by omega) (p1 := 86) (by decide) (by decide) ?_
                refine w_n 2 (pc1 := 88) (ls1 := [some (.int x0), some (.int x1), some (.int x2)]) (st1 := [.int x2, .int x1]) (hp1 := (hz F A L)) rfl ?_
                refine w_ne (p3 := 91) rfl rfl (fun h => ?_) (fun h => ?_)
                · have h10 : ¬ x1 = x2 := h
                  rw [if_neg h10] at hE
                  refine w_n 1 (pc1 := 96) (ls1 := [some (.int x0), some (.int x1), some (.int x2)]) (st1 := [.int 0]) (hp1 := (hz F A L)) rfl ?_
                  subst T
                  exact w_ri rfl (cvQ rfl rfl rfl K)
                · have h10 : x1 = x2 := h
                  rw [if_pos h10] at hE
                  refine w_n 2 (pc1 := 96) (ls1 := [some (.int x0), some (.int x1), some (.int x2)]) (st1 := [.int 1]) (hp1 := (hz F A L)) rfl ?_
                  subst T
                  exact w_ri rfl (cvQ rfl rfl rfl K)
