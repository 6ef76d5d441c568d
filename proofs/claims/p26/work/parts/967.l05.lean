/-! lifts, printed by genlift.py: 5 -/
noncomputable def kt_favourite (f3_0 : Int32) (l11 : List Int64) (x1 : Int32) (x2 : Int32) : Int32 := (kt_favourite_2 l11 x1 x2 f3_0.toInt.toNat 0)
theorem t_kt_favourite {f D : Nat} {F : Nat → Nat → Int32} {A : Nat → List Int32} {L : Nat → List Int64} {Q : Option Value → sm_H → Prop} {x1 : Int32} {x2 : Int32} (K : Q (some (.int (kt_favourite (F 3 0) (L 11) x1 x2))) (hz F A L)) : wl_M f D 60 [.ref 3, .int x1, .int x2] (hz F A L) Q := by
  generalize hT : (kt_favourite (F 3 0) (L 11) x1 x2) = T at K
  have hE : T = (kt_favourite_2 (L 11) x1 x2 (F 3 0).toInt.toNat 0) := hT.symm
  clear hT
  refine w_m (E := mm60) rfl ?_
  show wl_E f f (D - 1) mm60.2.2.2.2.2.2.2.2 0 [some (.ref 3), some (.int x1), some (.int x2), none] [] (hz F A L) Q
  refine w_n 2 (pc1 := 2) (ls1 := [some (.ref 3), some (.int x1), some (.int x2), some (.int 0)]) (st1 := []) (hp1 := (hz F A L)) rfl ?_
  subst T
  exact t_kt_favourite_2 _ (show (F 3 0).toInt.toNat = ((F 3 0).toInt - (0 : Int32).toInt).toNat by have e0 : (0 : Int32).toInt = 0 := rfl; first | rfl | omega) (cvQ rfl rfl rfl K)
noncomputable def kv_tallyFirsts_34 (f3_0 : Int32) (f3_1 : Int32) (a6 : List Int32) (l11 : List Int64) (x1 : Int32) (x2 : Int32) (x3 : Int32) : Nat → Int32 → List Int32 → List Int32
  | 0, _, a35 => a35
  | m + 1, y4, a35 => (if y4 = x2 then (kv_tallyFirsts_34 f3_0 f3_1 a6 l11 x1 x2 x3 m (y4 + 1) a35) else (if (kt_isTold f3_1 y4) = 0 then (kv_tallyFirsts_34 f3_0 f3_1 a6 l11 x1 x2 x3 m (y4 + 1) a35) else (if (kt_favourite f3_0 l11 y4 x1) = (-1) then (kv_tallyFirsts_34 f3_0 f3_1 a6 l11 x1 x2 x3 m (y4 + 1) a35) else (kv_tallyFirsts_34 f3_0 f3_1 a6 l11 x1 x2 x3 m (y4 + 1) (a35.set (x3 + (kt_favourite f3_0 l11 y4 x1)).toInt.toNat ((a35.getD (x3 + (kt_favourite f3_0 l11 y4 x1)).toInt.toNat 0) + (a6.getD y4.toInt.toNat 0)))))))
theorem t_kv_tallyFirsts_34 {f : Nat} {Q : Option Value → sm_H → Prop} : ∀ (m : Nat) {B D : Nat} {F : Nat → Nat → Int32} {A : Nat → List Int32} {L : Nat → List Int64} {x1 : Int32} {x2 : Int32} {x3 : Int32} {y4 : Int32} {o5 : Option Value}, m = (12 - y4.toInt).toNat → (∀ q4 : Int32, ∀ q5 : Option Value, wl_E f B D mm78.2.2.2.2.2.2.2.2 108 [some (.ref 30), some (.int x1), some (.int x2), some (.int x3), some (.int q4), q5] [] (hz F (uA A 35 (kv_tallyFirsts_34 (F 3 0) (F 3 1) (A 6) (L 11) x1 x2 x3 m y4 (A 35))) L) Q) → wl_E f B D mm78.2.2.2.2.2.2.2.2 34 [some (.ref 30), some (.int x1), some (.int x2), some (.int x3), some (.int y4), o5] [] (hz F A L) Q := by
  intro m
  induction m with
  | zero =>
    intro B D F A L x1 x2 x3 y4 o5 hm K
    generalize hT : (kv_tallyFirsts_34 (F 3 0) (F 3 1) (A 6) (L 11) x1 x2 x3 0 y4 (A 35)) = T at K
    have hE : T = (A 35) := hT.symm
    clear hT
    refine w_n 2 (pc1 := 38) (ls1 := [some (.ref 30), some (.int x1), some (.int x2), some (.int x3), some (.int y4), o5]) (st1 := [.int 12, .int y4]) (hp1 := (hz F A L)) rfl ?_
    refine w_ge (p3 := 41) rfl rfl (fun hb => ?_) (fun h => False.elim (by have h : y4.toInt < 12 := h; omega))
    subst T
    exact cvE rfl (funext fun q => if k0 : q = 35 then by subst k0; exact Eq.trans (b := (A 35)) rfl rfl else by unfold uA; simp only [nb1 k0, cond_false]) rfl (K _ _)
  | succ m ih =>
    intro B D F A L x1 x2 x3 y4 o5 hm K
    generalize hT : (kv_tallyFirsts_34 (F 3 0) (F 3 1) (A 6) (L 11) x1 x2 x3 (m + 1) y4 (A 35)) = T at K
    have hE : T = (if y4 = x2 then (kv_tallyFirsts_34 (F 3 0) (F 3 1) (A 6) (L 11) x1 x2 x3 m (y4 + 1) (A 35)) else (if (kt_isTold (F 3 1) y4) = 0 then (kv_tallyFirsts_34 (F 3 0) (F 3 1) (A 6) (L 11) x1 x2 x3 m (y4 + 1) (A 35)) else (if (kt_favourite (F 3 0) (L 11) y4 x1) = (-1) then (kv_tallyFirsts_34 (F 3 0) (F 3 1) (A 6) (L 11) x1 x2 x3 m (y4 + 1) (A 35)) else (kv_tallyFirsts_34 (F 3 0) (F 3 1) (A 6) (L 11) x1 x2 x3 m (y4 + 1) ((A 35).set (x3 + (kt_favourite (F 3 0) (L 11) y4 x1)).toInt.toNat (((A 35).getD (x3 + (kt_favourite (F 3 0) (L 11) y4 x1)).toInt.toNat 0) + ((A 6).getD y4.toInt.toNat 0))))))) := hT.symm
    clear hT
    refine w_n 2 (pc1 := 38) (ls1 := [some (.ref 30), some (.int x1), some (.int x2), some (.int x3), some (.int y4), o5]) (st1 := [.int 12, .int y4]) (hp1 := (hz F A L)) rfl ?_
    refine w_ge (p3 := 41) rfl rfl (fun h => False.elim (by have h : 12 ≤ y4.toInt := h; omega)) (fun hb => ?_)
    refine w_n 2 (pc1 := 44) (ls1 := [some (.ref 30), some (.int x1), some (.int x2), some (.int x3), some (.int y4), o5]) (st1 := [.int x2, .int y4]) (hp1 := (hz F A L)) rfl ?_
    refine w_eq (p3 := 47) rfl rfl (fun h => ?_) (fun h => ?_)
    · have h1 : y4 = x2 := h
      rw [if_pos h1] at hE
      refine w_n 2 (pc1 := 34) (ls1 := [some (.ref 30), some (.int x1), some (.int x2), some (.int x3), some (.int (y4 + 1)), o5]) (st1 := []) (hp1 := (hz F A L)) rfl ?_
      subst T
      have hb2 := i_up (B := (12 : Int32)) hb
      have hb3 : y4.toInt < 12 := hb
      exact ih (show m = (12 - (y4 + 1).toInt).toNat by rw [hb2]; omega) (fun q4 q5 => cvE rfl (funext fun q => if k0 : q = 35 then by subst k0; exact Eq.trans (b := (kv_tallyFirsts_34 (F 3 0) (F 3 1) (A 6) (L 11) x1 x2 x3 m (y4 + 1) (A 35))) rfl rfl else by unfold uA; simp only [nb1 k0, cond_false]) rfl (K q4 q5))
    · have h1 : ¬ y4 = x2 := h
      rw [if_neg h1] at hE
      refine w_n 3 (pc1 := 53) (ls1 := [some (.ref 30), some (.int x1), some (.int x2), some (.int x3), some (.int y4), o5]) (st1 := [.int y4, .ref 3]) (hp1 := (hz F A L)) rfl ?_
      refine w_c rfl rfl (t_kt_isTold ?_)
      show wl_E f _ _ mm78.2.2.2.2.2.2.2.2 56 [some (.ref 30), some (.int x1), some (.int x2), some (.int x3), some (.int y4), o5] [.int (kt_isTold (F 3 1) y4)] (hz F A L) _
      generalize hG141 : (kt_isTold (F 3 1) y4) = G141 at hE ⊢
      refine w_zne (p3 := 59) rfl rfl (fun h => ?_) (fun h => ?_)
      · have h2 : ¬ G141 = 0 := h
        rw [if_neg h2] at hE
        refine w_n 4 (pc1 := 69) (ls1 := [some (.ref 30), some (.int x1), some (.int x2), some (.int x3), some (.int y4), o5]) (st1 := [.int x1, .int y4, .ref 3]) (hp1 := (hz F A L)) rfl ?_
        refine w_c rfl rfl (t_kt_favourite ?_)
        show wl_E f _ _ mm78.2.2.2.2.2.2.2.2 72 [some (.ref 30), some (.int x1), some (.int x2), some (.int x3), some (.int y4), o5] [.int (kt_favourite (F 3 0) (L 11) y4 x1)] (hz F A L) _
        generalize hG143 : (kt_favourite (F 3 0) (L 11) y4 x1) = G143 at hE ⊢
        refine w_n 3 (pc1 := 77) (ls1 := [some (.ref 30), some (.int x1), some (.int x2), some (.int x3), some (.int y4), some (.int G143)]) (st1 := [.int (-1), .int G143]) (hp1 := (hz F A L)) rfl ?_
        refine w_eq (p3 := 80) rfl rfl (fun h => ?_) (fun h => ?_)
        · have h3 : G143 = (-1) := h
          rw [if_pos h3] at hE
          refine w_n 2 (pc1 := 34) (ls1 := [some (.ref 30), some (.int x1), some (.int x2), some (.int x3), some (.int (y4 + 1)), some (.int G143)]) (st1 := []) (hp1 := (hz F A L)) rfl ?_
          subst T
          have hb2 := i_up (B := (12 : Int32)) hb
          have hb3 : y4.toInt < 12 := hb
          exact ih (show m = (12 - (y4 + 1).toInt).toNat by rw [hb2]; omega) (fun q4 q5 => cvE rfl (funext fun q => if k0 : q = 35 then by subst k0; exact Eq.trans (b := (kv_tallyFirsts_34 (F 3 0) (F 3 1) (A 6) (L 11) x1 x2 x3 m (y4 + 1) (A 35))) rfl rfl else by unfold uA; simp only [nb1 k0, cond_false]) rfl (K q4 q5))
        · have h3 : ¬ G143 = (-1) := h
          rw [if_neg h3] at hE
          refine w_n 6 (pc1 := 89) (ls1 := [some (.ref 30), some (.int x1), some (.int x2), some (.int x3), some (.int y4), some (.int G143)]) (st1 := [.int (x3 + G143), .ref 35, .int (x3 + G143), .ref 35]) (hp1 := (hz F A L)) rfl ?_
          refine w_al (k := 35) (l := (A 35)) rfl rfl rfl (fun _ => ?_)
          refine w_n 4 (pc1 := 99) (ls1 := [some (.ref 30), some (.int x1), some (.int x2), some (.int x3), some (.int y4), some (.int G143)]) (st1 := [.int y4, .ref 6, .int ((A 35).getD (x3 + G143).toInt.toNat 0), .int (x3 + G143), .ref 35]) (hp1 := (hz F A L)) rfl ?_
          refine w_al (k := 6) (l := (A 6)) rfl rfl rfl (fun ab => ?_)
          refine w_n 1 (pc1 := 101) (ls1 := [some (.ref 30), some (.int x1), some (.int x2), some (.int x3), some (.int y4), some (.int G143)]) (st1 := [.int (((A 35).getD (x3 + G143).toInt.toNat 0) + ((A 6).getD y4.toInt.toNat 0)), .int (x3 + G143), .ref 35]) (hp1 := (hz F A L)) rfl ?_
          refine w_as (k := 35) (l := (A 35)) (hp1 := (hz F (uA A 35 ((A 35).set (x3 + G143).toInt.toNat (((A 35).getD (x3 + G143).toInt.toNat 0) + ((A 6).getD y4.toInt.toNat 0)))) L)) rfl rfl rfl (hz_s35 _) (fun _ => ?_)
          refine w_n 2 (pc1 := 34) (ls1 := [some (.ref 30), some (.int x1), some (.int x2), some (.int x3), some (.int (y4 + 1)), some (.int G143)]) (st1 := []) (hp1 := (hz F (uA A 35 ((A 35).set (x3 + G143).toInt.toNat (((A 35).getD (x3 + G143).toInt.toNat 0) + ((A 6).getD y4.toInt.toNat 0)))) L)) rfl ?_
          subst T
          have hb2 := i_up (B := (12 : Int32)) hb
          have hb3 : y4.toInt < 12 := hb
          exact ih (show m = (12 - (y4 + 1).toInt).toNat by rw [hb2]; omega) (fun q4 q5 => cvE rfl (funext fun q => if k0 : q = 35 then by subst k0; exact Eq.trans (b := (kv_tallyFirsts_34 (F 3 0) (F 3 1) (A 6) (L 11) x1 x2 x3 m (y4 + 1) ((A 35).set (x3 + G143).toInt.toNat (((A 35).getD (x3 + G143).toInt.toNat 0) + ((A 6).getD y4.toInt.toNat 0))))) rfl rfl else by unfold uA; simp only [nb1 k0, cond_false]) rfl (K q4 q5))
      · have h2 : G141 = 0 := h
        rw [if_pos h2] at hE
        refine w_n 3 (pc1 := 34) (ls1 := [some (.ref 30), some (.int x1), some (.int x2), some (.int x3), some (.int (y4 + 1)), o5]) (st1 := []) (hp1 := (hz F A L)) rfl ?_
        subst T
        have hb2 := i_up (B := (12 : Int32)) hb
        have hb3 : y4.toInt < 12 := hb
        exact ih (show m = (12 - (y4 + 1).toInt).toNat by rw [hb2]; omega) (fun q4 q5 => cvE rfl (funext fun q => if k0 : q = 35 then by subst k0; exact Eq.trans (b := (kv_tallyFirsts_34 (F 3 0) (F 3 1) (A 6) (L 11) x1 x2 x3 m (y4 + 1) (A 35))) rfl rfl else by unfold uA; simp only [nb1 k0, cond_false]) rfl (K q4 q5))
noncomputable def kv_tallyFirsts (f3_0 : Int32) (f3_1 : Int32) (a6 : List Int32) (a35 : List Int32) (l11 : List Int64) (x1 : Int32) (x2 : Int32) : List Int32 := (kv_tallyFirsts_34 f3_0 f3_1 a6 l11 x1 x2 (x1 * 6) 12 0 (kv_tallyFirsts_8 (x1 * 6) 6 0 a35))
theorem t_kv_tallyFirsts {f D : Nat} {F : Nat → Nat → Int32} {A : Nat → List Int32} {L : Nat → List Int64} {Q : Option Value → sm_H → Prop} {x1 : Int32} {x2 : Int32} (K : Q none (hz F (uA A 35 (kv_tallyFirsts (F 3 0) (F 3 1) (A 6) (A 35) (L 11) x1 x2)) L)) : wl_M f D 78 [.ref 30, .int x1, .int x2] (hz F A L) Q := by
  generalize hT : (kv_tallyFirsts (F 3 0) (F 3 1) (A 6) (A 35) (L 11) x1 x2) = T at K
  have hE : T = (kv_tallyFirsts_34 (F 3 0) (F 3 1) (A 6) (L 11) x1 x2 (x1 * 6) 12 0 (kv_tallyFirsts_8 (x1 * 6) 6 0 (A 35))) := hT.symm
  clear hT
  refine w_m (E := mm78) rfl ?_
  show wl_E f f (D - 1) mm78.2.2.2.2.2.2.2.2 0 [some (.ref 30), some (.int x1), some (.int x2), none, none, none] [] (hz F A L) Q
  refine w_n 6 (pc1 := 8) (ls1 := [some (.ref 30), some (.int x1), some (.int x2), some (.int (x1 * 6)), some (.int 0), none]) (st1 := []) (hp1 := (hz F A L)) rfl ?_
  refine t_kv_tallyFirsts_8 6 (show (6 : Nat) = (6 - (0 : Int32).toInt).toNat by have e0 : (0 : Int32).toInt = 0 := rfl; first | rfl | omega) ?_
  intro r1
  show wl_E f _ _ mm78.2.2.2.2.2.2.2.2 31 [some (.ref 30), some (.int x1), some (.int x2), some (.int (x1 * 6)), some (.int r1), none] [] (hz F (uA A 35 (kv_tallyFirsts_8 (x1 * 6) 6 0 (A 35))) L) _
  generalize hG140 : (kv_tallyFirsts_8 (x1 * 6) 6 0 (A 35)) = G140 at hE ⊢
  refine w_n 2 (pc1 := 34) (ls1 := [some (.ref 30), some (.int x1), some (.int x2), some (.int (x1 * 6)), some (.int 0), none]) (st1 := []) (hp1 := (hz F (uA A 35 G140) L)) rfl ?_
  refine t_kv_tallyFirsts_34 12 (show (12 : Nat) = (12 - (0 : Int32).toInt).toNat by have e0 : (0 : Int32).toInt = 0 := rfl; first | rfl | omega) ?_
  intro r2 r3
  show wl_E f _ _ mm78.2.2.2.2.2.2.2.2 108 [some (.ref 30), some (.int x1), some (.int x2), some (.int (x1 * 6)), some (.int r2), r3] [] (hz F (uA (uA A 35 G140) 35 (kv_tallyFirsts_34 (F 3 0) (F 3 1) (A 6) (L 11) x1 x2 (x1 * 6) 12 0 G140)) L) _
  generalize hG144 : (kv_tallyFirsts_34 (F 3 0) (F 3 1) (A 6) (L 11) x1 x2 (x1 * 6) 12 0 G140) = G144 at hE ⊢
  subst T
  exact w_r rfl rfl (cvQ rfl (funext fun q => if k0 : q = 35 then by subst k0; exact Eq.trans (b := G144) rfl rfl else by unfold uA; simp only [nb1 k0, cond_false]) rfl K)
noncomputable def kv_countFirsts (f3_0 : Int32) (f3_1 : Int32) (a6 : List Int32) (a31 : List Int32) (a35 : List Int32) (l11 : List Int64) : List Int32 × List Int32 := ((sm_cpy (kv_tallyFirsts f3_0 f3_1 a6 a35 l11 (kt_allMeasures f3_0) (-1)) a31 ((kt_allMeasures f3_0) * 6).toInt.toNat 0 6), (kv_tallyFirsts f3_0 f3_1 a6 a35 l11 (kt_allMeasures f3_0) (-1)))
theorem t_kv_countFirsts {f D : Nat} {F : Nat → Nat → Int32} {A : Nat → List Int32} {L : Nat → List Int64} {Q : Option Value → sm_H → Prop} (K : Q none (hz F (uA (uA A 31 ((kv_countFirsts (F 3 0) (F 3 1) (A 6) (A 31) (A 35) (L 11)).1)) 35 ((kv_countFirsts (F 3 0) (F 3 1) (A 6) (A 31) (A 35) (L 11)).2)) L)) : wl_M f D 77 [.ref 30] (hz F A L) Q := by
  generalize hT : (kv_countFirsts (F 3 0) (F 3 1) (A 6) (A 31) (A 35) (L 11)) = T at K
  have hE : T = ((sm_cpy (kv_tallyFirsts (F 3 0) (F 3 1) (A 6) (A 35) (L 11) (kt_allMeasures (F 3 0)) (-1)) (A 31) ((kt_allMeasures (F 3 0)) * 6).toInt.toNat 0 6), (kv_tallyFirsts (F 3 0) (F 3 1) (A 6) (A 35) (L 11) (kt_allMeasures (F 3 0)) (-1))) := hT.symm
  clear hT
  refine w_m (E := mm77) rfl ?_
  show wl_E f f (D - 1) mm77.2.2.2.2.2.2.2.2 0 [some (.ref 30)] [] (hz F A L) Q
  refine w_n 3 (pc1 := 5) (ls1 := [some (.ref 30)]) (st1 := [.ref 3, .ref 30]) (hp1 := (hz F A L)) rfl ?_
  refine w_c rfl rfl (t_kt_allMeasures ?_)
  show wl_E f _ _ mm77.2.2.2.2.2.2.2.2 8 [some (.ref 30)] [.int (kt_allMeasures (F 3 0)), .ref 30] (hz F A L) _
  generalize hG139 : (kt_allMeasures (F 3 0)) = G139 at hE ⊢
  refine w_n 1 (pc1 := 9) (ls1 := [some (.ref 30)]) (st1 := [.int (-1), .int G139, .ref 30]) (hp1 := (hz F A L)) rfl ?_
  refine w_c rfl rfl (t_kv_tallyFirsts ?_)
  show wl_E f _ _ mm77.2.2.2.2.2.2.2.2 12 [some (.ref 30)] [] (hz F (uA A 35 (kv_tallyFirsts (F 3 0) (F 3 1) (A 6) (A 35) (L 11) G139 (-1))) L) _
  generalize hG145 : (kv_tallyFirsts (F 3 0) (F 3 1) (A 6) (A 35) (L 11) G139 (-1)) = G145 at hE ⊢
  refine w_n 4 (pc1 := 20) (ls1 := [some (.ref 30)]) (st1 := [.ref 3, .ref 35]) (hp1 := (hz F (uA A 35 G145) L)) rfl ?_
  refine w_c rfl rfl (t_kt_allMeasures ?_)
  show wl_E f _ _ mm77.2.2.2.2.2.2.2.2 23 [some (.ref 30)] [.int (kt_allMeasures (F 3 0)), .ref 35] (hz F (uA A 35 G145) L) _
  rw [hG139]
  refine w_n 6 (pc1 := 33) (ls1 := [some (.ref 30)]) (st1 := [.int 6, .int 0, .ref 31, .int (G139 * 6), .ref 35]) (hp1 := (hz F (uA A 35 G145) L)) rfl ?_
  refine w_ac (ks := 35) (kd := 31) (u := G145) (g := (A 31)) (hp1 := (hz F (uA (uA A 35 G145) 31 (sm_cpy G145 (A 31) (G139 * 6).toInt.toNat 0 6)) L)) rfl rfl rfl rfl (hz_s31 _) (fun _ => ?_)
  subst T
  exact w_r rfl rfl (cvQ rfl (funext fun q => if k0 : q = 31 then by subst k0; exact Eq.trans (b := (sm_cpy G145 (A 31) (G139 * 6).toInt.toNat 0 6)) rfl rfl else if k1 : q = 35 then by subst k1; exact Eq.trans (b := G145) rfl rfl else by unfold uA; simp only [nb1 k0, nb1 k1, cond_false]) rfl K)
noncomputable def kc_most_31_4 (a31 : List Int32)  : Nat → Int32 → Int32 → Int32
  | 0, y1, _ => y1
  | m + 1, y1, y2 => (if (a31.getD y1.toInt.toNat 0).toInt < (a31.getD y2.toInt.toNat 0).toInt then (kc_most_31_4 a31 m y2 (y2 + 1)) else (kc_most_31_4 a31 m y1 (y2 + 1)))
theorem t_kc_most_31_4 {f : Nat} {Q : Option Value → sm_H → Prop} : ∀ (m : Nat) {B D : Nat} {F : Nat → Nat → Int32} {A : Nat → List Int32} {L : Nat → List Int64} {y1 : Int32} {y2 : Int32}, m = ((Int32.ofNat (A 31).length).toInt - y2.toInt).toNat → (∀ q2 : Int32, wl_E f B D mm79.2.2.2.2.2.2.2.2 27 [some (.ref 31), some (.int (kc_most_31_4 (A 31) m y1 y2)), some (.int q2)] [] (hz F A L) Q) → wl_E f B D mm79.2.2.2.2.2.2.2.2 4 [some (.ref 31), some (.int y1), some (.int y2)] [] (hz F A L) Q := by
  intro m
  induction m with
  | zero =>
    intro B D F A L y1 y2 hm K
    generalize hT : (kc_most_31_4 (A 31) 0 y1 y2) = T at K
    have hE : T = y1 := hT.symm
    clear hT
    refine w_n 3 (pc1 := 7) (ls1 := [some (.ref 31), some (.int y1), some (.int y2)]) (st1 := [.int (Int32.ofNat (A 31).length), .int y2]) (hp1 := (hz F A L)) rfl ?_
    refine w_ge (p3 := 10) rfl rfl (fun hb => ?_) (fun h => False.elim (by have h : y2.toInt < (Int32.ofNat (A 31).length).toInt := h; omega))
    subst T
    exact cvE rfl rfl rfl (K _)
  | succ m ih =>
    intro B D F A L y1 y2 hm K
    generalize hT : (kc_most_31_4 (A 31) (m + 1) y1 y2) = T at K
    have hE : T = (if ((A 31).getD y1.toInt.toNat 0).toInt < ((A 31).getD y2.toInt.toNat 0).toInt then (kc_most_31_4 (A 31) m y2 (y2 + 1)) else (kc_most_31_4 (A 31) m y1 (y2 + 1))) := hT.symm
    clear hT
    refine w_n 3 (pc1 := 7) (ls1 := [some (.ref 31), some (.int y1), some (.int y2)]) (st1 := [.int (Int32.ofNat (A 31).length), .int y2]) (hp1 := (hz F A L)) rfl ?_
    refine w_ge (p3 := 10) rfl rfl (fun h => False.elim (by have h : (Int32.ofNat (A 31).length).toInt ≤ y2.toInt := h; omega)) (fun hb => ?_)
    refine w_n 2 (pc1 := 12) (ls1 := [some (.ref 31), some (.int y1), some (.int y2)]) (st1 := [.int y2, .ref 31]) (hp1 := (hz F A L)) rfl ?_
    refine w_al (k := 31) (l := (A 31)) rfl rfl rfl (fun ab => ?_)
    refine w_n 2 (pc1 := 15) (ls1 := [some (.ref 31), some (.int y1), some (.int y2)]) (st1 := [.int y1, .ref 31, .int ((A 31).getD y2.toInt.toNat 0)]) (hp1 := (hz F A L)) rfl ?_
    refine w_al (k := 31) (l := (A 31)) rfl rfl rfl (fun _ => ?_)
    refine w_le (p3 := 19) rfl rfl (fun h => ?_) (fun h => ?_)
    · have h1 : ((A 31).getD y2.toInt.toNat 0).toInt ≤ ((A 31).getD y1.toInt.toNat 0).toInt := h
      rw [if_neg (Int.not_lt.mpr h1)] at hE
      refine w_n 2 (pc1 := 4) (ls1 := [some (.ref 31), some (.int y1), some (.int (y2 + 1))]) (st1 := []) (hp1 := (hz F A L)) rfl ?_
      subst T
      have hb2 := i_up (B := (Int32.ofNat (A 31).length)) hb
      have hb3 : y2.toInt < (Int32.ofNat (A 31).length).toInt := hb
      exact ih (show m = ((Int32.ofNat (A 31).length).toInt - (y2 + 1).toInt).toNat by rw [hb2]; omega) (fun q2 => cvE rfl rfl rfl (K q2))
    · have h1 : ((A 31).getD y1.toInt.toNat 0).toInt < ((A 31).getD y2.toInt.toNat 0).toInt := h
      rw [if_pos h1] at hE
      refine w_n 4 (pc1 := 4) (ls1 := [some (.ref 31), some (.int y2), some (.int (y2 + 1))]) (st1 := []) (hp1 := (hz F A L)) rfl ?_
      subst T
      have hb2 := i_up (B := (Int32.ofNat (A 31).length)) hb
      have hb3 : y2.toInt < (Int32.ofNat (A 31).length).toInt := hb
      exact ih (show m = ((Int32.ofNat (A 31).length).toInt - (y2 + 1).toInt).toNat by rw [hb2]; omega) (fun q2 => cvE rfl rfl rfl (K q2))
noncomputable def kc_most_31 (a31 : List Int32) : Int32 := (kc_most_31_4 a31 ((Int32.ofNat a31.length).toInt - 1).toNat 0 1)
theorem t_kc_most_31 {f D : Nat} {F : Nat → Nat → Int32} {A : Nat → List Int32} {L : Nat → List Int64} {Q : Option Value → sm_H → Prop} (K : Q (some (.int (kc_most_31 (A 31)))) (hz F A L)) : wl_M f D 79 [.ref 31] (hz F A L) Q := by
  generalize hT : (kc_most_31 (A 31)) = T at K
  have hE : T = (kc_most_31_4 (A 31) ((Int32.ofNat (A 31).length).toInt - 1).toNat 0 1) := hT.symm
  clear hT
  refine w_m (E := mm79) rfl ?_
  show wl_E f f (D - 1) mm79.2.2.2.2.2.2.2.2 0 [some (.ref 31), none, none] [] (hz F A L) Q
  refine w_n 4 (pc1 := 4) (ls1 := [some (.ref 31), some (.int 0), some (.int 1)]) (st1 := []) (hp1 := (hz F A L)) rfl ?_
  refine t_kc_most_31_4 (((Int32.ofNat (A 31).length).toInt - 1).toNat) (show ((Int32.ofNat (A 31).length).toInt - 1).toNat = ((Int32.ofNat (A 31).length).toInt - (1 : Int32).toInt).toNat by have e0 : (1 : Int32).toInt = 1 := rfl; first | rfl | omega) ?_
  intro r1
  show wl_E f _ _ mm79.2.2.2.2.2.2.2.2 27 [some (.ref 31), some (.int (kc_most_31_4 (A 31) ((Int32.ofNat (A 31).length).toInt - 1).toNat 0 1)), some (.int r1)] [] (hz F A L) _
  generalize hG147 : (kc_most_31_4 (A 31) ((Int32.ofNat (A 31).length).toInt - 1).toNat 0 1) = G147 at hE ⊢
  refine w_n 1 (pc1 := 28) (ls1 := [some (.ref 31), some (.int G147), some (.int r1)]) (st1 := [.int G147]) (hp1 := (hz F A L)) rfl ?_
  subst T
  exact w_ri rfl (cvQ rfl rfl rfl K)
noncomputable def kc_firsts (f3_0 : Int32) (f3_1 : Int32) (a6 : List Int32) (a31 : List Int32) (a35 : List Int32) (l11 : List Int64) (x1 : Int32) : Int32 × List Int32 × List Int32 := (if x1 = 10 then ((kc_most_31 (kv_countFirsts f3_0 f3_1 a6 a31 a35 l11).1), (kv_countFirsts f3_0 f3_1 a6 a31 a35 l11).1, (kv_countFirsts f3_0 f3_1 a6 a31 a35 l11).2) else (if (kt_isMeasure f3_0 x1) = 0 then ((-1), a31, a35) else (((kv_countFirsts f3_0 f3_1 a6 a31 a35 l11).1.getD x1.toInt.toNat 0), (kv_countFirsts f3_0 f3_1 a6 a31 a35 l11).1, (kv_countFirsts f3_0 f3_1 a6 a31 a35 l11).2)))
theorem t_kc_firsts {f D : Nat} {F : Nat → Nat → Int32} {A : Nat → List Int32} {L : Nat → List Int64} {Q : Option Value → sm_H → Prop} {x1 : Int32} (K : Q (some (.int ((kc_firsts (F 3 0) (F 3 1) (A 6) (A 31) (A 35) (L 11) x1).1))) (hz F (uA (uA A 31 ((kc_firsts (F 3 0) (F 3 1) (A 6) (A 31) (A 35) (L 11) x1).2.1)) 35 ((kc_firsts (F 3 0) (F 3 1) (A 6) (A 31) (A 35) (L 11) x1).2.2)) L)) : wl_M f D 76 [.ref 0, .int x1] (hz F A L) Q := by
  generalize hT : (kc_firsts (F 3 0) (F 3 1) (A 6) (A 31) (A 35) (L 11) x1) = T at K
  have hE : T = (if x1 = 10 then ((kc_most_31 (kv_countFirsts (F 3 0) (F 3 1) (A 6) (A 31) (A 35) (L 11)).1), (kv_countFirsts (F 3 0) (F 3 1) (A 6) (A 31) (A 35) (L 11)).1, (kv_countFirsts (F 3 0) (F 3 1) (A 6) (A 31) (A 35) (L 11)).2) else (if (kt_isMeasure (F 3 0) x1) = 0 then ((-1), (A 31), (A 35)) else (((kv_countFirsts (F 3 0) (F 3 1) (A 6) (A 31) (A 35) (L 11)).1.getD x1.toInt.toNat 0), (kv_countFirsts (F 3 0) (F 3 1) (A 6) (A 31) (A 35) (L 11)).1, (kv_countFirsts (F 3 0) (F 3 1) (A 6) (A 31) (A 35) (L 11)).2))) := hT.symm
  clear hT
  refine w_m (E := mm76) rfl ?_
  show wl_E f f (D - 1) mm76.2.2.2.2.2.2.2.2 0 [some (.ref 0), some (.int x1)] [] (hz F A L) Q
  refine w_n 2 (pc1 := 3) (ls1 := [some (.ref 0), some (.int x1)]) (st1 := [.int 10, .int x1]) (hp1 := (hz F A L)) rfl ?_
  refine w_eq (p3 := 6) rfl rfl (fun h => ?_) (fun h => ?_)
  · have h1 : x1 = 10 := h
    rw [if_pos h1] at hE
    refine w_n 2 (pc1 := 23) (ls1 := [some (.ref 0), some (.int x1)]) (st1 := [.ref 30]) (hp1 := (hz F A L)) rfl ?_
    refine w_c rfl rfl (t_kv_countFirsts ?_)
    show wl_E f _ _ mm76.2.2.2.2.2.2.2.2 26 [some (.ref 0), some (.int x1)] [] (hz F (uA (uA A 31 (kv_countFirsts (F 3 0) (F 3 1) (A 6) (A 31) (A 35) (L 11)).1) 35 (kv_countFirsts (F 3 0) (F 3 1) (A 6) (A 31) (A 35) (L 11)).2) L) _
    generalize hG146 : (kv_countFirsts (F 3 0) (F 3 1) (A 6) (A 31) (A 35) (L 11)) = G146 at hE ⊢
    refine w_n 2 (pc1 := 29) (ls1 := [some (.ref 0), some (.int x1)]) (st1 := [.int 10, .int x1]) (hp1 := (hz F (uA (uA A 31 G146.1) 35 G146.2) L)) rfl ?_
    refine w_ne (p3 := 32) rfl rfl (fun h => absurd h1 h) (fun _ => ?_)
    refine w_n 3 (pc1 := 39) (ls1 := [some (.ref 0), some (.int x1)]) (st1 := [.ref 31]) (hp1 := (hz F (uA (uA A 31 G146.1) 35 G146.2) L)) rfl ?_
    refine w_c rfl rfl (t_kc_most_31 ?_)
    show wl_E f _ _ mm76.2.2.2.2.2.2.2.2 42 [some (.ref 0), some (.int x1)] [.int (kc_most_31 G146.1)] (hz F (uA (uA A 31 G146.1) 35 G146.2) L) _
    generalize hG148 : (kc_most_31 G146.1) = G148 at hE ⊢
    refine w_n 1 (pc1 := 54) (ls1 := [some (.ref 0), some (.int x1)]) (st1 := [.int G148]) (hp1 := (hz F (uA (uA A 31 G146.1) 35 G146.2) L)) rfl ?_
    subst T
    exact w_ri rfl (cvQ rfl rfl rfl K)
  · have h1 : ¬ x1 = 10 := h
    rw [if_neg h1] at hE
    refine w_n 3 (pc1 := 11) (ls1 := [some (.ref 0), some (.int x1)]) (st1 := [.int x1, .ref 3]) (hp1 := (hz F A L)) rfl ?_
    refine w_c rfl rfl (t_kt_isMeasure ?_)
    show wl_E f _ _ mm76.2.2.2.2.2.2.2.2 14 [some (.ref 0), some (.int x1)] [.int (kt_isMeasure (F 3 0) x1)] (hz F A L) _
    generalize hG149 : (kt_isMeasure (F 3 0) x1) = G149 at hE ⊢
    refine w_zne (p3 := 17) rfl rfl (fun h => ?_) (fun h => ?_)
    · have h2 : ¬ G149 = 0 := h
      rw [if_neg h2] at hE
      refine w_n 2 (pc1 := 23) (ls1 := [some (.ref 0), some (.int x1)]) (st1 := [.ref 30]) (hp1 := (hz F A L)) rfl ?_
      refine w_c rfl rfl (t_kv_countFirsts ?_)
      show wl_E f _ _ mm76.2.2.2.2.2.2.2.2 26 [some (.ref 0), some (.int x1)] [] (hz F (uA (uA A 31 (kv_countFirsts (F 3 0) (F 3 1) (A 6) (A 31) (A 35) (L 11)).1) 35 (kv_countFirsts (F 3 0) (F 3 1) (A 6) (A 31) (A 35) (L 11)).2) L) _
      generalize hG150 : (kv_countFirsts (F 3 0) (F 3 1) (A 6) (A 31) (A 35) (L 11)) = G150 at hE ⊢
      refine w_n 2 (pc1 := 29) (ls1 := [some (.ref 0), some (.int x1)]) (st1 := [.int 10, .int x1]) (hp1 := (hz F (uA (uA A 31 G150.1) 35 G150.2) L)) rfl ?_
      refine w_ne (p3 := 32) rfl rfl (fun _ => ?_) (fun h => absurd h h1)
      refine w_n 4 (pc1 := 53) (ls1 := [some (.ref 0), some (.int x1)]) (st1 := [.int x1, .ref 31]) (hp1 := (hz F (uA (uA A 31 G150.1) 35 G150.2) L)) rfl ?_
      refine w_al (k := 31) (l := G150.1) rfl rfl rfl (fun _ => ?_)
      subst T
      exact w_ri rfl (cvQ rfl rfl rfl K)
    · have h2 : G149 = 0 := h
      rw [if_pos h2] at hE
      refine w_n 1 (pc1 := 18) (ls1 := [some (.ref 0), some (.int x1)]) (st1 := [.int (-1)]) (hp1 := (hz F A L)) rfl ?_
      subst T
      exact w_ri rfl (cvQ rfl (funext fun q => if k0 : q = 31 then by subst k0; exact Eq.trans (b := (A 31)) rfl rfl else if k1 : q = 35 then by subst k1; exact Eq.trans (b := (A 35)) rfl rfl else by unfold uA; simp only [nb1 k0, nb1 k1, cond_false]) rfl K)
noncomputable def km_allMeasures (f67_3 : Int32) : Int32 := (((1 : Int32) <<< (f67_3 &&& 31)) - 1)
theorem t_km_allMeasures {f D : Nat} {F : Nat → Nat → Int32} {A : Nat → List Int32} {L : Nat → List Int64} {Q : Option Value → sm_H → Prop} (K : Q (some (.int (km_allMeasures (F 67 3)))) (hz F A L)) : wl_M f D 205 [.ref 67] (hz F A L) Q := by
  generalize hT : (km_allMeasures (F 67 3)) = T at K
  have hE : T = (((1 : Int32) <<< ((F 67 3) &&& 31)) - 1) := hT.symm
  clear hT
  refine w_m (E := mm205) rfl ?_
  show wl_E f f (D - 1) mm205.2.2.2.2.2.2.2.2 0 [some (.ref 67)] [] (hz F A L) Q
  refine w_n 6 (pc1 := 8) (ls1 := [some (.ref 67)]) (st1 := [.int (((1 : Int32) <<< ((F 67 3) &&& 31)) - 1)]) (hp1 := (hz F A L)) rfl ?_
  subst T
  exact w_ri rfl (cvQ rfl rfl rfl K)
noncomputable def km_laysFirsts_2   : Nat → Int32 → List Int32 → List Int32
  | 0, _, a87 => a87
  | m + 1, y3, a87 => (km_laysFirsts_2 m (y3 + 1) (a87.set y3.toInt.toNat 0))
theorem t_km_laysFirsts_2 {f : Nat} {Q : Option Value → sm_H → Prop} : ∀ (m : Nat) {B D : Nat} {F : Nat → Nat → Int32} {A : Nat → List Int32} {L : Nat → List Int64} {x1 : Int32} {x2 : Int32} {y3 : Int32} {o4 : Option Value}, m = (6 - y3.toInt).toNat → (∀ q3 : Int32, wl_E f B D mm206.2.2.2.2.2.2.2.2 21 [some (.ref 67), some (.int x1), some (.int x2), some (.int q3), o4] [] (hz F (uA A 87 (km_laysFirsts_2 m y3 (A 87))) L) Q) → wl_E f B D mm206.2.2.2.2.2.2.2.2 2 [some (.ref 67), some (.int x1), some (.int x2), some (.int y3), o4] [] (hz F A L) Q := by
  intro m
  induction m with
  | zero =>
    intro B D F A L x1 x2 y3 o4 hm K
    generalize hT : (km_laysFirsts_2 0 y3 (A 87)) = T at K
    have hE : T = (A 87) := hT.symm
    clear hT
    refine w_n 2 (pc1 := 5) (ls1 := [some (.ref 67), some (.int x1), some (.int x2), some (.int y3), o4]) (st1 := [.int 6, .int y3]) (hp1 := (hz F A L)) rfl ?_
    refine w_ge (p3 := 8) rfl rfl (fun hb => ?_) (fun h => False.elim (by have h : y3.toInt < 6 := h; omega))
    subst T
    exact cvE rfl (funext fun q => if k0 : q = 87 then by subst k0; exact Eq.trans (b := (A 87)) rfl rfl else by unfold uA; simp only [nb1 k0, cond_false]) rfl (K _)
  | succ m ih =>
    intro B D F A L x1 x2 y3 o4 hm K
    generalize hT : (km_laysFirsts_2 (m + 1) y3 (A 87)) = T at K
    have hE : T = (km_laysFirsts_2 m (y3 + 1) ((A 87).set y3.toInt.toNat 0)) := hT.symm
    clear hT
    refine w_n 2 (pc1 := 5) (ls1 := [some (.ref 67), some (.int x1), some (.int x2), some (.int y3), o4]) (st1 := [.int 6, .int y3]) (hp1 := (hz F A L)) rfl ?_
    refine w_ge (p3 := 8) rfl rfl (fun h => False.elim (by have h : 6 ≤ y3.toInt := h; omega)) (fun hb => ?_)
    refine w_n 4 (pc1 := 14) (ls1 := [some (.ref 67), some (.int x1), some (.int x2), some (.int y3), o4]) (st1 := [.int 0, .int y3, .ref 87]) (hp1 := (hz F A L)) rfl ?_
    refine w_as (k := 87) (l := (A 87)) (hp1 := (hz F (uA A 87 ((A 87).set y3.toInt.toNat 0)) L)) rfl rfl rfl (hz_s87 _) (fun ab => ?_)
    refine w_n 2 (pc1 := 2) (ls1 := [some (.ref 67), some (.int x1), some (.int x2), some (.int (y3 + 1)), o4]) (st1 := []) (hp1 := (hz F (uA A 87 ((A 87).set y3.toInt.toNat 0)) L)) rfl ?_
    subst T
    have hb2 := i_up (B := (6 : Int32)) hb
    have hb3 : y3.toInt < 6 := hb
    exact ih (show m = (6 - (y3 + 1).toInt).toNat by rw [hb2]; omega) (fun q3 => cvE rfl (funext fun q => if k0 : q = 87 then by subst k0; exact Eq.trans (b := (km_laysFirsts_2 m (y3 + 1) ((A 87).set y3.toInt.toNat 0))) rfl rfl else by unfold uA; simp only [nb1 k0, cond_false]) rfl (K q3))
noncomputable def km_highestOf_5 (a68 : List Int32) (x1 : Int32) (x2 : Int32) : Nat → Int32 → Int32 → Int32
  | 0, y3, _ => y3
  | m + 1, y3, y4 => (if (km_has x2 y4) = 0 then (km_highestOf_5 a68 x1 x2 m y3 (y4 + 1)) else (if y3 = (-1) then (km_highestOf_5 a68 x1 x2 m y4 (y4 + 1)) else (if (km_placeOf a68 x1 y4).toInt < (km_placeOf a68 x1 y3).toInt then (km_highestOf_5 a68 x1 x2 m y4 (y4 + 1)) else (km_highestOf_5 a68 x1 x2 m y3 (y4 + 1)))))
theorem t_km_highestOf_5 {f : Nat} {Q : Option Value → sm_H → Prop} : ∀ (m : Nat) {B D : Nat} {F : Nat → Nat → Int32} {A : Nat → List Int32} {L : Nat → List Int64} {x1 : Int32} {x2 : Int32} {y3 : Int32} {y4 : Int32}, m = ((F 67 3).toInt - y4.toInt).toNat → (∀ q4 : Int32, wl_E f B D mm191.2.2.2.2.2.2.2.2 53 [some (.ref 67), some (.int x1), some (.int x2), some (.int (km_highestOf_5 (A 68) x1 x2 m y3 y4)), some (.int q4)] [] (hz F A L) Q) → wl_E f B D mm191.2.2.2.2.2.2.2.2 5 [some (.ref 67), some (.int x1), some (.int x2), some (.int y3), some (.int y4)] [] (hz F A L) Q := by
  intro m
  induction m with
  | zero =>
    intro B D F A L x1 x2 y3 y4 hm K
    generalize hT : (km_highestOf_5 (A 68) x1 x2 0 y3 y4) = T at K
    have hE : T = y3 := hT.symm
    clear hT
    refine w_n 3 (pc1 := 11) (ls1 := [some (.ref 67), some (.int x1), some (.int x2), some (.int y3), some (.int y4)]) (st1 := [.int (F 67 3), .int y4]) (hp1 := (hz F A L)) rfl ?_
    refine w_ge (p3 := 14) rfl rfl (fun hb => ?_) (fun h => False.elim (by have h : y4.toInt < (F 67 3).toInt := h; omega))
    subst T
    exact cvE rfl rfl rfl (K _)
  | succ m ih =>
    intro B D F A L x1 x2 y3 y4 hm K
    generalize hT : (km_highestOf_5 (A 68) x1 x2 (m + 1) y3 y4) = T at K
    have hE : T = (if (km_has x2 y4) = 0 then (km_highestOf_5 (A 68) x1 x2 m y3 (y4 + 1)) else (if y3 = (-1) then (km_highestOf_5 (A 68) x1 x2 m y4 (y4 + 1)) else (if (km_placeOf (A 68) x1 y4).toInt < (km_placeOf (A 68) x1 y3).toInt then (km_highestOf_5 (A 68) x1 x2 m y4 (y4 + 1)) else (km_highestOf_5 (A 68) x1 x2 m y3 (y4 + 1))))) := hT.symm
    clear hT
    refine w_n 3 (pc1 := 11) (ls1 := [some (.ref 67), some (.int x1), some (.int x2), some (.int y3), some (.int y4)]) (st1 := [.int (F 67 3), .int y4]) (hp1 := (hz F A L)) rfl ?_
    refine w_ge (p3 := 14) rfl rfl (fun h => False.elim (by have h : (F 67 3).toInt ≤ y4.toInt := h; omega)) (fun hb => ?_)
    refine w_n 2 (pc1 := 17) (ls1 := [some (.ref 67), some (.int x1), some (.int x2), some (.int y3), some (.int y4)]) (st1 := [.int y4, .int x2]) (hp1 := (hz F A L)) rfl ?_
    refine w_c rfl rfl (t_km_has ?_)
    show wl_E f _ _ mm191.2.2.2.2.2.2.2.2 20 [some (.ref 67), some (.int x1), some (.int x2), some (.int y3), some (.int y4)] [.int (km_has x2 y4)] (hz F A L) _
    generalize hG155 : (km_has x2 y4) = G155 at hE ⊢
    refine w_zeq (p3 := 23) rfl rfl (fun h => ?_) (fun h => ?_)
    · have h1 : G155 = 0 := h
      rw [if_pos h1] at hE
      refine w_n 2 (pc1 := 5) (ls1 := [some (.ref 67), some (.int x1), some (.int x2), some (.int y3), some (.int (y4 + 1))]) (st1 := []) (hp1 := (hz F A L)) rfl ?_
      subst T
      have hb2 := i_up (B := (F 67 3)) hb
      have hb3 : y4.toInt < (F 67 3).toInt := hb
      exact ih (show m = ((F 67 3).toInt - (y4 + 1).toInt).toNat by rw [hb2]; omega) (fun q4 => cvE rfl rfl rfl (K q4))
    · have h1 : ¬ G155 = 0 := h
      rw [if_neg h1] at hE
      refine w_n 2 (pc1 := 25) (ls1 := [some (.ref 67), some (.int x1), some (.int x2), some (.int y3), some (.int y4)]) (st1 := [.int (-1), .int y3]) (hp1 := (hz F A L)) rfl ?_
      refine w_eq (p3 := 28) rfl rfl (fun h => ?_) (fun h => ?_)
      · have h2 : y3 = (-1) := h
        rw [if_pos h2] at hE
        refine w_n 4 (pc1 := 5) (ls1 := [some (.ref 67), some (.int x1), some (.int x2), some (.int y4), some (.int (y4 + 1))]) (st1 := []) (hp1 := (hz F A L)) rfl ?_
        subst T
        have hb2 := i_up (B := (F 67 3)) hb
        have hb3 : y4.toInt < (F 67 3).toInt := hb
        exact ih (show m = ((F 67 3).toInt - (y4 + 1).toInt).toNat by rw [hb2]; omega) (fun q4 => cvE rfl rfl rfl (K q4))
      · have h2 : ¬ y3 = (-1) := h
        rw [if_neg h2] at hE
        refine w_n 3 (pc1 := 32) (ls1 := [some (.ref 67), some (.int x1), some (.int x2), some (.int y3), some (.int y4)]) (st1 := [.int y4, .int x1, .ref 67]) (hp1 := (hz F A L)) rfl ?_
        refine w_c rfl rfl (t_km_placeOf ?_)
        show wl_E f _ _ mm191.2.2.2.2.2.2.2.2 35 [some (.ref 67), some (.int x1), some (.int x2), some (.int y3), some (.int y4)] [.int (km_placeOf (A 68) x1 y4)] (hz F A L) _
        generalize hG156 : (km_placeOf (A 68) x1 y4) = G156 at hE ⊢
        refine w_n 3 (pc1 := 38) (ls1 := [some (.ref 67), some (.int x1), some (.int x2), some (.int y3), some (.int y4)]) (st1 := [.int y3, .int x1, .ref 67, .int G156]) (hp1 := (hz F A L)) rfl ?_
        refine w_c rfl rfl (t_km_placeOf ?_)
        show wl_E f _ _ mm191.2.2.2.2.2.2.2.2 41 [some (.ref 67), some (.int x1), some (.int x2), some (.int y3), some (.int y4)] [.int (km_placeOf (A 68) x1 y3), .int G156] (hz F A L) _
        generalize hG157 : (km_placeOf (A 68) x1 y3) = G157 at hE ⊢
        refine w_ge (p3 := 44) rfl rfl (fun h => ?_) (fun h => ?_)
        · have h3 : G157.toInt ≤ G156.toInt := h
          rw [if_neg (Int.not_lt.mpr h3)] at hE
          refine w_n 2 (pc1 := 5) (ls1 := [some (.ref 67), some (.int x1), some (.int x2), some (.int y3), some (.int (y4 + 1))]) (st1 := []) (hp1 := (hz F A L)) rfl ?_
          subst T
          have hb2 := i_up (B := (F 67 3)) hb
          have hb3 : y4.toInt < (F 67 3).toInt := hb
          exact ih (show m = ((F 67 3).toInt - (y4 + 1).toInt).toNat by rw [hb2]; omega) (fun q4 => cvE rfl rfl rfl (K q4))
        · have h3 : G156.toInt < G157.toInt := h
          rw [if_pos h3] at hE
          refine w_n 4 (pc1 := 5) (ls1 := [some (.ref 67), some (.int x1), some (.int x2), some (.int y4), some (.int (y4 + 1))]) (st1 := []) (hp1 := (hz F A L)) rfl ?_
          subst T
          have hb2 := i_up (B := (F 67 3)) hb
          have hb3 : y4.toInt < (F 67 3).toInt := hb
          exact ih (show m = ((F 67 3).toInt - (y4 + 1).toInt).toNat by rw [hb2]; omega) (fun q4 => cvE rfl rfl rfl (K q4))
noncomputable def km_highestOf (f67_3 : Int32) (a68 : List Int32) (x1 : Int32) (x2 : Int32) : Int32 := (km_highestOf_5 a68 x1 x2 f67_3.toInt.toNat (-1) 0)
theorem t_km_highestOf {f D : Nat} {F : Nat → Nat → Int32} {A : Nat → List Int32} {L : Nat → List Int64} {Q : Option Value → sm_H → Prop} {x1 : Int32} {x2 : Int32} (K : Q (some (.int (km_highestOf (F 67 3) (A 68) x1 x2))) (hz F A L)) : wl_M f D 191 [.ref 67, .int x1, .int x2] (hz F A L) Q := by
  generalize hT : (km_highestOf (F 67 3) (A 68) x1 x2) = T at K
  have hE : T = (km_highestOf_5 (A 68) x1 x2 (F 67 3).toInt.toNat (-1) 0) := hT.symm
  clear hT
  refine w_m (E := mm191) rfl ?_
  show wl_E f f (D - 1) mm191.2.2.2.2.2.2.2.2 0 [some (.ref 67), some (.int x1), some (.int x2), none, none] [] (hz F A L) Q
  refine w_n 4 (pc1 := 5) (ls1 := [some (.ref 67), some (.int x1), some (.int x2), some (.int (-1)), some (.int 0)]) (st1 := []) (hp1 := (hz F A L)) rfl ?_
  refine t_km_highestOf_5 (F 67 3).toInt.toNat (show (F 67 3).toInt.toNat = ((F 67 3).toInt - (0 : Int32).toInt).toNat by have e0 : (0 : Int32).toInt = 0 := rfl; first | rfl | omega) ?_
  intro r1
  show wl_E f _ _ mm191.2.2.2.2.2.2.2.2 53 [some (.ref 67), some (.int x1), some (.int x2), some (.int (km_highestOf_5 (A 68) x1 x2 (F 67 3).toInt.toNat (-1) 0)), some (.int r1)] [] (hz F A L) _
  generalize hG158 : (km_highestOf_5 (A 68) x1 x2 (F 67 3).toInt.toNat (-1) 0) = G158 at hE ⊢
  refine w_n 1 (pc1 := 54) (ls1 := [some (.ref 67), some (.int x1), some (.int x2), some (.int G158), some (.int r1)]) (st1 := [.int G158]) (hp1 := (hz F A L)) rfl ?_
  subst T
  exact w_ri rfl (cvQ rfl rfl rfl K)
noncomputable def km_laysFirsts_23 (f67_3 : Int32) (a68 : List Int32) (x1 : Int32) (x2 : Int32) : Nat → Int32 → List Int32 → List Int32
  | 0, _, a87 => a87
  | m + 1, y3, a87 => (if (km_isGuest a68 y3) = 0 then (km_laysFirsts_23 f67_3 a68 x1 x2 m (y3 + 1) a87) else (if (km_has x2 y3) = 0 then (km_laysFirsts_23 f67_3 a68 x1 x2 m (y3 + 1) (a87.set (km_highestOf f67_3 a68 y3 x1).toInt.toNat ((a87.getD (km_highestOf f67_3 a68 y3 x1).toInt.toNat 0) + (a68.getD (12 + y3).toInt.toNat 0)))) else (km_laysFirsts_23 f67_3 a68 x1 x2 m (y3 + 1) a87)))
theorem t_km_laysFirsts_23 {f : Nat} {Q : Option Value → sm_H → Prop} : ∀ (m : Nat) {B D : Nat} {F : Nat → Nat → Int32} {A : Nat → List Int32} {L : Nat → List Int64} {x1 : Int32} {x2 : Int32} {y3 : Int32} {o4 : Option Value}, m = (12 - y3.toInt).toNat → (∀ q3 : Int32, ∀ q4 : Option Value, wl_E f B D mm206.2.2.2.2.2.2.2.2 86 [some (.ref 67), some (.int x1), some (.int x2), some (.int q3), q4] [] (hz F (uA A 87 (km_laysFirsts_23 (F 67 3) (A 68) x1 x2 m y3 (A 87))) L) Q) → wl_E f B D mm206.2.2.2.2.2.2.2.2 23 [some (.ref 67), some (.int x1), some (.int x2), some (.int y3), o4] [] (hz F A L) Q := by
  intro m
  induction m with
  | zero =>
    intro B D F A L x1 x2 y3 o4 hm K
    generalize hT : (km_laysFirsts_23 (F 67 3) (A 68) x1 x2 0 y3 (A 87)) = T at K
    have hE : T = (A 87) := hT.symm
    clear hT
    refine w_n 2 (pc1 := 26) (ls1 := [some (.ref 67), some (.int x1), some (.int x2), some (.int y3), o4]) (st1 := [.int 12, .int y3]) (hp1 := (hz F A L)) rfl ?_
    refine w_ge (p3 := 29) rfl rfl (fun hb => ?_) (fun h => False.elim (by have h : y3.toInt < 12 := h; omega))
    subst T
    exact cvE rfl (funext fun q => if k0 : q = 87 then by subst k0; exact Eq.trans (b := (A 87)) rfl rfl else by unfold uA; simp only [nb1 k0, cond_false]) rfl (K _ _)
  | succ m ih =>
    intro B D F A L x1 x2 y3 o4 hm K
    generalize hT : (km_laysFirsts_23 (F 67 3) (A 68) x1 x2 (m + 1) y3 (A 87)) = T at K
    have hE : T = (if (km_isGuest (A 68) y3) = 0 then (km_laysFirsts_23 (F 67 3) (A 68) x1 x2 m (y3 + 1) (A 87)) else (if (km_has x2 y3) = 0 then (km_laysFirsts_23 (F 67 3) (A 68) x1 x2 m (y3 + 1) ((A 87).set (km_highestOf (F 67 3) (A 68) y3 x1).toInt.toNat (((A 87).getD (km_highestOf (F 67 3) (A 68) y3 x1).toInt.toNat 0) + ((A 68).getD (12 + y3).toInt.toNat 0)))) else (km_laysFirsts_23 (F 67 3) (A 68) x1 x2 m (y3 + 1) (A 87)))) := hT.symm
    clear hT
    refine w_n 2 (pc1 := 26) (ls1 := [some (.ref 67), some (.int x1), some (.int x2), some (.int y3), o4]) (st1 := [.int 12, .int y3]) (hp1 := (hz F A L)) rfl ?_
    refine w_ge (p3 := 29) rfl rfl (fun h => False.elim (by have h : 12 ≤ y3.toInt := h; omega)) (fun hb => ?_)
    refine w_n 2 (pc1 := 31) (ls1 := [some (.ref 67), some (.int x1), some (.int x2), some (.int y3), o4]) (st1 := [.int y3, .ref 67]) (hp1 := (hz F A L)) rfl ?_
    refine w_c rfl rfl (t_km_isGuest ?_)
    show wl_E f _ _ mm206.2.2.2.2.2.2.2.2 34 [some (.ref 67), some (.int x1), some (.int x2), some (.int y3), o4] [.int (km_isGuest (A 68) y3)] (hz F A L) _
    generalize hG153 : (km_isGuest (A 68) y3) = G153 at hE ⊢
    refine w_zeq (p3 := 37) rfl rfl (fun h => ?_) (fun h => ?_)
    · have h1 : G153 = 0 := h
      rw [if_pos h1] at hE
      refine w_n 2 (pc1 := 23) (ls1 := [some (.ref 67), some (.int x1), some (.int x2), some (.int (y3 + 1)), o4]) (st1 := []) (hp1 := (hz F A L)) rfl ?_
      subst T
      have hb2 := i_up (B := (12 : Int32)) hb
      have hb3 : y3.toInt < 12 := hb
      exact ih (show m = (12 - (y3 + 1).toInt).toNat by rw [hb2]; omega) (fun q3 q4 => cvE rfl (funext fun q => if k0 : q = 87 then by subst k0; exact Eq.trans (b := (km_laysFirsts_23 (F 67 3) (A 68) x1 x2 m (y3 + 1) (A 87))) rfl rfl else by unfold uA; simp only [nb1 k0, cond_false]) rfl (K q3 q4))
    · have h1 : ¬ G153 = 0 := h
      rw [if_neg h1] at hE
      refine w_n 2 (pc1 := 39) (ls1 := [some (.ref 67), some (.int x1), some (.int x2), some (.int y3), o4]) (st1 := [.int y3, .int x2]) (hp1 := (hz F A L)) rfl ?_
      refine w_c rfl rfl (t_km_has ?_)
      show wl_E f _ _ mm206.2.2.2.2.2.2.2.2 42 [some (.ref 67), some (.int x1), some (.int x2), some (.int y3), o4] [.int (km_has x2 y3)] (hz F A L) _
      generalize hG154 : (km_has x2 y3) = G154 at hE ⊢
      refine w_zeq (p3 := 45) rfl rfl (fun h => ?_) (fun h => ?_)
      · have h2 : G154 = 0 := h
        rw [if_pos h2] at hE
        refine w_n 3 (pc1 := 51) (ls1 := [some (.ref 67), some (.int x1), some (.int x2), some (.int y3), o4]) (st1 := [.int x1, .int y3, .ref 67]) (hp1 := (hz F A L)) rfl ?_
        refine w_c rfl rfl (t_km_highestOf ?_)
        show wl_E f _ _ mm206.2.2.2.2.2.2.2.2 54 [some (.ref 67), some (.int x1), some (.int x2), some (.int y3), o4] [.int (km_highestOf (F 67 3) (A 68) y3 x1)] (hz F A L) _
        generalize hG159 : (km_highestOf (F 67 3) (A 68) y3 x1) = G159 at hE ⊢
        refine w_n 7 (pc1 := 68) (ls1 := [some (.ref 67), some (.int x1), some (.int x2), some (.int y3), some (.int G159)]) (st1 := [.int G159, .ref 87, .int G159, .ref 87]) (hp1 := (hz F A L)) rfl ?_
        refine w_al (k := 87) (l := (A 87)) rfl rfl rfl (fun _ => ?_)
        refine w_n 5 (pc1 := 77) (ls1 := [some (.ref 67), some (.int x1), some (.int x2), some (.int y3), some (.int G159)]) (st1 := [.int (12 + y3), .ref 68, .int ((A 87).getD G159.toInt.toNat 0), .int G159, .ref 87]) (hp1 := (hz F A L)) rfl ?_
        refine w_al (k := 68) (l := (A 68)) rfl rfl rfl (fun _ => ?_)
        refine w_n 1 (pc1 := 79) (ls1 := [some (.ref 67), some (.int x1), some (.int x2), some (.int y3), some (.int G159)]) (st1 := [.int (((A 87).getD G159.toInt.toNat 0) + ((A 68).getD (12 + y3).toInt.toNat 0)), .int G159, .ref 87]) (hp1 := (hz F A L)) rfl ?_
        refine w_as (k := 87) (l := (A 87)) (hp1 := (hz F (uA A 87 ((A 87).set G159.toInt.toNat (((A 87).getD G159.toInt.toNat 0) + ((A 68).getD (12 + y3).toInt.toNat 0)))) L)) rfl rfl rfl (hz_s87 _) (fun _ => ?_)
        refine w_n 2 (pc1 := 23) (ls1 := [some (.ref 67), some (.int x1), some (.int x2), some (.int (y3 + 1)), some (.int G159)]) (st1 := []) (hp1 := (hz F (uA A 87 ((A 87).set G159.toInt.toNat (((A 87).getD G159.toInt.toNat 0) + ((A 68).getD (12 + y3).toInt.toNat 0)))) L)) rfl ?_
        subst T
        have hb2 := i_up (B := (12 : Int32)) hb
        have hb3 : y3.toInt < 12 := hb
        exact ih (show m = (12 - (y3 + 1).toInt).toNat by rw [hb2]; omega) (fun q3 q4 => cvE rfl (funext fun q => if k0 : q = 87 then by subst k0; exact Eq.trans (b := (km_laysFirsts_23 (F 67 3) (A 68) x1 x2 m (y3 + 1) ((A 87).set G159.toInt.toNat (((A 87).getD G159.toInt.toNat 0) + ((A 68).getD (12 + y3).toInt.toNat 0))))) rfl rfl else by unfold uA; simp only [nb1 k0, cond_false]) rfl (K q3 q4))
      · have h2 : ¬ G154 = 0 := h
        rw [if_neg h2] at hE
        refine w_n 3 (pc1 := 23) (ls1 := [some (.ref 67), some (.int x1), some (.int x2), some (.int (y3 + 1)), o4]) (st1 := []) (hp1 := (hz F A L)) rfl ?_
        subst T
        have hb2 := i_up (B := (12 : Int32)) hb
        have hb3 : y3.toInt < 12 := hb
        exact ih (show m = (12 - (y3 + 1).toInt).toNat by rw [hb2]; omega) (fun q3 q4 => cvE rfl (funext fun q => if k0 : q = 87 then by subst k0; exact Eq.trans (b := (km_laysFirsts_23 (F 67 3) (A 68) x1 x2 m (y3 + 1) (A 87))) rfl rfl else by unfold uA; simp only [nb1 k0, cond_false]) rfl (K q3 q4))
noncomputable def km_laysFirsts (f67_3 : Int32) (a68 : List Int32) (a87 : List Int32) (x1 : Int32) (x2 : Int32) : List Int32 := (km_laysFirsts_23 f67_3 a68 x1 x2 12 0 (km_laysFirsts_2 6 0 a87))
theorem t_km_laysFirsts {f D : Nat} {F : Nat → Nat → Int32} {A : Nat → List Int32} {L : Nat → List Int64} {Q : Option Value → sm_H → Prop} {x1 : Int32} {x2 : Int32} (K : Q none (hz F (uA A 87 (km_laysFirsts (F 67 3) (A 68) (A 87) x1 x2)) L)) : wl_M f D 206 [.ref 67, .int x1, .int x2] (hz F A L) Q := by
  generalize hT : (km_laysFirsts (F 67 3) (A 68) (A 87) x1 x2) = T at K
  have hE : T = (km_laysFirsts_23 (F 67 3) (A 68) x1 x2 12 0 (km_laysFirsts_2 6 0 (A 87))) := hT.symm
  clear hT
  refine w_m (E := mm206) rfl ?_
  show wl_E f f (D - 1) mm206.2.2.2.2.2.2.2.2 0 [some (.ref 67), some (.int x1), some (.int x2), none, none] [] (hz F A L) Q
  refine w_n 2 (pc1 := 2) (ls1 := [some (.ref 67), some (.int x1), some (.int x2), some (.int 0), none]) (st1 := []) (hp1 := (hz F A L)) rfl ?_
  refine t_km_laysFirsts_2 6 (show (6 : Nat) = (6 - (0 : Int32).toInt).toNat by have e0 : (0 : Int32).toInt = 0 := rfl; first | rfl | omega) ?_
  intro r1
  show wl_E f _ _ mm206.2.2.2.2.2.2.2.2 21 [some (.ref 67), some (.int x1), some (.int x2), some (.int r1), none] [] (hz F (uA A 87 (km_laysFirsts_2 6 0 (A 87))) L) _
  generalize hG152 : (km_laysFirsts_2 6 0 (A 87)) = G152 at hE ⊢
  refine w_n 2 (pc1 := 23) (ls1 := [some (.ref 67), some (.int x1), some (.int x2), some (.int 0), none]) (st1 := []) (hp1 := (hz F (uA A 87 G152) L)) rfl ?_
  refine t_km_laysFirsts_23 12 (show (12 : Nat) = (12 - (0 : Int32).toInt).toNat by have e0 : (0 : Int32).toInt = 0 := rfl; first | rfl | omega) ?_
  intro r2 r3
  show wl_E f _ _ mm206.2.2.2.2.2.2.2.2 86 [some (.ref 67), some (.int x1), some (.int x2), some (.int r2), r3] [] (hz F (uA (uA A 87 G152) 87 (km_laysFirsts_23 (F 67 3) (A 68) x1 x2 12 0 G152)) L) _
  generalize hG160 : (km_laysFirsts_23 (F 67 3) (A 68) x1 x2 12 0 G152) = G160 at hE ⊢
  subst T
  exact w_r rfl rfl (cvQ rfl (funext fun q => if k0 : q = 87 then by subst k0; exact Eq.trans (b := G160) rfl rfl else by unfold uA; simp only [nb1 k0, cond_false]) rfl K)
noncomputable def km_mostVotes_67_87_4 (a87 : List Int32)  : Nat → Int32 → Int32 → Int32
  | 0, y2, _ => y2
  | m + 1, y2, y3 => (if (a87.getD y2.toInt.toNat 0).toInt < (a87.getD y3.toInt.toNat 0).toInt then (km_mostVotes_67_87_4 a87 m y3 (y3 + 1)) else (km_mostVotes_67_87_4 a87 m y2 (y3 + 1)))
theorem t_km_mostVotes_67_87_4 {f : Nat} {Q : Option Value → sm_H → Prop} : ∀ (m : Nat) {B D : Nat} {F : Nat → Nat → Int32} {A : Nat → List Int32} {L : Nat → List Int64} {y2 : Int32} {y3 : Int32}, m = ((F 67 3).toInt - y3.toInt).toNat → (∀ q3 : Int32, wl_E f B D mm207.2.2.2.2.2.2.2.2 29 [some (.ref 67), some (.ref 87), some (.int (km_mostVotes_67_87_4 (A 87) m y2 y3)), some (.int q3)] [] (hz F A L) Q) → wl_E f B D mm207.2.2.2.2.2.2.2.2 4 [some (.ref 67), some (.ref 87), some (.int y2), some (.int y3)] [] (hz F A L) Q := by
  intro m
  induction m with
  | zero =>
    intro B D F A L y2 y3 hm K
    generalize hT : (km_mostVotes_67_87_4 (A 87) 0 y2 y3) = T at K
    have hE : T = y2 := hT.symm
    clear hT
    refine w_n 3 (pc1 := 9) (ls1 := [some (.ref 67), some (.ref 87), some (.int y2), some (.int y3)]) (st1 := [.int (F 67 3), .int y3]) (hp1 := (hz F A L)) rfl ?_
    refine w_ge (p3 := 12) rfl rfl (fun hb => ?_) (fun h => False.elim (by have h : y3.toInt < (F 67 3).toInt := h; omega))
    subst T
    exact cvE rfl rfl rfl (K _)
  | succ m ih =>
    intro B D F A L y2 y3 hm K
    generalize hT : (km_mostVotes_67_87_4 (A 87) (m + 1) y2 y3) = T at K
    have hE : T = (if ((A 87).getD y2.toInt.toNat 0).toInt < ((A 87).getD y3.toInt.toNat 0).toInt then (km_mostVotes_67_87_4 (A 87) m y3 (y3 + 1)) else (km_mostVotes_67_87_4 (A 87) m y2 (y3 + 1))) := hT.symm
    clear hT
    refine w_n 3 (pc1 := 9) (ls1 := [some (.ref 67), some (.ref 87), some (.int y2), some (.int y3)]) (st1 := [.int (F 67 3), .int y3]) (hp1 := (hz F A L)) rfl ?_
    refine w_ge (p3 := 12) rfl rfl (fun h => False.elim (by have h : (F 67 3).toInt ≤ y3.toInt := h; omega)) (fun hb => ?_)
    refine w_n 2 (pc1 := 14) (ls1 := [some (.ref 67), some (.ref 87), some (.int y2), some (.int y3)]) (st1 := [.int y3, .ref 87]) (hp1 := (hz F A L)) rfl ?_
    refine w_al (k := 87) (l := (A 87)) rfl rfl rfl (fun ab => ?_)
    refine w_n 2 (pc1 := 17) (ls1 := [some (.ref 67), some (.ref 87), some (.int y2), some (.int y3)]) (st1 := [.int y2, .ref 87, .int ((A 87).getD y3.toInt.toNat 0)]) (hp1 := (hz F A L)) rfl ?_
    refine w_al (k := 87) (l := (A 87)) rfl rfl rfl (fun _ => ?_)
    refine w_le (p3 := 21) rfl rfl (fun h => ?_) (fun h => ?_)
    · have h1 : ((A 87).getD y3.toInt.toNat 0).toInt ≤ ((A 87).getD y2.toInt.toNat 0).toInt := h
      rw [if_neg (Int.not_lt.mpr h1)] at hE
      refine w_n 2 (pc1 := 4) (ls1 := [some (.ref 67), some (.ref 87), some (.int y2), some (.int (y3 + 1))]) (st1 := []) (hp1 := (hz F A L)) rfl ?_
      subst T
      have hb2 := i_up (B := (F 67 3)) hb
      have hb3 : y3.toInt < (F 67 3).toInt := hb
      exact ih (show m = ((F 67 3).toInt - (y3 + 1).toInt).toNat by rw [hb2]; omega) (fun q3 => cvE rfl rfl rfl (K q3))
    · have h1 : ((A 87).getD y2.toInt.toNat 0).toInt < ((A 87).getD y3.toInt.toNat 0).toInt := h
      rw [if_pos h1] at hE
      refine w_n 4 (pc1 := 4) (ls1 := [some (.ref 67), some (.ref 87), some (.int y3), some (.int (y3 + 1))]) (st1 := []) (hp1 := (hz F A L)) rfl ?_
      subst T
      have hb2 := i_up (B := (F 67 3)) hb
      have hb3 : y3.toInt < (F 67 3).toInt := hb
      exact ih (show m = ((F 67 3).toInt - (y3 + 1).toInt).toNat by rw [hb2]; omega) (fun q3 => cvE rfl rfl rfl (K q3))
noncomputable def km_mostVotes_67_87 (f67_3 : Int32) (a87 : List Int32) : Int32 := (km_mostVotes_67_87_4 a87 (f67_3.toInt - 1).toNat 0 1)
theorem t_km_mostVotes_67_87 {f D : Nat} {F : Nat → Nat → Int32} {A : Nat → List Int32} {L : Nat → List Int64} {Q : Option Value → sm_H → Prop} (K : Q (some (.int (km_mostVotes_67_87 (F 67 3) (A 87)))) (hz F A L)) : wl_M f D 207 [.ref 67, .ref 87] (hz F A L) Q := by
  generalize hT : (km_mostVotes_67_87 (F 67 3) (A 87)) = T at K
  have hE : T = (km_mostVotes_67_87_4 (A 87) ((F 67 3).toInt - 1).toNat 0 1) := hT.symm
  clear hT
  refine w_m (E := mm207) rfl ?_
  show wl_E f f (D - 1) mm207.2.2.2.2.2.2.2.2 0 [some (.ref 67), some (.ref 87), none, none] [] (hz F A L) Q
  refine w_n 4 (pc1 := 4) (ls1 := [some (.ref 67), some (.ref 87), some (.int 0), some (.int 1)]) (st1 := []) (hp1 := (hz F A L)) rfl ?_
  refine t_km_mostVotes_67_87_4 (((F 67 3).toInt - 1).toNat) (show ((F 67 3).toInt - 1).toNat = ((F 67 3).toInt - (1 : Int32).toInt).toNat by have e0 : (1 : Int32).toInt = 1 := rfl; first | rfl | omega) ?_
  intro r1
  show wl_E f _ _ mm207.2.2.2.2.2.2.2.2 29 [some (.ref 67), some (.ref 87), some (.int (km_mostVotes_67_87_4 (A 87) ((F 67 3).toInt - 1).toNat 0 1)), some (.int r1)] [] (hz F A L) _
  generalize hG162 : (km_mostVotes_67_87_4 (A 87) ((F 67 3).toInt - 1).toNat 0 1) = G162 at hE ⊢
  refine w_n 1 (pc1 := 30) (ls1 := [some (.ref 67), some (.ref 87), some (.int G162), some (.int r1)]) (st1 := [.int G162]) (hp1 := (hz F A L)) rfl ?_
  subst T
  exact w_ri rfl (cvQ rfl rfl rfl K)
noncomputable def km_firsts (f67_3 : Int32) (a68 : List Int32) (a87 : List Int32) (x1 : Int32) : Int32 × List Int32 := (if x1 = 10 then ((km_mostVotes_67_87 f67_3 (km_laysFirsts f67_3 a68 a87 (km_allMeasures f67_3) 0)), (km_laysFirsts f67_3 a68 a87 (km_allMeasures f67_3) 0)) else (if (km_isMeasure f67_3 x1) = 0 then ((-1), a87) else (((km_laysFirsts f67_3 a68 a87 (km_allMeasures f67_3) 0).getD x1.toInt.toNat 0), (km_laysFirsts f67_3 a68 a87 (km_allMeasures f67_3) 0))))
theorem t_km_firsts {f D : Nat} {F : Nat → Nat → Int32} {A : Nat → List Int32} {L : Nat → List Int64} {Q : Option Value → sm_H → Prop} {x1 : Int32} (K : Q (some (.int ((km_firsts (F 67 3) (A 68) (A 87) x1).1))) (hz F (uA A 87 ((km_firsts (F 67 3) (A 68) (A 87) x1).2)) L)) : wl_M f D 204 [.ref 67, .int x1] (hz F A L) Q := by
  generalize hT : (km_firsts (F 67 3) (A 68) (A 87) x1) = T at K
  have hE : T = (if x1 = 10 then ((km_mostVotes_67_87 (F 67 3) (km_laysFirsts (F 67 3) (A 68) (A 87) (km_allMeasures (F 67 3)) 0)), (km_laysFirsts (F 67 3) (A 68) (A 87) (km_allMeasures (F 67 3)) 0)) else (if (km_isMeasure (F 67 3) x1) = 0 then ((-1), (A 87)) else (((km_laysFirsts (F 67 3) (A 68) (A 87) (km_allMeasures (F 67 3)) 0).getD x1.toInt.toNat 0), (km_laysFirsts (F 67 3) (A 68) (A 87) (km_allMeasures (F 67 3)) 0)))) := hT.symm
  clear hT
  refine w_m (E := mm204) rfl ?_
  show wl_E f f (D - 1) mm204.2.2.2.2.2.2.2.2 0 [some (.ref 67), some (.int x1)] [] (hz F A L) Q
  refine w_n 2 (pc1 := 3) (ls1 := [some (.ref 67), some (.int x1)]) (st1 := [.int 10, .int x1]) (hp1 := (hz F A L)) rfl ?_
  refine w_eq (p3 := 6) rfl rfl (fun h => ?_) (fun h => ?_)
  · have h1 : x1 = 10 := h
    rw [if_pos h1] at hE
    refine w_n 2 (pc1 := 18) (ls1 := [some (.ref 67), some (.int x1)]) (st1 := [.ref 67, .ref 67]) (hp1 := (hz F A L)) rfl ?_
    refine w_c rfl rfl (t_km_allMeasures ?_)
    show wl_E f _ _ mm204.2.2.2.2.2.2.2.2 21 [some (.ref 67), some (.int x1)] [.int (km_allMeasures (F 67 3)), .ref 67] (hz F A L) _
    generalize hG151 : (km_allMeasures (F 67 3)) = G151 at hE ⊢
    refine w_n 1 (pc1 := 22) (ls1 := [some (.ref 67), some (.int x1)]) (st1 := [.int 0, .int G151, .ref 67]) (hp1 := (hz F A L)) rfl ?_
    refine w_c rfl rfl (t_km_laysFirsts ?_)
    show wl_E f _ _ mm204.2.2.2.2.2.2.2.2 25 [some (.ref 67), some (.int x1)] [] (hz F (uA A 87 (km_laysFirsts (F 67 3) (A 68) (A 87) G151 0)) L) _
    generalize hG161 : (km_laysFirsts (F 67 3) (A 68) (A 87) G151 0) = G161 at hE ⊢
    refine w_n 2 (pc1 := 28) (ls1 := [some (.ref 67), some (.int x1)]) (st1 := [.int 10, .int x1]) (hp1 := (hz F (uA A 87 G161) L)) rfl ?_
    refine w_ne (p3 := 31) rfl rfl (fun h => absurd h1 h) (fun _ => ?_)
    refine w_n 3 (pc1 := 36) (ls1 := [some (.ref 67), some (.int x1)]) (st1 := [.ref 87, .ref 67]) (hp1 := (hz F (uA A 87 G161) L)) rfl ?_
    refine w_c rfl rfl (t_km_mostVotes_67_87 ?_)
    show wl_E f _ _ mm204.2.2.2.2.2.2.2.2 39 [some (.ref 67), some (.int x1)] [.int (km_mostVotes_67_87 (F 67 3) G161)] (hz F (uA A 87 G161) L) _
    generalize hG163 : (km_mostVotes_67_87 (F 67 3) G161) = G163 at hE ⊢
    refine w_n 1 (pc1 := 48) (ls1 := [some (.ref 67), some (.int x1)]) (st1 := [.int G163]) (hp1 := (hz F (uA A 87 G161) L)) rfl ?_
    subst T
    exact w_ri rfl (cvQ rfl rfl rfl K)
  · have h1 : ¬ x1 = 10 := h
    rw [if_neg h1] at hE
    refine w_n 2 (pc1 := 8) (ls1 := [some (.ref 67), some (.int x1)]) (st1 := [.int x1, .ref 67]) (hp1 := (hz F A L)) rfl ?_
    refine w_c rfl rfl (t_km_isMeasure ?_)
    show wl_E f _ _ mm204.2.2.2.2.2.2.2.2 11 [some (.ref 67), some (.int x1)] [.int (km_isMeasure (F 67 3) x1)] (hz F A L) _
    generalize hG164 : (km_isMeasure (F 67 3) x1) = G164 at hE ⊢
    refine w_zne (p3 := 14) rfl rfl (fun h => ?_) (fun h => ?_)
    · have h2 : ¬ G164 = 0 := h
      rw [if_neg h2] at hE
      refine w_n 2 (pc1 := 18) (ls1 := [some (.ref 67), some (.int x1)]) (st1 := [.ref 67, .ref 67]) (hp1 := (hz F A L)) rfl ?_
      refine w_c rfl rfl (t_km_allMeasures ?_)
      show wl_E f _ _ mm204.2.2.2.2.2.2.2.2 21 [some (.ref 67), some (.int x1)] [.int (km_allMeasures (F 67 3)), .ref 67] (hz F A L) _
      generalize hG165 : (km_allMeasures (F 67 3)) = G165 at hE ⊢
      refine w_n 1 (pc1 := 22) (ls1 := [some (.ref 67), some (.int x1)]) (st1 := [.int 0, .int G165, .ref 67]) (hp1 := (hz F A L)) rfl ?_
      refine w_c rfl rfl (t_km_laysFirsts ?_)
      show wl_E f _ _ mm204.2.2.2.2.2.2.2.2 25 [some (.ref 67), some (.int x1)] [] (hz F (uA A 87 (km_laysFirsts (F 67 3) (A 68) (A 87) G165 0)) L) _
      generalize hG166 : (km_laysFirsts (F 67 3) (A 68) (A 87) G165 0) = G166 at hE ⊢
      refine w_n 2 (pc1 := 28) (ls1 := [some (.ref 67), some (.int x1)]) (st1 := [.int 10, .int x1]) (hp1 := (hz F (uA A 87 G166) L)) rfl ?_
      refine w_ne (p3 := 31) rfl rfl (fun _ => ?_) (fun h => absurd h h1)
      refine w_n 3 (pc1 := 47) (ls1 := [some (.ref 67), some (.int x1)]) (st1 := [.int x1, .ref 87]) (hp1 := (hz F (uA A 87 G166) L)) rfl ?_
      refine w_al (k := 87) (l := G166) rfl rfl rfl (fun _ => ?_)
      subst T
      exact w_ri rfl (cvQ rfl rfl rfl K)
    · have h2 : G164 = 0 := h
      rw [if_pos h2] at hE
      refine w_n 1 (pc1 := 15) (ls1 := [some (.ref 67), some (.int x1)]) (st1 := [.int (-1)]) (hp1 := (hz F A L)) rfl ?_
      subst T
      exact w_ri rfl (cvQ rfl (funext fun q => if k0 : q = 87 then by subst k0; exact Eq.trans (b := (A 87)) rfl rfl else by unfold uA; simp only [nb1 k0, cond_false]) rfl K)
noncomputable def kv_goesOut_11 (a35 : List Int32) (x1 : Int32) (x2 : Int32) (x3 : Int32) : Nat → Int32 → Int32 → Int32 → Int32
  | 0, _, y5, _ => y5
  | m + 1, y4, y5, y6 => (if y6 = x2 then (if ((x1 >>> (y6 &&& 31)) &&& 1) = 0 then (kv_goesOut_11 a35 x1 x2 x3 m y4 y5 (y6 + 1)) else (if y4.toInt < ((a35.getD ((x1 * 6) + y6).toInt.toNat 0) + x3).toInt then (kv_goesOut_11 a35 x1 x2 x3 m y4 y5 (y6 + 1)) else (kv_goesOut_11 a35 x1 x2 x3 m ((a35.getD ((x1 * 6) + y6).toInt.toNat 0) + x3) y6 (y6 + 1)))) else (if ((x1 >>> (y6 &&& 31)) &&& 1) = 0 then (kv_goesOut_11 a35 x1 x2 x3 m y4 y5 (y6 + 1)) else (if y4.toInt < ((a35.getD ((x1 * 6) + y6).toInt.toNat 0) + 0).toInt then (kv_goesOut_11 a35 x1 x2 x3 m y4 y5 (y6 + 1)) else (kv_goesOut_11 a35 x1 x2 x3 m ((a35.getD ((x1 * 6) + y6).toInt.toNat 0) + 0) y6 (y6 + 1)))))
theorem t_kv_goesOut_11 {f : Nat} {Q : Option Value → sm_H → Prop} : ∀ (m : Nat) {B D : Nat} {F : Nat → Nat → Int32} {A : Nat → List Int32} {L : Nat → List Int64} {x1 : Int32} {x2 : Int32} {x3 : Int32} {y4 : Int32} {y5 : Int32} {y6 : Int32} {o7 : Option Value}, m = ((F 3 0).toInt - y6.toInt).toNat → (∀ q4 : Int32, ∀ q6 : Int32, ∀ q7 : Option Value, wl_E f B D mm84.2.2.2.2.2.2.2.2 79 [some (.ref 30), some (.int x1), some (.int x2), some (.int x3), some (.int q4), some (.int (kv_goesOut_11 (A 35) x1 x2 x3 m y4 y5 y6)), some (.int q6), q7] [] (hz F A L) Q) → wl_E f B D mm84.2.2.2.2.2.2.2.2 11 [some (.ref 30), some (.int x1), some (.int x2), some (.int x3), some (.int y4), some (.int y5), some (.int y6), o7] [] (hz F A L) Q := by
  intro m
  induction m with
  | zero =>
    intro B D F A L x1 x2 x3 y4 y5 y6 o7 hm K
    generalize hT : (kv_goesOut_11 (A 35) x1 x2 x3 0 y4 y5 y6) = T at K
    have hE : T = y5 := hT.symm
    clear hT
    refine w_n 4 (pc1 := 20) (ls1 := [some (.ref 30), some (.int x1), some (.int x2), some (.int x3), some (.int y4), some (.int y5), some (.int y6), o7]) (st1 := [.int (F 3 0), .int y6]) (hp1 := (hz F A L)) rfl ?_
    refine w_ge (p3 := 23) rfl rfl (fun hb => ?_) (fun h => False.elim (by have h : y6.toInt < (F 3 0).toInt := h; omega))
    subst T
    exact cvE rfl rfl rfl (K _ _ _)
  | succ m ih =>
    intro B D F A L x1 x2 x3 y4 y5 y6 o7 hm K
    generalize hT : (kv_goesOut_11 (A 35) x1 x2 x3 (m + 1) y4 y5 y6) = T at K
    have hE : T = (if y6 = x2 then (if ((x1 >>> (y6 &&& 31)) &&& 1) = 0 then (kv_goesOut_11 (A 35) x1 x2 x3 m y4 y5 (y6 + 1)) else (if y4.toInt < (((A 35).getD ((x1 * 6) + y6).toInt.toNat 0) + x3).toInt then (kv_goesOut_11 (A 35) x1 x2 x3 m y4 y5 (y6 + 1)) else (kv_goesOut_11 (A 35) x1 x2 x3 m (((A 35).getD ((x1 * 6) + y6).toInt.toNat 0) + x3) y6 (y6 + 1)))) else (if ((x1 >>> (y6 &&& 31)) &&& 1) = 0 then (kv_goesOut_11 (A 35) x1 x2 x3 m y4 y5 (y6 + 1)) else (if y4.toInt < (((A 35).getD ((x1 * 6) + y6).toInt.toNat 0) + 0).toInt then (kv_goesOut_11 (A 35) x1 x2 x3 m y4 y5 (y6 + 1)) else (kv_goesOut_11 (A 35) x1 x2 x3 m (((A 35).getD ((x1 * 6) + y6).toInt.toNat 0) + 0) y6 (y6 + 1))))) := hT.symm
    clear hT
    refine w_n 4 (pc1 := 20) (ls1 := [some (.ref 30), some (.int x1), some (.int x2), some (.int x3), some (.int y4), some (.int y5), some (.int y6), o7]) (st1 := [.int (F 3 0), .int y6]) (hp1 := (hz F A L)) rfl ?_
    refine w_ge (p3 := 23) rfl rfl (fun h => False.elim (by have h : (F 3 0).toInt ≤ y6.toInt := h; omega)) (fun hb => ?_)
    refine w_n 7 (pc1 := 34) (ls1 := [some (.ref 30), some (.int x1), some (.int x2), some (.int x3), some (.int y4), some (.int y5), some (.int y6), o7]) (st1 := [.int ((x1 * 6) + y6), .ref 35]) (hp1 := (hz F A L)) rfl ?_
    refine w_al (k := 35) (l := (A 35)) rfl rfl rfl (fun _ => ?_)
    refine w_n 2 (pc1 := 38) (ls1 := [some (.ref 30), some (.int x1), some (.int x2), some (.int x3), some (.int y4), some (.int y5), some (.int y6), o7]) (st1 := [.int x2, .int y6, .int ((A 35).getD ((x1 * 6) + y6).toInt.toNat 0)]) (hp1 := (hz F A L)) rfl ?_
    refine w_ne (p3 := 41) rfl rfl (fun h => ?_) (fun h => ?_)
    · have h1 : ¬ y6 = x2 := h
      rw [if_neg h1] at hE
      refine w_n 8 (pc1 := 55) (ls1 := [some (.ref 30), some (.int x1), some (.int x2), some (.int x3), some (.int y4), some (.int y5), some (.int y6), some (.int (((A 35).getD ((x1 * 6) + y6).toInt.toNat 0) + 0))]) (st1 := [.int ((x1 >>> (y6 &&& 31)) &&& 1)]) (hp1 := (hz F A L)) rfl ?_
      refine w_zeq (p3 := 58) rfl rfl (fun h => ?_) (fun h => ?_)
      · have h2 : ((x1 >>> (y6 &&& 31)) &&& 1) = 0 := h
        rw [if_pos h2] at hE
        refine w_n 2 (pc1 := 11) (ls1 := [some (.ref 30), some (.int x1), some (.int x2), some (.int x3), some (.int y4), some (.int y5), some (.int (y6 + 1)), some (.int (((A 35).getD ((x1 * 6) + y6).toInt.toNat 0) + 0))]) (st1 := []) (hp1 := (hz F A L)) rfl ?_
        subst T
        have hb2 := i_up (B := (F 3 0)) hb
        have hb3 : y6.toInt < (F 3 0).toInt := hb
        exact ih (show m = ((F 3 0).toInt - (y6 + 1).toInt).toNat by rw [hb2]; omega) (fun q4 q6 q7 => cvE rfl rfl rfl (K q4 q6 q7))
      · have h2 : ¬ ((x1 >>> (y6 &&& 31)) &&& 1) = 0 := h
        rw [if_neg h2] at hE
        refine w_n 2 (pc1 := 62) (ls1 := [some (.ref 30), some (.int x1), some (.int x2), some (.int x3), some (.int y4), some (.int y5), some (.int y6), some (.int (((A 35).getD ((x1 * 6) + y6).toInt.toNat 0) + 0))]) (st1 := [.int y4, .int (((A 35).getD ((x1 * 6) + y6).toInt.toNat 0) + 0)]) (hp1 := (hz F A L)) rfl ?_
        refine w_gt (p3 := 65) rfl rfl (fun h => ?_) (fun h => ?_)
        · have h3 : y4.toInt < (((A 35).getD ((x1 * 6) + y6).toInt.toNat 0) + 0).toInt := h
          rw [if_pos h3] at hE
          refine w_n 2 (pc1 := 11) (ls1 := [some (.ref 30), some (.int x1), some (.int x2), some (.int x3), some (.int y4), some (.int y5), some (.int (y6 + 1)), some (.int (((A 35).getD ((x1 * 6) + y6).toInt.toNat 0) + 0))]) (st1 := []) (hp1 := (hz F A L)) rfl ?_
          subst T
          have hb2 := i_up (B := (F 3 0)) hb
          have hb3 : y6.toInt < (F 3 0).toInt := hb
          exact ih (show m = ((F 3 0).toInt - (y6 + 1).toInt).toNat by rw [hb2]; omega) (fun q4 q6 q7 => cvE rfl rfl rfl (K q4 q6 q7))
        · have h3 : (((A 35).getD ((x1 * 6) + y6).toInt.toNat 0) + 0).toInt ≤ y4.toInt := h
          rw [if_neg (Int.not_lt.mpr h3)] at hE
          refine w_n 6 (pc1 := 11) (ls1 := [some (.ref 30), some (.int x1), some (.int x2), some (.int x3), some (.int (((A 35).getD ((x1 * 6) + y6).toInt.toNat 0) + 0)), some (.int y6), some (.int (y6 + 1)), some (.int (((A 35).getD ((x1 * 6) + y6).toInt.toNat 0) + 0))]) (st1 := []) (hp1 := (hz F A L)) rfl ?_
          subst T
          have hb2 := i_up (B := (F 3 0)) hb
          have hb3 : y6.toInt < (F 3 0).toInt := hb
          exact ih (show m = ((F 3 0).toInt - (y6 + 1).toInt).toNat by rw [hb2]; omega) (fun q4 q6 q7 => cvE rfl rfl rfl (K q4 q6 q7))
    · have h1 : y6 = x2 := h
      rw [if_pos h1] at hE
      refine w_n 9 (pc1 := 55) (ls1 := [some (.ref 30), some (.int x1), some (.int x2), some (.int x3), some (.int y4), some (.int y5), some (.int y6), some (.int (((A 35).getD ((x1 * 6) + y6).toInt.toNat 0) + x3))]) (st1 := [.int ((x1 >>> (y6 &&& 31)) &&& 1)]) (hp1 := (hz F A L)) rfl ?_
      refine w_zeq (p3 := 58) rfl rfl (fun h => ?_) (fun h => ?_)
      · have h4 : ((x1 >>> (y6 &&& 31)) &&& 1) = 0 := h
        rw [if_pos h4] at hE
        refine w_n 2 (pc1 := 11) (ls1 := [some (.ref 30), some (.int x1), some (.int x2), some (.int x3), some (.int y4), some (.int y5), some (.int (y6 + 1)), some (.int (((A 35).getD ((x1 * 6) + y6).toInt.toNat 0) + x3))]) (st1 := []) (hp1 := (hz F A L)) rfl ?_
        subst T
        have hb2 := i_up (B := (F 3 0)) hb
        have hb3 : y6.toInt < (F 3 0).toInt := hb
        exact ih (show m = ((F 3 0).toInt - (y6 + 1).toInt).toNat by rw [hb2]; omega) (fun q4 q6 q7 => cvE rfl rfl rfl (K q4 q6 q7))
      · have h4 : ¬ ((x1 >>> (y6 &&& 31)) &&& 1) = 0 := h
        rw [if_neg h4] at hE
        refine w_n 2 (pc1 := 62) (ls1 := [some (.ref 30), some (.int x1), some (.int x2), some (.int x3), some (.int y4), some (.int y5), some (.int y6), some (.int (((A 35).getD ((x1 * 6) + y6).toInt.toNat 0) + x3))]) (st1 := [.int y4, .int (((A 35).getD ((x1 * 6) + y6).toInt.toNat 0) + x3)]) (hp1 := (hz F A L)) rfl ?_
        refine w_gt (p3 := 65) rfl rfl (fun h => ?_) (fun h => ?_)
        · have h5 : y4.toInt < (((A 35).getD ((x1 * 6) + y6).toInt.toNat 0) + x3).toInt := h
          rw [if_pos h5] at hE
          refine w_n 2 (pc1 := 11) (ls1 := [some (.ref 30), some (.int x1), some (.int x2), some (.int x3), some (.int y4), some (.int y5), some (.int (y6 + 1)), some (.int (((A 35).getD ((x1 * 6) + y6).toInt.toNat 0) + x3))]) (st1 := []) (hp1 := (hz F A L)) rfl ?_
          subst T
          have hb2 := i_up (B := (F 3 0)) hb
          have hb3 : y6.toInt < (F 3 0).toInt := hb
          exact ih (show m = ((F 3 0).toInt - (y6 + 1).toInt).toNat by rw [hb2]; omega) (fun q4 q6 q7 => cvE rfl rfl rfl (K q4 q6 q7))
        · have h5 : (((A 35).getD ((x1 * 6) + y6).toInt.toNat 0) + x3).toInt ≤ y4.toInt := h
          rw [if_neg (Int.not_lt.mpr h5)] at hE
          refine w_n 6 (pc1 := 11) (ls1 := [some (.ref 30), some (.int x1), some (.int x2), some (.int x3), some (.int (((A 35).getD ((x1 * 6) + y6).toInt.toNat 0) + x3)), some (.int y6), some (.int (y6 + 1)), some (.int (((A 35).getD ((x1 * 6) + y6).toInt.toNat 0) + x3))]) (st1 := []) (hp1 := (hz F A L)) rfl ?_
          subst T
          have hb2 := i_up (B := (F 3 0)) hb
          have hb3 : y6.toInt < (F 3 0).toInt := hb
          exact ih (show m = ((F 3 0).toInt - (y6 + 1).toInt).toNat by rw [hb2]; omega) (fun q4 q6 q7 => cvE rfl rfl rfl (K q4 q6 q7))
noncomputable def kv_goesOut (f3_0 : Int32) (a35 : List Int32) (x1 : Int32) (x2 : Int32) (x3 : Int32) : Int32 := (kv_goesOut_11 a35 x1 x2 x3 f3_0.toInt.toNat 240 0 0)
theorem t_kv_goesOut {f D : Nat} {F : Nat → Nat → Int32} {A : Nat → List Int32} {L : Nat → List Int64} {Q : Option Value → sm_H → Prop} {x1 : Int32} {x2 : Int32} {x3 : Int32} (K : Q (some (.int (kv_goesOut (F 3 0) (A 35) x1 x2 x3))) (hz F A L)) : wl_M f D 84 [.ref 30, .int x1, .int x2, .int x3] (hz F A L) Q := by
  generalize hT : (kv_goesOut (F 3 0) (A 35) x1 x2 x3) = T at K
  have hE : T = (kv_goesOut_11 (A 35) x1 x2 x3 (F 3 0).toInt.toNat 240 0 0) := hT.symm
  clear hT
  refine w_m (E := mm84) rfl ?_
  show wl_E f f (D - 1) mm84.2.2.2.2.2.2.2.2 0 [some (.ref 30), some (.int x1), some (.int x2), some (.int x3), none, none, none, none] [] (hz F A L) Q
  refine w_n 6 (pc1 := 11) (ls1 := [some (.ref 30), some (.int x1), some (.int x2), some (.int x3), some (.int 240), some (.int 0), some (.int 0), none]) (st1 := []) (hp1 := (hz F A L)) rfl ?_
  refine t_kv_goesOut_11 (F 3 0).toInt.toNat (show (F 3 0).toInt.toNat = ((F 3 0).toInt - (0 : Int32).toInt).toNat by have e0 : (0 : Int32).toInt = 0 := rfl; first | rfl | omega) ?_
  intro r1 r2 r3
  show wl_E f _ _ mm84.2.2.2.2.2.2.2.2 79 [some (.ref 30), some (.int x1), some (.int x2), some (.int x3), some (.int r1), some (.int (kv_goesOut_11 (A 35) x1 x2 x3 (F 3 0).toInt.toNat 240 0 0)), some (.int r2), r3] [] (hz F A L) _
  generalize hG169 : (kv_goesOut_11 (A 35) x1 x2 x3 (F 3 0).toInt.toNat 240 0 0) = G169 at hE ⊢
  refine w_n 1 (pc1 := 81) (ls1 := [some (.ref 30), some (.int x1), some (.int x2), some (.int x3), some (.int r1), some (.int G169), some (.int r2), r3]) (st1 := [.int G169]) (hp1 := (hz F A L)) rfl ?_
  subst T
  exact w_ri rfl (cvQ rfl rfl rfl K)
noncomputable def kv_countRunOff_10 (f3_0 : Int32) (f3_1 : Int32) (a6 : List Int32) (l11 : List Int64)  : Nat → Int32 → Int32 → List Int32 → List Int32 → List Int32 × List Int32
  | 0, _, _, a35, a36 => (a35, a36)
  | m + 1, y1, y2, a35, a36 => (kv_countRunOff_10 f3_0 f3_1 a6 l11 m (y1 &&& (((1 : Int32) <<< (((a36.set y2.toInt.toNat (kv_goesOut f3_0 (kv_tallyFirsts f3_0 f3_1 a6 a35 l11 y1 (-1)) y1 (-1) 0)).getD y2.toInt.toNat 0) &&& 31)) ^^^ (-1))) (y2 + 1) (kv_tallyFirsts f3_0 f3_1 a6 a35 l11 y1 (-1)) (a36.set y2.toInt.toNat (kv_goesOut f3_0 (kv_tallyFirsts f3_0 f3_1 a6 a35 l11 y1 (-1)) y1 (-1) 0)))
theorem t_kv_countRunOff_10 {f : Nat} {Q : Option Value → sm_H → Prop} : ∀ (m : Nat) {B D : Nat} {F : Nat → Nat → Int32} {A : Nat → List Int32} {L : Nat → List Int64} {y1 : Int32} {y2 : Int32}, m = ((F 3 0).toInt - y2.toInt).toNat → (∀ q1 : Int32, ∀ q2 : Int32, wl_E f B D mm83.2.2.2.2.2.2.2.2 59 [some (.ref 30), some (.int q1), some (.int q2)] [] (hz F (uA (uA A 35 ((kv_countRunOff_10 (F 3 0) (F 3 1) (A 6) (L 11) m y1 y2 (A 35) (A 36)).1)) 36 ((kv_countRunOff_10 (F 3 0) (F 3 1) (A 6) (L 11) m y1 y2 (A 35) (A 36)).2)) L) Q) → wl_E f B D mm83.2.2.2.2.2.2.2.2 10 [some (.ref 30), some (.int y1), some (.int y2)] [] (hz F A L) Q := by
  intro m
  induction m with
  | zero =>
    intro B D F A L y1 y2 hm K
    generalize hT : (kv_countRunOff_10 (F 3 0) (F 3 1) (A 6) (L 11) 0 y1 y2 (A 35) (A 36)) = T at K
    have hE : T = ((A 35), (A 36)) := hT.symm
    clear hT
    refine w_n 4 (pc1 := 18) (ls1 := [some (.ref 30), some (.int y1), some (.int y2)]) (st1 := [.int (F 3 0), .int y2]) (hp1 := (hz F A L)) rfl ?_
    refine w_ge (p3 := 21) rfl rfl (fun hb => ?_) (fun h => False.elim (by have h : y2.toInt < (F 3 0).toInt := h; omega))
    subst T
    exact cvE rfl (funext fun q => if k0 : q = 35 then by subst k0; exact Eq.trans (b := (A 35)) rfl rfl else if k1 : q = 36 then by subst k1; exact Eq.trans (b := (A 36)) rfl rfl else by unfold uA; simp only [nb1 k0, nb1 k1, cond_false]) rfl (K _ _)
  | succ m ih =>
    intro B D F A L y1 y2 hm K
    generalize hT : (kv_countRunOff_10 (F 3 0) (F 3 1) (A 6) (L 11) (m + 1) y1 y2 (A 35) (A 36)) = T at K
    have hE : T = (kv_countRunOff_10 (F 3 0) (F 3 1) (A 6) (L 11) m (y1 &&& (((1 : Int32) <<< ((((A 36).set y2.toInt.toNat (kv_goesOut (F 3 0) (kv_tallyFirsts (F 3 0) (F 3 1) (A 6) (A 35) (L 11) y1 (-1)) y1 (-1) 0)).getD y2.toInt.toNat 0) &&& 31)) ^^^ (-1))) (y2 + 1) (kv_tallyFirsts (F 3 0) (F 3 1) (A 6) (A 35) (L 11) y1 (-1)) ((A 36).set y2.toInt.toNat (kv_goesOut (F 3 0) (kv_tallyFirsts (F 3 0) (F 3 1) (A 6) (A 35) (L 11) y1 (-1)) y1 (-1) 0))) := hT.symm
    clear hT
    refine w_n 4 (pc1 := 18) (ls1 := [some (.ref 30), some (.int y1), some (.int y2)]) (st1 := [.int (F 3 0), .int y2]) (hp1 := (hz F A L)) rfl ?_
    refine w_ge (p3 := 21) rfl rfl (fun h => False.elim (by have h : (F 3 0).toInt ≤ y2.toInt := h; omega)) (fun hb => ?_)
    refine w_n 3 (pc1 := 24) (ls1 := [some (.ref 30), some (.int y1), some (.int y2)]) (st1 := [.int (-1), .int y1, .ref 30]) (hp1 := (hz F A L)) rfl ?_
    refine w_c rfl rfl (t_kv_tallyFirsts ?_)
    show wl_E f _ _ mm83.2.2.2.2.2.2.2.2 27 [some (.ref 30), some (.int y1), some (.int y2)] [] (hz F (uA A 35 (kv_tallyFirsts (F 3 0) (F 3 1) (A 6) (A 35) (L 11) y1 (-1))) L) _
    generalize hG168 : (kv_tallyFirsts (F 3 0) (F 3 1) (A 6) (A 35) (L 11) y1 (-1)) = G168 at hE ⊢
    refine w_n 7 (pc1 := 36) (ls1 := [some (.ref 30), some (.int y1), some (.int y2)]) (st1 := [.int 0, .int (-1), .int y1, .ref 30, .int y2, .ref 36]) (hp1 := (hz F (uA A 35 G168) L)) rfl ?_
    refine w_c rfl rfl (t_kv_goesOut ?_)
    show wl_E f _ _ mm83.2.2.2.2.2.2.2.2 39 [some (.ref 30), some (.int y1), some (.int y2)] [.int (kv_goesOut (F 3 0) G168 y1 (-1) 0), .int y2, .ref 36] (hz F (uA A 35 G168) L) _
    generalize hG170 : (kv_goesOut (F 3 0) G168 y1 (-1) 0) = G170 at hE ⊢
    refine w_as (k := 36) (l := (A 36)) (hp1 := (hz F (uA (uA A 35 G168) 36 ((A 36).set y2.toInt.toNat G170)) L)) rfl rfl rfl (hz_s36 _) (fun ab => ?_)
    refine w_n 5 (pc1 := 47) (ls1 := [some (.ref 30), some (.int y1), some (.int y2)]) (st1 := [.int y2, .ref 36, .int 1, .int y1]) (hp1 := (hz F (uA (uA A 35 G168) 36 ((A 36).set y2.toInt.toNat G170)) L)) rfl ?_
    refine w_al (k := 36) (l := ((A 36).set y2.toInt.toNat G170)) rfl rfl rfl (fun ab => ?_)
    refine w_n 7 (pc1 := 10) (ls1 := [some (.ref 30), some (.int (y1 &&& (((1 : Int32) <<< ((((A 36).set y2.toInt.toNat G170).getD y2.toInt.toNat 0) &&& 31)) ^^^ (-1)))), some (.int (y2 + 1))]) (st1 := []) (hp1 := (hz F (uA (uA A 35 G168) 36 ((A 36).set y2.toInt.toNat G170)) L)) rfl ?_
    subst T
    have hb2 := i_up (B := (F 3 0)) hb
    have hb3 : y2.toInt < (F 3 0).toInt := hb
    exact ih (show m = ((F 3 0).toInt - (y2 + 1).toInt).toNat by rw [hb2]; omega) (fun q1 q2 => cvE rfl (funext fun q => if k0 : q = 35 then by subst k0; exact Eq.trans (b := (kv_countRunOff_10 (F 3 0) (F 3 1) (A 6) (L 11) m (y1 &&& (((1 : Int32) <<< ((((A 36).set y2.toInt.toNat G170).getD y2.toInt.toNat 0) &&& 31)) ^^^ (-1))) (y2 + 1) G168 ((A 36).set y2.toInt.toNat G170)).1) rfl rfl else if k1 : q = 36 then by subst k1; exact Eq.trans (b := (kv_countRunOff_10 (F 3 0) (F 3 1) (A 6) (L 11) m (y1 &&& (((1 : Int32) <<< ((((A 36).set y2.toInt.toNat G170).getD y2.toInt.toNat 0) &&& 31)) ^^^ (-1))) (y2 + 1) G168 ((A 36).set y2.toInt.toNat G170)).2) rfl rfl else by unfold uA; simp only [nb1 k0, nb1 k1, cond_false]) rfl (K q1 q2))
noncomputable def kv_countRunOff (f3_0 : Int32) (f3_1 : Int32) (a6 : List Int32) (a35 : List Int32) (a36 : List Int32) (l11 : List Int64) : List Int32 × List Int32 := ((kv_countRunOff_10 f3_0 f3_1 a6 l11 f3_0.toInt.toNat (kt_allMeasures f3_0) 0 a35 a36).1, (kv_countRunOff_10 f3_0 f3_1 a6 l11 f3_0.toInt.toNat (kt_allMeasures f3_0) 0 a35 a36).2)
theorem t_kv_countRunOff {f D : Nat} {F : Nat → Nat → Int32} {A : Nat → List Int32} {L : Nat → List Int64} {Q : Option Value → sm_H → Prop} (K : Q none (hz F (uA (uA A 35 ((kv_countRunOff (F 3 0) (F 3 1) (A 6) (A 35) (A 36) (L 11)).1)) 36 ((kv_countRunOff (F 3 0) (F 3 1) (A 6) (A 35) (A 36) (L 11)).2)) L)) : wl_M f D 83 [.ref 30] (hz F A L) Q := by
  generalize hT : (kv_countRunOff (F 3 0) (F 3 1) (A 6) (A 35) (A 36) (L 11)) = T at K
  have hE : T = ((kv_countRunOff_10 (F 3 0) (F 3 1) (A 6) (L 11) (F 3 0).toInt.toNat (kt_allMeasures (F 3 0)) 0 (A 35) (A 36)).1, (kv_countRunOff_10 (F 3 0) (F 3 1) (A 6) (L 11) (F 3 0).toInt.toNat (kt_allMeasures (F 3 0)) 0 (A 35) (A 36)).2) := hT.symm
  clear hT
  refine w_m (E := mm83) rfl ?_
  show wl_E f f (D - 1) mm83.2.2.2.2.2.2.2.2 0 [some (.ref 30), none, none] [] (hz F A L) Q
  refine w_n 2 (pc1 := 4) (ls1 := [some (.ref 30), none, none]) (st1 := [.ref 3]) (hp1 := (hz F A L)) rfl ?_
  refine w_c rfl rfl (t_kt_allMeasures ?_)
  show wl_E f _ _ mm83.2.2.2.2.2.2.2.2 7 [some (.ref 30), none, none] [.int (kt_allMeasures (F 3 0))] (hz F A L) _
  generalize hG167 : (kt_allMeasures (F 3 0)) = G167 at hE ⊢
  refine w_n 3 (pc1 := 10) (ls1 := [some (.ref 30), some (.int G167), some (.int 0)]) (st1 := []) (hp1 := (hz F A L)) rfl ?_
  refine t_kv_countRunOff_10 (F 3 0).toInt.toNat (show (F 3 0).toInt.toNat = ((F 3 0).toInt - (0 : Int32).toInt).toNat by have e0 : (0 : Int32).toInt = 0 := rfl; first | rfl | omega) ?_
  intro r1 r2
  show wl_E f _ _ mm83.2.2.2.2.2.2.2.2 59 [some (.ref 30), some (.int r1), some (.int r2)] [] (hz F (uA (uA A 35 (kv_countRunOff_10 (F 3 0) (F 3 1) (A 6) (L 11) (F 3 0).toInt.toNat G167 0 (A 35) (A 36)).1) 36 (kv_countRunOff_10 (F 3 0) (F 3 1) (A 6) (L 11) (F 3 0).toInt.toNat G167 0 (A 35) (A 36)).2) L) _
  generalize hG171 : (kv_countRunOff_10 (F 3 0) (F 3 1) (A 6) (L 11) (F 3 0).toInt.toNat G167 0 (A 35) (A 36)) = G171 at hE ⊢
  subst T
  exact w_r rfl rfl (cvQ rfl rfl rfl K)
noncomputable def kc_runOff (f3_0 : Int32) (f3_1 : Int32) (a6 : List Int32) (a35 : List Int32) (a36 : List Int32) (l11 : List Int64) (x1 : Int32) : Int32 × List Int32 × List Int32 := (if x1 = 10 then (((kv_countRunOff f3_0 f3_1 a6 a35 a36 l11).2.getD (f3_0 - 1).toInt.toNat 0), (kv_countRunOff f3_0 f3_1 a6 a35 a36 l11).1, (kv_countRunOff f3_0 f3_1 a6 a35 a36 l11).2) else (if (kc_within x1 0 ((f3_0 - 1) - 1)) = 0 then ((-1), a35, a36) else (((kv_countRunOff f3_0 f3_1 a6 a35 a36 l11).2.getD x1.toInt.toNat 0), (kv_countRunOff f3_0 f3_1 a6 a35 a36 l11).1, (kv_countRunOff f3_0 f3_1 a6 a35 a36 l11).2)))
theorem t_kc_runOff {f D : Nat} {F : Nat → Nat → Int32} {A : Nat → List Int32} {L : Nat → List Int64} {Q : Option Value → sm_H → Prop} {x1 : Int32} (K : Q (some (.int ((kc_runOff (F 3 0) (F 3 1) (A 6) (A 35) (A 36) (L 11) x1).1))) (hz F (uA (uA A 35 ((kc_runOff (F 3 0) (F 3 1) (A 6) (A 35) (A 36) (L 11) x1).2.1)) 36 ((kc_runOff (F 3 0) (F 3 1) (A 6) (A 35) (A 36) (L 11) x1).2.2)) L)) : wl_M f D 82 [.ref 0, .int x1] (hz F A L) Q := by
  generalize hT : (kc_runOff (F 3 0) (F 3 1) (A 6) (A 35) (A 36) (L 11) x1) = T at K
  have hE : T = (if x1 = 10 then (((kv_countRunOff (F 3 0) (F 3 1) (A 6) (A 35) (A 36) (L 11)).2.getD ((F 3 0) - 1).toInt.toNat 0), (kv_countRunOff (F 3 0) (F 3 1) (A 6) (A 35) (A 36) (L 11)).1, (kv_countRunOff (F 3 0) (F 3 1) (A 6) (A 35) (A 36) (L 11)).2) else (if (kc_within x1 0 (((F 3 0) - 1) - 1)) = 0 then ((-1), (A 35), (A 36)) else (((kv_countRunOff (F 3 0) (F 3 1) (A 6) (A 35) (A 36) (L 11)).2.getD x1.toInt.toNat 0), (kv_countRunOff (F 3 0) (F 3 1) (A 6) (A 35) (A 36) (L 11)).1, (kv_countRunOff (F 3 0) (F 3 1) (A 6) (A 35) (A 36) (L 11)).2))) := hT.symm
  clear hT
  refine w_m (E := mm82) rfl ?_
  show wl_E f f (D - 1) mm82.2.2.2.2.2.2.2.2 0 [some (.ref 0), some (.int x1), none] [] (hz F A L) Q
  refine w_n 8 (pc1 := 13) (ls1 := [some (.ref 0), some (.int x1), some (.int ((F 3 0) - 1))]) (st1 := [.int 10, .int x1]) (hp1 := (hz F A L)) rfl ?_
  refine w_eq (p3 := 16) rfl rfl (fun h => ?_) (fun h => ?_)
  · have h1 : x1 = 10 := h
    rw [if_pos h1] at hE
    refine w_n 2 (pc1 := 33) (ls1 := [some (.ref 0), some (.int x1), some (.int ((F 3 0) - 1))]) (st1 := [.ref 30]) (hp1 := (hz F A L)) rfl ?_
    refine w_c rfl rfl (t_kv_countRunOff ?_)
    show wl_E f _ _ mm82.2.2.2.2.2.2.2.2 36 [some (.ref 0), some (.int x1), some (.int ((F 3 0) - 1))] [] (hz F (uA (uA A 35 (kv_countRunOff (F 3 0) (F 3 1) (A 6) (A 35) (A 36) (L 11)).1) 36 (kv_countRunOff (F 3 0) (F 3 1) (A 6) (A 35) (A 36) (L 11)).2) L) _
    generalize hG172 : (kv_countRunOff (F 3 0) (F 3 1) (A 6) (A 35) (A 36) (L 11)) = G172 at hE ⊢
    refine w_n 5 (pc1 := 46) (ls1 := [some (.ref 0), some (.int x1), some (.int ((F 3 0) - 1))]) (st1 := [.int 10, .int x1, .ref 36]) (hp1 := (hz F (uA (uA A 35 G172.1) 36 G172.2) L)) rfl ?_
    refine w_ne (p3 := 49) rfl rfl (fun h => absurd h1 h) (fun _ => ?_)
    refine w_n 2 (pc1 := 54) (ls1 := [some (.ref 0), some (.int x1), some (.int ((F 3 0) - 1))]) (st1 := [.int ((F 3 0) - 1), .ref 36]) (hp1 := (hz F (uA (uA A 35 G172.1) 36 G172.2) L)) rfl ?_
    refine w_al (k := 36) (l := G172.2) rfl rfl rfl (fun _ => ?_)
    subst T
    exact w_ri rfl (cvQ rfl rfl rfl K)
  · have h1 : ¬ x1 = 10 := h
    rw [if_neg h1] at hE
    refine w_n 5 (pc1 := 21) (ls1 := [some (.ref 0), some (.int x1), some (.int ((F 3 0) - 1))]) (st1 := [.int (((F 3 0) - 1) - 1), .int 0, .int x1]) (hp1 := (hz F A L)) rfl ?_
    refine w_c rfl rfl (t_kc_within ?_)
    show wl_E f _ _ mm82.2.2.2.2.2.2.2.2 24 [some (.ref 0), some (.int x1), some (.int ((F 3 0) - 1))] [.int (kc_within x1 0 (((F 3 0) - 1) - 1))] (hz F A L) _
    generalize hG173 : (kc_within x1 0 (((F 3 0) - 1) - 1)) = G173 at hE ⊢
    refine w_zne (p3 := 27) rfl rfl (fun h => ?_) (fun h => ?_)
    · have h2 : ¬ G173 = 0 := h
      rw [if_neg h2] at hE
      refine w_n 2 (pc1 := 33) (ls1 := [some (.ref 0), some (.int x1), some (.int ((F 3 0) - 1))]) (st1 := [.ref 30]) (hp1 := (hz F A L)) rfl ?_
      refine w_c rfl rfl (t_kv_countRunOff ?_)
      show wl_E f _ _ mm82.2.2.2.2.2.2.2.2 36 [some (.ref 0), some (.int x1), some (.int ((F 3 0) - 1))] [] (hz F (uA (uA A 35 (kv_countRunOff (F 3 0) (F 3 1) (A 6) (A 35) (A 36) (L 11)).1) 36 (kv_countRunOff (F 3 0) (F 3 1) (A 6) (A 35) (A 36) (L 11)).2) L) _
      generalize hG174 : (kv_countRunOff (F 3 0) (F 3 1) (A 6) (A 35) (A 36) (L 11)) = G174 at hE ⊢
      refine w_n 5 (pc1 := 46) (ls1 := [some (.ref 0), some (.int x1), some (.int ((F 3 0) - 1))]) (st1 := [.int 10, .int x1, .ref 36]) (hp1 := (hz F (uA (uA A 35 G174.1) 36 G174.2) L)) rfl ?_
      refine w_ne (p3 := 49) rfl rfl (fun _ => ?_) (fun h => absurd h h1)
      refine w_n 1 (pc1 := 54) (ls1 := [some (.ref 0), some (.int x1), some (.int ((F 3 0) - 1))]) (st1 := [.int x1, .ref 36]) (hp1 := (hz F (uA (uA A 35 G174.1) 36 G174.2) L)) rfl ?_
      refine w_al (k := 36) (l := G174.2) rfl rfl rfl (fun _ => ?_)
      subst T
      exact w_ri rfl (cvQ rfl rfl rfl K)
    · have h2 : G173 = 0 := h
      rw [if_pos h2] at hE
      refine w_n 1 (pc1 := 28) (ls1 := [some (.ref 0), some (.int x1), some (.int ((F 3 0) - 1))]) (st1 := [.int (-1)]) (hp1 := (hz F A L)) rfl ?_
      subst T
      exact w_ri rfl (cvQ rfl (funext fun q => if k0 : q = 35 then by subst k0; exact Eq.trans (b := (A 35)) rfl rfl else if k1 : q = 36 then by subst k1; exact Eq.trans (b := (A 36)) rfl rfl else by unfold uA; simp only [nb1 k0, nb1 k1, cond_false]) rfl K)
noncomputable def km_runsOff_28 (a87 : List Int32) (x1 : Int32) : Nat → Int32 → Int32 → Int32
  | 0, y3, _ => y3
  | m + 1, y3, y4 => (if (km_has x1 y4) = 0 then (km_runsOff_28 a87 x1 m y3 (y4 + 1)) else (if y3 = (-1) then (km_runsOff_28 a87 x1 m y4 (y4 + 1)) else (if (a87.getD y3.toInt.toNat 0).toInt < (a87.getD y4.toInt.toNat 0).toInt then (km_runsOff_28 a87 x1 m y3 (y4 + 1)) else (km_runsOff_28 a87 x1 m y4 (y4 + 1)))))
theorem t_km_runsOff_28 {f : Nat} {Q : Option Value → sm_H → Prop} : ∀ (m : Nat) {B D : Nat} {F : Nat → Nat → Int32} {A : Nat → List Int32} {L : Nat → List Int64} {x1 : Int32} {x2 : Int32} {y3 : Int32} {y4 : Int32}, m = ((F 67 3).toInt - y4.toInt).toNat → (∀ q4 : Int32, wl_E f B D mm210.2.2.2.2.2.2.2.2 76 [some (.ref 67), some (.int x1), some (.int x2), some (.int (km_runsOff_28 (A 87) x1 m y3 y4)), some (.int q4)] [] (hz F A L) Q) → wl_E f B D mm210.2.2.2.2.2.2.2.2 28 [some (.ref 67), some (.int x1), some (.int x2), some (.int y3), some (.int y4)] [] (hz F A L) Q := by
  intro m
  induction m with
  | zero =>
    intro B D F A L x1 x2 y3 y4 hm K
    generalize hT : (km_runsOff_28 (A 87) x1 0 y3 y4) = T at K
    have hE : T = y3 := hT.symm
    clear hT
    refine w_n 3 (pc1 := 34) (ls1 := [some (.ref 67), some (.int x1), some (.int x2), some (.int y3), some (.int y4)]) (st1 := [.int (F 67 3), .int y4]) (hp1 := (hz F A L)) rfl ?_
    refine w_ge (p3 := 37) rfl rfl (fun hb => ?_) (fun h => False.elim (by have h : y4.toInt < (F 67 3).toInt := h; omega))
    subst T
    exact cvE rfl rfl rfl (K _)
  | succ m ih =>
    intro B D F A L x1 x2 y3 y4 hm K
    generalize hT : (km_runsOff_28 (A 87) x1 (m + 1) y3 y4) = T at K
    have hE : T = (if (km_has x1 y4) = 0 then (km_runsOff_28 (A 87) x1 m y3 (y4 + 1)) else (if y3 = (-1) then (km_runsOff_28 (A 87) x1 m y4 (y4 + 1)) else (if ((A 87).getD y3.toInt.toNat 0).toInt < ((A 87).getD y4.toInt.toNat 0).toInt then (km_runsOff_28 (A 87) x1 m y3 (y4 + 1)) else (km_runsOff_28 (A 87) x1 m y4 (y4 + 1))))) := hT.symm
    clear hT
    refine w_n 3 (pc1 := 34) (ls1 := [some (.ref 67), some (.int x1), some (.int x2), some (.int y3), some (.int y4)]) (st1 := [.int (F 67 3), .int y4]) (hp1 := (hz F A L)) rfl ?_
    refine w_ge (p3 := 37) rfl rfl (fun h => False.elim (by have h : (F 67 3).toInt ≤ y4.toInt := h; omega)) (fun hb => ?_)
    refine w_n 2 (pc1 := 40) (ls1 := [some (.ref 67), some (.int x1), some (.int x2), some (.int y3), some (.int y4)]) (st1 := [.int y4, .int x1]) (hp1 := (hz F A L)) rfl ?_
    refine w_c rfl rfl (t_km_has ?_)
    show wl_E f _ _ mm210.2.2.2.2.2.2.2.2 43 [some (.ref 67), some (.int x1), some (.int x2), some (.int y3), some (.int y4)] [.int (km_has x1 y4)] (hz F A L) _
    generalize hG177 : (km_has x1 y4) = G177 at hE ⊢
    refine w_zeq (p3 := 46) rfl rfl (fun h => ?_) (fun h => ?_)
    · have h1 : G177 = 0 := h
      rw [if_pos h1] at hE
      refine w_n 2 (pc1 := 28) (ls1 := [some (.ref 67), some (.int x1), some (.int x2), some (.int y3), some (.int (y4 + 1))]) (st1 := []) (hp1 := (hz F A L)) rfl ?_
      subst T
      have hb2 := i_up (B := (F 67 3)) hb
      have hb3 : y4.toInt < (F 67 3).toInt := hb
      exact ih (show m = ((F 67 3).toInt - (y4 + 1).toInt).toNat by rw [hb2]; omega) (fun q4 => cvE rfl rfl rfl (K q4))
    · have h1 : ¬ G177 = 0 := h
      rw [if_neg h1] at hE
      refine w_n 2 (pc1 := 48) (ls1 := [some (.ref 67), some (.int x1), some (.int x2), some (.int y3), some (.int y4)]) (st1 := [.int (-1), .int y3]) (hp1 := (hz F A L)) rfl ?_
      refine w_eq (p3 := 51) rfl rfl (fun h => ?_) (fun h => ?_)
      · have h2 : y3 = (-1) := h
        rw [if_pos h2] at hE
        refine w_n 4 (pc1 := 28) (ls1 := [some (.ref 67), some (.int x1), some (.int x2), some (.int y4), some (.int (y4 + 1))]) (st1 := []) (hp1 := (hz F A L)) rfl ?_
        subst T
        have hb2 := i_up (B := (F 67 3)) hb
        have hb3 : y4.toInt < (F 67 3).toInt := hb
        exact ih (show m = ((F 67 3).toInt - (y4 + 1).toInt).toNat by rw [hb2]; omega) (fun q4 => cvE rfl rfl rfl (K q4))
      · have h2 : ¬ y3 = (-1) := h
        rw [if_neg h2] at hE
        refine w_n 3 (pc1 := 57) (ls1 := [some (.ref 67), some (.int x1), some (.int x2), some (.int y3), some (.int y4)]) (st1 := [.int y4, .ref 87]) (hp1 := (hz F A L)) rfl ?_
        refine w_al (k := 87) (l := (A 87)) rfl rfl rfl (fun ab => ?_)
        refine w_n 3 (pc1 := 63) (ls1 := [some (.ref 67), some (.int x1), some (.int x2), some (.int y3), some (.int y4)]) (st1 := [.int y3, .ref 87, .int ((A 87).getD y4.toInt.toNat 0)]) (hp1 := (hz F A L)) rfl ?_
        refine w_al (k := 87) (l := (A 87)) rfl rfl rfl (fun _ => ?_)
        refine w_gt (p3 := 67) rfl rfl (fun h => ?_) (fun h => ?_)
        · have h3 : ((A 87).getD y3.toInt.toNat 0).toInt < ((A 87).getD y4.toInt.toNat 0).toInt := h
          rw [if_pos h3] at hE
          refine w_n 2 (pc1 := 28) (ls1 := [some (.ref 67), some (.int x1), some (.int x2), some (.int y3), some (.int (y4 + 1))]) (st1 := []) (hp1 := (hz F A L)) rfl ?_
          subst T
          have hb2 := i_up (B := (F 67 3)) hb
          have hb3 : y4.toInt < (F 67 3).toInt := hb
          exact ih (show m = ((F 67 3).toInt - (y4 + 1).toInt).toNat by rw [hb2]; omega) (fun q4 => cvE rfl rfl rfl (K q4))
        · have h3 : ((A 87).getD y4.toInt.toNat 0).toInt ≤ ((A 87).getD y3.toInt.toNat 0).toInt := h
          rw [if_neg (Int.not_lt.mpr h3)] at hE
          refine w_n 4 (pc1 := 28) (ls1 := [some (.ref 67), some (.int x1), some (.int x2), some (.int y4), some (.int (y4 + 1))]) (st1 := []) (hp1 := (hz F A L)) rfl ?_
          subst T
          have hb2 := i_up (B := (F 67 3)) hb
          have hb3 : y4.toInt < (F 67 3).toInt := hb
          exact ih (show m = ((F 67 3).toInt - (y4 + 1).toInt).toNat by rw [hb2]; omega) (fun q4 => cvE rfl rfl rfl (K q4))
noncomputable def km_runsOff_7 (f67_3 : Int32) (a68 : List Int32)  : Nat → Int32 → Int32 → List Int32 → List Int32 → Int32 × List Int32 × List Int32
  | 0, y1, _, a87, a89 => (y1, a87, a89)
  | m + 1, y1, y2, a87, a89 => (km_runsOff_7 f67_3 a68 m (y1 &&& (((1 : Int32) <<< ((km_runsOff_28 (km_laysFirsts f67_3 a68 a87 y1 0) y1 f67_3.toInt.toNat (-1) 0) &&& 31)) ^^^ (-1))) (y2 + 1) (km_laysFirsts f67_3 a68 a87 y1 0) (a89.set y2.toInt.toNat (km_runsOff_28 (km_laysFirsts f67_3 a68 a87 y1 0) y1 f67_3.toInt.toNat (-1) 0)))
theorem t_km_runsOff_7 {f : Nat} {Q : Option Value → sm_H → Prop} : ∀ (m : Nat) {B D : Nat} {F : Nat → Nat → Int32} {A : Nat → List Int32} {L : Nat → List Int64} {y1 : Int32} {y2 : Int32} {o3 : Option Value} {o4 : Option Value}, m = (((F 67 3) - 1).toInt - y2.toInt).toNat → (∀ q2 : Int32, ∀ q3 : Option Value, ∀ q4 : Option Value, wl_E f B D mm210.2.2.2.2.2.2.2.2 97 [some (.ref 67), some (.int ((km_runsOff_7 (F 67 3) (A 68) m y1 y2 (A 87) (A 89)).1)), some (.int q2), q3, q4] [] (hz F (uA (uA A 87 ((km_runsOff_7 (F 67 3) (A 68) m y1 y2 (A 87) (A 89)).2.1)) 89 ((km_runsOff_7 (F 67 3) (A 68) m y1 y2 (A 87) (A 89)).2.2)) L) Q) → wl_E f B D mm210.2.2.2.2.2.2.2.2 7 [some (.ref 67), some (.int y1), some (.int y2), o3, o4] [] (hz F A L) Q := by
  intro m
  induction m with
  | zero =>
    intro B D F A L y1 y2 o3 o4 hm K
    generalize hT : (km_runsOff_7 (F 67 3) (A 68) 0 y1 y2 (A 87) (A 89)) = T at K
    have hE : T = (y1, (A 87), (A 89)) := hT.symm
    clear hT
    refine w_n 5 (pc1 := 14) (ls1 := [some (.ref 67), some (.int y1), some (.int y2), o3, o4]) (st1 := [.int ((F 67 3) - 1), .int y2]) (hp1 := (hz F A L)) rfl ?_
    refine w_ge (p3 := 17) rfl rfl (fun hb => ?_) (fun h => False.elim (by have h : y2.toInt < ((F 67 3) - 1).toInt := h; omega))
    subst T
    exact cvE rfl (funext fun q => if k0 : q = 87 then by subst k0; exact Eq.trans (b := (A 87)) rfl rfl else if k1 : q = 89 then by subst k1; exact Eq.trans (b := (A 89)) rfl rfl else by unfold uA; simp only [nb1 k0, nb1 k1, cond_false]) rfl (K _ _ _)
  | succ m ih =>
    intro B D F A L y1 y2 o3 o4 hm K
    generalize hT : (km_runsOff_7 (F 67 3) (A 68) (m + 1) y1 y2 (A 87) (A 89)) = T at K
    have hE : T = (km_runsOff_7 (F 67 3) (A 68) m (y1 &&& (((1 : Int32) <<< ((km_runsOff_28 (km_laysFirsts (F 67 3) (A 68) (A 87) y1 0) y1 (F 67 3).toInt.toNat (-1) 0) &&& 31)) ^^^ (-1))) (y2 + 1) (km_laysFirsts (F 67 3) (A 68) (A 87) y1 0) ((A 89).set y2.toInt.toNat (km_runsOff_28 (km_laysFirsts (F 67 3) (A 68) (A 87) y1 0) y1 (F 67 3).toInt.toNat (-1) 0))) := hT.symm
    clear hT
    refine w_n 5 (pc1 := 14) (ls1 := [some (.ref 67), some (.int y1), some (.int y2), o3, o4]) (st1 := [.int ((F 67 3) - 1), .int y2]) (hp1 := (hz F A L)) rfl ?_
    refine w_ge (p3 := 17) rfl rfl (fun h => False.elim (by have h : ((F 67 3) - 1).toInt ≤ y2.toInt := h; omega)) (fun hb => ?_)
    refine w_n 3 (pc1 := 20) (ls1 := [some (.ref 67), some (.int y1), some (.int y2), o3, o4]) (st1 := [.int 0, .int y1, .ref 67]) (hp1 := (hz F A L)) rfl ?_
    refine w_c rfl rfl (t_km_laysFirsts ?_)
    show wl_E f _ _ mm210.2.2.2.2.2.2.2.2 23 [some (.ref 67), some (.int y1), some (.int y2), o3, o4] [] (hz F (uA A 87 (km_laysFirsts (F 67 3) (A 68) (A 87) y1 0)) L) _
    generalize hG176 : (km_laysFirsts (F 67 3) (A 68) (A 87) y1 0) = G176 at hE ⊢
    refine w_n 4 (pc1 := 28) (ls1 := [some (.ref 67), some (.int y1), some (.int y2), some (.int (-1)), some (.int 0)]) (st1 := []) (hp1 := (hz F (uA A 87 G176) L)) rfl ?_
    refine t_km_runsOff_28 (F 67 3).toInt.toNat (show (F 67 3).toInt.toNat = ((F 67 3).toInt - (0 : Int32).toInt).toNat by have e0 : (0 : Int32).toInt = 0 := rfl; first | rfl | omega) ?_
    intro r1
    show wl_E f _ _ mm210.2.2.2.2.2.2.2.2 76 [some (.ref 67), some (.int y1), some (.int y2), some (.int (km_runsOff_28 G176 y1 (F 67 3).toInt.toNat (-1) 0)), some (.int r1)] [] (hz F (uA A 87 G176) L) _
    generalize hG178 : (km_runsOff_28 G176 y1 (F 67 3).toInt.toNat (-1) 0) = G178 at hE ⊢
    refine w_n 4 (pc1 := 82) (ls1 := [some (.ref 67), some (.int y1), some (.int y2), some (.int G178), some (.int r1)]) (st1 := [.int G178, .int y2, .ref 89]) (hp1 := (hz F (uA A 87 G176) L)) rfl ?_
    refine w_as (k := 89) (l := (A 89)) (hp1 := (hz F (uA (uA A 87 G176) 89 ((A 89).set y2.toInt.toNat G178)) L)) rfl rfl rfl (hz_s89 _) (fun ab => ?_)
    refine w_n 10 (pc1 := 7) (ls1 := [some (.ref 67), some (.int (y1 &&& (((1 : Int32) <<< (G178 &&& 31)) ^^^ (-1)))), some (.int (y2 + 1)), some (.int G178), some (.int r1)]) (st1 := []) (hp1 := (hz F (uA (uA A 87 G176) 89 ((A 89).set y2.toInt.toNat G178)) L)) rfl ?_
    subst T
    have hb2 := i_up (B := ((F 67 3) - 1)) hb
    have hb3 : y2.toInt < ((F 67 3) - 1).toInt := hb
    exact ih (show m = (((F 67 3) - 1).toInt - (y2 + 1).toInt).toNat by rw [hb2]; omega) (fun q2 q3 q4 => cvE rfl (funext fun q => if k0 : q = 87 then by subst k0; exact Eq.trans (b := (km_runsOff_7 (F 67 3) (A 68) m (y1 &&& (((1 : Int32) <<< (G178 &&& 31)) ^^^ (-1))) (y2 + 1) G176 ((A 89).set y2.toInt.toNat G178)).2.1) rfl rfl else if k1 : q = 89 then by subst k1; exact Eq.trans (b := (km_runsOff_7 (F 67 3) (A 68) m (y1 &&& (((1 : Int32) <<< (G178 &&& 31)) ^^^ (-1))) (y2 + 1) G176 ((A 89).set y2.toInt.toNat G178)).2.2) rfl rfl else by unfold uA; simp only [nb1 k0, nb1 k1, cond_false]) rfl (K q2 q3 q4))
