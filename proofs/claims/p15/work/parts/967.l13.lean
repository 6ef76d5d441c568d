/-! lifts, printed by genlift.py: 13 -/
def km_sure_118 (a87 : List Int32)  : Nat → Int32 → List Int32 → List Int32
  | 0, _, a96 => a96
  | m + 1, y7, a96 => (km_sure_118 a87 m (y7 + 1) (a96.set y7.toInt.toNat (a87.getD y7.toInt.toNat 0)))
theorem t_km_sure_118 {f : Nat} {Q : Option Value → sm_H → Prop} : ∀ (m : Nat) {B D : Nat} {F : Nat → Nat → Int32} {A : Nat → List Int32} {L : Nat → List Int64} {x1 : Int32} {x2 : Int32} {x3 : Int32} {x4 : Int32} {x5 : Int32} {x6 : Int32} {y7 : Int32} {o8 : Option Value}, m = ((F 67 3).toInt - y7.toInt).toNat → (∀ q7 : Int32, wl_E f B D mm235.2.2.2.2.2.2.2.2 147 [some (.ref 67), some (.int x1), some (.int x2), some (.int x3), some (.int x4), some (.int x5), some (.int x6), some (.int q7), o8] [] (hz F (uA A 96 (km_sure_118 (A 87) m y7 (A 96))) L) Q) → wl_E f B D mm235.2.2.2.2.2.2.2.2 118 [some (.ref 67), some (.int x1), some (.int x2), some (.int x3), some (.int x4), some (.int x5), some (.int x6), some (.int y7), o8] [] (hz F A L) Q := by
  intro m
  induction m with
  | zero =>
    intro B D F A L x1 x2 x3 x4 x5 x6 y7 o8 hm K
    generalize hT : (km_sure_118 (A 87) 0 y7 (A 96)) = T at K
    have hE : T = (A 96) := hT.symm
    clear hT
    refine w_n 3 (pc1 := 124) (ls1 := [some (.ref 67), some (.int x1), some (.int x2), some (.int x3), some (.int x4), some (.int x5), some (.int x6), some (.int y7), o8]) (st1 := [.int (F 67 3), .int y7]) (hp1 := (hz F A L)) rfl ?_
    refine w_ge (p3 := 127) rfl rfl (fun hb => ?_) (fun h => False.elim (by have h : y7.toInt < (F 67 3).toInt := h; omega))
    subst T
    exact cvE rfl (funext fun q => if k0 : q = 96 then by subst k0; exact Eq.trans (b := (A 96)) rfl rfl else by unfold uA; simp only [nb1 k0, cond_false]) rfl (K _)
  | succ m ih =>
    intro B D F A L x1 x2 x3 x4 x5 x6 y7 o8 hm K
    generalize hT : (km_sure_118 (A 87) (m + 1) y7 (A 96)) = T at K
    have hE : T = (km_sure_118 (A 87) m (y7 + 1) ((A 96).set y7.toInt.toNat ((A 87).getD y7.toInt.toNat 0))) := hT.symm
    clear hT
    refine w_n 3 (pc1 := 124) (ls1 := [some (.ref 67), some (.int x1), some (.int x2), some (.int x3), some (.int x4), some (.int x5), some (.int x6), some (.int y7), o8]) (st1 := [.int (F 67 3), .int y7]) (hp1 := (hz F A L)) rfl ?_
    refine w_ge (p3 := 127) rfl rfl (fun h => False.elim (by have h : (F 67 3).toInt ≤ y7.toInt := h; omega)) (fun hb => ?_)
    refine w_n 6 (pc1 := 139) (ls1 := [some (.ref 67), some (.int x1), some (.int x2), some (.int x3), some (.int x4), some (.int x5), some (.int x6), some (.int y7), o8]) (st1 := [.int y7, .ref 87, .int y7, .ref 96]) (hp1 := (hz F A L)) rfl ?_
    refine w_al (k := 87) (l := (A 87)) rfl rfl rfl (fun ab => ?_)
    refine w_as (k := 96) (l := (A 96)) (hp1 := (hz F (uA A 96 ((A 96).set y7.toInt.toNat ((A 87).getD y7.toInt.toNat 0))) L)) rfl rfl rfl (hz_s96 _) (fun ab => ?_)
    refine w_n 2 (pc1 := 118) (ls1 := [some (.ref 67), some (.int x1), some (.int x2), some (.int x3), some (.int x4), some (.int x5), some (.int x6), some (.int (y7 + 1)), o8]) (st1 := []) (hp1 := (hz F (uA A 96 ((A 96).set y7.toInt.toNat ((A 87).getD y7.toInt.toNat 0))) L)) rfl ?_
    subst T
    have hb2 := i_up (B := (F 67 3)) hb
    have hb3 : y7.toInt < (F 67 3).toInt := hb
    exact ih (show m = ((F 67 3).toInt - (y7 + 1).toInt).toNat by rw [hb2]; omega) (fun q7 => cvE rfl (funext fun q => if k0 : q = 96 then by subst k0; exact Eq.trans (b := (km_sure_118 (A 87) m (y7 + 1) ((A 96).set y7.toInt.toNat ((A 87).getD y7.toInt.toNat 0)))) rfl rfl else by unfold uA; simp only [nb1 k0, cond_false]) rfl (K q7))
def km_sure_154 (f67_3 : Int32) (a68 : List Int32) (a95 : List Int32)  : Nat → Int32 → Int32 → List Int32 → List Int32
  | 0, _, _, a96 => a96
  | m + 1, y7, y8, a96 => (km_sure_154 f67_3 a68 a95 m (y7 / f67_3) (y8 + 1) (a96.set (y7 - y7 / f67_3 * f67_3).toInt.toNat ((a96.getD (y7 - y7 / f67_3 * f67_3).toInt.toNat 0) + (a68.getD (12 + (a95.getD y8.toInt.toNat 0)).toInt.toNat 0))))
theorem t_km_sure_154 {f : Nat} {Q : Option Value → sm_H → Prop} : ∀ (m : Nat) {B D : Nat} {F : Nat → Nat → Int32} {A : Nat → List Int32} {L : Nat → List Int64} {x1 : Int32} {x2 : Int32} {x3 : Int32} {x4 : Int32} {x5 : Int32} {x6 : Int32} {y7 : Int32} {y8 : Int32}, m = (x3.toInt - y8.toInt).toNat → (∀ q7 : Int32, ∀ q8 : Int32, wl_E f B D mm235.2.2.2.2.2.2.2.2 215 [some (.ref 67), some (.int x1), some (.int x2), some (.int x3), some (.int x4), some (.int x5), some (.int x6), some (.int q7), some (.int q8)] [] (hz F (uA A 96 (km_sure_154 (F 67 3) (A 68) (A 95) m y7 y8 (A 96))) L) Q) → wl_E f B D mm235.2.2.2.2.2.2.2.2 154 [some (.ref 67), some (.int x1), some (.int x2), some (.int x3), some (.int x4), some (.int x5), some (.int x6), some (.int y7), some (.int y8)] [] (hz F A L) Q := by
  intro m
  induction m with
  | zero =>
    intro B D F A L x1 x2 x3 x4 x5 x6 y7 y8 hm K
    generalize hT : (km_sure_154 (F 67 3) (A 68) (A 95) 0 y7 y8 (A 96)) = T at K
    have hE : T = (A 96) := hT.symm
    clear hT
    refine w_n 2 (pc1 := 157) (ls1 := [some (.ref 67), some (.int x1), some (.int x2), some (.int x3), some (.int x4), some (.int x5), some (.int x6), some (.int y7), some (.int y8)]) (st1 := [.int x3, .int y8]) (hp1 := (hz F A L)) rfl ?_
    refine w_ge (p3 := 160) rfl rfl (fun hb => ?_) (fun h => False.elim (by have h : y8.toInt < x3.toInt := h; omega))
    subst T
    exact cvE rfl (funext fun q => if k0 : q = 96 then by subst k0; exact Eq.trans (b := (A 96)) rfl rfl else by unfold uA; simp only [nb1 k0, cond_false]) rfl (K _ _)
  | succ m ih =>
    intro B D F A L x1 x2 x3 x4 x5 x6 y7 y8 hm K
    generalize hT : (km_sure_154 (F 67 3) (A 68) (A 95) (m + 1) y7 y8 (A 96)) = T at K
    have hE : T = (km_sure_154 (F 67 3) (A 68) (A 95) m (y7 / (F 67 3)) (y8 + 1) ((A 96).set (y7 - y7 / (F 67 3) * (F 67 3)).toInt.toNat (((A 96).getD (y7 - y7 / (F 67 3) * (F 67 3)).toInt.toNat 0) + ((A 68).getD (12 + ((A 95).getD y8.toInt.toNat 0)).toInt.toNat 0)))) := hT.symm
    clear hT
    refine w_n 2 (pc1 := 157) (ls1 := [some (.ref 67), some (.int x1), some (.int x2), some (.int x3), some (.int x4), some (.int x5), some (.int x6), some (.int y7), some (.int y8)]) (st1 := [.int x3, .int y8]) (hp1 := (hz F A L)) rfl ?_
    refine w_ge (p3 := 160) rfl rfl (fun h => False.elim (by have h : x3.toInt ≤ y8.toInt := h; omega)) (fun hb => ?_)
    refine w_n 5 (pc1 := 170) (ls1 := [some (.ref 67), some (.int x1), some (.int x2), some (.int x3), some (.int x4), some (.int x5), some (.int x6), some (.int y7), some (.int y8)]) (st1 := [.int (F 67 3), .int y7, .ref 96]) (hp1 := (hz F A L)) rfl ?_
    refine w_rm rfl rfl (fun _ => ?_)
    refine w_n 5 (pc1 := 181) (ls1 := [some (.ref 67), some (.int x1), some (.int x2), some (.int x3), some (.int x4), some (.int x5), some (.int x6), some (.int y7), some (.int y8)]) (st1 := [.int (F 67 3), .int y7, .ref 96, .int (y7 - y7 / (F 67 3) * (F 67 3)), .ref 96]) (hp1 := (hz F A L)) rfl ?_
    refine w_rm rfl rfl (fun _ => ?_)
    refine w_al (k := 96) (l := (A 96)) rfl rfl rfl (fun _ => ?_)
    refine w_n 6 (pc1 := 195) (ls1 := [some (.ref 67), some (.int x1), some (.int x2), some (.int x3), some (.int x4), some (.int x5), some (.int x6), some (.int y7), some (.int y8)]) (st1 := [.int y8, .ref 95, .int 12, .ref 68, .int ((A 96).getD (y7 - y7 / (F 67 3) * (F 67 3)).toInt.toNat 0), .int (y7 - y7 / (F 67 3) * (F 67 3)), .ref 96]) (hp1 := (hz F A L)) rfl ?_
    refine w_al (k := 95) (l := (A 95)) rfl rfl rfl (fun ab => ?_)
    refine w_n 1 (pc1 := 197) (ls1 := [some (.ref 67), some (.int x1), some (.int x2), some (.int x3), some (.int x4), some (.int x5), some (.int x6), some (.int y7), some (.int y8)]) (st1 := [.int (12 + ((A 95).getD y8.toInt.toNat 0)), .ref 68, .int ((A 96).getD (y7 - y7 / (F 67 3) * (F 67 3)).toInt.toNat 0), .int (y7 - y7 / (F 67 3) * (F 67 3)), .ref 96]) (hp1 := (hz F A L)) rfl ?_
    refine w_al (k := 68) (l := (A 68)) rfl rfl rfl (fun _ => ?_)
    refine w_n 1 (pc1 := 199) (ls1 := [some (.ref 67), some (.int x1), some (.int x2), some (.int x3), some (.int x4), some (.int x5), some (.int x6), some (.int y7), some (.int y8)]) (st1 := [.int (((A 96).getD (y7 - y7 / (F 67 3) * (F 67 3)).toInt.toNat 0) + ((A 68).getD (12 + ((A 95).getD y8.toInt.toNat 0)).toInt.toNat 0)), .int (y7 - y7 / (F 67 3) * (F 67 3)), .ref 96]) (hp1 := (hz F A L)) rfl ?_
    refine w_as (k := 96) (l := (A 96)) (hp1 := (hz F (uA A 96 ((A 96).set (y7 - y7 / (F 67 3) * (F 67 3)).toInt.toNat (((A 96).getD (y7 - y7 / (F 67 3) * (F 67 3)).toInt.toNat 0) + ((A 68).getD (12 + ((A 95).getD y8.toInt.toNat 0)).toInt.toNat 0)))) L)) rfl rfl rfl (hz_s96 _) (fun _ => ?_)
    refine w_n 3 (pc1 := 206) (ls1 := [some (.ref 67), some (.int x1), some (.int x2), some (.int x3), some (.int x4), some (.int x5), some (.int x6), some (.int y7), some (.int y8)]) (st1 := [.int (F 67 3), .int y7]) (hp1 := (hz F (uA A 96 ((A 96).set (y7 - y7 / (F 67 3) * (F 67 3)).toInt.toNat (((A 96).getD (y7 - y7 / (F 67 3) * (F 67 3)).toInt.toNat 0) + ((A 68).getD (12 + ((A 95).getD y8.toInt.toNat 0)).toInt.toNat 0)))) L)) rfl ?_
    refine w_dv rfl rfl (fun _ => ?_)
    refine w_n 3 (pc1 := 154) (ls1 := [some (.ref 67), some (.int x1), some (.int x2), some (.int x3), some (.int x4), some (.int x5), some (.int x6), some (.int (y7 / (F 67 3))), some (.int (y8 + 1))]) (st1 := []) (hp1 := (hz F (uA A 96 ((A 96).set (y7 - y7 / (F 67 3) * (F 67 3)).toInt.toNat (((A 96).getD (y7 - y7 / (F 67 3) * (F 67 3)).toInt.toNat 0) + ((A 68).getD (12 + ((A 95).getD y8.toInt.toNat 0)).toInt.toNat 0)))) L)) rfl ?_
    subst T
    have hb2 := i_up (B := x3) hb
    have hb3 : y8.toInt < x3.toInt := hb
    exact ih (show m = (x3.toInt - (y8 + 1).toInt).toNat by rw [hb2]; omega) (fun q7 q8 => cvE rfl (funext fun q => if k0 : q = 96 then by subst k0; exact Eq.trans (b := (km_sure_154 (F 67 3) (A 68) (A 95) m (y7 / (F 67 3)) (y8 + 1) ((A 96).set (y7 - y7 / (F 67 3) * (F 67 3)).toInt.toNat (((A 96).getD (y7 - y7 / (F 67 3) * (F 67 3)).toInt.toNat 0) + ((A 68).getD (12 + ((A 95).getD y8.toInt.toNat 0)).toInt.toNat 0))))) rfl rfl else by unfold uA; simp only [nb1 k0, cond_false]) rfl (K q7 q8))
def km_mostVotes_67_96_4 (a96 : List Int32)  : Nat → Int32 → Int32 → Int32
  | 0, y2, _ => y2
  | m + 1, y2, y3 => (if (a96.getD y2.toInt.toNat 0).toInt < (a96.getD y3.toInt.toNat 0).toInt then (km_mostVotes_67_96_4 a96 m y3 (y3 + 1)) else (km_mostVotes_67_96_4 a96 m y2 (y3 + 1)))
theorem t_km_mostVotes_67_96_4 {f : Nat} {Q : Option Value → sm_H → Prop} : ∀ (m : Nat) {B D : Nat} {F : Nat → Nat → Int32} {A : Nat → List Int32} {L : Nat → List Int64} {y2 : Int32} {y3 : Int32}, m = ((F 67 3).toInt - y3.toInt).toNat → (∀ q3 : Int32, wl_E f B D mm207.2.2.2.2.2.2.2.2 29 [some (.ref 67), some (.ref 96), some (.int (km_mostVotes_67_96_4 (A 96) m y2 y3)), some (.int q3)] [] (hz F A L) Q) → wl_E f B D mm207.2.2.2.2.2.2.2.2 4 [some (.ref 67), some (.ref 96), some (.int y2), some (.int y3)] [] (hz F A L) Q := by
  intro m
  induction m with
  | zero =>
    intro B D F A L y2 y3 hm K
    generalize hT : (km_mostVotes_67_96_4 (A 96) 0 y2 y3) = T at K
    have hE : T = y2 := hT.symm
    clear hT
    refine w_n 3 (pc1 := 9) (ls1 := [some (.ref 67), some (.ref 96), some (.int y2), some (.int y3)]) (st1 := [.int (F 67 3), .int y3]) (hp1 := (hz F A L)) rfl ?_
    refine w_ge (p3 := 12) rfl rfl (fun hb => ?_) (fun h => False.elim (by have h : y3.toInt < (F 67 3).toInt := h; omega))
    subst T
    exact cvE rfl rfl rfl (K _)
  | succ m ih =>
    intro B D F A L y2 y3 hm K
    generalize hT : (km_mostVotes_67_96_4 (A 96) (m + 1) y2 y3) = T at K
    have hE : T = (if ((A 96).getD y2.toInt.toNat 0).toInt < ((A 96).getD y3.toInt.toNat 0).toInt then (km_mostVotes_67_96_4 (A 96) m y3 (y3 + 1)) else (km_mostVotes_67_96_4 (A 96) m y2 (y3 + 1))) := hT.symm
    clear hT
    refine w_n 3 (pc1 := 9) (ls1 := [some (.ref 67), some (.ref 96), some (.int y2), some (.int y3)]) (st1 := [.int (F 67 3), .int y3]) (hp1 := (hz F A L)) rfl ?_
    refine w_ge (p3 := 12) rfl rfl (fun h => False.elim (by have h : (F 67 3).toInt ≤ y3.toInt := h; omega)) (fun hb => ?_)
    refine w_n 2 (pc1 := 14) (ls1 := [some (.ref 67), some (.ref 96), some (.int y2), some (.int y3)]) (st1 := [.int y3, .ref 96]) (hp1 := (hz F A L)) rfl ?_
    refine w_al (k := 96) (l := (A 96)) rfl rfl rfl (fun ab => ?_)
    refine w_n 2 (pc1 := 17) (ls1 := [some (.ref 67), some (.ref 96), some (.int y2), some (.int y3)]) (st1 := [.int y2, .ref 96, .int ((A 96).getD y3.toInt.toNat 0)]) (hp1 := (hz F A L)) rfl ?_
    refine w_al (k := 96) (l := (A 96)) rfl rfl rfl (fun _ => ?_)
    refine w_le (p3 := 21) rfl rfl (fun h => ?_) (fun h => ?_)
    · have h1 : ((A 96).getD y3.toInt.toNat 0).toInt ≤ ((A 96).getD y2.toInt.toNat 0).toInt := h
      rw [if_neg (Int.not_lt.mpr h1)] at hE
      refine w_n 2 (pc1 := 4) (ls1 := [some (.ref 67), some (.ref 96), some (.int y2), some (.int (y3 + 1))]) (st1 := []) (hp1 := (hz F A L)) rfl ?_
      subst T
      have hb2 := i_up (B := (F 67 3)) hb
      have hb3 : y3.toInt < (F 67 3).toInt := hb
      exact ih (show m = ((F 67 3).toInt - (y3 + 1).toInt).toNat by rw [hb2]; omega) (fun q3 => cvE rfl rfl rfl (K q3))
    · have h1 : ((A 96).getD y2.toInt.toNat 0).toInt < ((A 96).getD y3.toInt.toNat 0).toInt := h
      rw [if_pos h1] at hE
      refine w_n 4 (pc1 := 4) (ls1 := [some (.ref 67), some (.ref 96), some (.int y3), some (.int (y3 + 1))]) (st1 := []) (hp1 := (hz F A L)) rfl ?_
      subst T
      have hb2 := i_up (B := (F 67 3)) hb
      have hb3 : y3.toInt < (F 67 3).toInt := hb
      exact ih (show m = ((F 67 3).toInt - (y3 + 1).toInt).toNat by rw [hb2]; omega) (fun q3 => cvE rfl rfl rfl (K q3))
def km_mostVotes_67_96 (f67_3 : Int32) (a96 : List Int32) : Int32 := (km_mostVotes_67_96_4 a96 (f67_3.toInt - 1).toNat 0 1)
theorem t_km_mostVotes_67_96 {f D : Nat} {F : Nat → Nat → Int32} {A : Nat → List Int32} {L : Nat → List Int64} {Q : Option Value → sm_H → Prop} (K : Q (some (.int (km_mostVotes_67_96 (F 67 3) (A 96)))) (hz F A L)) : wl_M f D 207 [.ref 67, .ref 96] (hz F A L) Q := by
  generalize hT : (km_mostVotes_67_96 (F 67 3) (A 96)) = T at K
  have hE : T = (km_mostVotes_67_96_4 (A 96) ((F 67 3).toInt - 1).toNat 0 1) := hT.symm
  clear hT
  refine w_m (E := mm207) rfl ?_
  show wl_E f f (D - 1) mm207.2.2.2.2.2.2.2.2 0 [some (.ref 67), some (.ref 96), none, none] [] (hz F A L) Q
  refine w_n 4 (pc1 := 4) (ls1 := [some (.ref 67), some (.ref 96), some (.int 0), some (.int 1)]) (st1 := []) (hp1 := (hz F A L)) rfl ?_
  refine t_km_mostVotes_67_96_4 (((F 67 3).toInt - 1).toNat) (show ((F 67 3).toInt - 1).toNat = ((F 67 3).toInt - (1 : Int32).toInt).toNat by have e0 : (1 : Int32).toInt = 1 := rfl; first | rfl | omega) ?_
  intro r1
  show wl_E f _ _ mm207.2.2.2.2.2.2.2.2 29 [some (.ref 67), some (.ref 96), some (.int (km_mostVotes_67_96_4 (A 96) ((F 67 3).toInt - 1).toNat 0 1)), some (.int r1)] [] (hz F A L) _
  generalize hG439 : (km_mostVotes_67_96_4 (A 96) ((F 67 3).toInt - 1).toNat 0 1) = G439 at hE ⊢
  refine w_n 1 (pc1 := 30) (ls1 := [some (.ref 67), some (.ref 96), some (.int G439), some (.int r1)]) (st1 := [.int G439]) (hp1 := (hz F A L)) rfl ?_
  subst T
  exact w_ri rfl (cvQ rfl rfl rfl K)
def km_sure_108 (f67_3 : Int32) (a68 : List Int32) (a87 : List Int32) (a95 : List Int32) (x3 : Int32) : Nat → Int32 → Int32 → List Int32 → Int32 × List Int32
  | 0, y5, _, a96 => (y5, a96)
  | m + 1, y5, y6, a96 => (km_sure_108 f67_3 a68 a87 a95 x3 m (y5 ||| ((1 : Int32) <<< ((km_mostVotes_67_96 f67_3 (km_sure_154 f67_3 a68 a95 x3.toInt.toNat y6 0 (km_sure_118 a87 f67_3.toInt.toNat 0 a96))) &&& 31))) (y6 + 1) (km_sure_154 f67_3 a68 a95 x3.toInt.toNat y6 0 (km_sure_118 a87 f67_3.toInt.toNat 0 a96)))
theorem t_km_sure_108 {f : Nat} {Q : Option Value → sm_H → Prop} : ∀ (m : Nat) {B D : Nat} {F : Nat → Nat → Int32} {A : Nat → List Int32} {L : Nat → List Int64} {x1 : Int32} {x2 : Int32} {x3 : Int32} {x4 : Int32} {y5 : Int32} {y6 : Int32} {o7 : Option Value} {o8 : Option Value}, m = (x4.toInt - y6.toInt).toNat → (∀ q6 : Int32, ∀ q7 : Option Value, ∀ q8 : Option Value, wl_E f B D mm235.2.2.2.2.2.2.2.2 236 [some (.ref 67), some (.int x1), some (.int x2), some (.int x3), some (.int x4), some (.int ((km_sure_108 (F 67 3) (A 68) (A 87) (A 95) x3 m y5 y6 (A 96)).1)), some (.int q6), q7, q8] [] (hz F (uA A 96 ((km_sure_108 (F 67 3) (A 68) (A 87) (A 95) x3 m y5 y6 (A 96)).2)) L) Q) → wl_E f B D mm235.2.2.2.2.2.2.2.2 108 [some (.ref 67), some (.int x1), some (.int x2), some (.int x3), some (.int x4), some (.int y5), some (.int y6), o7, o8] [] (hz F A L) Q := by
  intro m
  induction m with
  | zero =>
    intro B D F A L x1 x2 x3 x4 y5 y6 o7 o8 hm K
    generalize hT : (km_sure_108 (F 67 3) (A 68) (A 87) (A 95) x3 0 y5 y6 (A 96)) = T at K
    have hE : T = (y5, (A 96)) := hT.symm
    clear hT
    refine w_n 2 (pc1 := 112) (ls1 := [some (.ref 67), some (.int x1), some (.int x2), some (.int x3), some (.int x4), some (.int y5), some (.int y6), o7, o8]) (st1 := [.int x4, .int y6]) (hp1 := (hz F A L)) rfl ?_
    refine w_ge (p3 := 115) rfl rfl (fun hb => ?_) (fun h => False.elim (by have h : y6.toInt < x4.toInt := h; omega))
    subst T
    exact cvE rfl (funext fun q => if k0 : q = 96 then by subst k0; exact Eq.trans (b := (A 96)) rfl rfl else by unfold uA; simp only [nb1 k0, cond_false]) rfl (K _ _ _)
  | succ m ih =>
    intro B D F A L x1 x2 x3 x4 y5 y6 o7 o8 hm K
    generalize hT : (km_sure_108 (F 67 3) (A 68) (A 87) (A 95) x3 (m + 1) y5 y6 (A 96)) = T at K
    have hE : T = (km_sure_108 (F 67 3) (A 68) (A 87) (A 95) x3 m (y5 ||| ((1 : Int32) <<< ((km_mostVotes_67_96 (F 67 3) (km_sure_154 (F 67 3) (A 68) (A 95) x3.toInt.toNat y6 0 (km_sure_118 (A 87) (F 67 3).toInt.toNat 0 (A 96)))) &&& 31))) (y6 + 1) (km_sure_154 (F 67 3) (A 68) (A 95) x3.toInt.toNat y6 0 (km_sure_118 (A 87) (F 67 3).toInt.toNat 0 (A 96)))) := hT.symm
    clear hT
    refine w_n 2 (pc1 := 112) (ls1 := [some (.ref 67), some (.int x1), some (.int x2), some (.int x3), some (.int x4), some (.int y5), some (.int y6), o7, o8]) (st1 := [.int x4, .int y6]) (hp1 := (hz F A L)) rfl ?_
    refine w_ge (p3 := 115) rfl rfl (fun h => False.elim (by have h : x4.toInt ≤ y6.toInt := h; omega)) (fun hb => ?_)
    refine w_n 2 (pc1 := 118) (ls1 := [some (.ref 67), some (.int x1), some (.int x2), some (.int x3), some (.int x4), some (.int y5), some (.int y6), some (.int 0), o8]) (st1 := []) (hp1 := (hz F A L)) rfl ?_
    refine t_km_sure_118 (F 67 3).toInt.toNat (show (F 67 3).toInt.toNat = ((F 67 3).toInt - (0 : Int32).toInt).toNat by have e0 : (0 : Int32).toInt = 0 := rfl; first | rfl | omega) ?_
    intro r1
    show wl_E f _ _ mm235.2.2.2.2.2.2.2.2 147 [some (.ref 67), some (.int x1), some (.int x2), some (.int x3), some (.int x4), some (.int y5), some (.int y6), some (.int r1), o8] [] (hz F (uA A 96 (km_sure_118 (A 87) (F 67 3).toInt.toNat 0 (A 96))) L) _
    generalize hG437 : (km_sure_118 (A 87) (F 67 3).toInt.toNat 0 (A 96)) = G437 at hE ⊢
    refine w_n 4 (pc1 := 154) (ls1 := [some (.ref 67), some (.int x1), some (.int x2), some (.int x3), some (.int x4), some (.int y5), some (.int y6), some (.int y6), some (.int 0)]) (st1 := []) (hp1 := (hz F (uA A 96 G437) L)) rfl ?_
    refine t_km_sure_154 x3.toInt.toNat (show x3.toInt.toNat = (x3.toInt - (0 : Int32).toInt).toNat by have e0 : (0 : Int32).toInt = 0 := rfl; first | rfl | omega) ?_
    intro r2 r3
    show wl_E f _ _ mm235.2.2.2.2.2.2.2.2 215 [some (.ref 67), some (.int x1), some (.int x2), some (.int x3), some (.int x4), some (.int y5), some (.int y6), some (.int r2), some (.int r3)] [] (hz F (uA (uA A 96 G437) 96 (km_sure_154 (F 67 3) (A 68) (A 95) x3.toInt.toNat y6 0 G437)) L) _
    generalize hG438 : (km_sure_154 (F 67 3) (A 68) (A 95) x3.toInt.toNat y6 0 G437) = G438 at hE ⊢
    refine w_n 5 (pc1 := 223) (ls1 := [some (.ref 67), some (.int x1), some (.int x2), some (.int x3), some (.int x4), some (.int y5), some (.int y6), some (.int r2), some (.int r3)]) (st1 := [.ref 96, .ref 67, .int 1, .int y5]) (hp1 := (hz F (uA (uA A 96 G437) 96 G438) L)) rfl ?_
    refine w_c rfl rfl (t_km_mostVotes_67_96 ?_)
    show wl_E f _ _ mm235.2.2.2.2.2.2.2.2 226 [some (.ref 67), some (.int x1), some (.int x2), some (.int x3), some (.int x4), some (.int y5), some (.int y6), some (.int r2), some (.int r3)] [.int (km_mostVotes_67_96 (F 67 3) G438), .int 1, .int y5] (hz F (uA (uA A 96 G437) 96 G438) L) _
    generalize hG440 : (km_mostVotes_67_96 (F 67 3) G438) = G440 at hE ⊢
    refine w_n 5 (pc1 := 108) (ls1 := [some (.ref 67), some (.int x1), some (.int x2), some (.int x3), some (.int x4), some (.int (y5 ||| ((1 : Int32) <<< (G440 &&& 31)))), some (.int (y6 + 1)), some (.int r2), some (.int r3)]) (st1 := []) (hp1 := (hz F (uA (uA A 96 G437) 96 G438) L)) rfl ?_
    subst T
    have hb2 := i_up (B := x4) hb
    have hb3 : y6.toInt < x4.toInt := hb
    exact ih (show m = (x4.toInt - (y6 + 1).toInt).toNat by rw [hb2]; omega) (fun q6 q7 q8 => cvE rfl (funext fun q => if k0 : q = 96 then by subst k0; exact Eq.trans (b := (km_sure_108 (F 67 3) (A 68) (A 87) (A 95) x3 m (y5 ||| ((1 : Int32) <<< (G440 &&& 31))) (y6 + 1) G438).2) rfl rfl else by unfold uA; simp only [nb1 k0, cond_false]) rfl (K q6 q7 q8))
def km_sure (f67_3 : Int32) (a68 : List Int32) (a87 : List Int32) (a95 : List Int32) (a96 : List Int32) (x1 : Int32) (x2 : Int32) : Int32 × List Int32 × List Int32 × List Int32 := (if (km_in x2 0 1) = 0 then ((-1), a87, a95, a96) else (if x1.toInt < 0 then ((-1), a87, a95, a96) else (if (x1 &&& ((a68.getD 144 0) ^^^ (-1))) = 0 then (if 6 < (km_bits x1).toInt then ((-1), a87, a95, a96) else (if x2 = 1 then ((km_sure_108 f67_3 a68 (km_laysFirsts f67_3 a68 a87 (km_allMeasures f67_3) x1) (km_sure_47 f67_3 x1 12 0 1 0 a95).2.2 (km_sure_47 f67_3 x1 12 0 1 0 a95).1 (km_sure_47 f67_3 x1 12 0 1 0 a95).2.1.toInt.toNat 0 0 a96).1, (km_laysFirsts f67_3 a68 a87 (km_allMeasures f67_3) x1), (km_sure_47 f67_3 x1 12 0 1 0 a95).2.2, (km_sure_108 f67_3 a68 (km_laysFirsts f67_3 a68 a87 (km_allMeasures f67_3) x1) (km_sure_47 f67_3 x1 12 0 1 0 a95).2.2 (km_sure_47 f67_3 x1 12 0 1 0 a95).1 (km_sure_47 f67_3 x1 12 0 1 0 a95).2.1.toInt.toNat 0 0 a96).2) else (if (km_bits (km_sure_108 f67_3 a68 (km_laysFirsts f67_3 a68 a87 (km_allMeasures f67_3) x1) (km_sure_47 f67_3 x1 12 0 1 0 a95).2.2 (km_sure_47 f67_3 x1 12 0 1 0 a95).1 (km_sure_47 f67_3 x1 12 0 1 0 a95).2.1.toInt.toNat 0 0 a96).1) = 1 then ((km_sure_108 f67_3 a68 (km_laysFirsts f67_3 a68 a87 (km_allMeasures f67_3) x1) (km_sure_47 f67_3 x1 12 0 1 0 a95).2.2 (km_sure_47 f67_3 x1 12 0 1 0 a95).1 (km_sure_47 f67_3 x1 12 0 1 0 a95).2.1.toInt.toNat 0 0 a96).1, (km_laysFirsts f67_3 a68 a87 (km_allMeasures f67_3) x1), (km_sure_47 f67_3 x1 12 0 1 0 a95).2.2, (km_sure_108 f67_3 a68 (km_laysFirsts f67_3 a68 a87 (km_allMeasures f67_3) x1) (km_sure_47 f67_3 x1 12 0 1 0 a95).2.2 (km_sure_47 f67_3 x1 12 0 1 0 a95).1 (km_sure_47 f67_3 x1 12 0 1 0 a95).2.1.toInt.toNat 0 0 a96).2) else (0, (km_laysFirsts f67_3 a68 a87 (km_allMeasures f67_3) x1), (km_sure_47 f67_3 x1 12 0 1 0 a95).2.2, (km_sure_108 f67_3 a68 (km_laysFirsts f67_3 a68 a87 (km_allMeasures f67_3) x1) (km_sure_47 f67_3 x1 12 0 1 0 a95).2.2 (km_sure_47 f67_3 x1 12 0 1 0 a95).1 (km_sure_47 f67_3 x1 12 0 1 0 a95).2.1.toInt.toNat 0 0 a96).2)))) else ((-1), a87, a95, a96))))
theorem t_km_sure {f D : Nat} {F : Nat → Nat → Int32} {A : Nat → List Int32} {L : Nat → List Int64} {Q : Option Value → sm_H → Prop} {x1 : Int32} {x2 : Int32} (K : Q (some (.int ((km_sure (F 67 3) (A 68) (A 87) (A 95) (A 96) x1 x2).1))) (hz F (uA (uA (uA A 87 ((km_sure (F 67 3) (A 68) (A 87) (A 95) (A 96) x1 x2).2.1)) 95 ((km_sure (F 67 3) (A 68) (A 87) (A 95) (A 96) x1 x2).2.2.1)) 96 ((km_sure (F 67 3) (A 68) (A 87) (A 95) (A 96) x1 x2).2.2.2)) L)) : wl_M f D 235 [.ref 67, .int x1, .int x2] (hz F A L) Q := by
  generalize hT : (km_sure (F 67 3) (A 68) (A 87) (A 95) (A 96) x1 x2) = T at K
  have hE : T = (if (km_in x2 0 1) = 0 then ((-1), (A 87), (A 95), (A 96)) else (if x1.toInt < 0 then ((-1), (A 87), (A 95), (A 96)) else (if (x1 &&& (((A 68).getD 144 0) ^^^ (-1))) = 0 then (if 6 < (km_bits x1).toInt then ((-1), (A 87), (A 95), (A 96)) else (if x2 = 1 then ((km_sure_108 (F 67 3) (A 68) (km_laysFirsts (F 67 3) (A 68) (A 87) (km_allMeasures (F 67 3)) x1) (km_sure_47 (F 67 3) x1 12 0 1 0 (A 95)).2.2 (km_sure_47 (F 67 3) x1 12 0 1 0 (A 95)).1 (km_sure_47 (F 67 3) x1 12 0 1 0 (A 95)).2.1.toInt.toNat 0 0 (A 96)).1, (km_laysFirsts (F 67 3) (A 68) (A 87) (km_allMeasures (F 67 3)) x1), (km_sure_47 (F 67 3) x1 12 0 1 0 (A 95)).2.2, (km_sure_108 (F 67 3) (A 68) (km_laysFirsts (F 67 3) (A 68) (A 87) (km_allMeasures (F 67 3)) x1) (km_sure_47 (F 67 3) x1 12 0 1 0 (A 95)).2.2 (km_sure_47 (F 67 3) x1 12 0 1 0 (A 95)).1 (km_sure_47 (F 67 3) x1 12 0 1 0 (A 95)).2.1.toInt.toNat 0 0 (A 96)).2) else (if (km_bits (km_sure_108 (F 67 3) (A 68) (km_laysFirsts (F 67 3) (A 68) (A 87) (km_allMeasures (F 67 3)) x1) (km_sure_47 (F 67 3) x1 12 0 1 0 (A 95)).2.2 (km_sure_47 (F 67 3) x1 12 0 1 0 (A 95)).1 (km_sure_47 (F 67 3) x1 12 0 1 0 (A 95)).2.1.toInt.toNat 0 0 (A 96)).1) = 1 then ((km_sure_108 (F 67 3) (A 68) (km_laysFirsts (F 67 3) (A 68) (A 87) (km_allMeasures (F 67 3)) x1) (km_sure_47 (F 67 3) x1 12 0 1 0 (A 95)).2.2 (km_sure_47 (F 67 3) x1 12 0 1 0 (A 95)).1 (km_sure_47 (F 67 3) x1 12 0 1 0 (A 95)).2.1.toInt.toNat 0 0 (A 96)).1, (km_laysFirsts (F 67 3) (A 68) (A 87) (km_allMeasures (F 67 3)) x1), (km_sure_47 (F 67 3) x1 12 0 1 0 (A 95)).2.2, (km_sure_108 (F 67 3) (A 68) (km_laysFirsts (F 67 3) (A 68) (A 87) (km_allMeasures (F 67 3)) x1) (km_sure_47 (F 67 3) x1 12 0 1 0 (A 95)).2.2 (km_sure_47 (F 67 3) x1 12 0 1 0 (A 95)).1 (km_sure_47 (F 67 3) x1 12 0 1 0 (A 95)).2.1.toInt.toNat 0 0 (A 96)).2) else (0, (km_laysFirsts (F 67 3) (A 68) (A 87) (km_allMeasures (F 67 3)) x1), (km_sure_47 (F 67 3) x1 12 0 1 0 (A 95)).2.2, (km_sure_108 (F 67 3) (A 68) (km_laysFirsts (F 67 3) (A 68) (A 87) (km_allMeasures (F 67 3)) x1) (km_sure_47 (F 67 3) x1 12 0 1 0 (A 95)).2.2 (km_sure_47 (F 67 3) x1 12 0 1 0 (A 95)).1 (km_sure_47 (F 67 3) x1 12 0 1 0 (A 95)).2.1.toInt.toNat 0 0 (A 96)).2)))) else ((-1), (A 87), (A 95), (A 96))))) := hT.symm
  clear hT
  refine w_m (E := mm235) rfl ?_
  show wl_E f f (D - 1) mm235.2.2.2.2.2.2.2.2 0 [some (.ref 67), some (.int x1), some (.int x2), none, none, none, none, none, none] [] (hz F A L) Q
  refine w_n 3 (pc1 := 3) (ls1 := [some (.ref 67), some (.int x1), some (.int x2), none, none, none, none, none, none]) (st1 := [.int 1, .int 0, .int x2]) (hp1 := (hz F A L)) rfl ?_
  refine w_c rfl rfl (t_km_in ?_)
  show wl_E f _ _ mm235.2.2.2.2.2.2.2.2 6 [some (.ref 67), some (.int x1), some (.int x2), none, none, none, none, none, none] [.int (km_in x2 0 1)] (hz F A L) _
  generalize hG431 : (km_in x2 0 1) = G431 at hE ⊢
  refine w_zeq (p3 := 9) rfl rfl (fun h => ?_) (fun h => ?_)
  · have h1 : G431 = 0 := h
    rw [if_pos h1] at hE
    refine w_n 1 (pc1 := 38) (ls1 := [some (.ref 67), some (.int x1), some (.int x2), none, none, none, none, none, none]) (st1 := [.int (-1)]) (hp1 := (hz F A L)) rfl ?_
    subst T
    exact w_ri rfl (cvQ rfl (funext fun q => if k0 : q = 87 then by subst k0; exact Eq.trans (b := (A 87)) rfl rfl else if k1 : q = 95 then by subst k1; exact Eq.trans (b := (A 95)) rfl rfl else if k2 : q = 96 then by subst k2; exact Eq.trans (b := (A 96)) rfl rfl else by unfold uA; simp only [nb1 k0, nb1 k1, nb1 k2, cond_false]) rfl K)
  · have h1 : ¬ G431 = 0 := h
    rw [if_neg h1] at hE
    refine w_n 1 (pc1 := 10) (ls1 := [some (.ref 67), some (.int x1), some (.int x2), none, none, none, none, none, none]) (st1 := [.int x1]) (hp1 := (hz F A L)) rfl ?_
    refine w_zlt (p3 := 13) rfl rfl (fun h => ?_) (fun h => ?_)
    · have h2 : x1.toInt < 0 := h
      rw [if_pos h2] at hE
      refine w_n 1 (pc1 := 38) (ls1 := [some (.ref 67), some (.int x1), some (.int x2), none, none, none, none, none, none]) (st1 := [.int (-1)]) (hp1 := (hz F A L)) rfl ?_
      subst T
      exact w_ri rfl (cvQ rfl (funext fun q => if k0 : q = 87 then by subst k0; exact Eq.trans (b := (A 87)) rfl rfl else if k1 : q = 95 then by subst k1; exact Eq.trans (b := (A 95)) rfl rfl else if k2 : q = 96 then by subst k2; exact Eq.trans (b := (A 96)) rfl rfl else by unfold uA; simp only [nb1 k0, nb1 k1, nb1 k2, cond_false]) rfl K)
    · have h2 : 0 ≤ x1.toInt := h
      rw [if_neg (Int.not_lt.mpr h2)] at hE
      refine w_n 4 (pc1 := 21) (ls1 := [some (.ref 67), some (.int x1), some (.int x2), none, none, none, none, none, none]) (st1 := [.int 144, .ref 68, .int x1]) (hp1 := (hz F A L)) rfl ?_
      refine w_al (k := 68) (l := (A 68)) rfl rfl rfl (fun _ => ?_)
      refine w_n 3 (pc1 := 25) (ls1 := [some (.ref 67), some (.int x1), some (.int x2), none, none, none, none, none, none]) (st1 := [.int (x1 &&& (((A 68).getD 144 0) ^^^ (-1)))]) (hp1 := (hz F A L)) rfl ?_
      refine w_zne (p3 := 28) rfl rfl (fun h => ?_) (fun h => ?_)
      · have h3 : ¬ (x1 &&& (((A 68).getD 144 0) ^^^ (-1))) = 0 := h
        rw [if_neg h3] at hE
        refine w_n 1 (pc1 := 38) (ls1 := [some (.ref 67), some (.int x1), some (.int x2), none, none, none, none, none, none]) (st1 := [.int (-1)]) (hp1 := (hz F A L)) rfl ?_
        subst T
        exact w_ri rfl (cvQ rfl (funext fun q => if k0 : q = 87 then by subst k0; exact Eq.trans (b := (A 87)) rfl rfl else if k1 : q = 95 then by subst k1; exact Eq.trans (b := (A 95)) rfl rfl else if k2 : q = 96 then by subst k2; exact Eq.trans (b := (A 96)) rfl rfl else by unfold uA; simp only [nb1 k0, nb1 k1, nb1 k2, cond_false]) rfl K)
      · have h3 : (x1 &&& (((A 68).getD 144 0) ^^^ (-1))) = 0 := h
        rw [if_pos h3] at hE
        refine w_n 1 (pc1 := 29) (ls1 := [some (.ref 67), some (.int x1), some (.int x2), none, none, none, none, none, none]) (st1 := [.int x1]) (hp1 := (hz F A L)) rfl ?_
        refine w_c rfl rfl (t_km_bits ?_)
        show wl_E f _ _ mm235.2.2.2.2.2.2.2.2 32 [some (.ref 67), some (.int x1), some (.int x2), none, none, none, none, none, none] [.int (km_bits x1)] (hz F A L) _
        generalize hG432 : (km_bits x1) = G432 at hE ⊢
        refine w_n 1 (pc1 := 34) (ls1 := [some (.ref 67), some (.int x1), some (.int x2), none, none, none, none, none, none]) (st1 := [.int 6, .int G432]) (hp1 := (hz F A L)) rfl ?_
        refine w_le (p3 := 37) rfl rfl (fun h => ?_) (fun h => ?_)
        · have h4 : G432.toInt ≤ 6 := h
          rw [if_neg (Int.not_lt.mpr h4)] at hE
          refine w_n 6 (pc1 := 47) (ls1 := [some (.ref 67), some (.int x1), some (.int x2), some (.int 0), some (.int 1), some (.int 0), none, none, none]) (st1 := []) (hp1 := (hz F A L)) rfl ?_
          refine t_km_sure_47 12 (show (12 : Nat) = (12 - (0 : Int32).toInt).toNat by have e0 : (0 : Int32).toInt = 0 := rfl; first | rfl | omega) ?_
          intro r1
          show wl_E f _ _ mm235.2.2.2.2.2.2.2.2 93 [some (.ref 67), some (.int x1), some (.int x2), some (.int (km_sure_47 (F 67 3) x1 12 0 1 0 (A 95)).1), some (.int (km_sure_47 (F 67 3) x1 12 0 1 0 (A 95)).2.1), some (.int r1), none, none, none] [] (hz F (uA A 95 (km_sure_47 (F 67 3) x1 12 0 1 0 (A 95)).2.2) L) _
          generalize hG434 : (km_sure_47 (F 67 3) x1 12 0 1 0 (A 95)) = G434 at hE ⊢
          refine w_n 2 (pc1 := 95) (ls1 := [some (.ref 67), some (.int x1), some (.int x2), some (.int G434.1), some (.int G434.2.1), some (.int r1), none, none, none]) (st1 := [.ref 67, .ref 67]) (hp1 := (hz F (uA A 95 G434.2.2) L)) rfl ?_
          refine w_c rfl rfl (t_km_allMeasures ?_)
          show wl_E f _ _ mm235.2.2.2.2.2.2.2.2 98 [some (.ref 67), some (.int x1), some (.int x2), some (.int G434.1), some (.int G434.2.1), some (.int r1), none, none, none] [.int (km_allMeasures (F 67 3)), .ref 67] (hz F (uA A 95 G434.2.2) L) _
          generalize hG435 : (km_allMeasures (F 67 3)) = G435 at hE ⊢
          refine w_n 1 (pc1 := 99) (ls1 := [some (.ref 67), some (.int x1), some (.int x2), some (.int G434.1), some (.int G434.2.1), some (.int r1), none, none, none]) (st1 := [.int x1, .int G435, .ref 67]) (hp1 := (hz F (uA A 95 G434.2.2) L)) rfl ?_
          refine w_c rfl rfl (t_km_laysFirsts ?_)
          show wl_E f _ _ mm235.2.2.2.2.2.2.2.2 102 [some (.ref 67), some (.int x1), some (.int x2), some (.int G434.1), some (.int G434.2.1), some (.int r1), none, none, none] [] (hz F (uA (uA A 95 G434.2.2) 87 (km_laysFirsts (F 67 3) (A 68) (A 87) G435 x1)) L) _
          generalize hG436 : (km_laysFirsts (F 67 3) (A 68) (A 87) G435 x1) = G436 at hE ⊢
          refine w_n 4 (pc1 := 108) (ls1 := [some (.ref 67), some (.int x1), some (.int x2), some (.int G434.1), some (.int G434.2.1), some (.int 0), some (.int 0), none, none]) (st1 := []) (hp1 := (hz F (uA (uA A 95 G434.2.2) 87 G436) L)) rfl ?_
          refine t_km_sure_108 G434.2.1.toInt.toNat (show G434.2.1.toInt.toNat = (G434.2.1.toInt - (0 : Int32).toInt).toNat by have e0 : (0 : Int32).toInt = 0 := rfl; first | rfl | omega) ?_
          intro r2 r3 r4
          show wl_E f _ _ mm235.2.2.2.2.2.2.2.2 236 [some (.ref 67), some (.int x1), some (.int x2), some (.int G434.1), some (.int G434.2.1), some (.int (km_sure_108 (F 67 3) (A 68) G436 G434.2.2 G434.1 G434.2.1.toInt.toNat 0 0 (A 96)).1), some (.int r2), r3, r4] [] (hz F (uA (uA (uA A 95 G434.2.2) 87 G436) 96 (km_sure_108 (F 67 3) (A 68) G436 G434.2.2 G434.1 G434.2.1.toInt.toNat 0 0 (A 96)).2) L) _
          generalize hG441 : (km_sure_108 (F 67 3) (A 68) G436 G434.2.2 G434.1 G434.2.1.toInt.toNat 0 0 (A 96)) = G441 at hE ⊢
          refine w_n 2 (pc1 := 238) (ls1 := [some (.ref 67), some (.int x1), some (.int x2), some (.int G434.1), some (.int G434.2.1), some (.int G441.1), some (.int r2), r3, r4]) (st1 := [.int 1, .int x2]) (hp1 := (hz F (uA (uA (uA A 95 G434.2.2) 87 G436) 96 G441.2) L)) rfl ?_
          refine w_ne (p3 := 241) rfl rfl (fun h => ?_) (fun h => ?_)
          · have h5 : ¬ x2 = 1 := h
            rw [if_neg h5] at hE
            refine w_n 1 (pc1 := 248) (ls1 := [some (.ref 67), some (.int x1), some (.int x2), some (.int G434.1), some (.int G434.2.1), some (.int G441.1), some (.int r2), r3, r4]) (st1 := [.int G441.1]) (hp1 := (hz F (uA (uA (uA A 95 G434.2.2) 87 G436) 96 G441.2) L)) rfl ?_
            refine w_c rfl rfl (t_km_bits ?_)
            show wl_E f _ _ mm235.2.2.2.2.2.2.2.2 251 [some (.ref 67), some (.int x1), some (.int x2), some (.int G434.1), some (.int G434.2.1), some (.int G441.1), some (.int r2), r3, r4] [.int (km_bits G441.1)] (hz F (uA (uA (uA A 95 G434.2.2) 87 G436) 96 G441.2) L) _
            generalize hG442 : (km_bits G441.1) = G442 at hE ⊢
            refine w_n 1 (pc1 := 252) (ls1 := [some (.ref 67), some (.int x1), some (.int x2), some (.int G434.1), some (.int G434.2.1), some (.int G441.1), some (.int r2), r3, r4]) (st1 := [.int 1, .int G442]) (hp1 := (hz F (uA (uA (uA A 95 G434.2.2) 87 G436) 96 G441.2) L)) rfl ?_
            refine w_ne (p3 := 255) rfl rfl (fun h => ?_) (fun h => ?_)
            · have h6 : ¬ G442 = 1 := h
              rw [if_neg h6] at hE
              refine w_n 1 (pc1 := 261) (ls1 := [some (.ref 67), some (.int x1), some (.int x2), some (.int G434.1), some (.int G434.2.1), some (.int G441.1), some (.int r2), r3, r4]) (st1 := [.int 0]) (hp1 := (hz F (uA (uA (uA A 95 G434.2.2) 87 G436) 96 G441.2) L)) rfl ?_
              subst T
              exact w_ri rfl (cvQ rfl (funext fun q => if k0 : q = 87 then by subst k0; exact Eq.trans (b := G436) rfl rfl else if k1 : q = 95 then by subst k1; exact Eq.trans (b := G434.2.2) rfl rfl else if k2 : q = 96 then by subst k2; exact Eq.trans (b := G441.2) rfl rfl else by unfold uA; simp only [nb1 k0, nb1 k1, nb1 k2, cond_false]) rfl K)
            · have h6 : G442 = 1 := h
              rw [if_pos h6] at hE
              refine w_n 2 (pc1 := 261) (ls1 := [some (.ref 67), some (.int x1), some (.int x2), some (.int G434.1), some (.int G434.2.1), some (.int G441.1), some (.int r2), r3, r4]) (st1 := [.int G441.1]) (hp1 := (hz F (uA (uA (uA A 95 G434.2.2) 87 G436) 96 G441.2) L)) rfl ?_
              subst T
              exact w_ri rfl (cvQ rfl (funext fun q => if k0 : q = 87 then by subst k0; exact Eq.trans (b := G436) rfl rfl else if k1 : q = 95 then by subst k1; exact Eq.trans (b := G434.2.2) rfl rfl else if k2 : q = 96 then by subst k2; exact Eq.trans (b := G441.2) rfl rfl else by unfold uA; simp only [nb1 k0, nb1 k1, nb1 k2, cond_false]) rfl K)
          · have h5 : x2 = 1 := h
            rw [if_pos h5] at hE
            refine w_n 2 (pc1 := 261) (ls1 := [some (.ref 67), some (.int x1), some (.int x2), some (.int G434.1), some (.int G434.2.1), some (.int G441.1), some (.int r2), r3, r4]) (st1 := [.int G441.1]) (hp1 := (hz F (uA (uA (uA A 95 G434.2.2) 87 G436) 96 G441.2) L)) rfl ?_
            subst T
            exact w_ri rfl (cvQ rfl (funext fun q => if k0 : q = 87 then by subst k0; exact Eq.trans (b := G436) rfl rfl else if k1 : q = 95 then by subst k1; exact Eq.trans (b := G434.2.2) rfl rfl else if k2 : q = 96 then by subst k2; exact Eq.trans (b := G441.2) rfl rfl else by unfold uA; simp only [nb1 k0, nb1 k1, nb1 k2, cond_false]) rfl K)
        · have h4 : 6 < G432.toInt := h
          rw [if_pos h4] at hE
          refine w_n 1 (pc1 := 38) (ls1 := [some (.ref 67), some (.int x1), some (.int x2), none, none, none, none, none, none]) (st1 := [.int (-1)]) (hp1 := (hz F A L)) rfl ?_
          subst T
          exact w_ri rfl (cvQ rfl (funext fun q => if k0 : q = 87 then by subst k0; exact Eq.trans (b := (A 87)) rfl rfl else if k1 : q = 95 then by subst k1; exact Eq.trans (b := (A 95)) rfl rfl else if k2 : q = 96 then by subst k2; exact Eq.trans (b := (A 96)) rfl rfl else by unfold uA; simp only [nb1 k0, nb1 k1, nb1 k2, cond_false]) rfl K)
def kt_partyOf_4 (f3_1 : Int32) (l11 : List Int64) (x1 : Int32) : Nat → Int32 → Int32 → Int32
  | 0, y2, _ => y2
  | m + 1, y2, y3 => (if (kt_isTold f3_1 y3) = 0 then (kt_partyOf_4 f3_1 l11 x1 m y2 (y3 + 1)) else (if (lg_cmp (l11.getD y3.toInt.toNat 0) (l11.getD x1.toInt.toNat 0)) = 0 then (kt_partyOf_4 f3_1 l11 x1 m (y2 ||| ((1 : Int32) <<< (y3 &&& 31))) (y3 + 1)) else (kt_partyOf_4 f3_1 l11 x1 m y2 (y3 + 1))))
theorem t_kt_partyOf_4 {f : Nat} {Q : Option Value → sm_H → Prop} : ∀ (m : Nat) {B D : Nat} {F : Nat → Nat → Int32} {A : Nat → List Int32} {L : Nat → List Int64} {x1 : Int32} {y2 : Int32} {y3 : Int32}, m = (12 - y3.toInt).toNat → (∀ q3 : Int32, wl_E f B D mm133.2.2.2.2.2.2.2.2 46 [some (.ref 3), some (.int x1), some (.int (kt_partyOf_4 (F 3 1) (L 11) x1 m y2 y3)), some (.int q3)] [] (hz F A L) Q) → wl_E f B D mm133.2.2.2.2.2.2.2.2 4 [some (.ref 3), some (.int x1), some (.int y2), some (.int y3)] [] (hz F A L) Q := by
  intro m
  induction m with
  | zero =>
    intro B D F A L x1 y2 y3 hm K
    generalize hT : (kt_partyOf_4 (F 3 1) (L 11) x1 0 y2 y3) = T at K
    have hE : T = y2 := hT.symm
    clear hT
    refine w_n 2 (pc1 := 7) (ls1 := [some (.ref 3), some (.int x1), some (.int y2), some (.int y3)]) (st1 := [.int 12, .int y3]) (hp1 := (hz F A L)) rfl ?_
    refine w_ge (p3 := 10) rfl rfl (fun hb => ?_) (fun h => False.elim (by have h : y3.toInt < 12 := h; omega))
    subst T
    exact cvE rfl rfl rfl (K _)
  | succ m ih =>
    intro B D F A L x1 y2 y3 hm K
    generalize hT : (kt_partyOf_4 (F 3 1) (L 11) x1 (m + 1) y2 y3) = T at K
    have hE : T = (if (kt_isTold (F 3 1) y3) = 0 then (kt_partyOf_4 (F 3 1) (L 11) x1 m y2 (y3 + 1)) else (if (lg_cmp ((L 11).getD y3.toInt.toNat 0) ((L 11).getD x1.toInt.toNat 0)) = 0 then (kt_partyOf_4 (F 3 1) (L 11) x1 m (y2 ||| ((1 : Int32) <<< (y3 &&& 31))) (y3 + 1)) else (kt_partyOf_4 (F 3 1) (L 11) x1 m y2 (y3 + 1)))) := hT.symm
    clear hT
    refine w_n 2 (pc1 := 7) (ls1 := [some (.ref 3), some (.int x1), some (.int y2), some (.int y3)]) (st1 := [.int 12, .int y3]) (hp1 := (hz F A L)) rfl ?_
    refine w_ge (p3 := 10) rfl rfl (fun h => False.elim (by have h : 12 ≤ y3.toInt := h; omega)) (fun hb => ?_)
    refine w_n 2 (pc1 := 12) (ls1 := [some (.ref 3), some (.int x1), some (.int y2), some (.int y3)]) (st1 := [.int y3, .ref 3]) (hp1 := (hz F A L)) rfl ?_
    refine w_c rfl rfl (t_kt_isTold ?_)
    show wl_E f _ _ mm133.2.2.2.2.2.2.2.2 15 [some (.ref 3), some (.int x1), some (.int y2), some (.int y3)] [.int (kt_isTold (F 3 1) y3)] (hz F A L) _
    generalize hG444 : (kt_isTold (F 3 1) y3) = G444 at hE ⊢
    refine w_zeq (p3 := 18) rfl rfl (fun h => ?_) (fun h => ?_)
    · have h1 : G444 = 0 := h
      rw [if_pos h1] at hE
      refine w_n 2 (pc1 := 4) (ls1 := [some (.ref 3), some (.int x1), some (.int y2), some (.int (y3 + 1))]) (st1 := []) (hp1 := (hz F A L)) rfl ?_
      subst T
      have hb2 := i_up (B := (12 : Int32)) hb
      have hb3 : y3.toInt < 12 := hb
      exact ih (show m = (12 - (y3 + 1).toInt).toNat by rw [hb2]; omega) (fun q3 => cvE rfl rfl rfl (K q3))
    · have h1 : ¬ G444 = 0 := h
      rw [if_neg h1] at hE
      refine w_n 3 (pc1 := 23) (ls1 := [some (.ref 3), some (.int x1), some (.int y2), some (.int y3)]) (st1 := [.int y3, .ref 11]) (hp1 := (hz F A L)) rfl ?_
      refine w_ll (k := 11) (l := (L 11)) rfl rfl rfl (fun ab => ?_)
      refine w_n 3 (pc1 := 29) (ls1 := [some (.ref 3), some (.int x1), some (.int y2), some (.int y3)]) (st1 := [.int x1, .ref 11, .long ((L 11).getD y3.toInt.toNat 0)]) (hp1 := (hz F A L)) rfl ?_
      refine w_ll (k := 11) (l := (L 11)) rfl rfl rfl (fun _ => ?_)
      refine w_n 1 (pc1 := 31) (ls1 := [some (.ref 3), some (.int x1), some (.int y2), some (.int y3)]) (st1 := [.int (lg_cmp ((L 11).getD y3.toInt.toNat 0) ((L 11).getD x1.toInt.toNat 0))]) (hp1 := (hz F A L)) rfl ?_
      refine w_zne (p3 := 34) rfl rfl (fun h => ?_) (fun h => ?_)
      · have h2 : ¬ (lg_cmp ((L 11).getD y3.toInt.toNat 0) ((L 11).getD x1.toInt.toNat 0)) = 0 := h
        rw [if_neg h2] at hE
        refine w_n 2 (pc1 := 4) (ls1 := [some (.ref 3), some (.int x1), some (.int y2), some (.int (y3 + 1))]) (st1 := []) (hp1 := (hz F A L)) rfl ?_
        subst T
        have hb2 := i_up (B := (12 : Int32)) hb
        have hb3 : y3.toInt < 12 := hb
        exact ih (show m = (12 - (y3 + 1).toInt).toNat by rw [hb2]; omega) (fun q3 => cvE rfl rfl rfl (K q3))
      · have h2 : (lg_cmp ((L 11).getD y3.toInt.toNat 0) ((L 11).getD x1.toInt.toNat 0)) = 0 := h
        rw [if_pos h2] at hE
        refine w_n 8 (pc1 := 4) (ls1 := [some (.ref 3), some (.int x1), some (.int (y2 ||| ((1 : Int32) <<< (y3 &&& 31)))), some (.int (y3 + 1))]) (st1 := []) (hp1 := (hz F A L)) rfl ?_
        subst T
        have hb2 := i_up (B := (12 : Int32)) hb
        have hb3 : y3.toInt < 12 := hb
        exact ih (show m = (12 - (y3 + 1).toInt).toNat by rw [hb2]; omega) (fun q3 => cvE rfl rfl rfl (K q3))
def kt_partyOf (f3_1 : Int32) (l11 : List Int64) (x1 : Int32) : Int32 := (kt_partyOf_4 f3_1 l11 x1 12 0 0)
theorem t_kt_partyOf {f D : Nat} {F : Nat → Nat → Int32} {A : Nat → List Int32} {L : Nat → List Int64} {Q : Option Value → sm_H → Prop} {x1 : Int32} (K : Q (some (.int (kt_partyOf (F 3 1) (L 11) x1))) (hz F A L)) : wl_M f D 133 [.ref 3, .int x1] (hz F A L) Q := by
  generalize hT : (kt_partyOf (F 3 1) (L 11) x1) = T at K
  have hE : T = (kt_partyOf_4 (F 3 1) (L 11) x1 12 0 0) := hT.symm
  clear hT
  refine w_m (E := mm133) rfl ?_
  show wl_E f f (D - 1) mm133.2.2.2.2.2.2.2.2 0 [some (.ref 3), some (.int x1), none, none] [] (hz F A L) Q
  refine w_n 4 (pc1 := 4) (ls1 := [some (.ref 3), some (.int x1), some (.int 0), some (.int 0)]) (st1 := []) (hp1 := (hz F A L)) rfl ?_
  refine t_kt_partyOf_4 12 (show (12 : Nat) = (12 - (0 : Int32).toInt).toNat by have e0 : (0 : Int32).toInt = 0 := rfl; first | rfl | omega) ?_
  intro r1
  show wl_E f _ _ mm133.2.2.2.2.2.2.2.2 46 [some (.ref 3), some (.int x1), some (.int (kt_partyOf_4 (F 3 1) (L 11) x1 12 0 0)), some (.int r1)] [] (hz F A L) _
  generalize hG445 : (kt_partyOf_4 (F 3 1) (L 11) x1 12 0 0) = G445 at hE ⊢
  refine w_n 1 (pc1 := 47) (ls1 := [some (.ref 3), some (.int x1), some (.int G445), some (.int r1)]) (st1 := [.int G445]) (hp1 := (hz F A L)) rfl ?_
  subst T
  exact w_ri rfl (cvQ rfl rfl rfl K)
def kt_parties_6 (f3_1 : Int32) (l11 : List Int64)  : Nat → Int32 → Int32 → Int32 → Int32
  | 0, y1, _, _ => y1
  | m + 1, y1, y2, y3 => (if (kt_isTold f3_1 y3) = 0 then (kt_parties_6 f3_1 l11 m y1 y2 (y3 + 1)) else (if ((y2 >>> (y3 &&& 31)) &&& 1) = 0 then (kt_parties_6 f3_1 l11 m (y1 + 1) (y2 ||| (kt_partyOf f3_1 l11 y3)) (y3 + 1)) else (kt_parties_6 f3_1 l11 m y1 y2 (y3 + 1))))
theorem t_kt_parties_6 {f : Nat} {Q : Option Value → sm_H → Prop} : ∀ (m : Nat) {B D : Nat} {F : Nat → Nat → Int32} {A : Nat → List Int32} {L : Nat → List Int64} {y1 : Int32} {y2 : Int32} {y3 : Int32}, m = (12 - y3.toInt).toNat → (∀ q2 : Int32, ∀ q3 : Int32, wl_E f B D mm132.2.2.2.2.2.2.2.2 45 [some (.ref 3), some (.int (kt_parties_6 (F 3 1) (L 11) m y1 y2 y3)), some (.int q2), some (.int q3)] [] (hz F A L) Q) → wl_E f B D mm132.2.2.2.2.2.2.2.2 6 [some (.ref 3), some (.int y1), some (.int y2), some (.int y3)] [] (hz F A L) Q := by
  intro m
  induction m with
  | zero =>
    intro B D F A L y1 y2 y3 hm K
    generalize hT : (kt_parties_6 (F 3 1) (L 11) 0 y1 y2 y3) = T at K
    have hE : T = y1 := hT.symm
    clear hT
    refine w_n 2 (pc1 := 9) (ls1 := [some (.ref 3), some (.int y1), some (.int y2), some (.int y3)]) (st1 := [.int 12, .int y3]) (hp1 := (hz F A L)) rfl ?_
    refine w_ge (p3 := 12) rfl rfl (fun hb => ?_) (fun h => False.elim (by have h : y3.toInt < 12 := h; omega))
    subst T
    exact cvE rfl rfl rfl (K _ _)
  | succ m ih =>
    intro B D F A L y1 y2 y3 hm K
    generalize hT : (kt_parties_6 (F 3 1) (L 11) (m + 1) y1 y2 y3) = T at K
    have hE : T = (if (kt_isTold (F 3 1) y3) = 0 then (kt_parties_6 (F 3 1) (L 11) m y1 y2 (y3 + 1)) else (if ((y2 >>> (y3 &&& 31)) &&& 1) = 0 then (kt_parties_6 (F 3 1) (L 11) m (y1 + 1) (y2 ||| (kt_partyOf (F 3 1) (L 11) y3)) (y3 + 1)) else (kt_parties_6 (F 3 1) (L 11) m y1 y2 (y3 + 1)))) := hT.symm
    clear hT
    refine w_n 2 (pc1 := 9) (ls1 := [some (.ref 3), some (.int y1), some (.int y2), some (.int y3)]) (st1 := [.int 12, .int y3]) (hp1 := (hz F A L)) rfl ?_
    refine w_ge (p3 := 12) rfl rfl (fun h => False.elim (by have h : 12 ≤ y3.toInt := h; omega)) (fun hb => ?_)
    refine w_n 2 (pc1 := 14) (ls1 := [some (.ref 3), some (.int y1), some (.int y2), some (.int y3)]) (st1 := [.int y3, .ref 3]) (hp1 := (hz F A L)) rfl ?_
    refine w_c rfl rfl (t_kt_isTold ?_)
    show wl_E f _ _ mm132.2.2.2.2.2.2.2.2 17 [some (.ref 3), some (.int y1), some (.int y2), some (.int y3)] [.int (kt_isTold (F 3 1) y3)] (hz F A L) _
    generalize hG447 : (kt_isTold (F 3 1) y3) = G447 at hE ⊢
    refine w_zeq (p3 := 20) rfl rfl (fun h => ?_) (fun h => ?_)
    · have h1 : G447 = 0 := h
      rw [if_pos h1] at hE
      refine w_n 2 (pc1 := 6) (ls1 := [some (.ref 3), some (.int y1), some (.int y2), some (.int (y3 + 1))]) (st1 := []) (hp1 := (hz F A L)) rfl ?_
      subst T
      have hb2 := i_up (B := (12 : Int32)) hb
      have hb3 : y3.toInt < 12 := hb
      exact ih (show m = (12 - (y3 + 1).toInt).toNat by rw [hb2]; omega) (fun q2 q3 => cvE rfl rfl rfl (K q2 q3))
    · have h1 : ¬ G447 = 0 := h
      rw [if_neg h1] at hE
      refine w_n 5 (pc1 := 25) (ls1 := [some (.ref 3), some (.int y1), some (.int y2), some (.int y3)]) (st1 := [.int ((y2 >>> (y3 &&& 31)) &&& 1)]) (hp1 := (hz F A L)) rfl ?_
      refine w_zne (p3 := 28) rfl rfl (fun h => ?_) (fun h => ?_)
      · have h2 : ¬ ((y2 >>> (y3 &&& 31)) &&& 1) = 0 := h
        rw [if_neg h2] at hE
        refine w_n 2 (pc1 := 6) (ls1 := [some (.ref 3), some (.int y1), some (.int y2), some (.int (y3 + 1))]) (st1 := []) (hp1 := (hz F A L)) rfl ?_
        subst T
        have hb2 := i_up (B := (12 : Int32)) hb
        have hb3 : y3.toInt < 12 := hb
        exact ih (show m = (12 - (y3 + 1).toInt).toNat by rw [hb2]; omega) (fun q2 q3 => cvE rfl rfl rfl (K q2 q3))
      · have h2 : ((y2 >>> (y3 &&& 31)) &&& 1) = 0 := h
        rw [if_pos h2] at hE
        refine w_n 4 (pc1 := 34) (ls1 := [some (.ref 3), some (.int (y1 + 1)), some (.int y2), some (.int y3)]) (st1 := [.int y3, .ref 3, .int y2]) (hp1 := (hz F A L)) rfl ?_
        refine w_c rfl rfl (t_kt_partyOf ?_)
        show wl_E f _ _ mm132.2.2.2.2.2.2.2.2 37 [some (.ref 3), some (.int (y1 + 1)), some (.int y2), some (.int y3)] [.int (kt_partyOf (F 3 1) (L 11) y3), .int y2] (hz F A L) _
        generalize hG448 : (kt_partyOf (F 3 1) (L 11) y3) = G448 at hE ⊢
        refine w_n 4 (pc1 := 6) (ls1 := [some (.ref 3), some (.int (y1 + 1)), some (.int (y2 ||| G448)), some (.int (y3 + 1))]) (st1 := []) (hp1 := (hz F A L)) rfl ?_
        subst T
        have hb2 := i_up (B := (12 : Int32)) hb
        have hb3 : y3.toInt < 12 := hb
        exact ih (show m = (12 - (y3 + 1).toInt).toNat by rw [hb2]; omega) (fun q2 q3 => cvE rfl rfl rfl (K q2 q3))
def kt_parties (f3_1 : Int32) (l11 : List Int64) : Int32 := (kt_parties_6 f3_1 l11 12 0 0 0)
theorem t_kt_parties {f D : Nat} {F : Nat → Nat → Int32} {A : Nat → List Int32} {L : Nat → List Int64} {Q : Option Value → sm_H → Prop} (K : Q (some (.int (kt_parties (F 3 1) (L 11)))) (hz F A L)) : wl_M f D 132 [.ref 3] (hz F A L) Q := by
  generalize hT : (kt_parties (F 3 1) (L 11)) = T at K
  have hE : T = (kt_parties_6 (F 3 1) (L 11) 12 0 0 0) := hT.symm
  clear hT
  refine w_m (E := mm132) rfl ?_
  show wl_E f f (D - 1) mm132.2.2.2.2.2.2.2.2 0 [some (.ref 3), none, none, none] [] (hz F A L) Q
  refine w_n 6 (pc1 := 6) (ls1 := [some (.ref 3), some (.int 0), some (.int 0), some (.int 0)]) (st1 := []) (hp1 := (hz F A L)) rfl ?_
  refine t_kt_parties_6 12 (show (12 : Nat) = (12 - (0 : Int32).toInt).toNat by have e0 : (0 : Int32).toInt = 0 := rfl; first | rfl | omega) ?_
  intro r1 r2
  show wl_E f _ _ mm132.2.2.2.2.2.2.2.2 45 [some (.ref 3), some (.int (kt_parties_6 (F 3 1) (L 11) 12 0 0 0)), some (.int r1), some (.int r2)] [] (hz F A L) _
  generalize hG449 : (kt_parties_6 (F 3 1) (L 11) 12 0 0 0) = G449 at hE ⊢
  refine w_n 1 (pc1 := 46) (ls1 := [some (.ref 3), some (.int G449), some (.int r1), some (.int r2)]) (st1 := [.int G449]) (hp1 := (hz F A L)) rfl ?_
  subst T
  exact w_ri rfl (cvQ rfl rfl rfl K)
def kc_alike (f3_1 : Int32) (l11 : List Int64) (x1 : Int32) : Int32 := (if x1 = 100 then (kt_parties f3_1 l11) else (if (kt_isTold f3_1 x1) = 0 then (-1) else (kt_partyOf f3_1 l11 x1)))
theorem t_kc_alike {f D : Nat} {F : Nat → Nat → Int32} {A : Nat → List Int32} {L : Nat → List Int64} {Q : Option Value → sm_H → Prop} {x1 : Int32} (K : Q (some (.int (kc_alike (F 3 1) (L 11) x1))) (hz F A L)) : wl_M f D 131 [.ref 0, .int x1] (hz F A L) Q := by
  generalize hT : (kc_alike (F 3 1) (L 11) x1) = T at K
  have hE : T = (if x1 = 100 then (kt_parties (F 3 1) (L 11)) else (if (kt_isTold (F 3 1) x1) = 0 then (-1) else (kt_partyOf (F 3 1) (L 11) x1))) := hT.symm
  clear hT
  refine w_m (E := mm131) rfl ?_
  show wl_E f f (D - 1) mm131.2.2.2.2.2.2.2.2 0 [some (.ref 0), some (.int x1)] [] (hz F A L) Q
  refine w_n 2 (pc1 := 3) (ls1 := [some (.ref 0), some (.int x1)]) (st1 := [.int 100, .int x1]) (hp1 := (hz F A L)) rfl ?_
  refine w_ne (p3 := 6) rfl rfl (fun h => ?_) (fun h => ?_)
  · have h1 : ¬ x1 = 100 := h
    rw [if_neg h1] at hE
    refine w_n 3 (pc1 := 19) (ls1 := [some (.ref 0), some (.int x1)]) (st1 := [.int x1, .ref 3]) (hp1 := (hz F A L)) rfl ?_
    refine w_c rfl rfl (t_kt_isTold ?_)
    show wl_E f _ _ mm131.2.2.2.2.2.2.2.2 22 [some (.ref 0), some (.int x1)] [.int (kt_isTold (F 3 1) x1)] (hz F A L) _
    generalize hG443 : (kt_isTold (F 3 1) x1) = G443 at hE ⊢
    refine w_zeq (p3 := 25) rfl rfl (fun h => ?_) (fun h => ?_)
    · have h2 : G443 = 0 := h
      rw [if_pos h2] at hE
      refine w_n 1 (pc1 := 37) (ls1 := [some (.ref 0), some (.int x1)]) (st1 := [.int (-1)]) (hp1 := (hz F A L)) rfl ?_
      subst T
      exact w_ri rfl (cvQ rfl rfl rfl K)
    · have h2 : ¬ G443 = 0 := h
      rw [if_neg h2] at hE
      refine w_n 3 (pc1 := 30) (ls1 := [some (.ref 0), some (.int x1)]) (st1 := [.int x1, .ref 3]) (hp1 := (hz F A L)) rfl ?_
      refine w_c rfl rfl (t_kt_partyOf ?_)
      show wl_E f _ _ mm131.2.2.2.2.2.2.2.2 33 [some (.ref 0), some (.int x1)] [.int (kt_partyOf (F 3 1) (L 11) x1)] (hz F A L) _
      generalize hG446 : (kt_partyOf (F 3 1) (L 11) x1) = G446 at hE ⊢
      refine w_n 1 (pc1 := 37) (ls1 := [some (.ref 0), some (.int x1)]) (st1 := [.int G446]) (hp1 := (hz F A L)) rfl ?_
      subst T
      exact w_ri rfl (cvQ rfl rfl rfl K)
  · have h1 : x1 = 100 := h
    rw [if_pos h1] at hE
    refine w_n 2 (pc1 := 10) (ls1 := [some (.ref 0), some (.int x1)]) (st1 := [.ref 3]) (hp1 := (hz F A L)) rfl ?_
    refine w_c rfl rfl (t_kt_parties ?_)
    show wl_E f _ _ mm131.2.2.2.2.2.2.2.2 13 [some (.ref 0), some (.int x1)] [.int (kt_parties (F 3 1) (L 11))] (hz F A L) _
    generalize hG450 : (kt_parties (F 3 1) (L 11)) = G450 at hE ⊢
    subst T
    exact w_ri rfl (cvQ rfl rfl rfl K)
def km_areOfOneMind_2 (a68 : List Int32) (x1 : Int32) (x2 : Int32) : Nat → Int32 → Int32
  | 0, _ => 1
  | m + 1, y3 => (if (km_placeOf a68 x1 y3) = (km_placeOf a68 x2 y3) then (km_areOfOneMind_2 a68 x1 x2 m (y3 + 1)) else 0)
theorem t_km_areOfOneMind_2 {f : Nat} {Q : Option Value → sm_H → Prop} : ∀ (m : Nat) {B D : Nat} {F : Nat → Nat → Int32} {A : Nat → List Int32} {L : Nat → List Int64} {x1 : Int32} {x2 : Int32} {y3 : Int32}, m = ((F 67 3).toInt - y3.toInt).toNat → (Q (some (.int (km_areOfOneMind_2 (A 68) x1 x2 m y3))) (hz F A L)) → wl_E f B D mm245.2.2.2.2.2.2.2.2 2 [some (.ref 67), some (.int x1), some (.int x2), some (.int y3)] [] (hz F A L) Q := by
  intro m
  induction m with
  | zero =>
    intro B D F A L x1 x2 y3 hm K
    generalize hT : (km_areOfOneMind_2 (A 68) x1 x2 0 y3) = T at K
    have hE : T = 1 := hT.symm
    clear hT
    refine w_n 3 (pc1 := 7) (ls1 := [some (.ref 67), some (.int x1), some (.int x2), some (.int y3)]) (st1 := [.int (F 67 3), .int y3]) (hp1 := (hz F A L)) rfl ?_
    refine w_ge (p3 := 10) rfl rfl (fun hb => ?_) (fun h => False.elim (by have h : y3.toInt < (F 67 3).toInt := h; omega))
    refine w_n 1 (pc1 := 34) (ls1 := [some (.ref 67), some (.int x1), some (.int x2), some (.int y3)]) (st1 := [.int 1]) (hp1 := (hz F A L)) rfl ?_
    subst T
    exact w_ri rfl (cvQ rfl rfl rfl K)
  | succ m ih =>
    intro B D F A L x1 x2 y3 hm K
    generalize hT : (km_areOfOneMind_2 (A 68) x1 x2 (m + 1) y3) = T at K
    have hE : T = (if (km_placeOf (A 68) x1 y3) = (km_placeOf (A 68) x2 y3) then (km_areOfOneMind_2 (A 68) x1 x2 m (y3 + 1)) else 0) := hT.symm
    clear hT
    refine w_n 3 (pc1 := 7) (ls1 := [some (.ref 67), some (.int x1), some (.int x2), some (.int y3)]) (st1 := [.int (F 67 3), .int y3]) (hp1 := (hz F A L)) rfl ?_
    refine w_ge (p3 := 10) rfl rfl (fun h => False.elim (by have h : (F 67 3).toInt ≤ y3.toInt := h; omega)) (fun hb => ?_)
    refine w_n 3 (pc1 := 13) (ls1 := [some (.ref 67), some (.int x1), some (.int x2), some (.int y3)]) (st1 := [.int y3, .int x1, .ref 67]) (hp1 := (hz F A L)) rfl ?_
    refine w_c rfl rfl (t_km_placeOf ?_)
    show wl_E f _ _ mm245.2.2.2.2.2.2.2.2 16 [some (.ref 67), some (.int x1), some (.int x2), some (.int y3)] [.int (km_placeOf (A 68) x1 y3)] (hz F A L) _
    generalize hG454 : (km_placeOf (A 68) x1 y3) = G454 at hE ⊢
    refine w_n 3 (pc1 := 19) (ls1 := [some (.ref 67), some (.int x1), some (.int x2), some (.int y3)]) (st1 := [.int y3, .int x2, .ref 67, .int G454]) (hp1 := (hz F A L)) rfl ?_
    refine w_c rfl rfl (t_km_placeOf ?_)
    show wl_E f _ _ mm245.2.2.2.2.2.2.2.2 22 [some (.ref 67), some (.int x1), some (.int x2), some (.int y3)] [.int (km_placeOf (A 68) x2 y3), .int G454] (hz F A L) _
    generalize hG455 : (km_placeOf (A 68) x2 y3) = G455 at hE ⊢
    refine w_eq (p3 := 25) rfl rfl (fun h => ?_) (fun h => ?_)
    · have h1 : G454 = G455 := h
      rw [if_pos h1] at hE
      refine w_n 2 (pc1 := 2) (ls1 := [some (.ref 67), some (.int x1), some (.int x2), some (.int (y3 + 1))]) (st1 := []) (hp1 := (hz F A L)) rfl ?_
      subst T
      have hb2 := i_up (B := (F 67 3)) hb
      have hb3 : y3.toInt < (F 67 3).toInt := hb
      exact ih (show m = ((F 67 3).toInt - (y3 + 1).toInt).toNat by rw [hb2]; omega) (cvQ rfl rfl rfl K)
    · have h1 : ¬ G454 = G455 := h
      rw [if_neg h1] at hE
      refine w_n 1 (pc1 := 26) (ls1 := [some (.ref 67), some (.int x1), some (.int x2), some (.int y3)]) (st1 := [.int 0]) (hp1 := (hz F A L)) rfl ?_
      subst T
      exact w_ri rfl (cvQ rfl rfl rfl K)
def km_areOfOneMind (f67_3 : Int32) (a68 : List Int32) (x1 : Int32) (x2 : Int32) : Int32 := (km_areOfOneMind_2 a68 x1 x2 f67_3.toInt.toNat 0)
theorem t_km_areOfOneMind {f D : Nat} {F : Nat → Nat → Int32} {A : Nat → List Int32} {L : Nat → List Int64} {Q : Option Value → sm_H → Prop} {x1 : Int32} {x2 : Int32} (K : Q (some (.int (km_areOfOneMind (F 67 3) (A 68) x1 x2))) (hz F A L)) : wl_M f D 245 [.ref 67, .int x1, .int x2] (hz F A L) Q := by
  generalize hT : (km_areOfOneMind (F 67 3) (A 68) x1 x2) = T at K
  have hE : T = (km_areOfOneMind_2 (A 68) x1 x2 (F 67 3).toInt.toNat 0) := hT.symm
  clear hT
  refine w_m (E := mm245) rfl ?_
  show wl_E f f (D - 1) mm245.2.2.2.2.2.2.2.2 0 [some (.ref 67), some (.int x1), some (.int x2), none] [] (hz F A L) Q
  refine w_n 2 (pc1 := 2) (ls1 := [some (.ref 67), some (.int x1), some (.int x2), some (.int 0)]) (st1 := []) (hp1 := (hz F A L)) rfl ?_
  subst T
  exact t_km_areOfOneMind_2 _ (show (F 67 3).toInt.toNat = ((F 67 3).toInt - (0 : Int32).toInt).toNat by have e0 : (0 : Int32).toInt = 0 := rfl; first | rfl | omega) (cvQ rfl rfl rfl K)
def km_partyOf_4 (f67_3 : Int32) (a68 : List Int32) (x1 : Int32) : Nat → Int32 → Int32 → Int32
  | 0, y2, _ => y2
  | m + 1, y2, y3 => (if (km_isGuest a68 y3) = 0 then (km_partyOf_4 f67_3 a68 x1 m y2 (y3 + 1)) else (if (km_areOfOneMind f67_3 a68 x1 y3) = 0 then (km_partyOf_4 f67_3 a68 x1 m y2 (y3 + 1)) else (km_partyOf_4 f67_3 a68 x1 m (y2 ||| ((1 : Int32) <<< (y3 &&& 31))) (y3 + 1))))
theorem t_km_partyOf_4 {f : Nat} {Q : Option Value → sm_H → Prop} : ∀ (m : Nat) {B D : Nat} {F : Nat → Nat → Int32} {A : Nat → List Int32} {L : Nat → List Int64} {x1 : Int32} {y2 : Int32} {y3 : Int32}, m = (12 - y3.toInt).toNat → (∀ q3 : Int32, wl_E f B D mm244.2.2.2.2.2.2.2.2 39 [some (.ref 67), some (.int x1), some (.int (km_partyOf_4 (F 67 3) (A 68) x1 m y2 y3)), some (.int q3)] [] (hz F A L) Q) → wl_E f B D mm244.2.2.2.2.2.2.2.2 4 [some (.ref 67), some (.int x1), some (.int y2), some (.int y3)] [] (hz F A L) Q := by
  intro m
  induction m with
  | zero =>
    intro B D F A L x1 y2 y3 hm K
    generalize hT : (km_partyOf_4 (F 67 3) (A 68) x1 0 y2 y3) = T at K
    have hE : T = y2 := hT.symm
    clear hT
    refine w_n 2 (pc1 := 7) (ls1 := [some (.ref 67), some (.int x1), some (.int y2), some (.int y3)]) (st1 := [.int 12, .int y3]) (hp1 := (hz F A L)) rfl ?_
    refine w_ge (p3 := 10) rfl rfl (fun hb => ?_) (fun h => False.elim (by have h : y3.toInt < 12 := h; omega))
    subst T
    exact cvE rfl rfl rfl (K _)
  | succ m ih =>
    intro B D F A L x1 y2 y3 hm K
    generalize hT : (km_partyOf_4 (F 67 3) (A 68) x1 (m + 1) y2 y3) = T at K
    have hE : T = (if (km_isGuest (A 68) y3) = 0 then (km_partyOf_4 (F 67 3) (A 68) x1 m y2 (y3 + 1)) else (if (km_areOfOneMind (F 67 3) (A 68) x1 y3) = 0 then (km_partyOf_4 (F 67 3) (A 68) x1 m y2 (y3 + 1)) else (km_partyOf_4 (F 67 3) (A 68) x1 m (y2 ||| ((1 : Int32) <<< (y3 &&& 31))) (y3 + 1)))) := hT.symm
    clear hT
    refine w_n 2 (pc1 := 7) (ls1 := [some (.ref 67), some (.int x1), some (.int y2), some (.int y3)]) (st1 := [.int 12, .int y3]) (hp1 := (hz F A L)) rfl ?_
    refine w_ge (p3 := 10) rfl rfl (fun h => False.elim (by have h : 12 ≤ y3.toInt := h; omega)) (fun hb => ?_)
    refine w_n 2 (pc1 := 12) (ls1 := [some (.ref 67), some (.int x1), some (.int y2), some (.int y3)]) (st1 := [.int y3, .ref 67]) (hp1 := (hz F A L)) rfl ?_
    refine w_c rfl rfl (t_km_isGuest ?_)
    show wl_E f _ _ mm244.2.2.2.2.2.2.2.2 15 [some (.ref 67), some (.int x1), some (.int y2), some (.int y3)] [.int (km_isGuest (A 68) y3)] (hz F A L) _
    generalize hG453 : (km_isGuest (A 68) y3) = G453 at hE ⊢
    refine w_zeq (p3 := 18) rfl rfl (fun h => ?_) (fun h => ?_)
    · have h1 : G453 = 0 := h
      rw [if_pos h1] at hE
      refine w_n 2 (pc1 := 4) (ls1 := [some (.ref 67), some (.int x1), some (.int y2), some (.int (y3 + 1))]) (st1 := []) (hp1 := (hz F A L)) rfl ?_
      subst T
      have hb2 := i_up (B := (12 : Int32)) hb
      have hb3 : y3.toInt < 12 := hb
      exact ih (show m = (12 - (y3 + 1).toInt).toNat by rw [hb2]; omega) (fun q3 => cvE rfl rfl rfl (K q3))
    · have h1 : ¬ G453 = 0 := h
      rw [if_neg h1] at hE
      refine w_n 3 (pc1 := 21) (ls1 := [some (.ref 67), some (.int x1), some (.int y2), some (.int y3)]) (st1 := [.int y3, .int x1, .ref 67]) (hp1 := (hz F A L)) rfl ?_
      refine w_c rfl rfl (t_km_areOfOneMind ?_)
      show wl_E f _ _ mm244.2.2.2.2.2.2.2.2 24 [some (.ref 67), some (.int x1), some (.int y2), some (.int y3)] [.int (km_areOfOneMind (F 67 3) (A 68) x1 y3)] (hz F A L) _
      generalize hG456 : (km_areOfOneMind (F 67 3) (A 68) x1 y3) = G456 at hE ⊢
      refine w_zeq (p3 := 27) rfl rfl (fun h => ?_) (fun h => ?_)
      · have h2 : G456 = 0 := h
        rw [if_pos h2] at hE
        refine w_n 2 (pc1 := 4) (ls1 := [some (.ref 67), some (.int x1), some (.int y2), some (.int (y3 + 1))]) (st1 := []) (hp1 := (hz F A L)) rfl ?_
        subst T
        have hb2 := i_up (B := (12 : Int32)) hb
        have hb3 : y3.toInt < 12 := hb
        exact ih (show m = (12 - (y3 + 1).toInt).toNat by rw [hb2]; omega) (fun q3 => cvE rfl rfl rfl (K q3))
      · have h2 : ¬ G456 = 0 := h
        rw [if_neg h2] at hE
        refine w_n 8 (pc1 := 4) (ls1 := [some (.ref 67), some (.int x1), some (.int (y2 ||| ((1 : Int32) <<< (y3 &&& 31)))), some (.int (y3 + 1))]) (st1 := []) (hp1 := (hz F A L)) rfl ?_
        subst T
        have hb2 := i_up (B := (12 : Int32)) hb
        have hb3 : y3.toInt < 12 := hb
        exact ih (show m = (12 - (y3 + 1).toInt).toNat by rw [hb2]; omega) (fun q3 => cvE rfl rfl rfl (K q3))
def km_partyOf (f67_3 : Int32) (a68 : List Int32) (x1 : Int32) : Int32 := (km_partyOf_4 f67_3 a68 x1 12 0 0)
theorem t_km_partyOf {f D : Nat} {F : Nat → Nat → Int32} {A : Nat → List Int32} {L : Nat → List Int64} {Q : Option Value → sm_H → Prop} {x1 : Int32} (K : Q (some (.int (km_partyOf (F 67 3) (A 68) x1))) (hz F A L)) : wl_M f D 244 [.ref 67, .int x1] (hz F A L) Q := by
  generalize hT : (km_partyOf (F 67 3) (A 68) x1) = T at K
  have hE : T = (km_partyOf_4 (F 67 3) (A 68) x1 12 0 0) := hT.symm
  clear hT
  refine w_m (E := mm244) rfl ?_
  show wl_E f f (D - 1) mm244.2.2.2.2.2.2.2.2 0 [some (.ref 67), some (.int x1), none, none] [] (hz F A L) Q
  refine w_n 4 (pc1 := 4) (ls1 := [some (.ref 67), some (.int x1), some (.int 0), some (.int 0)]) (st1 := []) (hp1 := (hz F A L)) rfl ?_
  refine t_km_partyOf_4 12 (show (12 : Nat) = (12 - (0 : Int32).toInt).toNat by have e0 : (0 : Int32).toInt = 0 := rfl; first | rfl | omega) ?_
  intro r1
  show wl_E f _ _ mm244.2.2.2.2.2.2.2.2 39 [some (.ref 67), some (.int x1), some (.int (km_partyOf_4 (F 67 3) (A 68) x1 12 0 0)), some (.int r1)] [] (hz F A L) _
  generalize hG457 : (km_partyOf_4 (F 67 3) (A 68) x1 12 0 0) = G457 at hE ⊢
  refine w_n 1 (pc1 := 40) (ls1 := [some (.ref 67), some (.int x1), some (.int G457), some (.int r1)]) (st1 := [.int G457]) (hp1 := (hz F A L)) rfl ?_
  subst T
  exact w_ri rfl (cvQ rfl rfl rfl K)
def km_alike_31 (f67_3 : Int32) (a68 : List Int32)  : Nat → Int32 → Int32 → Int32 → Int32
  | 0, _, y3, _ => y3
  | m + 1, y2, y3, y4 => (if (km_isGuest a68 y4) = 0 then (km_alike_31 f67_3 a68 m y2 y3 (y4 + 1)) else (if (km_has y2 y4) = 0 then (km_alike_31 f67_3 a68 m (y2 ||| (km_partyOf f67_3 a68 y4)) (y3 + 1) (y4 + 1)) else (km_alike_31 f67_3 a68 m y2 y3 (y4 + 1))))
theorem t_km_alike_31 {f : Nat} {Q : Option Value → sm_H → Prop} : ∀ (m : Nat) {B D : Nat} {F : Nat → Nat → Int32} {A : Nat → List Int32} {L : Nat → List Int64} {x1 : Int32} {y2 : Int32} {y3 : Int32} {y4 : Int32}, m = (12 - y4.toInt).toNat → (∀ q2 : Int32, ∀ q4 : Int32, wl_E f B D mm243.2.2.2.2.2.2.2.2 78 [some (.ref 67), some (.int x1), some (.int q2), some (.int (km_alike_31 (F 67 3) (A 68) m y2 y3 y4)), some (.int q4)] [] (hz F A L) Q) → wl_E f B D mm243.2.2.2.2.2.2.2.2 31 [some (.ref 67), some (.int x1), some (.int y2), some (.int y3), some (.int y4)] [] (hz F A L) Q := by
  intro m
  induction m with
  | zero =>
    intro B D F A L x1 y2 y3 y4 hm K
    generalize hT : (km_alike_31 (F 67 3) (A 68) 0 y2 y3 y4) = T at K
    have hE : T = y3 := hT.symm
    clear hT
    refine w_n 2 (pc1 := 35) (ls1 := [some (.ref 67), some (.int x1), some (.int y2), some (.int y3), some (.int y4)]) (st1 := [.int 12, .int y4]) (hp1 := (hz F A L)) rfl ?_
    refine w_ge (p3 := 38) rfl rfl (fun hb => ?_) (fun h => False.elim (by have h : y4.toInt < 12 := h; omega))
    subst T
    exact cvE rfl rfl rfl (K _ _)
  | succ m ih =>
    intro B D F A L x1 y2 y3 y4 hm K
    generalize hT : (km_alike_31 (F 67 3) (A 68) (m + 1) y2 y3 y4) = T at K
    have hE : T = (if (km_isGuest (A 68) y4) = 0 then (km_alike_31 (F 67 3) (A 68) m y2 y3 (y4 + 1)) else (if (km_has y2 y4) = 0 then (km_alike_31 (F 67 3) (A 68) m (y2 ||| (km_partyOf (F 67 3) (A 68) y4)) (y3 + 1) (y4 + 1)) else (km_alike_31 (F 67 3) (A 68) m y2 y3 (y4 + 1)))) := hT.symm
    clear hT
    refine w_n 2 (pc1 := 35) (ls1 := [some (.ref 67), some (.int x1), some (.int y2), some (.int y3), some (.int y4)]) (st1 := [.int 12, .int y4]) (hp1 := (hz F A L)) rfl ?_
    refine w_ge (p3 := 38) rfl rfl (fun h => False.elim (by have h : 12 ≤ y4.toInt := h; omega)) (fun hb => ?_)
    refine w_n 2 (pc1 := 41) (ls1 := [some (.ref 67), some (.int x1), some (.int y2), some (.int y3), some (.int y4)]) (st1 := [.int y4, .ref 67]) (hp1 := (hz F A L)) rfl ?_
    refine w_c rfl rfl (t_km_isGuest ?_)
    show wl_E f _ _ mm243.2.2.2.2.2.2.2.2 44 [some (.ref 67), some (.int x1), some (.int y2), some (.int y3), some (.int y4)] [.int (km_isGuest (A 68) y4)] (hz F A L) _
    generalize hG451 : (km_isGuest (A 68) y4) = G451 at hE ⊢
    refine w_zeq (p3 := 47) rfl rfl (fun h => ?_) (fun h => ?_)
    · have h1 : G451 = 0 := h
      rw [if_pos h1] at hE
      refine w_n 2 (pc1 := 31) (ls1 := [some (.ref 67), some (.int x1), some (.int y2), some (.int y3), some (.int (y4 + 1))]) (st1 := []) (hp1 := (hz F A L)) rfl ?_
      subst T
      have hb2 := i_up (B := (12 : Int32)) hb
      have hb3 : y4.toInt < 12 := hb
      exact ih (show m = (12 - (y4 + 1).toInt).toNat by rw [hb2]; omega) (fun q2 q4 => cvE rfl rfl rfl (K q2 q4))
    · have h1 : ¬ G451 = 0 := h
      rw [if_neg h1] at hE
      refine w_n 2 (pc1 := 50) (ls1 := [some (.ref 67), some (.int x1), some (.int y2), some (.int y3), some (.int y4)]) (st1 := [.int y4, .int y2]) (hp1 := (hz F A L)) rfl ?_
      refine w_c rfl rfl (t_km_has ?_)
      show wl_E f _ _ mm243.2.2.2.2.2.2.2.2 53 [some (.ref 67), some (.int x1), some (.int y2), some (.int y3), some (.int y4)] [.int (km_has y2 y4)] (hz F A L) _
      generalize hG452 : (km_has y2 y4) = G452 at hE ⊢
      refine w_zeq (p3 := 56) rfl rfl (fun h => ?_) (fun h => ?_)
      · have h2 : G452 = 0 := h
        rw [if_pos h2] at hE
        refine w_n 3 (pc1 := 63) (ls1 := [some (.ref 67), some (.int x1), some (.int y2), some (.int y3), some (.int y4)]) (st1 := [.int y4, .ref 67, .int y2]) (hp1 := (hz F A L)) rfl ?_
        refine w_c rfl rfl (t_km_partyOf ?_)
        show wl_E f _ _ mm243.2.2.2.2.2.2.2.2 66 [some (.ref 67), some (.int x1), some (.int y2), some (.int y3), some (.int y4)] [.int (km_partyOf (F 67 3) (A 68) y4), .int y2] (hz F A L) _
        generalize hG458 : (km_partyOf (F 67 3) (A 68) y4) = G458 at hE ⊢
        refine w_n 8 (pc1 := 31) (ls1 := [some (.ref 67), some (.int x1), some (.int (y2 ||| G458)), some (.int (y3 + 1)), some (.int (y4 + 1))]) (st1 := []) (hp1 := (hz F A L)) rfl ?_
        subst T
        have hb2 := i_up (B := (12 : Int32)) hb
        have hb3 : y4.toInt < 12 := hb
        exact ih (show m = (12 - (y4 + 1).toInt).toNat by rw [hb2]; omega) (fun q2 q4 => cvE rfl rfl rfl (K q2 q4))
      · have h2 : ¬ G452 = 0 := h
        rw [if_neg h2] at hE
        refine w_n 3 (pc1 := 31) (ls1 := [some (.ref 67), some (.int x1), some (.int y2), some (.int y3), some (.int (y4 + 1))]) (st1 := []) (hp1 := (hz F A L)) rfl ?_
        subst T
        have hb2 := i_up (B := (12 : Int32)) hb
        have hb3 : y4.toInt < 12 := hb
        exact ih (show m = (12 - (y4 + 1).toInt).toNat by rw [hb2]; omega) (fun q2 q4 => cvE rfl rfl rfl (K q2 q4))
def km_alike (f67_3 : Int32) (a68 : List Int32) (x1 : Int32) : Int32 := (if x1 = 100 then (km_alike_31 f67_3 a68 12 0 0 0) else (if (km_isGuest a68 x1) = 0 then (-1) else (km_partyOf f67_3 a68 x1)))
theorem t_km_alike {f D : Nat} {F : Nat → Nat → Int32} {A : Nat → List Int32} {L : Nat → List Int64} {Q : Option Value → sm_H → Prop} {x1 : Int32} (K : Q (some (.int (km_alike (F 67 3) (A 68) x1))) (hz F A L)) : wl_M f D 243 [.ref 67, .int x1] (hz F A L) Q := by
  generalize hT : (km_alike (F 67 3) (A 68) x1) = T at K
  have hE : T = (if x1 = 100 then (km_alike_31 (F 67 3) (A 68) 12 0 0 0) else (if (km_isGuest (A 68) x1) = 0 then (-1) else (km_partyOf (F 67 3) (A 68) x1))) := hT.symm
  clear hT
  refine w_m (E := mm243) rfl ?_
  show wl_E f f (D - 1) mm243.2.2.2.2.2.2.2.2 0 [some (.ref 67), some (.int x1), none, none, none] [] (hz F A L) Q
  refine w_n 2 (pc1 := 3) (ls1 := [some (.ref 67), some (.int x1), none, none, none]) (st1 := [.int 100, .int x1]) (hp1 := (hz F A L)) rfl ?_
  refine w_eq (p3 := 6) rfl rfl (fun h => ?_) (fun h => ?_)
  · have h1 : x1 = 100 := h
    rw [if_pos h1] at hE
    refine w_n 6 (pc1 := 31) (ls1 := [some (.ref 67), some (.int x1), some (.int 0), some (.int 0), some (.int 0)]) (st1 := []) (hp1 := (hz F A L)) rfl ?_
    refine t_km_alike_31 12 (show (12 : Nat) = (12 - (0 : Int32).toInt).toNat by have e0 : (0 : Int32).toInt = 0 := rfl; first | rfl | omega) ?_
    intro r1 r2
    show wl_E f _ _ mm243.2.2.2.2.2.2.2.2 78 [some (.ref 67), some (.int x1), some (.int r1), some (.int (km_alike_31 (F 67 3) (A 68) 12 0 0 0)), some (.int r2)] [] (hz F A L) _
    generalize hG459 : (km_alike_31 (F 67 3) (A 68) 12 0 0 0) = G459 at hE ⊢
    refine w_n 1 (pc1 := 79) (ls1 := [some (.ref 67), some (.int x1), some (.int r1), some (.int G459), some (.int r2)]) (st1 := [.int G459]) (hp1 := (hz F A L)) rfl ?_
    subst T
    exact w_ri rfl (cvQ rfl rfl rfl K)
  · have h1 : ¬ x1 = 100 := h
    rw [if_neg h1] at hE
    refine w_n 2 (pc1 := 8) (ls1 := [some (.ref 67), some (.int x1), none, none, none]) (st1 := [.int x1, .ref 67]) (hp1 := (hz F A L)) rfl ?_
    refine w_c rfl rfl (t_km_isGuest ?_)
    show wl_E f _ _ mm243.2.2.2.2.2.2.2.2 11 [some (.ref 67), some (.int x1), none, none, none] [.int (km_isGuest (A 68) x1)] (hz F A L) _
    generalize hG460 : (km_isGuest (A 68) x1) = G460 at hE ⊢
    refine w_zeq (p3 := 14) rfl rfl (fun h => ?_) (fun h => ?_)
    · have h2 : G460 = 0 := h
      rw [if_pos h2] at hE
      refine w_n 1 (pc1 := 23) (ls1 := [some (.ref 67), some (.int x1), none, none, none]) (st1 := [.int (-1)]) (hp1 := (hz F A L)) rfl ?_
      subst T
      exact w_ri rfl (cvQ rfl rfl rfl K)
    · have h2 : ¬ G460 = 0 := h
      rw [if_neg h2] at hE
      refine w_n 2 (pc1 := 16) (ls1 := [some (.ref 67), some (.int x1), none, none, none]) (st1 := [.int x1, .ref 67]) (hp1 := (hz F A L)) rfl ?_
      refine w_c rfl rfl (t_km_partyOf ?_)
      show wl_E f _ _ mm243.2.2.2.2.2.2.2.2 19 [some (.ref 67), some (.int x1), none, none, none] [.int (km_partyOf (F 67 3) (A 68) x1)] (hz F A L) _
      generalize hG461 : (km_partyOf (F 67 3) (A 68) x1) = G461 at hE ⊢
      refine w_n 1 (pc1 := 23) (ls1 := [some (.ref 67), some (.int x1), none, none, none]) (st1 := [.int G461]) (hp1 := (hz F A L)) rfl ?_
      subst T
      exact w_ri rfl (cvQ rfl rfl rfl K)
def kl_tell_43_3 (f3_4 : Int32) (a6 : List Int32) (a8 : List Int32) (a10 : List Int32) (a50 : List Int32) (x2 : Int32) : List Int32 := ((((a50.set 4 (a6.getD x2.toInt.toNat 0)).set 5 (a8.getD x2.toInt.toNat 0)).set 6 (a10.getD x2.toInt.toNat 0)).set 7 f3_4)
theorem t_kl_tell_43_3 {f D : Nat} {F : Nat → Nat → Int32} {A : Nat → List Int32} {L : Nat → List Int64} {Q : Option Value → sm_H → Prop} {x2 : Int32} (K : Q none (hz F (uA A 50 (kl_tell_43_3 (F 3 4) (A 6) (A 8) (A 10) (A 50) x2)) L)) : wl_M f D 51 [.ref 43, .ref 3, .int x2] (hz F A L) Q := by
  generalize hT : (kl_tell_43_3 (F 3 4) (A 6) (A 8) (A 10) (A 50) x2) = T at K
  have hE : T = (((((A 50).set 4 ((A 6).getD x2.toInt.toNat 0)).set 5 ((A 8).getD x2.toInt.toNat 0)).set 6 ((A 10).getD x2.toInt.toNat 0)).set 7 (F 3 4)) := hT.symm
  clear hT
  refine w_m (E := mm51) rfl ?_
  show wl_E f f (D - 1) mm51.2.2.2.2.2.2.2.2 0 [some (.ref 43), some (.ref 3), some (.int x2)] [] (hz F A L) Q
  refine w_n 6 (pc1 := 10) (ls1 := [some (.ref 43), some (.ref 3), some (.int x2)]) (st1 := [.int x2, .ref 6, .int 4, .ref 50]) (hp1 := (hz F A L)) rfl ?_
  refine w_al (k := 6) (l := (A 6)) rfl rfl rfl (fun _ => ?_)
  refine w_as (k := 50) (l := (A 50)) (hp1 := (hz F (uA A 50 ((A 50).set 4 ((A 6).getD x2.toInt.toNat 0))) L)) rfl rfl rfl (hz_s50 _) (fun _ => ?_)
  refine w_n 6 (pc1 := 22) (ls1 := [some (.ref 43), some (.ref 3), some (.int x2)]) (st1 := [.int x2, .ref 8, .int 5, .ref 50]) (hp1 := (hz F (uA A 50 ((A 50).set 4 ((A 6).getD x2.toInt.toNat 0))) L)) rfl ?_
  refine w_al (k := 8) (l := (A 8)) rfl rfl rfl (fun _ => ?_)
  refine w_as (k := 50) (l := ((A 50).set 4 ((A 6).getD x2.toInt.toNat 0))) (hp1 := (hz F (uA (uA A 50 ((A 50).set 4 ((A 6).getD x2.toInt.toNat 0))) 50 (((A 50).set 4 ((A 6).getD x2.toInt.toNat 0)).set 5 ((A 8).getD x2.toInt.toNat 0))) L)) rfl rfl rfl (hz_s50 _) (fun _ => ?_)
  refine w_n 6 (pc1 := 35) (ls1 := [some (.ref 43), some (.ref 3), some (.int x2)]) (st1 := [.int x2, .ref 10, .int 6, .ref 50]) (hp1 := (hz F (uA (uA A 50 ((A 50).set 4 ((A 6).getD x2.toInt.toNat 0))) 50 (((A 50).set 4 ((A 6).getD x2.toInt.toNat 0)).set 5 ((A 8).getD x2.toInt.toNat 0))) L)) rfl ?_
  refine w_al (k := 10) (l := (A 10)) rfl rfl rfl (fun _ => ?_)
  refine w_as (k := 50) (l := (((A 50).set 4 ((A 6).getD x2.toInt.toNat 0)).set 5 ((A 8).getD x2.toInt.toNat 0))) (hp1 := (hz F (uA (uA (uA A 50 ((A 50).set 4 ((A 6).getD x2.toInt.toNat 0))) 50 (((A 50).set 4 ((A 6).getD x2.toInt.toNat 0)).set 5 ((A 8).getD x2.toInt.toNat 0))) 50 ((((A 50).set 4 ((A 6).getD x2.toInt.toNat 0)).set 5 ((A 8).getD x2.toInt.toNat 0)).set 6 ((A 10).getD x2.toInt.toNat 0))) L)) rfl rfl rfl (hz_s50 _) (fun _ => ?_)
  refine w_n 5 (pc1 := 47) (ls1 := [some (.ref 43), some (.ref 3), some (.int x2)]) (st1 := [.int (F 3 4), .int 7, .ref 50]) (hp1 := (hz F (uA (uA (uA A 50 ((A 50).set 4 ((A 6).getD x2.toInt.toNat 0))) 50 (((A 50).set 4 ((A 6).getD x2.toInt.toNat 0)).set 5 ((A 8).getD x2.toInt.toNat 0))) 50 ((((A 50).set 4 ((A 6).getD x2.toInt.toNat 0)).set 5 ((A 8).getD x2.toInt.toNat 0)).set 6 ((A 10).getD x2.toInt.toNat 0))) L)) rfl ?_
  refine w_as (k := 50) (l := ((((A 50).set 4 ((A 6).getD x2.toInt.toNat 0)).set 5 ((A 8).getD x2.toInt.toNat 0)).set 6 ((A 10).getD x2.toInt.toNat 0))) (hp1 := (hz F (uA (uA (uA (uA A 50 ((A 50).set 4 ((A 6).getD x2.toInt.toNat 0))) 50 (((A 50).set 4 ((A 6).getD x2.toInt.toNat 0)).set 5 ((A 8).getD x2.toInt.toNat 0))) 50 ((((A 50).set 4 ((A 6).getD x2.toInt.toNat 0)).set 5 ((A 8).getD x2.toInt.toNat 0)).set 6 ((A 10).getD x2.toInt.toNat 0))) 50 (((((A 50).set 4 ((A 6).getD x2.toInt.toNat 0)).set 5 ((A 8).getD x2.toInt.toNat 0)).set 6 ((A 10).getD x2.toInt.toNat 0)).set 7 (F 3 4))) L)) rfl rfl rfl (hz_s50 _) (fun _ => ?_)
  subst T
  exact w_r rfl rfl (cvQ rfl (funext fun q => if k0 : q = 50 then by subst k0; exact Eq.trans (b := (((((A 50).set 4 ((A 6).getD x2.toInt.toNat 0)).set 5 ((A 8).getD x2.toInt.toNat 0)).set 6 ((A 10).getD x2.toInt.toNat 0)).set 7 (F 3 4))) rfl rfl else by unfold uA; simp only [nb1 k0, cond_false]) rfl K)
def kl_tellMother_43_3 (f3_2 : Int32) (f3_4 : Int32) (a6 : List Int32) (a8 : List Int32) (a10 : List Int32) (a50 : List Int32) : List Int32 := (((((kl_tell_43_3 f3_4 a6 a8 a10 a50 f3_2).set 0 f3_2).set 1 0).set 2 0).set 3 0)
theorem t_kl_tellMother_43_3 {f D : Nat} {F : Nat → Nat → Int32} {A : Nat → List Int32} {L : Nat → List Int64} {Q : Option Value → sm_H → Prop} (K : Q none (hz F (uA A 50 (kl_tellMother_43_3 (F 3 2) (F 3 4) (A 6) (A 8) (A 10) (A 50))) L)) : wl_M f D 50 [.ref 43, .ref 3] (hz F A L) Q := by
  generalize hT : (kl_tellMother_43_3 (F 3 2) (F 3 4) (A 6) (A 8) (A 10) (A 50)) = T at K
  have hE : T = (((((kl_tell_43_3 (F 3 4) (A 6) (A 8) (A 10) (A 50) (F 3 2)).set 0 (F 3 2)).set 1 0).set 2 0).set 3 0) := hT.symm
  clear hT
  refine w_m (E := mm50) rfl ?_
  show wl_E f f (D - 1) mm50.2.2.2.2.2.2.2.2 0 [some (.ref 43), some (.ref 3)] [] (hz F A L) Q
  refine w_n 4 (pc1 := 6) (ls1 := [some (.ref 43), some (.ref 3)]) (st1 := [.int (F 3 2), .ref 3, .ref 43]) (hp1 := (hz F A L)) rfl ?_
  refine w_c rfl rfl (t_kl_tell_43_3 ?_)
  show wl_E f _ _ mm50.2.2.2.2.2.2.2.2 9 [some (.ref 43), some (.ref 3)] [] (hz F (uA A 50 (kl_tell_43_3 (F 3 4) (A 6) (A 8) (A 10) (A 50) (F 3 2))) L) _
  generalize hG463 : (kl_tell_43_3 (F 3 4) (A 6) (A 8) (A 10) (A 50) (F 3 2)) = G463 at hE ⊢
  refine w_n 5 (pc1 := 18) (ls1 := [some (.ref 43), some (.ref 3)]) (st1 := [.int (F 3 2), .int 0, .ref 50]) (hp1 := (hz F (uA A 50 G463) L)) rfl ?_
  refine w_as (k := 50) (l := G463) (hp1 := (hz F (uA (uA A 50 G463) 50 (G463.set 0 (F 3 2))) L)) rfl rfl rfl (hz_s50 _) (fun _ => ?_)
  refine w_n 4 (pc1 := 25) (ls1 := [some (.ref 43), some (.ref 3)]) (st1 := [.int 0, .int 1, .ref 50]) (hp1 := (hz F (uA (uA A 50 G463) 50 (G463.set 0 (F 3 2))) L)) rfl ?_
  refine w_as (k := 50) (l := (G463.set 0 (F 3 2))) (hp1 := (hz F (uA (uA (uA A 50 G463) 50 (G463.set 0 (F 3 2))) 50 ((G463.set 0 (F 3 2)).set 1 0)) L)) rfl rfl rfl (hz_s50 _) (fun _ => ?_)
  refine w_n 4 (pc1 := 32) (ls1 := [some (.ref 43), some (.ref 3)]) (st1 := [.int 0, .int 2, .ref 50]) (hp1 := (hz F (uA (uA (uA A 50 G463) 50 (G463.set 0 (F 3 2))) 50 ((G463.set 0 (F 3 2)).set 1 0)) L)) rfl ?_
  refine w_as (k := 50) (l := ((G463.set 0 (F 3 2)).set 1 0)) (hp1 := (hz F (uA (uA (uA (uA A 50 G463) 50 (G463.set 0 (F 3 2))) 50 ((G463.set 0 (F 3 2)).set 1 0)) 50 (((G463.set 0 (F 3 2)).set 1 0).set 2 0)) L)) rfl rfl rfl (hz_s50 _) (fun _ => ?_)
  refine w_n 4 (pc1 := 39) (ls1 := [some (.ref 43), some (.ref 3)]) (st1 := [.int 0, .int 3, .ref 50]) (hp1 := (hz F (uA (uA (uA (uA A 50 G463) 50 (G463.set 0 (F 3 2))) 50 ((G463.set 0 (F 3 2)).set 1 0)) 50 (((G463.set 0 (F 3 2)).set 1 0).set 2 0)) L)) rfl ?_
  refine w_as (k := 50) (l := (((G463.set 0 (F 3 2)).set 1 0).set 2 0)) (hp1 := (hz F (uA (uA (uA (uA (uA A 50 G463) 50 (G463.set 0 (F 3 2))) 50 ((G463.set 0 (F 3 2)).set 1 0)) 50 (((G463.set 0 (F 3 2)).set 1 0).set 2 0)) 50 ((((G463.set 0 (F 3 2)).set 1 0).set 2 0).set 3 0)) L)) rfl rfl rfl (hz_s50 _) (fun _ => ?_)
  subst T
  exact w_r rfl rfl (cvQ rfl (funext fun q => if k0 : q = 50 then by subst k0; exact Eq.trans (b := ((((G463.set 0 (F 3 2)).set 1 0).set 2 0).set 3 0)) rfl rfl else by unfold uA; simp only [nb1 k0, cond_false]) rfl K)
def kl_combine (f43_10 : Int32) (x1 : Int32) (x2 : Int32) (x3 : Int32) : Int32 × Int32 := (if x1 = 42 then ((x2 * x3), f43_10) else (if x1 = 43 then ((x2 + x3), f43_10) else (if x1 = 45 then ((x2 - x3), f43_10) else (if x1 = 60 then (if x2.toInt < x3.toInt then (1, f43_10) else (0, f43_10)) else (if x1 = 61 then (if x2 = x3 then (1, f43_10) else (0, f43_10)) else (if x1 = 62 then (if x3.toInt < x2.toInt then (1, f43_10) else (0, f43_10)) else (if x3 = 0 then (0, 1) else (if x1 = 47 then ((x2 / x3), f43_10) else ((x2 - x2 / x3 * x3), f43_10)))))))))
theorem t_kl_combine {f D : Nat} {F : Nat → Nat → Int32} {A : Nat → List Int32} {L : Nat → List Int64} {Q : Option Value → sm_H → Prop} {x1 : Int32} {x2 : Int32} {x3 : Int32} (K : Q (some (.int ((kl_combine (F 43 10) x1 x2 x3).1))) (hz (uF F 43 10 ((kl_combine (F 43 10) x1 x2 x3).2)) A L)) : wl_M f D 54 [.ref 43, .int x1, .int x2, .int x3] (hz F A L) Q := by
  generalize hT : (kl_combine (F 43 10) x1 x2 x3) = T at K
  have hE : T = (if x1 = 42 then ((x2 * x3), (F 43 10)) else (if x1 = 43 then ((x2 + x3), (F 43 10)) else (if x1 = 45 then ((x2 - x3), (F 43 10)) else (if x1 = 60 then (if x2.toInt < x3.toInt then (1, (F 43 10)) else (0, (F 43 10))) else (if x1 = 61 then (if x2 = x3 then (1, (F 43 10)) else (0, (F 43 10))) else (if x1 = 62 then (if x3.toInt < x2.toInt then (1, (F 43 10)) else (0, (F 43 10))) else (if x3 = 0 then (0, 1) else (if x1 = 47 then ((x2 / x3), (F 43 10)) else ((x2 - x2 / x3 * x3), (F 43 10)))))))))) := hT.symm
  clear hT
  refine w_m (E := mm54) rfl ?_
  show wl_E f f (D - 1) mm54.2.2.2.2.2.2.2.2 0 [some (.ref 43), some (.int x1), some (.int x2), some (.int x3)] [] (hz F A L) Q
  refine w_n 1 (pc1 := 1) (ls1 := [some (.ref 43), some (.int x1), some (.int x2), some (.int x3)]) (st1 := [.int x1]) (hp1 := (hz F A L)) rfl ?_
  by_cases h : x1 = 42
  · have h1 : x1 = 42 := h
    rw [if_pos h1] at hE
    refine w_k h1 ?_
    refine w_n 1 (pc1 := 68) (ls1 := [some (.ref 43), some (.int x1), some (.int x2), some (.int x3)]) (st1 := []) (hp1 := (hz F A L)) rfl ?_
    refine w_n 3 (pc1 := 71) (ls1 := [some (.ref 43), some (.int x1), some (.int x2), some (.int x3)]) (st1 := [.int (x2 * x3)]) (hp1 := (hz F A L)) rfl ?_
    subst T
    exact w_ri rfl (cvQ (funext fun q => funext fun z => if k0 : q = 43 ∧ z = 10 then by obtain ⟨w1, w2⟩ := k0; subst w1; subst w2; exact Eq.trans (b := (F 43 10)) rfl rfl else by unfold uF; simp only [nb2 k0, cond_false]) rfl rfl K)
  · have h1 : ¬ x1 = 42 := h
    rw [if_neg h1] at hE
    by_cases h : x1 = 43
    · have h2 : x1 = 43 := h
      rw [if_pos h2] at hE
      refine w_k h2 ?_
      refine w_n 1 (pc1 := 60) (ls1 := [some (.ref 43), some (.int x1), some (.int x2), some (.int x3)]) (st1 := []) (hp1 := (hz F A L)) rfl ?_
      refine w_n 3 (pc1 := 63) (ls1 := [some (.ref 43), some (.int x1), some (.int x2), some (.int x3)]) (st1 := [.int (x2 + x3)]) (hp1 := (hz F A L)) rfl ?_
      subst T
      exact w_ri rfl (cvQ (funext fun q => funext fun z => if k0 : q = 43 ∧ z = 10 then by obtain ⟨w1, w2⟩ := k0; subst w1; subst w2; exact Eq.trans (b := (F 43 10)) rfl rfl else by unfold uF; simp only [nb2 k0, cond_false]) rfl rfl K)
    · have h2 : ¬ x1 = 43 := h
      rw [if_neg h2] at hE
      by_cases h : x1 = 45
      · have h3 : x1 = 45 := h
        rw [if_pos h3] at hE
        refine w_k h3 ?_
        refine w_n 1 (pc1 := 64) (ls1 := [some (.ref 43), some (.int x1), some (.int x2), some (.int x3)]) (st1 := []) (hp1 := (hz F A L)) rfl ?_
        refine w_n 3 (pc1 := 67) (ls1 := [some (.ref 43), some (.int x1), some (.int x2), some (.int x3)]) (st1 := [.int (x2 - x3)]) (hp1 := (hz F A L)) rfl ?_
        subst T
        exact w_ri rfl (cvQ (funext fun q => funext fun z => if k0 : q = 43 ∧ z = 10 then by obtain ⟨w1, w2⟩ := k0; subst w1; subst w2; exact Eq.trans (b := (F 43 10)) rfl rfl else by unfold uF; simp only [nb2 k0, cond_false]) rfl rfl K)
      · have h3 : ¬ x1 = 45 := h
        rw [if_neg h3] at hE
        by_cases h : x1 = 60
        · have h4 : x1 = 60 := h
          rw [if_pos h4] at hE
          refine w_k h4 ?_
          refine w_n 1 (pc1 := 72) (ls1 := [some (.ref 43), some (.int x1), some (.int x2), some (.int x3)]) (st1 := []) (hp1 := (hz F A L)) rfl ?_
          refine w_n 2 (pc1 := 74) (ls1 := [some (.ref 43), some (.int x1), some (.int x2), some (.int x3)]) (st1 := [.int x3, .int x2]) (hp1 := (hz F A L)) rfl ?_
          refine w_ge (p3 := 77) rfl rfl (fun h => ?_) (fun h => ?_)
          · have h5 : x3.toInt ≤ x2.toInt := h
            rw [if_neg (Int.not_lt.mpr h5)] at hE
            refine w_n 1 (pc1 := 82) (ls1 := [some (.ref 43), some (.int x1), some (.int x2), some (.int x3)]) (st1 := [.int 0]) (hp1 := (hz F A L)) rfl ?_
            subst T
            exact w_ri rfl (cvQ (funext fun q => funext fun z => if k0 : q = 43 ∧ z = 10 then by obtain ⟨w1, w2⟩ := k0; subst w1; subst w2; exact Eq.trans (b := (F 43 10)) rfl rfl else by unfold uF; simp only [nb2 k0, cond_false]) rfl rfl K)
          · have h5 : x2.toInt < x3.toInt := h
            rw [if_pos h5] at hE
            refine w_n 2 (pc1 := 82) (ls1 := [some (.ref 43), some (.int x1), some (.int x2), some (.int x3)]) (st1 := [.int 1]) (hp1 := (hz F A L)) rfl ?_
            subst T
            exact w_ri rfl (cvQ (funext fun q => funext fun z => if k0 : q = 43 ∧ z = 10 then by obtain ⟨w1, w2⟩ := k0; subst w1; subst w2; exact Eq.trans (b := (F 43 10)) rfl rfl else by unfold uF; simp only [nb2 k0, cond_false]) rfl rfl K)
        · have h4 : ¬ x1 = 60 := h
          rw [if_neg h4] at hE
          by_cases h : x1 = 61
          · have h6 : x1 = 61 := h
            rw [if_pos h6] at hE
            refine w_k h6 ?_
            refine w_n 1 (pc1 := 94) (ls1 := [some (.ref 43), some (.int x1), some (.int x2), some (.int x3)]) (st1 := []) (hp1 := (hz F A L)) rfl ?_
            refine w_n 2 (pc1 := 96) (ls1 := [some (.ref 43), some (.int x1), some (.int x2), some (.int x3)]) (st1 := [.int x3, .int x2]) (hp1 := (hz F A L)) rfl ?_
            refine w_ne (p3 := 99) rfl rfl (fun h => ?_) (fun h => ?_)
            · have h7 : ¬ x2 = x3 := h
              rw [if_neg h7] at hE
              refine w_n 1 (pc1 := 104) (ls1 := [some (.ref 43), some (.int x1), some (.int x2), some (.int x3)]) (st1 := [.int 0]) (hp1 := (hz F A L)) rfl ?_
              subst T
              exact w_ri rfl (cvQ (funext fun q => funext fun z => if k0 : q = 43 ∧ z = 10 then by obtain ⟨w1, w2⟩ := k0; subst w1; subst w2; exact Eq.trans (b := (F 43 10)) rfl rfl else by unfold uF; simp only [nb2 k0, cond_false]) rfl rfl K)
            · have h7 : x2 = x3 := h
              rw [if_pos h7] at hE
              refine w_n 2 (pc1 := 104) (ls1 := [some (.ref 43), some (.int x1), some (.int x2), some (.int x3)]) (st1 := [.int 1]) (hp1 := (hz F A L)) rfl ?_
              subst T
              exact w_ri rfl (cvQ (funext fun q => funext fun z => if k0 : q = 43 ∧ z = 10 then by obtain ⟨w1, w2⟩ := k0; subst w1; subst w2; exact Eq.trans (b := (F 43 10)) rfl rfl else by unfold uF; simp only [nb2 k0, cond_false]) rfl rfl K)
          · have h6 : ¬ x1 = 61 := h
            rw [if_neg h6] at hE
            by_cases h : x1 = 62
            · have h8 : x1 = 62 := h
              rw [if_pos h8] at hE
              refine w_k h8 ?_
              refine w_n 1 (pc1 := 83) (ls1 := [some (.ref 43), some (.int x1), some (.int x2), some (.int x3)]) (st1 := []) (hp1 := (hz F A L)) rfl ?_
              refine w_n 2 (pc1 := 85) (ls1 := [some (.ref 43), some (.int x1), some (.int x2), some (.int x3)]) (st1 := [.int x3, .int x2]) (hp1 := (hz F A L)) rfl ?_
              refine w_le (p3 := 88) rfl rfl (fun h => ?_) (fun h => ?_)
              · have h9 : x2.toInt ≤ x3.toInt := h
                rw [if_neg (Int.not_lt.mpr h9)] at hE
                refine w_n 1 (pc1 := 93) (ls1 := [some (.ref 43), some (.int x1), some (.int x2), some (.int x3)]) (st1 := [.int 0]) (hp1 := (hz F A L)) rfl ?_
                subst T
                exact w_ri rfl (cvQ (funext fun q => funext fun z => if k0 : q = 43 ∧ z = 10 then by obtain ⟨w1, w2⟩ := k0; subst w1; subst w2; exact Eq.trans (b := (F 43 10)) rfl rfl else by unfold uF; simp only [nb2 k0, cond_false]) rfl rfl K)
              · have h9 : x3.toInt < x2.toInt := h
                rw [if_pos h9] at hE
                refine w_n 2 (pc1 := 93) (ls1 := [some (.ref 43), some (.int x1), some (.int x2), some (.int x3)]) (st1 := [.int 1]) (hp1 := (hz F A L)) rfl ?_
                subst T
                exact w_ri rfl (cvQ (funext fun q => funext fun z => if k0 : q = 43 ∧ z = 10 then by obtain ⟨w1, w2⟩ := k0; subst w1; subst w2; exact Eq.trans (b := (F 43 10)) rfl rfl else by unfold uF; simp only [nb2 k0, cond_false]) rfl rfl K)
            · have h8 : ¬ x1 = 62 := h
              rw [if_neg h8] at hE
              have n0 : ¬ x1.toInt = 42 := fun z => h1 (Int32.toInt_inj.mp (show _ = (42 : Int32).toInt from z))
              have n1 : ¬ x1.toInt = 43 := fun z => h2 (Int32.toInt_inj.mp (show _ = (43 : Int32).toInt from z))
              have n2 : ¬ x1.toInt = 45 := fun z => h3 (Int32.toInt_inj.mp (show _ = (45 : Int32).toInt from z))
              have n3 : ¬ x1.toInt = 60 := fun z => h4 (Int32.toInt_inj.mp (show _ = (60 : Int32).toInt from z))
              have n4 : ¬ x1.toInt = 61 := fun z => h6 (Int32.toInt_inj.mp (show _ = (61 : Int32).toInt from z))
              have n5 : ¬ x1.toInt = 62 := fun z => h8 (Int32.toInt_inj.mp (show _ = (62 : Int32).toInt from z))
              refine w_lsw rfl rfl (by show Op.lookupswitch.offset [(42, 67), (43, 59), (45, 63), (60, 71), (61, 93), (62, 82)] 104 _ = _; rw [Op.lookupswitch.offset_cons, if_neg (fun z => n0 z.symm), Op.lookupswitch.offset_cons, if_neg (fun z => n1 z.symm), Op.lookupswitch.offset_cons, if_neg (fun z => n2 z.symm), Op.lookupswitch.offset_cons, if_neg (fun z => n3 z.symm), Op.lookupswitch.offset_cons, if_neg (fun z => n4 z.symm), Op.lookupswitch.offset_cons, if_neg (fun z => n5 z.symm), Op.lookupswitch.offset_nil]) (p1 := 105) (by decide) (by decide) ?_
              refine w_n 1 (pc1 := 106) (ls1 := [some (.ref 43), some (.int x1), some (.int x2), some (.int x3)]) (st1 := [.int x3]) (hp1 := (hz F A L)) rfl ?_
              refine w_zne (p3 := 109) rfl rfl (fun h => ?_) (fun h => ?_)
              · have h10 : ¬ x3 = 0 := h
                rw [if_neg h10] at hE
                refine w_n 2 (pc1 := 119) (ls1 := [some (.ref 43), some (.int x1), some (.int x2), some (.int x3)]) (st1 := [.int 47, .int x1]) (hp1 := (hz F A L)) rfl ?_
                refine w_ne (p3 := 122) rfl rfl (fun h => ?_) (fun h => ?_)
                · have h11 : ¬ x1 = 47 := h
                  rw [if_neg h11] at hE
                  refine w_n 2 (pc1 := 130) (ls1 := [some (.ref 43), some (.int x1), some (.int x2), some (.int x3)]) (st1 := [.int x3, .int x2]) (hp1 := (hz F A L)) rfl ?_
                  refine w_rm rfl rfl (fun _ => ?_)
                  subst T
                  exact w_ri rfl (cvQ (funext fun q => funext fun z => if k0 : q = 43 ∧ z = 10 then by obtain ⟨w1, w2⟩ := k0; subst w1; subst w2; exact Eq.trans (b := (F 43 10)) rfl rfl else by unfold uF; simp only [nb2 k0, cond_false]) rfl rfl K)
                · have h11 : x1 = 47 := h
                  rw [if_pos h11] at hE
                  refine w_n 2 (pc1 := 124) (ls1 := [some (.ref 43), some (.int x1), some (.int x2), some (.int x3)]) (st1 := [.int x3, .int x2]) (hp1 := (hz F A L)) rfl ?_
                  refine w_dv rfl rfl (fun _ => ?_)
                  refine w_n 1 (pc1 := 131) (ls1 := [some (.ref 43), some (.int x1), some (.int x2), some (.int x3)]) (st1 := [.int (x2 / x3)]) (hp1 := (hz F A L)) rfl ?_
                  subst T
                  exact w_ri rfl (cvQ (funext fun q => funext fun z => if k0 : q = 43 ∧ z = 10 then by obtain ⟨w1, w2⟩ := k0; subst w1; subst w2; exact Eq.trans (b := (F 43 10)) rfl rfl else by unfold uF; simp only [nb2 k0, cond_false]) rfl rfl K)
              · have h10 : x3 = 0 := h
                rw [if_pos h10] at hE
                refine w_n 2 (pc1 := 111) (ls1 := [some (.ref 43), some (.int x1), some (.int x2), some (.int x3)]) (st1 := [.int 1, .ref 43]) (hp1 := (hz F A L)) rfl ?_
                refine w_pf (k := 43) (fs := hz_f43 F) (hp1 := (hz (uF F 43 10 1) A L)) rfl rfl rfl (hz_p43_10 _) ?_
                refine w_n 1 (pc1 := 115) (ls1 := [some (.ref 43), some (.int x1), some (.int x2), some (.int x3)]) (st1 := [.int 0]) (hp1 := (hz (uF F 43 10 1) A L)) rfl ?_
                subst T
                exact w_ri rfl (cvQ rfl rfl rfl K)
