/-! lifts, printed by genlift.py: 9 -/
def km_laysWide_79 (f67_3 : Int32) (x1 : Int32) : Nat → Int32 → List Int32 → List Int32
  | 0, _, a90 => a90
  | m + 1, y2, a90 => (km_laysWide_79 f67_3 x1 m (y2 + 1) (km_laysWide_89 x1 y2 f67_3.toInt.toNat 0 a90))
theorem t_km_laysWide_79 {f : Nat} {Q : Option Value → sm_H → Prop} : ∀ (m : Nat) {B D : Nat} {F : Nat → Nat → Int32} {A : Nat → List Int32} {L : Nat → List Int64} {x1 : Int32} {y2 : Int32} {o3 : Option Value}, m = ((F 67 3).toInt - y2.toInt).toNat → (∀ q2 : Int32, ∀ q3 : Option Value, wl_E f B D mm218.2.2.2.2.2.2.2.2 159 [some (.ref 67), some (.int x1), some (.int q2), q3] [] (hz F (uA A 90 (km_laysWide_79 (F 67 3) x1 m y2 (A 90))) L) Q) → wl_E f B D mm218.2.2.2.2.2.2.2.2 79 [some (.ref 67), some (.int x1), some (.int y2), o3] [] (hz F A L) Q := by
  intro m
  induction m with
  | zero =>
    intro B D F A L x1 y2 o3 hm K
    generalize hT : (km_laysWide_79 (F 67 3) x1 0 y2 (A 90)) = T at K
    have hE : T = (A 90) := hT.symm
    clear hT
    refine w_n 3 (pc1 := 84) (ls1 := [some (.ref 67), some (.int x1), some (.int y2), o3]) (st1 := [.int (F 67 3), .int y2]) (hp1 := (hz F A L)) rfl ?_
    refine w_ge (p3 := 87) rfl rfl (fun hb => ?_) (fun h => False.elim (by have h : y2.toInt < (F 67 3).toInt := h; omega))
    subst T
    exact cvE rfl (funext fun q => if k0 : q = 90 then by subst k0; exact Eq.trans (b := (A 90)) rfl rfl else by unfold uA; simp only [nb1 k0, cond_false]) rfl (K _ _)
  | succ m ih =>
    intro B D F A L x1 y2 o3 hm K
    generalize hT : (km_laysWide_79 (F 67 3) x1 (m + 1) y2 (A 90)) = T at K
    have hE : T = (km_laysWide_79 (F 67 3) x1 m (y2 + 1) (km_laysWide_89 x1 y2 (F 67 3).toInt.toNat 0 (A 90))) := hT.symm
    clear hT
    refine w_n 3 (pc1 := 84) (ls1 := [some (.ref 67), some (.int x1), some (.int y2), o3]) (st1 := [.int (F 67 3), .int y2]) (hp1 := (hz F A L)) rfl ?_
    refine w_ge (p3 := 87) rfl rfl (fun h => False.elim (by have h : (F 67 3).toInt ≤ y2.toInt := h; omega)) (fun hb => ?_)
    refine w_n 2 (pc1 := 89) (ls1 := [some (.ref 67), some (.int x1), some (.int y2), some (.int 0)]) (st1 := []) (hp1 := (hz F A L)) rfl ?_
    refine t_km_laysWide_89 (F 67 3).toInt.toNat (show (F 67 3).toInt.toNat = ((F 67 3).toInt - (0 : Int32).toInt).toNat by have e0 : (0 : Int32).toInt = 0 := rfl; first | rfl | omega) ?_
    intro r1
    show wl_E f _ _ mm218.2.2.2.2.2.2.2.2 153 [some (.ref 67), some (.int x1), some (.int y2), some (.int r1)] [] (hz F (uA A 90 (km_laysWide_89 x1 y2 (F 67 3).toInt.toNat 0 (A 90))) L) _
    generalize hG304 : (km_laysWide_89 x1 y2 (F 67 3).toInt.toNat 0 (A 90)) = G304 at hE ⊢
    refine w_n 2 (pc1 := 79) (ls1 := [some (.ref 67), some (.int x1), some (.int (y2 + 1)), some (.int r1)]) (st1 := []) (hp1 := (hz F (uA A 90 G304) L)) rfl ?_
    subst T
    have hb2 := i_up (B := (F 67 3)) hb
    have hb3 : y2.toInt < (F 67 3).toInt := hb
    exact ih (show m = ((F 67 3).toInt - (y2 + 1).toInt).toNat by rw [hb2]; omega) (fun q2 q3 => cvE rfl (funext fun q => if k0 : q = 90 then by subst k0; exact Eq.trans (b := (km_laysWide_79 (F 67 3) x1 m (y2 + 1) G304)) rfl rfl else by unfold uA; simp only [nb1 k0, cond_false]) rfl (K q2 q3))
def km_laysWide_69 (f67_3 : Int32)  : Nat → Int32 → List Int32 → List Int32
  | 0, _, a90 => a90
  | m + 1, y1, a90 => (km_laysWide_69 f67_3 m (y1 + 1) (km_laysWide_79 f67_3 y1 f67_3.toInt.toNat 0 a90))
theorem t_km_laysWide_69 {f : Nat} {Q : Option Value → sm_H → Prop} : ∀ (m : Nat) {B D : Nat} {F : Nat → Nat → Int32} {A : Nat → List Int32} {L : Nat → List Int64} {y1 : Int32} {o2 : Option Value} {o3 : Option Value}, m = ((F 67 3).toInt - y1.toInt).toNat → (∀ q1 : Int32, ∀ q2 : Option Value, ∀ q3 : Option Value, wl_E f B D mm218.2.2.2.2.2.2.2.2 165 [some (.ref 67), some (.int q1), q2, q3] [] (hz F (uA A 90 (km_laysWide_69 (F 67 3) m y1 (A 90))) L) Q) → wl_E f B D mm218.2.2.2.2.2.2.2.2 69 [some (.ref 67), some (.int y1), o2, o3] [] (hz F A L) Q := by
  intro m
  induction m with
  | zero =>
    intro B D F A L y1 o2 o3 hm K
    generalize hT : (km_laysWide_69 (F 67 3) 0 y1 (A 90)) = T at K
    have hE : T = (A 90) := hT.symm
    clear hT
    refine w_n 3 (pc1 := 74) (ls1 := [some (.ref 67), some (.int y1), o2, o3]) (st1 := [.int (F 67 3), .int y1]) (hp1 := (hz F A L)) rfl ?_
    refine w_ge (p3 := 77) rfl rfl (fun hb => ?_) (fun h => False.elim (by have h : y1.toInt < (F 67 3).toInt := h; omega))
    subst T
    exact cvE rfl (funext fun q => if k0 : q = 90 then by subst k0; exact Eq.trans (b := (A 90)) rfl rfl else by unfold uA; simp only [nb1 k0, cond_false]) rfl (K _ _ _)
  | succ m ih =>
    intro B D F A L y1 o2 o3 hm K
    generalize hT : (km_laysWide_69 (F 67 3) (m + 1) y1 (A 90)) = T at K
    have hE : T = (km_laysWide_69 (F 67 3) m (y1 + 1) (km_laysWide_79 (F 67 3) y1 (F 67 3).toInt.toNat 0 (A 90))) := hT.symm
    clear hT
    refine w_n 3 (pc1 := 74) (ls1 := [some (.ref 67), some (.int y1), o2, o3]) (st1 := [.int (F 67 3), .int y1]) (hp1 := (hz F A L)) rfl ?_
    refine w_ge (p3 := 77) rfl rfl (fun h => False.elim (by have h : (F 67 3).toInt ≤ y1.toInt := h; omega)) (fun hb => ?_)
    refine w_n 2 (pc1 := 79) (ls1 := [some (.ref 67), some (.int y1), some (.int 0), o3]) (st1 := []) (hp1 := (hz F A L)) rfl ?_
    refine t_km_laysWide_79 (F 67 3).toInt.toNat (show (F 67 3).toInt.toNat = ((F 67 3).toInt - (0 : Int32).toInt).toNat by have e0 : (0 : Int32).toInt = 0 := rfl; first | rfl | omega) ?_
    intro r1 r2
    show wl_E f _ _ mm218.2.2.2.2.2.2.2.2 159 [some (.ref 67), some (.int y1), some (.int r1), r2] [] (hz F (uA A 90 (km_laysWide_79 (F 67 3) y1 (F 67 3).toInt.toNat 0 (A 90))) L) _
    generalize hG305 : (km_laysWide_79 (F 67 3) y1 (F 67 3).toInt.toNat 0 (A 90)) = G305 at hE ⊢
    refine w_n 2 (pc1 := 69) (ls1 := [some (.ref 67), some (.int (y1 + 1)), some (.int r1), r2]) (st1 := []) (hp1 := (hz F (uA A 90 G305) L)) rfl ?_
    subst T
    have hb2 := i_up (B := (F 67 3)) hb
    have hb3 : y1.toInt < (F 67 3).toInt := hb
    exact ih (show m = ((F 67 3).toInt - (y1 + 1).toInt).toNat by rw [hb2]; omega) (fun q1 q2 q3 => cvE rfl (funext fun q => if k0 : q = 90 then by subst k0; exact Eq.trans (b := (km_laysWide_69 (F 67 3) m (y1 + 1) G305)) rfl rfl else by unfold uA; simp only [nb1 k0, cond_false]) rfl (K q1 q2 q3))
def km_laysWide (f67_3 : Int32) (a68 : List Int32) (a90 : List Int32) : List Int32 := (km_laysWide_69 f67_3 f67_3.toInt.toNat 0 (km_laysWide_2 f67_3 a68 f67_3.toInt.toNat 0 a90))
theorem t_km_laysWide {f D : Nat} {F : Nat → Nat → Int32} {A : Nat → List Int32} {L : Nat → List Int64} {Q : Option Value → sm_H → Prop} (K : Q none (hz F (uA A 90 (km_laysWide (F 67 3) (A 68) (A 90))) L)) : wl_M f D 218 [.ref 67] (hz F A L) Q := by
  generalize hT : (km_laysWide (F 67 3) (A 68) (A 90)) = T at K
  have hE : T = (km_laysWide_69 (F 67 3) (F 67 3).toInt.toNat 0 (km_laysWide_2 (F 67 3) (A 68) (F 67 3).toInt.toNat 0 (A 90))) := hT.symm
  clear hT
  refine w_m (E := mm218) rfl ?_
  show wl_E f f (D - 1) mm218.2.2.2.2.2.2.2.2 0 [some (.ref 67), none, none, none] [] (hz F A L) Q
  refine w_n 2 (pc1 := 2) (ls1 := [some (.ref 67), some (.int 0), none, none]) (st1 := []) (hp1 := (hz F A L)) rfl ?_
  refine t_km_laysWide_2 (F 67 3).toInt.toNat (show (F 67 3).toInt.toNat = ((F 67 3).toInt - (0 : Int32).toInt).toNat by have e0 : (0 : Int32).toInt = 0 := rfl; first | rfl | omega) ?_
  intro r1 r2
  show wl_E f _ _ mm218.2.2.2.2.2.2.2.2 67 [some (.ref 67), some (.int r1), r2, none] [] (hz F (uA A 90 (km_laysWide_2 (F 67 3) (A 68) (F 67 3).toInt.toNat 0 (A 90))) L) _
  generalize hG301 : (km_laysWide_2 (F 67 3) (A 68) (F 67 3).toInt.toNat 0 (A 90)) = G301 at hE ⊢
  refine w_n 2 (pc1 := 69) (ls1 := [some (.ref 67), some (.int 0), r2, none]) (st1 := []) (hp1 := (hz F (uA A 90 G301) L)) rfl ?_
  refine t_km_laysWide_69 (F 67 3).toInt.toNat (show (F 67 3).toInt.toNat = ((F 67 3).toInt - (0 : Int32).toInt).toNat by have e0 : (0 : Int32).toInt = 0 := rfl; first | rfl | omega) ?_
  intro r3 r4 r5
  show wl_E f _ _ mm218.2.2.2.2.2.2.2.2 165 [some (.ref 67), some (.int r3), r4, r5] [] (hz F (uA (uA A 90 G301) 90 (km_laysWide_69 (F 67 3) (F 67 3).toInt.toNat 0 G301)) L) _
  generalize hG306 : (km_laysWide_69 (F 67 3) (F 67 3).toInt.toNat 0 G301) = G306 at hE ⊢
  subst T
  exact w_r rfl rfl (cvQ rfl (funext fun q => if k0 : q = 90 then by subst k0; exact Eq.trans (b := G306) rfl rfl else by unfold uA; simp only [nb1 k0, cond_false]) rfl K)
def km_widest (f67_3 : Int32) (a68 : List Int32) (a90 : List Int32) (x1 : Int32) (x2 : Int32) : Int32 × List Int32 := (if (km_isMeasure f67_3 x1) = 0 then ((-1), a90) else (if (km_isMeasure f67_3 x2) = 0 then ((-1), a90) else (if x1 = x2 then ((-1), a90) else (((km_laysWide f67_3 a68 a90).getD ((6 * x1) + x2).toInt.toNat 0), (km_laysWide f67_3 a68 a90)))))
theorem t_km_widest {f D : Nat} {F : Nat → Nat → Int32} {A : Nat → List Int32} {L : Nat → List Int64} {Q : Option Value → sm_H → Prop} {x1 : Int32} {x2 : Int32} (K : Q (some (.int ((km_widest (F 67 3) (A 68) (A 90) x1 x2).1))) (hz F (uA A 90 ((km_widest (F 67 3) (A 68) (A 90) x1 x2).2)) L)) : wl_M f D 217 [.ref 67, .int x1, .int x2] (hz F A L) Q := by
  generalize hT : (km_widest (F 67 3) (A 68) (A 90) x1 x2) = T at K
  have hE : T = (if (km_isMeasure (F 67 3) x1) = 0 then ((-1), (A 90)) else (if (km_isMeasure (F 67 3) x2) = 0 then ((-1), (A 90)) else (if x1 = x2 then ((-1), (A 90)) else (((km_laysWide (F 67 3) (A 68) (A 90)).getD ((6 * x1) + x2).toInt.toNat 0), (km_laysWide (F 67 3) (A 68) (A 90)))))) := hT.symm
  clear hT
  refine w_m (E := mm217) rfl ?_
  show wl_E f f (D - 1) mm217.2.2.2.2.2.2.2.2 0 [some (.ref 67), some (.int x1), some (.int x2)] [] (hz F A L) Q
  refine w_n 2 (pc1 := 2) (ls1 := [some (.ref 67), some (.int x1), some (.int x2)]) (st1 := [.int x1, .ref 67]) (hp1 := (hz F A L)) rfl ?_
  refine w_c rfl rfl (t_km_isMeasure ?_)
  show wl_E f _ _ mm217.2.2.2.2.2.2.2.2 5 [some (.ref 67), some (.int x1), some (.int x2)] [.int (km_isMeasure (F 67 3) x1)] (hz F A L) _
  generalize hG296 : (km_isMeasure (F 67 3) x1) = G296 at hE ⊢
  refine w_zeq (p3 := 8) rfl rfl (fun h => ?_) (fun h => ?_)
  · have h1 : G296 = 0 := h
    rw [if_pos h1] at hE
    refine w_n 1 (pc1 := 22) (ls1 := [some (.ref 67), some (.int x1), some (.int x2)]) (st1 := [.int (-1)]) (hp1 := (hz F A L)) rfl ?_
    subst T
    exact w_ri rfl (cvQ rfl (funext fun q => if k0 : q = 90 then by subst k0; exact Eq.trans (b := (A 90)) rfl rfl else by unfold uA; simp only [nb1 k0, cond_false]) rfl K)
  · have h1 : ¬ G296 = 0 := h
    rw [if_neg h1] at hE
    refine w_n 2 (pc1 := 10) (ls1 := [some (.ref 67), some (.int x1), some (.int x2)]) (st1 := [.int x2, .ref 67]) (hp1 := (hz F A L)) rfl ?_
    refine w_c rfl rfl (t_km_isMeasure ?_)
    show wl_E f _ _ mm217.2.2.2.2.2.2.2.2 13 [some (.ref 67), some (.int x1), some (.int x2)] [.int (km_isMeasure (F 67 3) x2)] (hz F A L) _
    generalize hG297 : (km_isMeasure (F 67 3) x2) = G297 at hE ⊢
    refine w_zeq (p3 := 16) rfl rfl (fun h => ?_) (fun h => ?_)
    · have h2 : G297 = 0 := h
      rw [if_pos h2] at hE
      refine w_n 1 (pc1 := 22) (ls1 := [some (.ref 67), some (.int x1), some (.int x2)]) (st1 := [.int (-1)]) (hp1 := (hz F A L)) rfl ?_
      subst T
      exact w_ri rfl (cvQ rfl (funext fun q => if k0 : q = 90 then by subst k0; exact Eq.trans (b := (A 90)) rfl rfl else by unfold uA; simp only [nb1 k0, cond_false]) rfl K)
    · have h2 : ¬ G297 = 0 := h
      rw [if_neg h2] at hE
      refine w_n 2 (pc1 := 18) (ls1 := [some (.ref 67), some (.int x1), some (.int x2)]) (st1 := [.int x2, .int x1]) (hp1 := (hz F A L)) rfl ?_
      refine w_ne (p3 := 21) rfl rfl (fun h => ?_) (fun h => ?_)
      · have h3 : ¬ x1 = x2 := h
        rw [if_neg h3] at hE
        refine w_n 1 (pc1 := 24) (ls1 := [some (.ref 67), some (.int x1), some (.int x2)]) (st1 := [.ref 67]) (hp1 := (hz F A L)) rfl ?_
        refine w_c rfl rfl (t_km_laysWide ?_)
        show wl_E f _ _ mm217.2.2.2.2.2.2.2.2 27 [some (.ref 67), some (.int x1), some (.int x2)] [] (hz F (uA A 90 (km_laysWide (F 67 3) (A 68) (A 90))) L) _
        generalize hG307 : (km_laysWide (F 67 3) (A 68) (A 90)) = G307 at hE ⊢
        refine w_n 7 (pc1 := 37) (ls1 := [some (.ref 67), some (.int x1), some (.int x2)]) (st1 := [.int ((6 * x1) + x2), .ref 90]) (hp1 := (hz F (uA A 90 G307) L)) rfl ?_
        refine w_al (k := 90) (l := G307) rfl rfl rfl (fun _ => ?_)
        subst T
        exact w_ri rfl (cvQ rfl rfl rfl K)
      · have h3 : x1 = x2 := h
        rw [if_pos h3] at hE
        refine w_n 1 (pc1 := 22) (ls1 := [some (.ref 67), some (.int x1), some (.int x2)]) (st1 := [.int (-1)]) (hp1 := (hz F A L)) rfl ?_
        subst T
        exact w_ri rfl (cvQ rfl (funext fun q => if k0 : q = 90 then by subst k0; exact Eq.trans (b := (A 90)) rfl rfl else by unfold uA; simp only [nb1 k0, cond_false]) rfl K)
def kv_winsPaths_2 (a34 : List Int32) (x1 : Int32) : Nat → Int32 → Int32
  | 0, _ => 1
  | m + 1, y2 => (if (a34.getD ((x1 * 6) + y2).toInt.toNat 0).toInt < (a34.getD ((y2 * 6) + x1).toInt.toNat 0).toInt then 0 else (kv_winsPaths_2 a34 x1 m (y2 + 1)))
theorem t_kv_winsPaths_2 {f : Nat} {Q : Option Value → sm_H → Prop} : ∀ (m : Nat) {B D : Nat} {F : Nat → Nat → Int32} {A : Nat → List Int32} {L : Nat → List Int64} {x1 : Int32} {y2 : Int32}, m = ((F 3 0).toInt - y2.toInt).toNat → (Q (some (.int (kv_winsPaths_2 (A 34) x1 m y2))) (hz F A L)) → wl_E f B D mm94.2.2.2.2.2.2.2.2 2 [some (.ref 30), some (.int x1), some (.int y2)] [] (hz F A L) Q := by
  intro m
  induction m with
  | zero =>
    intro B D F A L x1 y2 hm K
    generalize hT : (kv_winsPaths_2 (A 34) x1 0 y2) = T at K
    have hE : T = 1 := hT.symm
    clear hT
    refine w_n 4 (pc1 := 10) (ls1 := [some (.ref 30), some (.int x1), some (.int y2)]) (st1 := [.int (F 3 0), .int y2]) (hp1 := (hz F A L)) rfl ?_
    refine w_ge (p3 := 13) rfl rfl (fun hb => ?_) (fun h => False.elim (by have h : y2.toInt < (F 3 0).toInt := h; omega))
    refine w_n 1 (pc1 := 47) (ls1 := [some (.ref 30), some (.int x1), some (.int y2)]) (st1 := [.int 1]) (hp1 := (hz F A L)) rfl ?_
    subst T
    exact w_ri rfl (cvQ rfl rfl rfl K)
  | succ m ih =>
    intro B D F A L x1 y2 hm K
    generalize hT : (kv_winsPaths_2 (A 34) x1 (m + 1) y2) = T at K
    have hE : T = (if ((A 34).getD ((x1 * 6) + y2).toInt.toNat 0).toInt < ((A 34).getD ((y2 * 6) + x1).toInt.toNat 0).toInt then 0 else (kv_winsPaths_2 (A 34) x1 m (y2 + 1))) := hT.symm
    clear hT
    refine w_n 4 (pc1 := 10) (ls1 := [some (.ref 30), some (.int x1), some (.int y2)]) (st1 := [.int (F 3 0), .int y2]) (hp1 := (hz F A L)) rfl ?_
    refine w_ge (p3 := 13) rfl rfl (fun h => False.elim (by have h : (F 3 0).toInt ≤ y2.toInt := h; omega)) (fun hb => ?_)
    refine w_n 7 (pc1 := 23) (ls1 := [some (.ref 30), some (.int x1), some (.int y2)]) (st1 := [.int ((x1 * 6) + y2), .ref 34]) (hp1 := (hz F A L)) rfl ?_
    refine w_al (k := 34) (l := (A 34)) rfl rfl rfl (fun _ => ?_)
    refine w_n 7 (pc1 := 34) (ls1 := [some (.ref 30), some (.int x1), some (.int y2)]) (st1 := [.int ((y2 * 6) + x1), .ref 34, .int ((A 34).getD ((x1 * 6) + y2).toInt.toNat 0)]) (hp1 := (hz F A L)) rfl ?_
    refine w_al (k := 34) (l := (A 34)) rfl rfl rfl (fun _ => ?_)
    refine w_ge (p3 := 38) rfl rfl (fun h => ?_) (fun h => ?_)
    · have h1 : ((A 34).getD ((y2 * 6) + x1).toInt.toNat 0).toInt ≤ ((A 34).getD ((x1 * 6) + y2).toInt.toNat 0).toInt := h
      rw [if_neg (Int.not_lt.mpr h1)] at hE
      refine w_n 2 (pc1 := 2) (ls1 := [some (.ref 30), some (.int x1), some (.int (y2 + 1))]) (st1 := []) (hp1 := (hz F A L)) rfl ?_
      subst T
      have hb2 := i_up (B := (F 3 0)) hb
      have hb3 : y2.toInt < (F 3 0).toInt := hb
      exact ih (show m = ((F 3 0).toInt - (y2 + 1).toInt).toNat by rw [hb2]; omega) (cvQ rfl rfl rfl K)
    · have h1 : ((A 34).getD ((x1 * 6) + y2).toInt.toNat 0).toInt < ((A 34).getD ((y2 * 6) + x1).toInt.toNat 0).toInt := h
      rw [if_pos h1] at hE
      refine w_n 1 (pc1 := 39) (ls1 := [some (.ref 30), some (.int x1), some (.int y2)]) (st1 := [.int 0]) (hp1 := (hz F A L)) rfl ?_
      subst T
      exact w_ri rfl (cvQ rfl rfl rfl K)
def kv_winsPaths (f3_0 : Int32) (a34 : List Int32) (x1 : Int32) : Int32 := (kv_winsPaths_2 a34 x1 f3_0.toInt.toNat 0)
theorem t_kv_winsPaths {f D : Nat} {F : Nat → Nat → Int32} {A : Nat → List Int32} {L : Nat → List Int64} {Q : Option Value → sm_H → Prop} {x1 : Int32} (K : Q (some (.int (kv_winsPaths (F 3 0) (A 34) x1))) (hz F A L)) : wl_M f D 94 [.ref 30, .int x1] (hz F A L) Q := by
  generalize hT : (kv_winsPaths (F 3 0) (A 34) x1) = T at K
  have hE : T = (kv_winsPaths_2 (A 34) x1 (F 3 0).toInt.toNat 0) := hT.symm
  clear hT
  refine w_m (E := mm94) rfl ?_
  show wl_E f f (D - 1) mm94.2.2.2.2.2.2.2.2 0 [some (.ref 30), some (.int x1), none] [] (hz F A L) Q
  refine w_n 2 (pc1 := 2) (ls1 := [some (.ref 30), some (.int x1), some (.int 0)]) (st1 := []) (hp1 := (hz F A L)) rfl ?_
  subst T
  exact t_kv_winsPaths_2 _ (show (F 3 0).toInt.toNat = ((F 3 0).toInt - (0 : Int32).toInt).toNat by have e0 : (0 : Int32).toInt = 0 := rfl; first | rfl | omega) (cvQ rfl rfl rfl K)
def kc_pathWinners_18 (f3_0 : Int32) (a34 : List Int32)  : Nat → Int32 → Int32 → Int32
  | 0, y1, _ => y1
  | m + 1, y1, y2 => (if (kv_winsPaths f3_0 a34 y2) = 0 then (kc_pathWinners_18 f3_0 a34 m y1 (y2 + 1)) else (kc_pathWinners_18 f3_0 a34 m (y1 ||| ((1 : Int32) <<< (y2 &&& 31))) (y2 + 1)))
theorem t_kc_pathWinners_18 {f : Nat} {Q : Option Value → sm_H → Prop} : ∀ (m : Nat) {B D : Nat} {F : Nat → Nat → Int32} {A : Nat → List Int32} {L : Nat → List Int64} {y1 : Int32} {y2 : Int32}, m = ((F 3 0).toInt - y2.toInt).toNat → (∀ q2 : Int32, wl_E f B D mm93.2.2.2.2.2.2.2.2 52 [some (.ref 0), some (.int (kc_pathWinners_18 (F 3 0) (A 34) m y1 y2)), some (.int q2)] [] (hz F A L) Q) → wl_E f B D mm93.2.2.2.2.2.2.2.2 18 [some (.ref 0), some (.int y1), some (.int y2)] [] (hz F A L) Q := by
  intro m
  induction m with
  | zero =>
    intro B D F A L y1 y2 hm K
    generalize hT : (kc_pathWinners_18 (F 3 0) (A 34) 0 y1 y2) = T at K
    have hE : T = y1 := hT.symm
    clear hT
    refine w_n 4 (pc1 := 26) (ls1 := [some (.ref 0), some (.int y1), some (.int y2)]) (st1 := [.int (F 3 0), .int y2]) (hp1 := (hz F A L)) rfl ?_
    refine w_ge (p3 := 29) rfl rfl (fun hb => ?_) (fun h => False.elim (by have h : y2.toInt < (F 3 0).toInt := h; omega))
    subst T
    exact cvE rfl rfl rfl (K _)
  | succ m ih =>
    intro B D F A L y1 y2 hm K
    generalize hT : (kc_pathWinners_18 (F 3 0) (A 34) (m + 1) y1 y2) = T at K
    have hE : T = (if (kv_winsPaths (F 3 0) (A 34) y2) = 0 then (kc_pathWinners_18 (F 3 0) (A 34) m y1 (y2 + 1)) else (kc_pathWinners_18 (F 3 0) (A 34) m (y1 ||| ((1 : Int32) <<< (y2 &&& 31))) (y2 + 1))) := hT.symm
    clear hT
    refine w_n 4 (pc1 := 26) (ls1 := [some (.ref 0), some (.int y1), some (.int y2)]) (st1 := [.int (F 3 0), .int y2]) (hp1 := (hz F A L)) rfl ?_
    refine w_ge (p3 := 29) rfl rfl (fun h => False.elim (by have h : (F 3 0).toInt ≤ y2.toInt := h; omega)) (fun hb => ?_)
    refine w_n 3 (pc1 := 34) (ls1 := [some (.ref 0), some (.int y1), some (.int y2)]) (st1 := [.int y2, .ref 30]) (hp1 := (hz F A L)) rfl ?_
    refine w_c rfl rfl (t_kv_winsPaths ?_)
    show wl_E f _ _ mm93.2.2.2.2.2.2.2.2 37 [some (.ref 0), some (.int y1), some (.int y2)] [.int (kv_winsPaths (F 3 0) (A 34) y2)] (hz F A L) _
    generalize hG310 : (kv_winsPaths (F 3 0) (A 34) y2) = G310 at hE ⊢
    refine w_zeq (p3 := 40) rfl rfl (fun h => ?_) (fun h => ?_)
    · have h1 : G310 = 0 := h
      rw [if_pos h1] at hE
      refine w_n 2 (pc1 := 18) (ls1 := [some (.ref 0), some (.int y1), some (.int (y2 + 1))]) (st1 := []) (hp1 := (hz F A L)) rfl ?_
      subst T
      have hb2 := i_up (B := (F 3 0)) hb
      have hb3 : y2.toInt < (F 3 0).toInt := hb
      exact ih (show m = ((F 3 0).toInt - (y2 + 1).toInt).toNat by rw [hb2]; omega) (fun q2 => cvE rfl rfl rfl (K q2))
    · have h1 : ¬ G310 = 0 := h
      rw [if_neg h1] at hE
      refine w_n 8 (pc1 := 18) (ls1 := [some (.ref 0), some (.int (y1 ||| ((1 : Int32) <<< (y2 &&& 31)))), some (.int (y2 + 1))]) (st1 := []) (hp1 := (hz F A L)) rfl ?_
      subst T
      have hb2 := i_up (B := (F 3 0)) hb
      have hb3 : y2.toInt < (F 3 0).toInt := hb
      exact ih (show m = ((F 3 0).toInt - (y2 + 1).toInt).toNat by rw [hb2]; omega) (fun q2 => cvE rfl rfl rfl (K q2))
def kc_pathWinners (f3_0 : Int32) (f3_1 : Int32) (a6 : List Int32) (a32 : List Int32) (a33 : List Int32) (a34 : List Int32) (l11 : List Int64) : Int32 × List Int32 × List Int32 × List Int32 := ((kc_pathWinners_18 f3_0 (kv_widenPaths f3_0 (kv_weighPairs f3_0 f3_1 a6 a32 a33 l11).1 (kv_weighPairs f3_0 f3_1 a6 a32 a33 l11).2 a34) f3_0.toInt.toNat 0 0), (kv_weighPairs f3_0 f3_1 a6 a32 a33 l11).1, (kv_weighPairs f3_0 f3_1 a6 a32 a33 l11).2, (kv_widenPaths f3_0 (kv_weighPairs f3_0 f3_1 a6 a32 a33 l11).1 (kv_weighPairs f3_0 f3_1 a6 a32 a33 l11).2 a34))
theorem t_kc_pathWinners {f D : Nat} {F : Nat → Nat → Int32} {A : Nat → List Int32} {L : Nat → List Int64} {Q : Option Value → sm_H → Prop} (K : Q (some (.int ((kc_pathWinners (F 3 0) (F 3 1) (A 6) (A 32) (A 33) (A 34) (L 11)).1))) (hz F (uA (uA (uA A 32 ((kc_pathWinners (F 3 0) (F 3 1) (A 6) (A 32) (A 33) (A 34) (L 11)).2.1)) 33 ((kc_pathWinners (F 3 0) (F 3 1) (A 6) (A 32) (A 33) (A 34) (L 11)).2.2.1)) 34 ((kc_pathWinners (F 3 0) (F 3 1) (A 6) (A 32) (A 33) (A 34) (L 11)).2.2.2)) L)) : wl_M f D 93 [.ref 0] (hz F A L) Q := by
  generalize hT : (kc_pathWinners (F 3 0) (F 3 1) (A 6) (A 32) (A 33) (A 34) (L 11)) = T at K
  have hE : T = ((kc_pathWinners_18 (F 3 0) (kv_widenPaths (F 3 0) (kv_weighPairs (F 3 0) (F 3 1) (A 6) (A 32) (A 33) (L 11)).1 (kv_weighPairs (F 3 0) (F 3 1) (A 6) (A 32) (A 33) (L 11)).2 (A 34)) (F 3 0).toInt.toNat 0 0), (kv_weighPairs (F 3 0) (F 3 1) (A 6) (A 32) (A 33) (L 11)).1, (kv_weighPairs (F 3 0) (F 3 1) (A 6) (A 32) (A 33) (L 11)).2, (kv_widenPaths (F 3 0) (kv_weighPairs (F 3 0) (F 3 1) (A 6) (A 32) (A 33) (L 11)).1 (kv_weighPairs (F 3 0) (F 3 1) (A 6) (A 32) (A 33) (L 11)).2 (A 34))) := hT.symm
  clear hT
  refine w_m (E := mm93) rfl ?_
  show wl_E f f (D - 1) mm93.2.2.2.2.2.2.2.2 0 [some (.ref 0), none, none] [] (hz F A L) Q
  refine w_n 2 (pc1 := 4) (ls1 := [some (.ref 0), none, none]) (st1 := [.ref 30]) (hp1 := (hz F A L)) rfl ?_
  refine w_c rfl rfl (t_kv_weighPairs ?_)
  show wl_E f _ _ mm93.2.2.2.2.2.2.2.2 7 [some (.ref 0), none, none] [] (hz F (uA (uA A 32 (kv_weighPairs (F 3 0) (F 3 1) (A 6) (A 32) (A 33) (L 11)).1) 33 (kv_weighPairs (F 3 0) (F 3 1) (A 6) (A 32) (A 33) (L 11)).2) L) _
  generalize hG308 : (kv_weighPairs (F 3 0) (F 3 1) (A 6) (A 32) (A 33) (L 11)) = G308 at hE ⊢
  refine w_n 2 (pc1 := 11) (ls1 := [some (.ref 0), none, none]) (st1 := [.ref 30]) (hp1 := (hz F (uA (uA A 32 G308.1) 33 G308.2) L)) rfl ?_
  refine w_c rfl rfl (t_kv_widenPaths ?_)
  show wl_E f _ _ mm93.2.2.2.2.2.2.2.2 14 [some (.ref 0), none, none] [] (hz F (uA (uA (uA A 32 G308.1) 33 G308.2) 34 (kv_widenPaths (F 3 0) G308.1 G308.2 (A 34))) L) _
  generalize hG309 : (kv_widenPaths (F 3 0) G308.1 G308.2 (A 34)) = G309 at hE ⊢
  refine w_n 4 (pc1 := 18) (ls1 := [some (.ref 0), some (.int 0), some (.int 0)]) (st1 := []) (hp1 := (hz F (uA (uA (uA A 32 G308.1) 33 G308.2) 34 G309) L)) rfl ?_
  refine t_kc_pathWinners_18 (F 3 0).toInt.toNat (show (F 3 0).toInt.toNat = ((F 3 0).toInt - (0 : Int32).toInt).toNat by have e0 : (0 : Int32).toInt = 0 := rfl; first | rfl | omega) ?_
  intro r1
  show wl_E f _ _ mm93.2.2.2.2.2.2.2.2 52 [some (.ref 0), some (.int (kc_pathWinners_18 (F 3 0) G309 (F 3 0).toInt.toNat 0 0)), some (.int r1)] [] (hz F (uA (uA (uA A 32 G308.1) 33 G308.2) 34 G309) L) _
  generalize hG311 : (kc_pathWinners_18 (F 3 0) G309 (F 3 0).toInt.toNat 0 0) = G311 at hE ⊢
  refine w_n 1 (pc1 := 53) (ls1 := [some (.ref 0), some (.int G311), some (.int r1)]) (st1 := [.int G311]) (hp1 := (hz F (uA (uA (uA A 32 G308.1) 33 G308.2) 34 G309) L)) rfl ?_
  subst T
  exact w_ri rfl (cvQ rfl rfl rfl K)
def km_pathWinners_21 (a90 : List Int32) (x2 : Int32) : Nat → Int32 → Int32 → Int32
  | 0, y3, _ => y3
  | m + 1, y3, y4 => (if y3 = 0 then (km_pathWinners_21 a90 x2 m 0 (y4 + 1)) else (if x2 = y4 then (km_pathWinners_21 a90 x2 m 1 (y4 + 1)) else (if (a90.getD ((6 * x2) + y4).toInt.toNat 0).toInt < (a90.getD ((6 * y4) + x2).toInt.toNat 0).toInt then (km_pathWinners_21 a90 x2 m 0 (y4 + 1)) else (km_pathWinners_21 a90 x2 m 1 (y4 + 1)))))
theorem t_km_pathWinners_21 {f : Nat} {Q : Option Value → sm_H → Prop} : ∀ (m : Nat) {B D : Nat} {F : Nat → Nat → Int32} {A : Nat → List Int32} {L : Nat → List Int64} {x1 : Int32} {x2 : Int32} {y3 : Int32} {y4 : Int32}, m = ((F 67 3).toInt - y4.toInt).toNat → (∀ q4 : Int32, wl_E f B D mm220.2.2.2.2.2.2.2.2 79 [some (.ref 67), some (.int x1), some (.int x2), some (.int (km_pathWinners_21 (A 90) x2 m y3 y4)), some (.int q4)] [] (hz F A L) Q) → wl_E f B D mm220.2.2.2.2.2.2.2.2 21 [some (.ref 67), some (.int x1), some (.int x2), some (.int y3), some (.int y4)] [] (hz F A L) Q := by
  intro m
  induction m with
  | zero =>
    intro B D F A L x1 x2 y3 y4 hm K
    generalize hT : (km_pathWinners_21 (A 90) x2 0 y3 y4) = T at K
    have hE : T = y3 := hT.symm
    clear hT
    refine w_n 3 (pc1 := 27) (ls1 := [some (.ref 67), some (.int x1), some (.int x2), some (.int y3), some (.int y4)]) (st1 := [.int (F 67 3), .int y4]) (hp1 := (hz F A L)) rfl ?_
    refine w_ge (p3 := 30) rfl rfl (fun hb => ?_) (fun h => False.elim (by have h : y4.toInt < (F 67 3).toInt := h; omega))
    subst T
    exact cvE rfl rfl rfl (K _)
  | succ m ih =>
    intro B D F A L x1 x2 y3 y4 hm K
    generalize hT : (km_pathWinners_21 (A 90) x2 (m + 1) y3 y4) = T at K
    have hE : T = (if y3 = 0 then (km_pathWinners_21 (A 90) x2 m 0 (y4 + 1)) else (if x2 = y4 then (km_pathWinners_21 (A 90) x2 m 1 (y4 + 1)) else (if ((A 90).getD ((6 * x2) + y4).toInt.toNat 0).toInt < ((A 90).getD ((6 * y4) + x2).toInt.toNat 0).toInt then (km_pathWinners_21 (A 90) x2 m 0 (y4 + 1)) else (km_pathWinners_21 (A 90) x2 m 1 (y4 + 1))))) := hT.symm
    clear hT
    refine w_n 3 (pc1 := 27) (ls1 := [some (.ref 67), some (.int x1), some (.int x2), some (.int y3), some (.int y4)]) (st1 := [.int (F 67 3), .int y4]) (hp1 := (hz F A L)) rfl ?_
    refine w_ge (p3 := 30) rfl rfl (fun h => False.elim (by have h : (F 67 3).toInt ≤ y4.toInt := h; omega)) (fun hb => ?_)
    refine w_n 1 (pc1 := 31) (ls1 := [some (.ref 67), some (.int x1), some (.int x2), some (.int y3), some (.int y4)]) (st1 := [.int y3]) (hp1 := (hz F A L)) rfl ?_
    refine w_zeq (p3 := 34) rfl rfl (fun h => ?_) (fun h => ?_)
    · have h1 : y3 = 0 := h
      rw [if_pos h1] at hE
      refine w_n 4 (pc1 := 21) (ls1 := [some (.ref 67), some (.int x1), some (.int x2), some (.int 0), some (.int (y4 + 1))]) (st1 := []) (hp1 := (hz F A L)) rfl ?_
      subst T
      have hb2 := i_up (B := (F 67 3)) hb
      have hb3 : y4.toInt < (F 67 3).toInt := hb
      exact ih (show m = ((F 67 3).toInt - (y4 + 1).toInt).toNat by rw [hb2]; omega) (fun q4 => cvE rfl rfl rfl (K q4))
    · have h1 : ¬ y3 = 0 := h
      rw [if_neg h1] at hE
      refine w_n 2 (pc1 := 37) (ls1 := [some (.ref 67), some (.int x1), some (.int x2), some (.int y3), some (.int y4)]) (st1 := [.int y4, .int x2]) (hp1 := (hz F A L)) rfl ?_
      refine w_eq (p3 := 40) rfl rfl (fun h => ?_) (fun h => ?_)
      · have h2 : x2 = y4 := h
        rw [if_pos h2] at hE
        refine w_n 5 (pc1 := 21) (ls1 := [some (.ref 67), some (.int x1), some (.int x2), some (.int 1), some (.int (y4 + 1))]) (st1 := []) (hp1 := (hz F A L)) rfl ?_
        subst T
        have hb2 := i_up (B := (F 67 3)) hb
        have hb3 : y4.toInt < (F 67 3).toInt := hb
        exact ih (show m = ((F 67 3).toInt - (y4 + 1).toInt).toNat by rw [hb2]; omega) (fun q4 => cvE rfl rfl rfl (K q4))
      · have h2 : ¬ x2 = y4 := h
        rw [if_neg h2] at hE
        refine w_n 7 (pc1 := 51) (ls1 := [some (.ref 67), some (.int x1), some (.int x2), some (.int y3), some (.int y4)]) (st1 := [.int ((6 * x2) + y4), .ref 90]) (hp1 := (hz F A L)) rfl ?_
        refine w_al (k := 90) (l := (A 90)) rfl rfl rfl (fun _ => ?_)
        refine w_n 7 (pc1 := 63) (ls1 := [some (.ref 67), some (.int x1), some (.int x2), some (.int y3), some (.int y4)]) (st1 := [.int ((6 * y4) + x2), .ref 90, .int ((A 90).getD ((6 * x2) + y4).toInt.toNat 0)]) (hp1 := (hz F A L)) rfl ?_
        refine w_al (k := 90) (l := (A 90)) rfl rfl rfl (fun _ => ?_)
        refine w_lt (p3 := 67) rfl rfl (fun h => ?_) (fun h => ?_)
        · have h3 : ((A 90).getD ((6 * x2) + y4).toInt.toNat 0).toInt < ((A 90).getD ((6 * y4) + x2).toInt.toNat 0).toInt := h
          rw [if_pos h3] at hE
          refine w_n 4 (pc1 := 21) (ls1 := [some (.ref 67), some (.int x1), some (.int x2), some (.int 0), some (.int (y4 + 1))]) (st1 := []) (hp1 := (hz F A L)) rfl ?_
          subst T
          have hb2 := i_up (B := (F 67 3)) hb
          have hb3 : y4.toInt < (F 67 3).toInt := hb
          exact ih (show m = ((F 67 3).toInt - (y4 + 1).toInt).toNat by rw [hb2]; omega) (fun q4 => cvE rfl rfl rfl (K q4))
        · have h3 : ((A 90).getD ((6 * y4) + x2).toInt.toNat 0).toInt ≤ ((A 90).getD ((6 * x2) + y4).toInt.toNat 0).toInt := h
          rw [if_neg (Int.not_lt.mpr h3)] at hE
          refine w_n 5 (pc1 := 21) (ls1 := [some (.ref 67), some (.int x1), some (.int x2), some (.int 1), some (.int (y4 + 1))]) (st1 := []) (hp1 := (hz F A L)) rfl ?_
          subst T
          have hb2 := i_up (B := (F 67 3)) hb
          have hb3 : y4.toInt < (F 67 3).toInt := hb
          exact ih (show m = ((F 67 3).toInt - (y4 + 1).toInt).toNat by rw [hb2]; omega) (fun q4 => cvE rfl rfl rfl (K q4))
def km_pathWinners_8 (f67_3 : Int32) (a90 : List Int32)  : Nat → Int32 → Int32 → Int32
  | 0, y1, _ => y1
  | m + 1, y1, y2 => (if (km_pathWinners_21 a90 y2 f67_3.toInt.toNat 1 0) = 0 then (km_pathWinners_8 f67_3 a90 m (y1 ||| 0) (y2 + 1)) else (km_pathWinners_8 f67_3 a90 m (y1 ||| ((1 : Int32) <<< (y2 &&& 31))) (y2 + 1)))
theorem t_km_pathWinners_8 {f : Nat} {Q : Option Value → sm_H → Prop} : ∀ (m : Nat) {B D : Nat} {F : Nat → Nat → Int32} {A : Nat → List Int32} {L : Nat → List Int64} {y1 : Int32} {y2 : Int32} {o3 : Option Value} {o4 : Option Value}, m = ((F 67 3).toInt - y2.toInt).toNat → (∀ q2 : Int32, ∀ q3 : Option Value, ∀ q4 : Option Value, wl_E f B D mm220.2.2.2.2.2.2.2.2 99 [some (.ref 67), some (.int (km_pathWinners_8 (F 67 3) (A 90) m y1 y2)), some (.int q2), q3, q4] [] (hz F A L) Q) → wl_E f B D mm220.2.2.2.2.2.2.2.2 8 [some (.ref 67), some (.int y1), some (.int y2), o3, o4] [] (hz F A L) Q := by
  intro m
  induction m with
  | zero =>
    intro B D F A L y1 y2 o3 o4 hm K
    generalize hT : (km_pathWinners_8 (F 67 3) (A 90) 0 y1 y2) = T at K
    have hE : T = y1 := hT.symm
    clear hT
    refine w_n 3 (pc1 := 13) (ls1 := [some (.ref 67), some (.int y1), some (.int y2), o3, o4]) (st1 := [.int (F 67 3), .int y2]) (hp1 := (hz F A L)) rfl ?_
    refine w_ge (p3 := 16) rfl rfl (fun hb => ?_) (fun h => False.elim (by have h : y2.toInt < (F 67 3).toInt := h; omega))
    subst T
    exact cvE rfl rfl rfl (K _ _ _)
  | succ m ih =>
    intro B D F A L y1 y2 o3 o4 hm K
    generalize hT : (km_pathWinners_8 (F 67 3) (A 90) (m + 1) y1 y2) = T at K
    have hE : T = (if (km_pathWinners_21 (A 90) y2 (F 67 3).toInt.toNat 1 0) = 0 then (km_pathWinners_8 (F 67 3) (A 90) m (y1 ||| 0) (y2 + 1)) else (km_pathWinners_8 (F 67 3) (A 90) m (y1 ||| ((1 : Int32) <<< (y2 &&& 31))) (y2 + 1))) := hT.symm
    clear hT
    refine w_n 3 (pc1 := 13) (ls1 := [some (.ref 67), some (.int y1), some (.int y2), o3, o4]) (st1 := [.int (F 67 3), .int y2]) (hp1 := (hz F A L)) rfl ?_
    refine w_ge (p3 := 16) rfl rfl (fun h => False.elim (by have h : (F 67 3).toInt ≤ y2.toInt := h; omega)) (fun hb => ?_)
    refine w_n 4 (pc1 := 21) (ls1 := [some (.ref 67), some (.int y1), some (.int y2), some (.int 1), some (.int 0)]) (st1 := []) (hp1 := (hz F A L)) rfl ?_
    refine t_km_pathWinners_21 (F 67 3).toInt.toNat (show (F 67 3).toInt.toNat = ((F 67 3).toInt - (0 : Int32).toInt).toNat by have e0 : (0 : Int32).toInt = 0 := rfl; first | rfl | omega) ?_
    intro r1
    show wl_E f _ _ mm220.2.2.2.2.2.2.2.2 79 [some (.ref 67), some (.int y1), some (.int y2), some (.int (km_pathWinners_21 (A 90) y2 (F 67 3).toInt.toNat 1 0)), some (.int r1)] [] (hz F A L) _
    generalize hG313 : (km_pathWinners_21 (A 90) y2 (F 67 3).toInt.toNat 1 0) = G313 at hE ⊢
    refine w_n 2 (pc1 := 81) (ls1 := [some (.ref 67), some (.int y1), some (.int y2), some (.int G313), some (.int r1)]) (st1 := [.int G313, .int y1]) (hp1 := (hz F A L)) rfl ?_
    refine w_zeq (p3 := 84) rfl rfl (fun h => ?_) (fun h => ?_)
    · have h1 : G313 = 0 := h
      rw [if_pos h1] at hE
      refine w_n 5 (pc1 := 8) (ls1 := [some (.ref 67), some (.int (y1 ||| 0)), some (.int (y2 + 1)), some (.int G313), some (.int r1)]) (st1 := []) (hp1 := (hz F A L)) rfl ?_
      subst T
      have hb2 := i_up (B := (F 67 3)) hb
      have hb3 : y2.toInt < (F 67 3).toInt := hb
      exact ih (show m = ((F 67 3).toInt - (y2 + 1).toInt).toNat by rw [hb2]; omega) (fun q2 q3 q4 => cvE rfl rfl rfl (K q2 q3 q4))
    · have h1 : ¬ G313 = 0 := h
      rw [if_neg h1] at hE
      refine w_n 8 (pc1 := 8) (ls1 := [some (.ref 67), some (.int (y1 ||| ((1 : Int32) <<< (y2 &&& 31)))), some (.int (y2 + 1)), some (.int G313), some (.int r1)]) (st1 := []) (hp1 := (hz F A L)) rfl ?_
      subst T
      have hb2 := i_up (B := (F 67 3)) hb
      have hb3 : y2.toInt < (F 67 3).toInt := hb
      exact ih (show m = ((F 67 3).toInt - (y2 + 1).toInt).toNat by rw [hb2]; omega) (fun q2 q3 q4 => cvE rfl rfl rfl (K q2 q3 q4))
def km_pathWinners (f67_3 : Int32) (a68 : List Int32) (a90 : List Int32) : Int32 × List Int32 := ((km_pathWinners_8 f67_3 (km_laysWide f67_3 a68 a90) f67_3.toInt.toNat 0 0), (km_laysWide f67_3 a68 a90))
theorem t_km_pathWinners {f D : Nat} {F : Nat → Nat → Int32} {A : Nat → List Int32} {L : Nat → List Int64} {Q : Option Value → sm_H → Prop} (K : Q (some (.int ((km_pathWinners (F 67 3) (A 68) (A 90)).1))) (hz F (uA A 90 ((km_pathWinners (F 67 3) (A 68) (A 90)).2)) L)) : wl_M f D 220 [.ref 67] (hz F A L) Q := by
  generalize hT : (km_pathWinners (F 67 3) (A 68) (A 90)) = T at K
  have hE : T = ((km_pathWinners_8 (F 67 3) (km_laysWide (F 67 3) (A 68) (A 90)) (F 67 3).toInt.toNat 0 0), (km_laysWide (F 67 3) (A 68) (A 90))) := hT.symm
  clear hT
  refine w_m (E := mm220) rfl ?_
  show wl_E f f (D - 1) mm220.2.2.2.2.2.2.2.2 0 [some (.ref 67), none, none, none, none] [] (hz F A L) Q
  refine w_n 1 (pc1 := 1) (ls1 := [some (.ref 67), none, none, none, none]) (st1 := [.ref 67]) (hp1 := (hz F A L)) rfl ?_
  refine w_c rfl rfl (t_km_laysWide ?_)
  show wl_E f _ _ mm220.2.2.2.2.2.2.2.2 4 [some (.ref 67), none, none, none, none] [] (hz F (uA A 90 (km_laysWide (F 67 3) (A 68) (A 90))) L) _
  generalize hG312 : (km_laysWide (F 67 3) (A 68) (A 90)) = G312 at hE ⊢
  refine w_n 4 (pc1 := 8) (ls1 := [some (.ref 67), some (.int 0), some (.int 0), none, none]) (st1 := []) (hp1 := (hz F (uA A 90 G312) L)) rfl ?_
  refine t_km_pathWinners_8 (F 67 3).toInt.toNat (show (F 67 3).toInt.toNat = ((F 67 3).toInt - (0 : Int32).toInt).toNat by have e0 : (0 : Int32).toInt = 0 := rfl; first | rfl | omega) ?_
  intro r1 r2 r3
  show wl_E f _ _ mm220.2.2.2.2.2.2.2.2 99 [some (.ref 67), some (.int (km_pathWinners_8 (F 67 3) G312 (F 67 3).toInt.toNat 0 0)), some (.int r1), r2, r3] [] (hz F (uA A 90 G312) L) _
  generalize hG314 : (km_pathWinners_8 (F 67 3) G312 (F 67 3).toInt.toNat 0 0) = G314 at hE ⊢
  refine w_n 1 (pc1 := 100) (ls1 := [some (.ref 67), some (.int G314), some (.int r1), r2, r3]) (st1 := [.int G314]) (hp1 := (hz F (uA A 90 G312) L)) rfl ?_
  subst T
  exact w_ri rfl (cvQ rfl rfl rfl K)
def kja_fill_37_5  (x1 : Int32) : Nat → Int32 → List Int32 → List Int32
  | 0, _, a37 => a37
  | m + 1, y2, a37 => (kja_fill_37_5 x1 m (y2 + 1) (a37.set y2.toInt.toNat x1))
theorem t_kja_fill_37_5 {f : Nat} {Q : Option Value → sm_H → Prop} : ∀ (m : Nat) {B D : Nat} {F : Nat → Nat → Int32} {A : Nat → List Int32} {L : Nat → List Int64} {x1 : Int32} {y2 : Int32} {x3 : Int32}, m = (x3.toInt - y2.toInt).toNat → (∀ q2 : Int32, wl_E f B D mm3.2.2.2.2.2.2.2.2 20 [some (.ref 37), some (.int x1), some (.int q2), some (.int x3)] [] (hz F (uA A 37 (kja_fill_37_5 x1 m y2 (A 37))) L) Q) → wl_E f B D mm3.2.2.2.2.2.2.2.2 5 [some (.ref 37), some (.int x1), some (.int y2), some (.int x3)] [] (hz F A L) Q := by
  intro m
  induction m with
  | zero =>
    intro B D F A L x1 y2 x3 hm K
    generalize hT : (kja_fill_37_5 x1 0 y2 (A 37)) = T at K
    have hE : T = (A 37) := hT.symm
    clear hT
    refine w_n 2 (pc1 := 7) (ls1 := [some (.ref 37), some (.int x1), some (.int y2), some (.int x3)]) (st1 := [.int x3, .int y2]) (hp1 := (hz F A L)) rfl ?_
    refine w_ge (p3 := 10) rfl rfl (fun hb => ?_) (fun h => False.elim (by have h : y2.toInt < x3.toInt := h; omega))
    subst T
    exact cvE rfl (funext fun q => if k0 : q = 37 then by subst k0; exact Eq.trans (b := (A 37)) rfl rfl else by unfold uA; simp only [nb1 k0, cond_false]) rfl (K _)
  | succ m ih =>
    intro B D F A L x1 y2 x3 hm K
    generalize hT : (kja_fill_37_5 x1 (m + 1) y2 (A 37)) = T at K
    have hE : T = (kja_fill_37_5 x1 m (y2 + 1) ((A 37).set y2.toInt.toNat x1)) := hT.symm
    clear hT
    refine w_n 2 (pc1 := 7) (ls1 := [some (.ref 37), some (.int x1), some (.int y2), some (.int x3)]) (st1 := [.int x3, .int y2]) (hp1 := (hz F A L)) rfl ?_
    refine w_ge (p3 := 10) rfl rfl (fun h => False.elim (by have h : x3.toInt ≤ y2.toInt := h; omega)) (fun hb => ?_)
    refine w_n 3 (pc1 := 13) (ls1 := [some (.ref 37), some (.int x1), some (.int y2), some (.int x3)]) (st1 := [.int x1, .int y2, .ref 37]) (hp1 := (hz F A L)) rfl ?_
    refine w_as (k := 37) (l := (A 37)) (hp1 := (hz F (uA A 37 ((A 37).set y2.toInt.toNat x1)) L)) rfl rfl rfl (hz_s37 _) (fun ab => ?_)
    refine w_n 2 (pc1 := 5) (ls1 := [some (.ref 37), some (.int x1), some (.int (y2 + 1)), some (.int x3)]) (st1 := []) (hp1 := (hz F (uA A 37 ((A 37).set y2.toInt.toNat x1)) L)) rfl ?_
    subst T
    have hb2 := i_up (B := x3) hb
    have hb3 : y2.toInt < x3.toInt := hb
    exact ih (show m = (x3.toInt - (y2 + 1).toInt).toNat by rw [hb2]; omega) (fun q2 => cvE rfl (funext fun q => if k0 : q = 37 then by subst k0; exact Eq.trans (b := (kja_fill_37_5 x1 m (y2 + 1) ((A 37).set y2.toInt.toNat x1))) rfl rfl else by unfold uA; simp only [nb1 k0, cond_false]) rfl (K q2))
def kja_fill_37 (a37 : List Int32) (x1 : Int32) : List Int32 := (kja_fill_37_5 x1 ((Int32.ofNat a37.length).toInt).toNat 0 a37)
theorem t_kja_fill_37 {f D : Nat} {F : Nat → Nat → Int32} {A : Nat → List Int32} {L : Nat → List Int64} {Q : Option Value → sm_H → Prop} {x1 : Int32} (K : Q none (hz F (uA A 37 (kja_fill_37 (A 37) x1)) L)) : wl_M f D 3 [.ref 37, .int x1] (hz F A L) Q := by
  generalize hT : (kja_fill_37 (A 37) x1) = T at K
  have hE : T = (kja_fill_37_5 x1 ((Int32.ofNat (A 37).length).toInt).toNat 0 (A 37)) := hT.symm
  clear hT
  refine w_m (E := mm3) rfl ?_
  show wl_E f f (D - 1) mm3.2.2.2.2.2.2.2.2 0 [some (.ref 37), some (.int x1), none, none] [] (hz F A L) Q
  refine w_n 5 (pc1 := 5) (ls1 := [some (.ref 37), some (.int x1), some (.int 0), some (.int (Int32.ofNat (A 37).length))]) (st1 := []) (hp1 := (hz F A L)) rfl ?_
  refine t_kja_fill_37_5 (((Int32.ofNat (A 37).length).toInt).toNat) (show ((Int32.ofNat (A 37).length).toInt).toNat = ((Int32.ofNat (A 37).length).toInt - (0 : Int32).toInt).toNat by have e0 : (0 : Int32).toInt = 0 := rfl; first | rfl | omega) ?_
  intro r1
  show wl_E f _ _ mm3.2.2.2.2.2.2.2.2 20 [some (.ref 37), some (.int x1), some (.int r1), some (.int (Int32.ofNat (A 37).length))] [] (hz F (uA A 37 (kja_fill_37_5 x1 ((Int32.ofNat (A 37).length).toInt).toNat 0 (A 37))) L) _
  generalize hG318 : (kja_fill_37_5 x1 ((Int32.ofNat (A 37).length).toInt).toNat 0 (A 37)) = G318 at hE ⊢
  subst T
  exact w_r rfl rfl (cvQ rfl rfl rfl K)
def kv_winnerOf (f3_0 : Int32) (a33 : List Int32) (x1 : Int32) (x2 : Int32) : Int32 := (if (kt_isMeasure f3_0 x1) = 0 then (-1) else (if (kt_isMeasure f3_0 x2) = 0 then (-1) else (if (((a33.getD x2.toInt.toNat 0) >>> (x1 &&& 31)) &&& 1) = 0 then x1 else x2)))
theorem t_kv_winnerOf {f D : Nat} {F : Nat → Nat → Int32} {A : Nat → List Int32} {L : Nat → List Int64} {Q : Option Value → sm_H → Prop} {x1 : Int32} {x2 : Int32} (K : Q (some (.int (kv_winnerOf (F 3 0) (A 33) x1 x2))) (hz F A L)) : wl_M f D 98 [.ref 30, .int x1, .int x2] (hz F A L) Q := by
  generalize hT : (kv_winnerOf (F 3 0) (A 33) x1 x2) = T at K
  have hE : T = (if (kt_isMeasure (F 3 0) x1) = 0 then (-1) else (if (kt_isMeasure (F 3 0) x2) = 0 then (-1) else (if ((((A 33).getD x2.toInt.toNat 0) >>> (x1 &&& 31)) &&& 1) = 0 then x1 else x2))) := hT.symm
  clear hT
  refine w_m (E := mm98) rfl ?_
  show wl_E f f (D - 1) mm98.2.2.2.2.2.2.2.2 0 [some (.ref 30), some (.int x1), some (.int x2)] [] (hz F A L) Q
  refine w_n 3 (pc1 := 5) (ls1 := [some (.ref 30), some (.int x1), some (.int x2)]) (st1 := [.int x1, .ref 3]) (hp1 := (hz F A L)) rfl ?_
  refine w_c rfl rfl (t_kt_isMeasure ?_)
  show wl_E f _ _ mm98.2.2.2.2.2.2.2.2 8 [some (.ref 30), some (.int x1), some (.int x2)] [.int (kt_isMeasure (F 3 0) x1)] (hz F A L) _
  generalize hG320 : (kt_isMeasure (F 3 0) x1) = G320 at hE ⊢
  refine w_zeq (p3 := 11) rfl rfl (fun h => ?_) (fun h => ?_)
  · have h1 : G320 = 0 := h
    rw [if_pos h1] at hE
    refine w_n 1 (pc1 := 23) (ls1 := [some (.ref 30), some (.int x1), some (.int x2)]) (st1 := [.int (-1)]) (hp1 := (hz F A L)) rfl ?_
    subst T
    exact w_ri rfl (cvQ rfl rfl rfl K)
  · have h1 : ¬ G320 = 0 := h
    rw [if_neg h1] at hE
    refine w_n 3 (pc1 := 16) (ls1 := [some (.ref 30), some (.int x1), some (.int x2)]) (st1 := [.int x2, .ref 3]) (hp1 := (hz F A L)) rfl ?_
    refine w_c rfl rfl (t_kt_isMeasure ?_)
    show wl_E f _ _ mm98.2.2.2.2.2.2.2.2 19 [some (.ref 30), some (.int x1), some (.int x2)] [.int (kt_isMeasure (F 3 0) x2)] (hz F A L) _
    generalize hG321 : (kt_isMeasure (F 3 0) x2) = G321 at hE ⊢
    refine w_zne (p3 := 22) rfl rfl (fun h => ?_) (fun h => ?_)
    · have h2 : ¬ G321 = 0 := h
      rw [if_neg h2] at hE
      refine w_n 3 (pc1 := 29) (ls1 := [some (.ref 30), some (.int x1), some (.int x2)]) (st1 := [.int x2, .ref 33]) (hp1 := (hz F A L)) rfl ?_
      refine w_al (k := 33) (l := (A 33)) rfl rfl rfl (fun _ => ?_)
      refine w_n 4 (pc1 := 34) (ls1 := [some (.ref 30), some (.int x1), some (.int x2)]) (st1 := [.int ((((A 33).getD x2.toInt.toNat 0) >>> (x1 &&& 31)) &&& 1)]) (hp1 := (hz F A L)) rfl ?_
      refine w_zeq (p3 := 37) rfl rfl (fun h => ?_) (fun h => ?_)
      · have h3 : ((((A 33).getD x2.toInt.toNat 0) >>> (x1 &&& 31)) &&& 1) = 0 := h
        rw [if_pos h3] at hE
        refine w_n 1 (pc1 := 42) (ls1 := [some (.ref 30), some (.int x1), some (.int x2)]) (st1 := [.int x1]) (hp1 := (hz F A L)) rfl ?_
        subst T
        exact w_ri rfl (cvQ rfl rfl rfl K)
      · have h3 : ¬ ((((A 33).getD x2.toInt.toNat 0) >>> (x1 &&& 31)) &&& 1) = 0 := h
        rw [if_neg h3] at hE
        refine w_n 2 (pc1 := 42) (ls1 := [some (.ref 30), some (.int x1), some (.int x2)]) (st1 := [.int x2]) (hp1 := (hz F A L)) rfl ?_
        subst T
        exact w_ri rfl (cvQ rfl rfl rfl K)
    · have h2 : G321 = 0 := h
      rw [if_pos h2] at hE
      refine w_n 1 (pc1 := 23) (ls1 := [some (.ref 30), some (.int x1), some (.int x2)]) (st1 := [.int (-1)]) (hp1 := (hz F A L)) rfl ?_
      subst T
      exact w_ri rfl (cvQ rfl rfl rfl K)
def kv_waysOn_5 (f3_0 : Int32) (a33 : List Int32) (a37 : List Int32) (x1 : Int32) (x2 : Int32) : Nat → Int32 → Int32 → Int32
  | 0, y3, _ => y3
  | m + 1, y3, y4 => (if ((x1 >>> (y4 &&& 31)) &&& 1) = 0 then (kv_waysOn_5 f3_0 a33 a37 x1 x2 m (y3 + (a37.getD (((x1 ||| ((1 : Int32) <<< (y4 &&& 31))) * 6) + (kv_winnerOf f3_0 a33 x2 y4)).toInt.toNat 0)) (y4 + 1)) else (kv_waysOn_5 f3_0 a33 a37 x1 x2 m y3 (y4 + 1)))
theorem t_kv_waysOn_5 {f : Nat} {Q : Option Value → sm_H → Prop} : ∀ (m : Nat) {B D : Nat} {F : Nat → Nat → Int32} {A : Nat → List Int32} {L : Nat → List Int64} {x1 : Int32} {x2 : Int32} {y3 : Int32} {y4 : Int32}, m = ((F 3 0).toInt - y4.toInt).toNat → (∀ q4 : Int32, wl_E f B D mm101.2.2.2.2.2.2.2.2 57 [some (.ref 30), some (.int x1), some (.int x2), some (.int (kv_waysOn_5 (F 3 0) (A 33) (A 37) x1 x2 m y3 y4)), some (.int q4)] [] (hz F A L) Q) → wl_E f B D mm101.2.2.2.2.2.2.2.2 5 [some (.ref 30), some (.int x1), some (.int x2), some (.int y3), some (.int y4)] [] (hz F A L) Q := by
  intro m
  induction m with
  | zero =>
    intro B D F A L x1 x2 y3 y4 hm K
    generalize hT : (kv_waysOn_5 (F 3 0) (A 33) (A 37) x1 x2 0 y3 y4) = T at K
    have hE : T = y3 := hT.symm
    clear hT
    refine w_n 4 (pc1 := 14) (ls1 := [some (.ref 30), some (.int x1), some (.int x2), some (.int y3), some (.int y4)]) (st1 := [.int (F 3 0), .int y4]) (hp1 := (hz F A L)) rfl ?_
    refine w_ge (p3 := 17) rfl rfl (fun hb => ?_) (fun h => False.elim (by have h : y4.toInt < (F 3 0).toInt := h; omega))
    subst T
    exact cvE rfl rfl rfl (K _)
  | succ m ih =>
    intro B D F A L x1 x2 y3 y4 hm K
    generalize hT : (kv_waysOn_5 (F 3 0) (A 33) (A 37) x1 x2 (m + 1) y3 y4) = T at K
    have hE : T = (if ((x1 >>> (y4 &&& 31)) &&& 1) = 0 then (kv_waysOn_5 (F 3 0) (A 33) (A 37) x1 x2 m (y3 + ((A 37).getD (((x1 ||| ((1 : Int32) <<< (y4 &&& 31))) * 6) + (kv_winnerOf (F 3 0) (A 33) x2 y4)).toInt.toNat 0)) (y4 + 1)) else (kv_waysOn_5 (F 3 0) (A 33) (A 37) x1 x2 m y3 (y4 + 1))) := hT.symm
    clear hT
    refine w_n 4 (pc1 := 14) (ls1 := [some (.ref 30), some (.int x1), some (.int x2), some (.int y3), some (.int y4)]) (st1 := [.int (F 3 0), .int y4]) (hp1 := (hz F A L)) rfl ?_
    refine w_ge (p3 := 17) rfl rfl (fun h => False.elim (by have h : (F 3 0).toInt ≤ y4.toInt := h; omega)) (fun hb => ?_)
    refine w_n 5 (pc1 := 23) (ls1 := [some (.ref 30), some (.int x1), some (.int x2), some (.int y3), some (.int y4)]) (st1 := [.int ((x1 >>> (y4 &&& 31)) &&& 1)]) (hp1 := (hz F A L)) rfl ?_
    refine w_zne (p3 := 26) rfl rfl (fun h => ?_) (fun h => ?_)
    · have h1 : ¬ ((x1 >>> (y4 &&& 31)) &&& 1) = 0 := h
      rw [if_neg h1] at hE
      refine w_n 2 (pc1 := 5) (ls1 := [some (.ref 30), some (.int x1), some (.int x2), some (.int y3), some (.int (y4 + 1))]) (st1 := []) (hp1 := (hz F A L)) rfl ?_
      subst T
      have hb2 := i_up (B := (F 3 0)) hb
      have hb3 : y4.toInt < (F 3 0).toInt := hb
      exact ih (show m = ((F 3 0).toInt - (y4 + 1).toInt).toNat by rw [hb2]; omega) (fun q4 => cvE rfl rfl rfl (K q4))
    · have h1 : ((x1 >>> (y4 &&& 31)) &&& 1) = 0 := h
      rw [if_pos h1] at hE
      refine w_n 13 (pc1 := 44) (ls1 := [some (.ref 30), some (.int x1), some (.int x2), some (.int y3), some (.int y4)]) (st1 := [.int y4, .int x2, .ref 30, .int ((x1 ||| ((1 : Int32) <<< (y4 &&& 31))) * 6), .ref 37, .int y3]) (hp1 := (hz F A L)) rfl ?_
      refine w_c rfl rfl (t_kv_winnerOf ?_)
      show wl_E f _ _ mm101.2.2.2.2.2.2.2.2 47 [some (.ref 30), some (.int x1), some (.int x2), some (.int y3), some (.int y4)] [.int (kv_winnerOf (F 3 0) (A 33) x2 y4), .int ((x1 ||| ((1 : Int32) <<< (y4 &&& 31))) * 6), .ref 37, .int y3] (hz F A L) _
      generalize hG322 : (kv_winnerOf (F 3 0) (A 33) x2 y4) = G322 at hE ⊢
      refine w_n 1 (pc1 := 48) (ls1 := [some (.ref 30), some (.int x1), some (.int x2), some (.int y3), some (.int y4)]) (st1 := [.int (((x1 ||| ((1 : Int32) <<< (y4 &&& 31))) * 6) + G322), .ref 37, .int y3]) (hp1 := (hz F A L)) rfl ?_
      refine w_al (k := 37) (l := (A 37)) rfl rfl rfl (fun _ => ?_)
      refine w_n 4 (pc1 := 5) (ls1 := [some (.ref 30), some (.int x1), some (.int x2), some (.int (y3 + ((A 37).getD (((x1 ||| ((1 : Int32) <<< (y4 &&& 31))) * 6) + G322).toInt.toNat 0))), some (.int (y4 + 1))]) (st1 := []) (hp1 := (hz F A L)) rfl ?_
      subst T
      have hb2 := i_up (B := (F 3 0)) hb
      have hb3 : y4.toInt < (F 3 0).toInt := hb
      exact ih (show m = ((F 3 0).toInt - (y4 + 1).toInt).toNat by rw [hb2]; omega) (fun q4 => cvE rfl rfl rfl (K q4))
def kv_waysOn (f3_0 : Int32) (a33 : List Int32) (a37 : List Int32) (x1 : Int32) (x2 : Int32) : Int32 := (kv_waysOn_5 f3_0 a33 a37 x1 x2 f3_0.toInt.toNat 0 0)
theorem t_kv_waysOn {f D : Nat} {F : Nat → Nat → Int32} {A : Nat → List Int32} {L : Nat → List Int64} {Q : Option Value → sm_H → Prop} {x1 : Int32} {x2 : Int32} (K : Q (some (.int (kv_waysOn (F 3 0) (A 33) (A 37) x1 x2))) (hz F A L)) : wl_M f D 101 [.ref 30, .int x1, .int x2] (hz F A L) Q := by
  generalize hT : (kv_waysOn (F 3 0) (A 33) (A 37) x1 x2) = T at K
  have hE : T = (kv_waysOn_5 (F 3 0) (A 33) (A 37) x1 x2 (F 3 0).toInt.toNat 0 0) := hT.symm
  clear hT
  refine w_m (E := mm101) rfl ?_
  show wl_E f f (D - 1) mm101.2.2.2.2.2.2.2.2 0 [some (.ref 30), some (.int x1), some (.int x2), none, none] [] (hz F A L) Q
  refine w_n 4 (pc1 := 5) (ls1 := [some (.ref 30), some (.int x1), some (.int x2), some (.int 0), some (.int 0)]) (st1 := []) (hp1 := (hz F A L)) rfl ?_
  refine t_kv_waysOn_5 (F 3 0).toInt.toNat (show (F 3 0).toInt.toNat = ((F 3 0).toInt - (0 : Int32).toInt).toNat by have e0 : (0 : Int32).toInt = 0 := rfl; first | rfl | omega) ?_
  intro r1
  show wl_E f _ _ mm101.2.2.2.2.2.2.2.2 57 [some (.ref 30), some (.int x1), some (.int x2), some (.int (kv_waysOn_5 (F 3 0) (A 33) (A 37) x1 x2 (F 3 0).toInt.toNat 0 0)), some (.int r1)] [] (hz F A L) _
  generalize hG323 : (kv_waysOn_5 (F 3 0) (A 33) (A 37) x1 x2 (F 3 0).toInt.toNat 0 0) = G323 at hE ⊢
  refine w_n 1 (pc1 := 58) (ls1 := [some (.ref 30), some (.int x1), some (.int x2), some (.int G323), some (.int r1)]) (st1 := [.int G323]) (hp1 := (hz F A L)) rfl ?_
  subst T
  exact w_ri rfl (cvQ rfl rfl rfl K)
def kv_countOrders_39 (f3_0 : Int32) (a33 : List Int32) (x3 : Int32) : Nat → Int32 → List Int32 → List Int32
  | 0, _, a37 => a37
  | m + 1, y4, a37 => (if ((x3 >>> (y4 &&& 31)) &&& 1) = 0 then (kv_countOrders_39 f3_0 a33 x3 m (y4 + 1) a37) else (kv_countOrders_39 f3_0 a33 x3 m (y4 + 1) (a37.set ((x3 * 6) + y4).toInt.toNat (kv_waysOn f3_0 a33 a37 x3 y4))))
theorem t_kv_countOrders_39 {f : Nat} {Q : Option Value → sm_H → Prop} : ∀ (m : Nat) {B D : Nat} {F : Nat → Nat → Int32} {A : Nat → List Int32} {L : Nat → List Int64} {x1 : Int32} {x2 : Int32} {x3 : Int32} {y4 : Int32}, m = ((F 3 0).toInt - y4.toInt).toNat → (∀ q4 : Int32, wl_E f B D mm100.2.2.2.2.2.2.2.2 85 [some (.ref 30), some (.int x1), some (.int x2), some (.int x3), some (.int q4)] [] (hz F (uA A 37 (kv_countOrders_39 (F 3 0) (A 33) x3 m y4 (A 37))) L) Q) → wl_E f B D mm100.2.2.2.2.2.2.2.2 39 [some (.ref 30), some (.int x1), some (.int x2), some (.int x3), some (.int y4)] [] (hz F A L) Q := by
  intro m
  induction m with
  | zero =>
    intro B D F A L x1 x2 x3 y4 hm K
    generalize hT : (kv_countOrders_39 (F 3 0) (A 33) x3 0 y4 (A 37)) = T at K
    have hE : T = (A 37) := hT.symm
    clear hT
    refine w_n 4 (pc1 := 48) (ls1 := [some (.ref 30), some (.int x1), some (.int x2), some (.int x3), some (.int y4)]) (st1 := [.int (F 3 0), .int y4]) (hp1 := (hz F A L)) rfl ?_
    refine w_ge (p3 := 51) rfl rfl (fun hb => ?_) (fun h => False.elim (by have h : y4.toInt < (F 3 0).toInt := h; omega))
    subst T
    exact cvE rfl (funext fun q => if k0 : q = 37 then by subst k0; exact Eq.trans (b := (A 37)) rfl rfl else by unfold uA; simp only [nb1 k0, cond_false]) rfl (K _)
  | succ m ih =>
    intro B D F A L x1 x2 x3 y4 hm K
    generalize hT : (kv_countOrders_39 (F 3 0) (A 33) x3 (m + 1) y4 (A 37)) = T at K
    have hE : T = (if ((x3 >>> (y4 &&& 31)) &&& 1) = 0 then (kv_countOrders_39 (F 3 0) (A 33) x3 m (y4 + 1) (A 37)) else (kv_countOrders_39 (F 3 0) (A 33) x3 m (y4 + 1) ((A 37).set ((x3 * 6) + y4).toInt.toNat (kv_waysOn (F 3 0) (A 33) (A 37) x3 y4)))) := hT.symm
    clear hT
    refine w_n 4 (pc1 := 48) (ls1 := [some (.ref 30), some (.int x1), some (.int x2), some (.int x3), some (.int y4)]) (st1 := [.int (F 3 0), .int y4]) (hp1 := (hz F A L)) rfl ?_
    refine w_ge (p3 := 51) rfl rfl (fun h => False.elim (by have h : (F 3 0).toInt ≤ y4.toInt := h; omega)) (fun hb => ?_)
    refine w_n 5 (pc1 := 57) (ls1 := [some (.ref 30), some (.int x1), some (.int x2), some (.int x3), some (.int y4)]) (st1 := [.int ((x3 >>> (y4 &&& 31)) &&& 1)]) (hp1 := (hz F A L)) rfl ?_
    refine w_zeq (p3 := 60) rfl rfl (fun h => ?_) (fun h => ?_)
    · have h1 : ((x3 >>> (y4 &&& 31)) &&& 1) = 0 := h
      rw [if_pos h1] at hE
      refine w_n 2 (pc1 := 39) (ls1 := [some (.ref 30), some (.int x1), some (.int x2), some (.int x3), some (.int (y4 + 1))]) (st1 := []) (hp1 := (hz F A L)) rfl ?_
      subst T
      have hb2 := i_up (B := (F 3 0)) hb
      have hb3 : y4.toInt < (F 3 0).toInt := hb
      exact ih (show m = ((F 3 0).toInt - (y4 + 1).toInt).toNat by rw [hb2]; omega) (fun q4 => cvE rfl (funext fun q => if k0 : q = 37 then by subst k0; exact Eq.trans (b := (kv_countOrders_39 (F 3 0) (A 33) x3 m (y4 + 1) (A 37))) rfl rfl else by unfold uA; simp only [nb1 k0, cond_false]) rfl (K q4))
    · have h1 : ¬ ((x3 >>> (y4 &&& 31)) &&& 1) = 0 := h
      rw [if_neg h1] at hE
      refine w_n 10 (pc1 := 75) (ls1 := [some (.ref 30), some (.int x1), some (.int x2), some (.int x3), some (.int y4)]) (st1 := [.int y4, .int x3, .ref 30, .int ((x3 * 6) + y4), .ref 37]) (hp1 := (hz F A L)) rfl ?_
      refine w_c rfl rfl (t_kv_waysOn ?_)
      show wl_E f _ _ mm100.2.2.2.2.2.2.2.2 78 [some (.ref 30), some (.int x1), some (.int x2), some (.int x3), some (.int y4)] [.int (kv_waysOn (F 3 0) (A 33) (A 37) x3 y4), .int ((x3 * 6) + y4), .ref 37] (hz F A L) _
      generalize hG324 : (kv_waysOn (F 3 0) (A 33) (A 37) x3 y4) = G324 at hE ⊢
      refine w_as (k := 37) (l := (A 37)) (hp1 := (hz F (uA A 37 ((A 37).set ((x3 * 6) + y4).toInt.toNat G324)) L)) rfl rfl rfl (hz_s37 _) (fun _ => ?_)
      refine w_n 2 (pc1 := 39) (ls1 := [some (.ref 30), some (.int x1), some (.int x2), some (.int x3), some (.int (y4 + 1))]) (st1 := []) (hp1 := (hz F (uA A 37 ((A 37).set ((x3 * 6) + y4).toInt.toNat G324)) L)) rfl ?_
      subst T
      have hb2 := i_up (B := (F 3 0)) hb
      have hb3 : y4.toInt < (F 3 0).toInt := hb
      exact ih (show m = ((F 3 0).toInt - (y4 + 1).toInt).toNat by rw [hb2]; omega) (fun q4 => cvE rfl (funext fun q => if k0 : q = 37 then by subst k0; exact Eq.trans (b := (kv_countOrders_39 (F 3 0) (A 33) x3 m (y4 + 1) ((A 37).set ((x3 * 6) + y4).toInt.toNat G324))) rfl rfl else by unfold uA; simp only [nb1 k0, cond_false]) rfl (K q4))
def kv_countOrders_32 (f3_0 : Int32) (a33 : List Int32)  : Nat → Int32 → List Int32 → List Int32
  | 0, _, a37 => a37
  | m + 1, y3, a37 => (kv_countOrders_32 f3_0 a33 m (y3 + (-1)) (kv_countOrders_39 f3_0 a33 y3 f3_0.toInt.toNat 0 a37))
theorem t_kv_countOrders_32 {f : Nat} {Q : Option Value → sm_H → Prop} : ∀ (m : Nat) {B D : Nat} {F : Nat → Nat → Int32} {A : Nat → List Int32} {L : Nat → List Int64} {x1 : Int32} {x2 : Int32} {y3 : Int32} {o4 : Option Value}, m = (y3.toInt - 0).toNat → (∀ q3 : Int32, ∀ q4 : Option Value, wl_E f B D mm100.2.2.2.2.2.2.2.2 91 [some (.ref 30), some (.int x1), some (.int x2), some (.int q3), q4] [] (hz F (uA A 37 (kv_countOrders_32 (F 3 0) (A 33) m y3 (A 37))) L) Q) → wl_E f B D mm100.2.2.2.2.2.2.2.2 32 [some (.ref 30), some (.int x1), some (.int x2), some (.int y3), o4] [] (hz F A L) Q := by
  intro m
  induction m with
  | zero =>
    intro B D F A L x1 x2 y3 o4 hm K
    generalize hT : (kv_countOrders_32 (F 3 0) (A 33) 0 y3 (A 37)) = T at K
    have hE : T = (A 37) := hT.symm
    clear hT
    refine w_n 1 (pc1 := 33) (ls1 := [some (.ref 30), some (.int x1), some (.int x2), some (.int y3), o4]) (st1 := [.int y3]) (hp1 := (hz F A L)) rfl ?_
    refine w_zle (p3 := 36) rfl rfl (fun hb => ?_) (fun h => False.elim (by have h : 0 < y3.toInt := h; omega))
    subst T
    exact cvE rfl (funext fun q => if k0 : q = 37 then by subst k0; exact Eq.trans (b := (A 37)) rfl rfl else by unfold uA; simp only [nb1 k0, cond_false]) rfl (K _ _)
  | succ m ih =>
    intro B D F A L x1 x2 y3 o4 hm K
    generalize hT : (kv_countOrders_32 (F 3 0) (A 33) (m + 1) y3 (A 37)) = T at K
    have hE : T = (kv_countOrders_32 (F 3 0) (A 33) m (y3 + (-1)) (kv_countOrders_39 (F 3 0) (A 33) y3 (F 3 0).toInt.toNat 0 (A 37))) := hT.symm
    clear hT
    refine w_n 1 (pc1 := 33) (ls1 := [some (.ref 30), some (.int x1), some (.int x2), some (.int y3), o4]) (st1 := [.int y3]) (hp1 := (hz F A L)) rfl ?_
    refine w_zle (p3 := 36) rfl rfl (fun h => False.elim (by have h : y3.toInt ≤ 0 := h; omega)) (fun hb => ?_)
    refine w_n 2 (pc1 := 39) (ls1 := [some (.ref 30), some (.int x1), some (.int x2), some (.int y3), some (.int 0)]) (st1 := []) (hp1 := (hz F A L)) rfl ?_
    refine t_kv_countOrders_39 (F 3 0).toInt.toNat (show (F 3 0).toInt.toNat = ((F 3 0).toInt - (0 : Int32).toInt).toNat by have e0 : (0 : Int32).toInt = 0 := rfl; first | rfl | omega) ?_
    intro r1
    show wl_E f _ _ mm100.2.2.2.2.2.2.2.2 85 [some (.ref 30), some (.int x1), some (.int x2), some (.int y3), some (.int r1)] [] (hz F (uA A 37 (kv_countOrders_39 (F 3 0) (A 33) y3 (F 3 0).toInt.toNat 0 (A 37))) L) _
    generalize hG325 : (kv_countOrders_39 (F 3 0) (A 33) y3 (F 3 0).toInt.toNat 0 (A 37)) = G325 at hE ⊢
    refine w_n 2 (pc1 := 32) (ls1 := [some (.ref 30), some (.int x1), some (.int x2), some (.int (y3 + (-1))), some (.int r1)]) (st1 := []) (hp1 := (hz F (uA A 37 G325) L)) rfl ?_
    subst T
    have hb2 := i_dn2 (B := (0 : Int32)) hb
    have hb3 : 0 < y3.toInt := hb
    exact ih (show m = ((y3 + (-1)).toInt - 0).toNat by rw [hb2]; omega) (fun q3 q4 => cvE rfl (funext fun q => if k0 : q = 37 then by subst k0; exact Eq.trans (b := (kv_countOrders_32 (F 3 0) (A 33) m (y3 + (-1)) G325)) rfl rfl else by unfold uA; simp only [nb1 k0, cond_false]) rfl (K q3 q4))
def kv_countOrders_96 (a37 : List Int32)  : Nat → Int32 → Int32 → Int32
  | 0, y3, _ => y3
  | m + 1, y3, y4 => (kv_countOrders_96 a37 m (y3 + (a37.getD ((((1 : Int32) <<< (y4 &&& 31)) * 6) + y4).toInt.toNat 0)) (y4 + 1))
theorem t_kv_countOrders_96 {f : Nat} {Q : Option Value → sm_H → Prop} : ∀ (m : Nat) {B D : Nat} {F : Nat → Nat → Int32} {A : Nat → List Int32} {L : Nat → List Int64} {x1 : Int32} {x2 : Int32} {y3 : Int32} {y4 : Int32}, m = ((F 3 0).toInt - y4.toInt).toNat → (∀ q4 : Int32, wl_E f B D mm100.2.2.2.2.2.2.2.2 132 [some (.ref 30), some (.int x1), some (.int x2), some (.int (kv_countOrders_96 (A 37) m y3 y4)), some (.int q4)] [] (hz F A L) Q) → wl_E f B D mm100.2.2.2.2.2.2.2.2 96 [some (.ref 30), some (.int x1), some (.int x2), some (.int y3), some (.int y4)] [] (hz F A L) Q := by
  intro m
  induction m with
  | zero =>
    intro B D F A L x1 x2 y3 y4 hm K
    generalize hT : (kv_countOrders_96 (A 37) 0 y3 y4) = T at K
    have hE : T = y3 := hT.symm
    clear hT
    refine w_n 4 (pc1 := 105) (ls1 := [some (.ref 30), some (.int x1), some (.int x2), some (.int y3), some (.int y4)]) (st1 := [.int (F 3 0), .int y4]) (hp1 := (hz F A L)) rfl ?_
    refine w_ge (p3 := 108) rfl rfl (fun hb => ?_) (fun h => False.elim (by have h : y4.toInt < (F 3 0).toInt := h; omega))
    subst T
    exact cvE rfl rfl rfl (K _)
  | succ m ih =>
    intro B D F A L x1 x2 y3 y4 hm K
    generalize hT : (kv_countOrders_96 (A 37) (m + 1) y3 y4) = T at K
    have hE : T = (kv_countOrders_96 (A 37) m (y3 + ((A 37).getD ((((1 : Int32) <<< (y4 &&& 31)) * 6) + y4).toInt.toNat 0)) (y4 + 1)) := hT.symm
    clear hT
    refine w_n 4 (pc1 := 105) (ls1 := [some (.ref 30), some (.int x1), some (.int x2), some (.int y3), some (.int y4)]) (st1 := [.int (F 3 0), .int y4]) (hp1 := (hz F A L)) rfl ?_
    refine w_ge (p3 := 108) rfl rfl (fun h => False.elim (by have h : (F 3 0).toInt ≤ y4.toInt := h; omega)) (fun hb => ?_)
    refine w_n 10 (pc1 := 123) (ls1 := [some (.ref 30), some (.int x1), some (.int x2), some (.int y3), some (.int y4)]) (st1 := [.int ((((1 : Int32) <<< (y4 &&& 31)) * 6) + y4), .ref 37, .int y3]) (hp1 := (hz F A L)) rfl ?_
    refine w_al (k := 37) (l := (A 37)) rfl rfl rfl (fun _ => ?_)
    refine w_n 4 (pc1 := 96) (ls1 := [some (.ref 30), some (.int x1), some (.int x2), some (.int (y3 + ((A 37).getD ((((1 : Int32) <<< (y4 &&& 31)) * 6) + y4).toInt.toNat 0))), some (.int (y4 + 1))]) (st1 := []) (hp1 := (hz F A L)) rfl ?_
    subst T
    have hb2 := i_up (B := (F 3 0)) hb
    have hb3 : y4.toInt < (F 3 0).toInt := hb
    exact ih (show m = ((F 3 0).toInt - (y4 + 1).toInt).toNat by rw [hb2]; omega) (fun q4 => cvE rfl rfl rfl (K q4))
def kv_countOrders (f3_0 : Int32) (a33 : List Int32) (a37 : List Int32) (x1 : Int32) : Int32 × List Int32 := ((kv_countOrders_96 (kv_countOrders_32 f3_0 a33 (((kt_allMeasures f3_0) - 1).toInt).toNat ((kt_allMeasures f3_0) - 1) ((kja_fill_37 a37 0).set (((kt_allMeasures f3_0) * 6) + x1).toInt.toNat 1)) f3_0.toInt.toNat 0 0), (kv_countOrders_32 f3_0 a33 (((kt_allMeasures f3_0) - 1).toInt).toNat ((kt_allMeasures f3_0) - 1) ((kja_fill_37 a37 0).set (((kt_allMeasures f3_0) * 6) + x1).toInt.toNat 1)))
theorem t_kv_countOrders {f D : Nat} {F : Nat → Nat → Int32} {A : Nat → List Int32} {L : Nat → List Int64} {Q : Option Value → sm_H → Prop} {x1 : Int32} (K : Q (some (.int ((kv_countOrders (F 3 0) (A 33) (A 37) x1).1))) (hz F (uA A 37 ((kv_countOrders (F 3 0) (A 33) (A 37) x1).2)) L)) : wl_M f D 100 [.ref 30, .int x1] (hz F A L) Q := by
  generalize hT : (kv_countOrders (F 3 0) (A 33) (A 37) x1) = T at K
  have hE : T = ((kv_countOrders_96 (kv_countOrders_32 (F 3 0) (A 33) (((kt_allMeasures (F 3 0)) - 1).toInt).toNat ((kt_allMeasures (F 3 0)) - 1) ((kja_fill_37 (A 37) 0).set (((kt_allMeasures (F 3 0)) * 6) + x1).toInt.toNat 1)) (F 3 0).toInt.toNat 0 0), (kv_countOrders_32 (F 3 0) (A 33) (((kt_allMeasures (F 3 0)) - 1).toInt).toNat ((kt_allMeasures (F 3 0)) - 1) ((kja_fill_37 (A 37) 0).set (((kt_allMeasures (F 3 0)) * 6) + x1).toInt.toNat 1))) := hT.symm
  clear hT
  refine w_m (E := mm100) rfl ?_
  show wl_E f f (D - 1) mm100.2.2.2.2.2.2.2.2 0 [some (.ref 30), some (.int x1), none, none, none] [] (hz F A L) Q
  refine w_n 2 (pc1 := 4) (ls1 := [some (.ref 30), some (.int x1), none, none, none]) (st1 := [.ref 3]) (hp1 := (hz F A L)) rfl ?_
  refine w_c rfl rfl (t_kt_allMeasures ?_)
  show wl_E f _ _ mm100.2.2.2.2.2.2.2.2 7 [some (.ref 30), some (.int x1), none, none, none] [.int (kt_allMeasures (F 3 0))] (hz F A L) _
  generalize hG317 : (kt_allMeasures (F 3 0)) = G317 at hE ⊢
  refine w_n 4 (pc1 := 13) (ls1 := [some (.ref 30), some (.int x1), some (.int G317), none, none]) (st1 := [.int 0, .ref 37]) (hp1 := (hz F A L)) rfl ?_
  refine w_c rfl rfl (t_kja_fill_37 ?_)
  show wl_E f _ _ mm100.2.2.2.2.2.2.2.2 16 [some (.ref 30), some (.int x1), some (.int G317), none, none] [] (hz F (uA A 37 (kja_fill_37 (A 37) 0)) L) _
  generalize hG319 : (kja_fill_37 (A 37) 0) = G319 at hE ⊢
  refine w_n 8 (pc1 := 27) (ls1 := [some (.ref 30), some (.int x1), some (.int G317), none, none]) (st1 := [.int 1, .int ((G317 * 6) + x1), .ref 37]) (hp1 := (hz F (uA A 37 G319) L)) rfl ?_
  refine w_as (k := 37) (l := G319) (hp1 := (hz F (uA (uA A 37 G319) 37 (G319.set ((G317 * 6) + x1).toInt.toNat 1)) L)) rfl rfl rfl (hz_s37 _) (fun _ => ?_)
  refine w_n 4 (pc1 := 32) (ls1 := [some (.ref 30), some (.int x1), some (.int G317), some (.int (G317 - 1)), none]) (st1 := []) (hp1 := (hz F (uA (uA A 37 G319) 37 (G319.set ((G317 * 6) + x1).toInt.toNat 1)) L)) rfl ?_
  refine t_kv_countOrders_32 (((G317 - 1).toInt).toNat) (show ((G317 - 1).toInt).toNat = ((G317 - 1).toInt - 0).toNat by first | rfl | omega) ?_
  intro r1 r2
  show wl_E f _ _ mm100.2.2.2.2.2.2.2.2 91 [some (.ref 30), some (.int x1), some (.int G317), some (.int r1), r2] [] (hz F (uA (uA (uA A 37 G319) 37 (G319.set ((G317 * 6) + x1).toInt.toNat 1)) 37 (kv_countOrders_32 (F 3 0) (A 33) ((G317 - 1).toInt).toNat (G317 - 1) (G319.set ((G317 * 6) + x1).toInt.toNat 1))) L) _
  generalize hG326 : (kv_countOrders_32 (F 3 0) (A 33) ((G317 - 1).toInt).toNat (G317 - 1) (G319.set ((G317 * 6) + x1).toInt.toNat 1)) = G326 at hE ⊢
  refine w_n 4 (pc1 := 96) (ls1 := [some (.ref 30), some (.int x1), some (.int G317), some (.int 0), some (.int 0)]) (st1 := []) (hp1 := (hz F (uA (uA (uA A 37 G319) 37 (G319.set ((G317 * 6) + x1).toInt.toNat 1)) 37 G326) L)) rfl ?_
  refine t_kv_countOrders_96 (F 3 0).toInt.toNat (show (F 3 0).toInt.toNat = ((F 3 0).toInt - (0 : Int32).toInt).toNat by have e0 : (0 : Int32).toInt = 0 := rfl; first | rfl | omega) ?_
  intro r3
  show wl_E f _ _ mm100.2.2.2.2.2.2.2.2 132 [some (.ref 30), some (.int x1), some (.int G317), some (.int (kv_countOrders_96 G326 (F 3 0).toInt.toNat 0 0)), some (.int r3)] [] (hz F (uA (uA (uA A 37 G319) 37 (G319.set ((G317 * 6) + x1).toInt.toNat 1)) 37 G326) L) _
  generalize hG327 : (kv_countOrders_96 G326 (F 3 0).toInt.toNat 0 0) = G327 at hE ⊢
  refine w_n 1 (pc1 := 133) (ls1 := [some (.ref 30), some (.int x1), some (.int G317), some (.int G327), some (.int r3)]) (st1 := [.int G327]) (hp1 := (hz F (uA (uA (uA A 37 G319) 37 (G319.set ((G317 * 6) + x1).toInt.toNat 1)) 37 G326) L)) rfl ?_
  subst T
  exact w_ri rfl (cvQ rfl (funext fun q => if k0 : q = 37 then by subst k0; exact Eq.trans (b := G326) rfl rfl else by unfold uA; simp only [nb1 k0, cond_false]) rfl K)
def kv_findLeastOrder_20 (f3_0 : Int32) (a33 : List Int32) (a37 : List Int32) (x3 : Int32) : Nat → Int32 → Int32 → Int32 → List Int32 → Int32 × Int32 × List Int32
  | 0, y1, y2, _, a39 => (y1, y2, a39)
  | m + 1, y1, y2, y4, a39 => (if x3 = 0 then (if (y1 ||| ((1 : Int32) <<< (y4 &&& 31))) = y1 then (kv_findLeastOrder_20 f3_0 a33 a37 x3 m y1 y2 (y4 + 1) a39) else (if 0 < (a37.getD (((y1 ||| ((1 : Int32) <<< (y4 &&& 31))) * 6) + y4).toInt.toNat 0).toInt then ((y1 ||| ((1 : Int32) <<< (y4 &&& 31))), y4, (a39.set x3.toInt.toNat y4)) else (kv_findLeastOrder_20 f3_0 a33 a37 x3 m y1 y2 (y4 + 1) a39))) else (if (y1 ||| ((1 : Int32) <<< (y4 &&& 31))) = y1 then (kv_findLeastOrder_20 f3_0 a33 a37 x3 m y1 y2 (y4 + 1) a39) else (if 0 < (a37.getD (((y1 ||| ((1 : Int32) <<< (y4 &&& 31))) * 6) + (kv_winnerOf f3_0 a33 y2 y4)).toInt.toNat 0).toInt then ((y1 ||| ((1 : Int32) <<< (y4 &&& 31))), (kv_winnerOf f3_0 a33 y2 y4), (a39.set x3.toInt.toNat y4)) else (kv_findLeastOrder_20 f3_0 a33 a37 x3 m y1 y2 (y4 + 1) a39))))
theorem t_kv_findLeastOrder_20 {f : Nat} {Q : Option Value → sm_H → Prop} : ∀ (m : Nat) {B D : Nat} {F : Nat → Nat → Int32} {A : Nat → List Int32} {L : Nat → List Int64} {y1 : Int32} {y2 : Int32} {x3 : Int32} {y4 : Int32} {o5 : Option Value} {o6 : Option Value}, m = ((F 3 0).toInt - y4.toInt).toNat → (∀ q4 : Int32, ∀ q5 : Option Value, ∀ q6 : Option Value, wl_E f B D mm102.2.2.2.2.2.2.2.2 103 [some (.ref 30), some (.int ((kv_findLeastOrder_20 (F 3 0) (A 33) (A 37) x3 m y1 y2 y4 (A 39)).1)), some (.int ((kv_findLeastOrder_20 (F 3 0) (A 33) (A 37) x3 m y1 y2 y4 (A 39)).2.1)), some (.int x3), some (.int q4), q5, q6] [] (hz F (uA A 39 ((kv_findLeastOrder_20 (F 3 0) (A 33) (A 37) x3 m y1 y2 y4 (A 39)).2.2)) L) Q) → wl_E f B D mm102.2.2.2.2.2.2.2.2 20 [some (.ref 30), some (.int y1), some (.int y2), some (.int x3), some (.int y4), o5, o6] [] (hz F A L) Q := by
  intro m
  induction m with
  | zero =>
    intro B D F A L y1 y2 x3 y4 o5 o6 hm K
    generalize hT : (kv_findLeastOrder_20 (F 3 0) (A 33) (A 37) x3 0 y1 y2 y4 (A 39)) = T at K
    have hE : T = (y1, y2, (A 39)) := hT.symm
    clear hT
    refine w_n 4 (pc1 := 29) (ls1 := [some (.ref 30), some (.int y1), some (.int y2), some (.int x3), some (.int y4), o5, o6]) (st1 := [.int (F 3 0), .int y4]) (hp1 := (hz F A L)) rfl ?_
    refine w_ge (p3 := 32) rfl rfl (fun hb => ?_) (fun h => False.elim (by have h : y4.toInt < (F 3 0).toInt := h; omega))
    subst T
    exact cvE rfl (funext fun q => if k0 : q = 39 then by subst k0; exact Eq.trans (b := (A 39)) rfl rfl else by unfold uA; simp only [nb1 k0, cond_false]) rfl (K _ _ _)
  | succ m ih =>
    intro B D F A L y1 y2 x3 y4 o5 o6 hm K
    generalize hT : (kv_findLeastOrder_20 (F 3 0) (A 33) (A 37) x3 (m + 1) y1 y2 y4 (A 39)) = T at K
    have hE : T = (if x3 = 0 then (if (y1 ||| ((1 : Int32) <<< (y4 &&& 31))) = y1 then (kv_findLeastOrder_20 (F 3 0) (A 33) (A 37) x3 m y1 y2 (y4 + 1) (A 39)) else (if 0 < ((A 37).getD (((y1 ||| ((1 : Int32) <<< (y4 &&& 31))) * 6) + y4).toInt.toNat 0).toInt then ((y1 ||| ((1 : Int32) <<< (y4 &&& 31))), y4, ((A 39).set x3.toInt.toNat y4)) else (kv_findLeastOrder_20 (F 3 0) (A 33) (A 37) x3 m y1 y2 (y4 + 1) (A 39)))) else (if (y1 ||| ((1 : Int32) <<< (y4 &&& 31))) = y1 then (kv_findLeastOrder_20 (F 3 0) (A 33) (A 37) x3 m y1 y2 (y4 + 1) (A 39)) else (if 0 < ((A 37).getD (((y1 ||| ((1 : Int32) <<< (y4 &&& 31))) * 6) + (kv_winnerOf (F 3 0) (A 33) y2 y4)).toInt.toNat 0).toInt then ((y1 ||| ((1 : Int32) <<< (y4 &&& 31))), (kv_winnerOf (F 3 0) (A 33) y2 y4), ((A 39).set x3.toInt.toNat y4)) else (kv_findLeastOrder_20 (F 3 0) (A 33) (A 37) x3 m y1 y2 (y4 + 1) (A 39))))) := hT.symm
    clear hT
    refine w_n 4 (pc1 := 29) (ls1 := [some (.ref 30), some (.int y1), some (.int y2), some (.int x3), some (.int y4), o5, o6]) (st1 := [.int (F 3 0), .int y4]) (hp1 := (hz F A L)) rfl ?_
    refine w_ge (p3 := 32) rfl rfl (fun h => False.elim (by have h : (F 3 0).toInt ≤ y4.toInt := h; omega)) (fun hb => ?_)
    refine w_n 1 (pc1 := 33) (ls1 := [some (.ref 30), some (.int y1), some (.int y2), some (.int x3), some (.int y4), o5, o6]) (st1 := [.int x3]) (hp1 := (hz F A L)) rfl ?_
    refine w_zne (p3 := 36) rfl rfl (fun h => ?_) (fun h => ?_)
    · have h1 : ¬ x3 = 0 := h
      rw [if_neg h1] at hE
      refine w_n 3 (pc1 := 45) (ls1 := [some (.ref 30), some (.int y1), some (.int y2), some (.int x3), some (.int y4), o5, o6]) (st1 := [.int y4, .int y2, .ref 30]) (hp1 := (hz F A L)) rfl ?_
      refine w_c rfl rfl (t_kv_winnerOf ?_)
      show wl_E f _ _ mm102.2.2.2.2.2.2.2.2 48 [some (.ref 30), some (.int y1), some (.int y2), some (.int x3), some (.int y4), o5, o6] [.int (kv_winnerOf (F 3 0) (A 33) y2 y4)] (hz F A L) _
      generalize hG332 : (kv_winnerOf (F 3 0) (A 33) y2 y4) = G332 at hE ⊢
      refine w_n 9 (pc1 := 61) (ls1 := [some (.ref 30), some (.int y1), some (.int y2), some (.int x3), some (.int y4), some (.int G332), some (.int (y1 ||| ((1 : Int32) <<< (y4 &&& 31))))]) (st1 := [.int y1, .int (y1 ||| ((1 : Int32) <<< (y4 &&& 31)))]) (hp1 := (hz F A L)) rfl ?_
      refine w_eq (p3 := 64) rfl rfl (fun h => ?_) (fun h => ?_)
      · have h2 : (y1 ||| ((1 : Int32) <<< (y4 &&& 31))) = y1 := h
        rw [if_pos h2] at hE
        refine w_n 2 (pc1 := 20) (ls1 := [some (.ref 30), some (.int y1), some (.int y2), some (.int x3), some (.int (y4 + 1)), some (.int G332), some (.int (y1 ||| ((1 : Int32) <<< (y4 &&& 31))))]) (st1 := []) (hp1 := (hz F A L)) rfl ?_
        subst T
        have hb2 := i_up (B := (F 3 0)) hb
        have hb3 : y4.toInt < (F 3 0).toInt := hb
        exact ih (show m = ((F 3 0).toInt - (y4 + 1).toInt).toNat by rw [hb2]; omega) (fun q4 q5 q6 => cvE rfl (funext fun q => if k0 : q = 39 then by subst k0; exact Eq.trans (b := (kv_findLeastOrder_20 (F 3 0) (A 33) (A 37) x3 m y1 y2 (y4 + 1) (A 39)).2.2) rfl rfl else by unfold uA; simp only [nb1 k0, cond_false]) rfl (K q4 q5 q6))
      · have h2 : ¬ (y1 ||| ((1 : Int32) <<< (y4 &&& 31))) = y1 := h
        rw [if_neg h2] at hE
        refine w_n 7 (pc1 := 76) (ls1 := [some (.ref 30), some (.int y1), some (.int y2), some (.int x3), some (.int y4), some (.int G332), some (.int (y1 ||| ((1 : Int32) <<< (y4 &&& 31))))]) (st1 := [.int (((y1 ||| ((1 : Int32) <<< (y4 &&& 31))) * 6) + G332), .ref 37]) (hp1 := (hz F A L)) rfl ?_
        refine w_al (k := 37) (l := (A 37)) rfl rfl rfl (fun _ => ?_)
        refine w_zle (p3 := 80) rfl rfl (fun h => ?_) (fun h => ?_)
        · have h3 : ((A 37).getD (((y1 ||| ((1 : Int32) <<< (y4 &&& 31))) * 6) + G332).toInt.toNat 0).toInt ≤ 0 := h
          rw [if_neg (Int.not_lt.mpr h3)] at hE
          refine w_n 2 (pc1 := 20) (ls1 := [some (.ref 30), some (.int y1), some (.int y2), some (.int x3), some (.int (y4 + 1)), some (.int G332), some (.int (y1 ||| ((1 : Int32) <<< (y4 &&& 31))))]) (st1 := []) (hp1 := (hz F A L)) rfl ?_
          subst T
          have hb2 := i_up (B := (F 3 0)) hb
          have hb3 : y4.toInt < (F 3 0).toInt := hb
          exact ih (show m = ((F 3 0).toInt - (y4 + 1).toInt).toNat by rw [hb2]; omega) (fun q4 q5 q6 => cvE rfl (funext fun q => if k0 : q = 39 then by subst k0; exact Eq.trans (b := (kv_findLeastOrder_20 (F 3 0) (A 33) (A 37) x3 m y1 y2 (y4 + 1) (A 39)).2.2) rfl rfl else by unfold uA; simp only [nb1 k0, cond_false]) rfl (K q4 q5 q6))
        · have h3 : 0 < ((A 37).getD (((y1 ||| ((1 : Int32) <<< (y4 &&& 31))) * 6) + G332).toInt.toNat 0).toInt := h
          rw [if_pos h3] at hE
          refine w_n 4 (pc1 := 87) (ls1 := [some (.ref 30), some (.int y1), some (.int y2), some (.int x3), some (.int y4), some (.int G332), some (.int (y1 ||| ((1 : Int32) <<< (y4 &&& 31))))]) (st1 := [.int y4, .int x3, .ref 39]) (hp1 := (hz F A L)) rfl ?_
          refine w_as (k := 39) (l := (A 39)) (hp1 := (hz F (uA A 39 ((A 39).set x3.toInt.toNat y4)) L)) rfl rfl rfl (hz_s39 _) (fun _ => ?_)
          refine w_n 5 (pc1 := 103) (ls1 := [some (.ref 30), some (.int (y1 ||| ((1 : Int32) <<< (y4 &&& 31)))), some (.int G332), some (.int x3), some (.int y4), some (.int G332), some (.int (y1 ||| ((1 : Int32) <<< (y4 &&& 31))))]) (st1 := []) (hp1 := (hz F (uA A 39 ((A 39).set x3.toInt.toNat y4)) L)) rfl ?_
          subst T
          exact cvE rfl (funext fun q => if k0 : q = 39 then by subst k0; exact Eq.trans (b := ((A 39).set x3.toInt.toNat y4)) rfl rfl else by unfold uA; simp only [nb1 k0, cond_false]) rfl (K _ _ _)
    · have h1 : x3 = 0 := h
      rw [if_pos h1] at hE
      refine w_n 11 (pc1 := 61) (ls1 := [some (.ref 30), some (.int y1), some (.int y2), some (.int x3), some (.int y4), some (.int y4), some (.int (y1 ||| ((1 : Int32) <<< (y4 &&& 31))))]) (st1 := [.int y1, .int (y1 ||| ((1 : Int32) <<< (y4 &&& 31)))]) (hp1 := (hz F A L)) rfl ?_
      refine w_eq (p3 := 64) rfl rfl (fun h => ?_) (fun h => ?_)
      · have h4 : (y1 ||| ((1 : Int32) <<< (y4 &&& 31))) = y1 := h
        rw [if_pos h4] at hE
        refine w_n 2 (pc1 := 20) (ls1 := [some (.ref 30), some (.int y1), some (.int y2), some (.int x3), some (.int (y4 + 1)), some (.int y4), some (.int (y1 ||| ((1 : Int32) <<< (y4 &&& 31))))]) (st1 := []) (hp1 := (hz F A L)) rfl ?_
        subst T
        have hb2 := i_up (B := (F 3 0)) hb
        have hb3 : y4.toInt < (F 3 0).toInt := hb
        exact ih (show m = ((F 3 0).toInt - (y4 + 1).toInt).toNat by rw [hb2]; omega) (fun q4 q5 q6 => cvE rfl (funext fun q => if k0 : q = 39 then by subst k0; exact Eq.trans (b := (kv_findLeastOrder_20 (F 3 0) (A 33) (A 37) x3 m y1 y2 (y4 + 1) (A 39)).2.2) rfl rfl else by unfold uA; simp only [nb1 k0, cond_false]) rfl (K q4 q5 q6))
      · have h4 : ¬ (y1 ||| ((1 : Int32) <<< (y4 &&& 31))) = y1 := h
        rw [if_neg h4] at hE
        refine w_n 7 (pc1 := 76) (ls1 := [some (.ref 30), some (.int y1), some (.int y2), some (.int x3), some (.int y4), some (.int y4), some (.int (y1 ||| ((1 : Int32) <<< (y4 &&& 31))))]) (st1 := [.int (((y1 ||| ((1 : Int32) <<< (y4 &&& 31))) * 6) + y4), .ref 37]) (hp1 := (hz F A L)) rfl ?_
        refine w_al (k := 37) (l := (A 37)) rfl rfl rfl (fun _ => ?_)
        refine w_zle (p3 := 80) rfl rfl (fun h => ?_) (fun h => ?_)
        · have h5 : ((A 37).getD (((y1 ||| ((1 : Int32) <<< (y4 &&& 31))) * 6) + y4).toInt.toNat 0).toInt ≤ 0 := h
          rw [if_neg (Int.not_lt.mpr h5)] at hE
          refine w_n 2 (pc1 := 20) (ls1 := [some (.ref 30), some (.int y1), some (.int y2), some (.int x3), some (.int (y4 + 1)), some (.int y4), some (.int (y1 ||| ((1 : Int32) <<< (y4 &&& 31))))]) (st1 := []) (hp1 := (hz F A L)) rfl ?_
          subst T
          have hb2 := i_up (B := (F 3 0)) hb
          have hb3 : y4.toInt < (F 3 0).toInt := hb
          exact ih (show m = ((F 3 0).toInt - (y4 + 1).toInt).toNat by rw [hb2]; omega) (fun q4 q5 q6 => cvE rfl (funext fun q => if k0 : q = 39 then by subst k0; exact Eq.trans (b := (kv_findLeastOrder_20 (F 3 0) (A 33) (A 37) x3 m y1 y2 (y4 + 1) (A 39)).2.2) rfl rfl else by unfold uA; simp only [nb1 k0, cond_false]) rfl (K q4 q5 q6))
        · have h5 : 0 < ((A 37).getD (((y1 ||| ((1 : Int32) <<< (y4 &&& 31))) * 6) + y4).toInt.toNat 0).toInt := h
          rw [if_pos h5] at hE
          refine w_n 4 (pc1 := 87) (ls1 := [some (.ref 30), some (.int y1), some (.int y2), some (.int x3), some (.int y4), some (.int y4), some (.int (y1 ||| ((1 : Int32) <<< (y4 &&& 31))))]) (st1 := [.int y4, .int x3, .ref 39]) (hp1 := (hz F A L)) rfl ?_
          refine w_as (k := 39) (l := (A 39)) (hp1 := (hz F (uA A 39 ((A 39).set x3.toInt.toNat y4)) L)) rfl rfl rfl (hz_s39 _) (fun _ => ?_)
          refine w_n 5 (pc1 := 103) (ls1 := [some (.ref 30), some (.int (y1 ||| ((1 : Int32) <<< (y4 &&& 31)))), some (.int y4), some (.int x3), some (.int y4), some (.int y4), some (.int (y1 ||| ((1 : Int32) <<< (y4 &&& 31))))]) (st1 := []) (hp1 := (hz F (uA A 39 ((A 39).set x3.toInt.toNat y4)) L)) rfl ?_
          subst T
          exact cvE rfl (funext fun q => if k0 : q = 39 then by subst k0; exact Eq.trans (b := ((A 39).set x3.toInt.toNat y4)) rfl rfl else by unfold uA; simp only [nb1 k0, cond_false]) rfl (K _ _ _)
def kv_findLeastOrder_6 (f3_0 : Int32) (a33 : List Int32) (a37 : List Int32)  : Nat → Int32 → Int32 → Int32 → List Int32 → List Int32
  | 0, _, _, _, a39 => a39
  | m + 1, y1, y2, y3, a39 => (kv_findLeastOrder_6 f3_0 a33 a37 m (kv_findLeastOrder_20 f3_0 a33 a37 y3 f3_0.toInt.toNat y1 y2 0 a39).1 (kv_findLeastOrder_20 f3_0 a33 a37 y3 f3_0.toInt.toNat y1 y2 0 a39).2.1 (y3 + 1) (kv_findLeastOrder_20 f3_0 a33 a37 y3 f3_0.toInt.toNat y1 y2 0 a39).2.2)
theorem t_kv_findLeastOrder_6 {f : Nat} {Q : Option Value → sm_H → Prop} : ∀ (m : Nat) {B D : Nat} {F : Nat → Nat → Int32} {A : Nat → List Int32} {L : Nat → List Int64} {y1 : Int32} {y2 : Int32} {y3 : Int32} {o4 : Option Value} {o5 : Option Value} {o6 : Option Value}, m = ((F 3 0).toInt - y3.toInt).toNat → (∀ q1 : Int32, ∀ q2 : Int32, ∀ q3 : Int32, ∀ q4 : Option Value, ∀ q5 : Option Value, ∀ q6 : Option Value, wl_E f B D mm102.2.2.2.2.2.2.2.2 109 [some (.ref 30), some (.int q1), some (.int q2), some (.int q3), q4, q5, q6] [] (hz F (uA A 39 (kv_findLeastOrder_6 (F 3 0) (A 33) (A 37) m y1 y2 y3 (A 39))) L) Q) → wl_E f B D mm102.2.2.2.2.2.2.2.2 6 [some (.ref 30), some (.int y1), some (.int y2), some (.int y3), o4, o5, o6] [] (hz F A L) Q := by
  intro m
  induction m with
  | zero =>
    intro B D F A L y1 y2 y3 o4 o5 o6 hm K
    generalize hT : (kv_findLeastOrder_6 (F 3 0) (A 33) (A 37) 0 y1 y2 y3 (A 39)) = T at K
    have hE : T = (A 39) := hT.symm
    clear hT
    refine w_n 4 (pc1 := 14) (ls1 := [some (.ref 30), some (.int y1), some (.int y2), some (.int y3), o4, o5, o6]) (st1 := [.int (F 3 0), .int y3]) (hp1 := (hz F A L)) rfl ?_
    refine w_ge (p3 := 17) rfl rfl (fun hb => ?_) (fun h => False.elim (by have h : y3.toInt < (F 3 0).toInt := h; omega))
    subst T
    exact cvE rfl (funext fun q => if k0 : q = 39 then by subst k0; exact Eq.trans (b := (A 39)) rfl rfl else by unfold uA; simp only [nb1 k0, cond_false]) rfl (K _ _ _ _ _ _)
  | succ m ih =>
    intro B D F A L y1 y2 y3 o4 o5 o6 hm K
    generalize hT : (kv_findLeastOrder_6 (F 3 0) (A 33) (A 37) (m + 1) y1 y2 y3 (A 39)) = T at K
    have hE : T = (kv_findLeastOrder_6 (F 3 0) (A 33) (A 37) m (kv_findLeastOrder_20 (F 3 0) (A 33) (A 37) y3 (F 3 0).toInt.toNat y1 y2 0 (A 39)).1 (kv_findLeastOrder_20 (F 3 0) (A 33) (A 37) y3 (F 3 0).toInt.toNat y1 y2 0 (A 39)).2.1 (y3 + 1) (kv_findLeastOrder_20 (F 3 0) (A 33) (A 37) y3 (F 3 0).toInt.toNat y1 y2 0 (A 39)).2.2) := hT.symm
    clear hT
    refine w_n 4 (pc1 := 14) (ls1 := [some (.ref 30), some (.int y1), some (.int y2), some (.int y3), o4, o5, o6]) (st1 := [.int (F 3 0), .int y3]) (hp1 := (hz F A L)) rfl ?_
    refine w_ge (p3 := 17) rfl rfl (fun h => False.elim (by have h : (F 3 0).toInt ≤ y3.toInt := h; omega)) (fun hb => ?_)
    refine w_n 2 (pc1 := 20) (ls1 := [some (.ref 30), some (.int y1), some (.int y2), some (.int y3), some (.int 0), o5, o6]) (st1 := []) (hp1 := (hz F A L)) rfl ?_
    refine t_kv_findLeastOrder_20 (F 3 0).toInt.toNat (show (F 3 0).toInt.toNat = ((F 3 0).toInt - (0 : Int32).toInt).toNat by have e0 : (0 : Int32).toInt = 0 := rfl; first | rfl | omega) ?_
    intro r1 r2 r3
    show wl_E f _ _ mm102.2.2.2.2.2.2.2.2 103 [some (.ref 30), some (.int (kv_findLeastOrder_20 (F 3 0) (A 33) (A 37) y3 (F 3 0).toInt.toNat y1 y2 0 (A 39)).1), some (.int (kv_findLeastOrder_20 (F 3 0) (A 33) (A 37) y3 (F 3 0).toInt.toNat y1 y2 0 (A 39)).2.1), some (.int y3), some (.int r1), r2, r3] [] (hz F (uA A 39 (kv_findLeastOrder_20 (F 3 0) (A 33) (A 37) y3 (F 3 0).toInt.toNat y1 y2 0 (A 39)).2.2) L) _
    generalize hG333 : (kv_findLeastOrder_20 (F 3 0) (A 33) (A 37) y3 (F 3 0).toInt.toNat y1 y2 0 (A 39)) = G333 at hE ⊢
    refine w_n 2 (pc1 := 6) (ls1 := [some (.ref 30), some (.int G333.1), some (.int G333.2.1), some (.int (y3 + 1)), some (.int r1), r2, r3]) (st1 := []) (hp1 := (hz F (uA A 39 G333.2.2) L)) rfl ?_
    subst T
    have hb2 := i_up (B := (F 3 0)) hb
    have hb3 : y3.toInt < (F 3 0).toInt := hb
    exact ih (show m = ((F 3 0).toInt - (y3 + 1).toInt).toNat by rw [hb2]; omega) (fun q1 q2 q3 q4 q5 q6 => cvE rfl (funext fun q => if k0 : q = 39 then by subst k0; exact Eq.trans (b := (kv_findLeastOrder_6 (F 3 0) (A 33) (A 37) m G333.1 G333.2.1 (y3 + 1) G333.2.2)) rfl rfl else by unfold uA; simp only [nb1 k0, cond_false]) rfl (K q1 q2 q3 q4 q5 q6))
def kv_findLeastOrder (f3_0 : Int32) (a33 : List Int32) (a37 : List Int32) (a39 : List Int32) : List Int32 := (kv_findLeastOrder_6 f3_0 a33 a37 f3_0.toInt.toNat 0 0 0 a39)
theorem t_kv_findLeastOrder {f D : Nat} {F : Nat → Nat → Int32} {A : Nat → List Int32} {L : Nat → List Int64} {Q : Option Value → sm_H → Prop} (K : Q none (hz F (uA A 39 (kv_findLeastOrder (F 3 0) (A 33) (A 37) (A 39))) L)) : wl_M f D 102 [.ref 30] (hz F A L) Q := by
  generalize hT : (kv_findLeastOrder (F 3 0) (A 33) (A 37) (A 39)) = T at K
  have hE : T = (kv_findLeastOrder_6 (F 3 0) (A 33) (A 37) (F 3 0).toInt.toNat 0 0 0 (A 39)) := hT.symm
  clear hT
  refine w_m (E := mm102) rfl ?_
  show wl_E f f (D - 1) mm102.2.2.2.2.2.2.2.2 0 [some (.ref 30), none, none, none, none, none, none] [] (hz F A L) Q
  refine w_n 6 (pc1 := 6) (ls1 := [some (.ref 30), some (.int 0), some (.int 0), some (.int 0), none, none, none]) (st1 := []) (hp1 := (hz F A L)) rfl ?_
  refine t_kv_findLeastOrder_6 (F 3 0).toInt.toNat (show (F 3 0).toInt.toNat = ((F 3 0).toInt - (0 : Int32).toInt).toNat by have e0 : (0 : Int32).toInt = 0 := rfl; first | rfl | omega) ?_
  intro r1 r2 r3 r4 r5 r6
  show wl_E f _ _ mm102.2.2.2.2.2.2.2.2 109 [some (.ref 30), some (.int r1), some (.int r2), some (.int r3), r4, r5, r6] [] (hz F (uA A 39 (kv_findLeastOrder_6 (F 3 0) (A 33) (A 37) (F 3 0).toInt.toNat 0 0 0 (A 39))) L) _
  generalize hG334 : (kv_findLeastOrder_6 (F 3 0) (A 33) (A 37) (F 3 0).toInt.toNat 0 0 0 (A 39)) = G334 at hE ⊢
  subst T
  exact w_r rfl rfl (cvQ rfl rfl rfl K)
def kc_orders (f3_0 : Int32) (f3_1 : Int32) (a6 : List Int32) (a32 : List Int32) (a33 : List Int32) (a37 : List Int32) (a39 : List Int32) (l11 : List Int64) (x1 : Int32) (x2 : Int32) : Int32 × List Int32 × List Int32 × List Int32 × List Int32 := (if (kt_isMeasure f3_0 x1) = 0 then ((-1), a32, a33, a37, a39) else (if x2 = 10 then ((kv_countOrders f3_0 (kv_weighPairs f3_0 f3_1 a6 a32 a33 l11).2 a37 x1).1, (kv_weighPairs f3_0 f3_1 a6 a32 a33 l11).1, (kv_weighPairs f3_0 f3_1 a6 a32 a33 l11).2, (kv_countOrders f3_0 (kv_weighPairs f3_0 f3_1 a6 a32 a33 l11).2 a37 x1).2, a39) else (if (kt_isMeasure f3_0 x2) = 0 then ((-1), a32, a33, a37, a39) else (if (kv_countOrders f3_0 (kv_weighPairs f3_0 f3_1 a6 a32 a33 l11).2 a37 x1).1 = 0 then ((-2), (kv_weighPairs f3_0 f3_1 a6 a32 a33 l11).1, (kv_weighPairs f3_0 f3_1 a6 a32 a33 l11).2, (kv_countOrders f3_0 (kv_weighPairs f3_0 f3_1 a6 a32 a33 l11).2 a37 x1).2, a39) else (((kv_findLeastOrder f3_0 (kv_weighPairs f3_0 f3_1 a6 a32 a33 l11).2 (kv_countOrders f3_0 (kv_weighPairs f3_0 f3_1 a6 a32 a33 l11).2 a37 x1).2 a39).getD x2.toInt.toNat 0), (kv_weighPairs f3_0 f3_1 a6 a32 a33 l11).1, (kv_weighPairs f3_0 f3_1 a6 a32 a33 l11).2, (kv_countOrders f3_0 (kv_weighPairs f3_0 f3_1 a6 a32 a33 l11).2 a37 x1).2, (kv_findLeastOrder f3_0 (kv_weighPairs f3_0 f3_1 a6 a32 a33 l11).2 (kv_countOrders f3_0 (kv_weighPairs f3_0 f3_1 a6 a32 a33 l11).2 a37 x1).2 a39))))))
theorem t_kc_orders {f D : Nat} {F : Nat → Nat → Int32} {A : Nat → List Int32} {L : Nat → List Int64} {Q : Option Value → sm_H → Prop} {x1 : Int32} {x2 : Int32} (K : Q (some (.int ((kc_orders (F 3 0) (F 3 1) (A 6) (A 32) (A 33) (A 37) (A 39) (L 11) x1 x2).1))) (hz F (uA (uA (uA (uA A 32 ((kc_orders (F 3 0) (F 3 1) (A 6) (A 32) (A 33) (A 37) (A 39) (L 11) x1 x2).2.1)) 33 ((kc_orders (F 3 0) (F 3 1) (A 6) (A 32) (A 33) (A 37) (A 39) (L 11) x1 x2).2.2.1)) 37 ((kc_orders (F 3 0) (F 3 1) (A 6) (A 32) (A 33) (A 37) (A 39) (L 11) x1 x2).2.2.2.1)) 39 ((kc_orders (F 3 0) (F 3 1) (A 6) (A 32) (A 33) (A 37) (A 39) (L 11) x1 x2).2.2.2.2)) L)) : wl_M f D 99 [.ref 0, .int x1, .int x2] (hz F A L) Q := by
  generalize hT : (kc_orders (F 3 0) (F 3 1) (A 6) (A 32) (A 33) (A 37) (A 39) (L 11) x1 x2) = T at K
  have hE : T = (if (kt_isMeasure (F 3 0) x1) = 0 then ((-1), (A 32), (A 33), (A 37), (A 39)) else (if x2 = 10 then ((kv_countOrders (F 3 0) (kv_weighPairs (F 3 0) (F 3 1) (A 6) (A 32) (A 33) (L 11)).2 (A 37) x1).1, (kv_weighPairs (F 3 0) (F 3 1) (A 6) (A 32) (A 33) (L 11)).1, (kv_weighPairs (F 3 0) (F 3 1) (A 6) (A 32) (A 33) (L 11)).2, (kv_countOrders (F 3 0) (kv_weighPairs (F 3 0) (F 3 1) (A 6) (A 32) (A 33) (L 11)).2 (A 37) x1).2, (A 39)) else (if (kt_isMeasure (F 3 0) x2) = 0 then ((-1), (A 32), (A 33), (A 37), (A 39)) else (if (kv_countOrders (F 3 0) (kv_weighPairs (F 3 0) (F 3 1) (A 6) (A 32) (A 33) (L 11)).2 (A 37) x1).1 = 0 then ((-2), (kv_weighPairs (F 3 0) (F 3 1) (A 6) (A 32) (A 33) (L 11)).1, (kv_weighPairs (F 3 0) (F 3 1) (A 6) (A 32) (A 33) (L 11)).2, (kv_countOrders (F 3 0) (kv_weighPairs (F 3 0) (F 3 1) (A 6) (A 32) (A 33) (L 11)).2 (A 37) x1).2, (A 39)) else (((kv_findLeastOrder (F 3 0) (kv_weighPairs (F 3 0) (F 3 1) (A 6) (A 32) (A 33) (L 11)).2 (kv_countOrders (F 3 0) (kv_weighPairs (F 3 0) (F 3 1) (A 6) (A 32) (A 33) (L 11)).2 (A 37) x1).2 (A 39)).getD x2.toInt.toNat 0), (kv_weighPairs (F 3 0) (F 3 1) (A 6) (A 32) (A 33) (L 11)).1, (kv_weighPairs (F 3 0) (F 3 1) (A 6) (A 32) (A 33) (L 11)).2, (kv_countOrders (F 3 0) (kv_weighPairs (F 3 0) (F 3 1) (A 6) (A 32) (A 33) (L 11)).2 (A 37) x1).2, (kv_findLeastOrder (F 3 0) (kv_weighPairs (F 3 0) (F 3 1) (A 6) (A 32) (A 33) (L 11)).2 (kv_countOrders (F 3 0) (kv_weighPairs (F 3 0) (F 3 1) (A 6) (A 32) (A 33) (L 11)).2 (A 37) x1).2 (A 39))))))) := hT.symm
  clear hT
  refine w_m (E := mm99) rfl ?_
  show wl_E f f (D - 1) mm99.2.2.2.2.2.2.2.2 0 [some (.ref 0), some (.int x1), some (.int x2), none] [] (hz F A L) Q
  refine w_n 3 (pc1 := 5) (ls1 := [some (.ref 0), some (.int x1), some (.int x2), none]) (st1 := [.int x1, .ref 3]) (hp1 := (hz F A L)) rfl ?_
  refine w_c rfl rfl (t_kt_isMeasure ?_)
  show wl_E f _ _ mm99.2.2.2.2.2.2.2.2 8 [some (.ref 0), some (.int x1), some (.int x2), none] [.int (kt_isMeasure (F 3 0) x1)] (hz F A L) _
  generalize hG315 : (kt_isMeasure (F 3 0) x1) = G315 at hE ⊢
  refine w_zeq (p3 := 11) rfl rfl (fun h => ?_) (fun h => ?_)
  · have h1 : G315 = 0 := h
    rw [if_pos h1] at hE
    refine w_n 1 (pc1 := 29) (ls1 := [some (.ref 0), some (.int x1), some (.int x2), none]) (st1 := [.int (-1)]) (hp1 := (hz F A L)) rfl ?_
    subst T
    exact w_ri rfl (cvQ rfl (funext fun q => if k0 : q = 32 then by subst k0; exact Eq.trans (b := (A 32)) rfl rfl else if k1 : q = 33 then by subst k1; exact Eq.trans (b := (A 33)) rfl rfl else if k2 : q = 37 then by subst k2; exact Eq.trans (b := (A 37)) rfl rfl else if k3 : q = 39 then by subst k3; exact Eq.trans (b := (A 39)) rfl rfl else by unfold uA; simp only [nb1 k0, nb1 k1, nb1 k2, nb1 k3, cond_false]) rfl K)
  · have h1 : ¬ G315 = 0 := h
    rw [if_neg h1] at hE
    refine w_n 2 (pc1 := 14) (ls1 := [some (.ref 0), some (.int x1), some (.int x2), none]) (st1 := [.int 10, .int x2]) (hp1 := (hz F A L)) rfl ?_
    refine w_eq (p3 := 17) rfl rfl (fun h => ?_) (fun h => ?_)
    · have h2 : x2 = 10 := h
      rw [if_pos h2] at hE
      refine w_n 2 (pc1 := 34) (ls1 := [some (.ref 0), some (.int x1), some (.int x2), none]) (st1 := [.ref 30]) (hp1 := (hz F A L)) rfl ?_
      refine w_c rfl rfl (t_kv_weighPairs ?_)
      show wl_E f _ _ mm99.2.2.2.2.2.2.2.2 37 [some (.ref 0), some (.int x1), some (.int x2), none] [] (hz F (uA (uA A 32 (kv_weighPairs (F 3 0) (F 3 1) (A 6) (A 32) (A 33) (L 11)).1) 33 (kv_weighPairs (F 3 0) (F 3 1) (A 6) (A 32) (A 33) (L 11)).2) L) _
      generalize hG316 : (kv_weighPairs (F 3 0) (F 3 1) (A 6) (A 32) (A 33) (L 11)) = G316 at hE ⊢
      refine w_n 3 (pc1 := 42) (ls1 := [some (.ref 0), some (.int x1), some (.int x2), none]) (st1 := [.int x1, .ref 30]) (hp1 := (hz F (uA (uA A 32 G316.1) 33 G316.2) L)) rfl ?_
      refine w_c rfl rfl (t_kv_countOrders ?_)
      show wl_E f _ _ mm99.2.2.2.2.2.2.2.2 45 [some (.ref 0), some (.int x1), some (.int x2), none] [.int (kv_countOrders (F 3 0) G316.2 (A 37) x1).1] (hz F (uA (uA (uA A 32 G316.1) 33 G316.2) 37 (kv_countOrders (F 3 0) G316.2 (A 37) x1).2) L) _
      generalize hG328 : (kv_countOrders (F 3 0) G316.2 (A 37) x1) = G328 at hE ⊢
      refine w_n 3 (pc1 := 49) (ls1 := [some (.ref 0), some (.int x1), some (.int x2), some (.int G328.1)]) (st1 := [.int 10, .int x2]) (hp1 := (hz F (uA (uA (uA A 32 G316.1) 33 G316.2) 37 G328.2) L)) rfl ?_
      refine w_ne (p3 := 52) rfl rfl (fun h => absurd h2 h) (fun _ => ?_)
      refine w_n 1 (pc1 := 53) (ls1 := [some (.ref 0), some (.int x1), some (.int x2), some (.int G328.1)]) (st1 := [.int G328.1]) (hp1 := (hz F (uA (uA (uA A 32 G316.1) 33 G316.2) 37 G328.2) L)) rfl ?_
      subst T
      exact w_ri rfl (cvQ rfl (funext fun q => if k0 : q = 32 then by subst k0; exact Eq.trans (b := G316.1) rfl rfl else if k1 : q = 33 then by subst k1; exact Eq.trans (b := G316.2) rfl rfl else if k2 : q = 37 then by subst k2; exact Eq.trans (b := G328.2) rfl rfl else if k3 : q = 39 then by subst k3; exact Eq.trans (b := (A 39)) rfl rfl else by unfold uA; simp only [nb1 k0, nb1 k1, nb1 k2, nb1 k3, cond_false]) rfl K)
    · have h2 : ¬ x2 = 10 := h
      rw [if_neg h2] at hE
      refine w_n 3 (pc1 := 22) (ls1 := [some (.ref 0), some (.int x1), some (.int x2), none]) (st1 := [.int x2, .ref 3]) (hp1 := (hz F A L)) rfl ?_
      refine w_c rfl rfl (t_kt_isMeasure ?_)
      show wl_E f _ _ mm99.2.2.2.2.2.2.2.2 25 [some (.ref 0), some (.int x1), some (.int x2), none] [.int (kt_isMeasure (F 3 0) x2)] (hz F A L) _
      generalize hG329 : (kt_isMeasure (F 3 0) x2) = G329 at hE ⊢
      refine w_zne (p3 := 28) rfl rfl (fun h => ?_) (fun h => ?_)
      · have h3 : ¬ G329 = 0 := h
        rw [if_neg h3] at hE
        refine w_n 2 (pc1 := 34) (ls1 := [some (.ref 0), some (.int x1), some (.int x2), none]) (st1 := [.ref 30]) (hp1 := (hz F A L)) rfl ?_
        refine w_c rfl rfl (t_kv_weighPairs ?_)
        show wl_E f _ _ mm99.2.2.2.2.2.2.2.2 37 [some (.ref 0), some (.int x1), some (.int x2), none] [] (hz F (uA (uA A 32 (kv_weighPairs (F 3 0) (F 3 1) (A 6) (A 32) (A 33) (L 11)).1) 33 (kv_weighPairs (F 3 0) (F 3 1) (A 6) (A 32) (A 33) (L 11)).2) L) _
        generalize hG330 : (kv_weighPairs (F 3 0) (F 3 1) (A 6) (A 32) (A 33) (L 11)) = G330 at hE ⊢
        refine w_n 3 (pc1 := 42) (ls1 := [some (.ref 0), some (.int x1), some (.int x2), none]) (st1 := [.int x1, .ref 30]) (hp1 := (hz F (uA (uA A 32 G330.1) 33 G330.2) L)) rfl ?_
        refine w_c rfl rfl (t_kv_countOrders ?_)
        show wl_E f _ _ mm99.2.2.2.2.2.2.2.2 45 [some (.ref 0), some (.int x1), some (.int x2), none] [.int (kv_countOrders (F 3 0) G330.2 (A 37) x1).1] (hz F (uA (uA (uA A 32 G330.1) 33 G330.2) 37 (kv_countOrders (F 3 0) G330.2 (A 37) x1).2) L) _
        generalize hG331 : (kv_countOrders (F 3 0) G330.2 (A 37) x1) = G331 at hE ⊢
        refine w_n 3 (pc1 := 49) (ls1 := [some (.ref 0), some (.int x1), some (.int x2), some (.int G331.1)]) (st1 := [.int 10, .int x2]) (hp1 := (hz F (uA (uA (uA A 32 G330.1) 33 G330.2) 37 G331.2) L)) rfl ?_
        refine w_ne (p3 := 52) rfl rfl (fun _ => ?_) (fun h => absurd h h2)
        refine w_n 1 (pc1 := 55) (ls1 := [some (.ref 0), some (.int x1), some (.int x2), some (.int G331.1)]) (st1 := [.int G331.1]) (hp1 := (hz F (uA (uA (uA A 32 G330.1) 33 G330.2) 37 G331.2) L)) rfl ?_
        refine w_zne (p3 := 58) rfl rfl (fun h => ?_) (fun h => ?_)
        · have h4 : ¬ G331.1 = 0 := h
          rw [if_neg h4] at hE
          refine w_n 2 (pc1 := 65) (ls1 := [some (.ref 0), some (.int x1), some (.int x2), some (.int G331.1)]) (st1 := [.ref 30]) (hp1 := (hz F (uA (uA (uA A 32 G330.1) 33 G330.2) 37 G331.2) L)) rfl ?_
          refine w_c rfl rfl (t_kv_findLeastOrder ?_)
          show wl_E f _ _ mm99.2.2.2.2.2.2.2.2 68 [some (.ref 0), some (.int x1), some (.int x2), some (.int G331.1)] [] (hz F (uA (uA (uA (uA A 32 G330.1) 33 G330.2) 37 G331.2) 39 (kv_findLeastOrder (F 3 0) G330.2 G331.2 (A 39))) L) _
          generalize hG335 : (kv_findLeastOrder (F 3 0) G330.2 G331.2 (A 39)) = G335 at hE ⊢
          refine w_n 4 (pc1 := 76) (ls1 := [some (.ref 0), some (.int x1), some (.int x2), some (.int G331.1)]) (st1 := [.int x2, .ref 39]) (hp1 := (hz F (uA (uA (uA (uA A 32 G330.1) 33 G330.2) 37 G331.2) 39 G335) L)) rfl ?_
          refine w_al (k := 39) (l := G335) rfl rfl rfl (fun _ => ?_)
          subst T
          exact w_ri rfl (cvQ rfl rfl rfl K)
        · have h4 : G331.1 = 0 := h
          rw [if_pos h4] at hE
          refine w_n 1 (pc1 := 60) (ls1 := [some (.ref 0), some (.int x1), some (.int x2), some (.int G331.1)]) (st1 := [.int (-2)]) (hp1 := (hz F (uA (uA (uA A 32 G330.1) 33 G330.2) 37 G331.2) L)) rfl ?_
          subst T
          exact w_ri rfl (cvQ rfl (funext fun q => if k0 : q = 32 then by subst k0; exact Eq.trans (b := G330.1) rfl rfl else if k1 : q = 33 then by subst k1; exact Eq.trans (b := G330.2) rfl rfl else if k2 : q = 37 then by subst k2; exact Eq.trans (b := G331.2) rfl rfl else if k3 : q = 39 then by subst k3; exact Eq.trans (b := (A 39)) rfl rfl else by unfold uA; simp only [nb1 k0, nb1 k1, nb1 k2, nb1 k3, cond_false]) rfl K)
      · have h3 : G329 = 0 := h
        rw [if_pos h3] at hE
        refine w_n 1 (pc1 := 29) (ls1 := [some (.ref 0), some (.int x1), some (.int x2), none]) (st1 := [.int (-1)]) (hp1 := (hz F A L)) rfl ?_
        subst T
        exact w_ri rfl (cvQ rfl (funext fun q => if k0 : q = 32 then by subst k0; exact Eq.trans (b := (A 32)) rfl rfl else if k1 : q = 33 then by subst k1; exact Eq.trans (b := (A 33)) rfl rfl else if k2 : q = 37 then by subst k2; exact Eq.trans (b := (A 37)) rfl rfl else if k3 : q = 39 then by subst k3; exact Eq.trans (b := (A 39)) rfl rfl else by unfold uA; simp only [nb1 k0, nb1 k1, nb1 k2, nb1 k3, cond_false]) rfl K)
