/-! lifts, printed by genlift.py: 6 -/
noncomputable def kv_widenPaths_82  (x1 : Int32) (x2 : Int32) : Nat → Int32 → List Int32 → List Int32
  | 0, _, a34 => a34
  | m + 1, y3, a34 => (kv_widenPaths_82 x1 x2 m (y3 + 1) (kv_widenPaths_90 x2 y3 x1.toInt.toNat 0 a34))
theorem t_kv_widenPaths_82 {f : Nat} {Q : Option Value → sm_H → Prop} : ∀ (m : Nat) {B D : Nat} {F : Nat → Nat → Int32} {A : Nat → List Int32} {L : Nat → List Int64} {x1 : Int32} {x2 : Int32} {y3 : Int32} {o4 : Option Value}, m = (x1.toInt - y3.toInt).toNat → (∀ q3 : Int32, ∀ q4 : Option Value, wl_E f B D mm91.2.2.2.2.2.2.2.2 116 [some (.ref 30), some (.int x1), some (.int x2), some (.int q3), q4] [] (hz F (uA A 34 (kv_widenPaths_82 x1 x2 m y3 (A 34))) L) Q) → wl_E f B D mm91.2.2.2.2.2.2.2.2 82 [some (.ref 30), some (.int x1), some (.int x2), some (.int y3), o4] [] (hz F A L) Q := by
  intro m
  induction m with
  | zero =>
    intro B D F A L x1 x2 y3 o4 hm K
    generalize hT : (kv_widenPaths_82 x1 x2 0 y3 (A 34)) = T at K
    have hE : T = (A 34) := hT.symm
    clear hT
    refine w_n 2 (pc1 := 84) (ls1 := [some (.ref 30), some (.int x1), some (.int x2), some (.int y3), o4]) (st1 := [.int x1, .int y3]) (hp1 := (hz F A L)) rfl ?_
    refine w_ge (p3 := 87) rfl rfl (fun hb => ?_) (fun h => False.elim (by have h : y3.toInt < x1.toInt := h; omega))
    subst T
    exact cvE rfl (funext fun q => if k0 : q = 34 then by subst k0; exact Eq.trans (b := (A 34)) rfl rfl else by unfold uA; simp only [nb1 k0, cond_false]) rfl (K _ _)
  | succ m ih =>
    intro B D F A L x1 x2 y3 o4 hm K
    generalize hT : (kv_widenPaths_82 x1 x2 (m + 1) y3 (A 34)) = T at K
    have hE : T = (kv_widenPaths_82 x1 x2 m (y3 + 1) (kv_widenPaths_90 x2 y3 x1.toInt.toNat 0 (A 34))) := hT.symm
    clear hT
    refine w_n 2 (pc1 := 84) (ls1 := [some (.ref 30), some (.int x1), some (.int x2), some (.int y3), o4]) (st1 := [.int x1, .int y3]) (hp1 := (hz F A L)) rfl ?_
    refine w_ge (p3 := 87) rfl rfl (fun h => False.elim (by have h : x1.toInt ≤ y3.toInt := h; omega)) (fun hb => ?_)
    refine w_n 2 (pc1 := 90) (ls1 := [some (.ref 30), some (.int x1), some (.int x2), some (.int y3), some (.int 0)]) (st1 := []) (hp1 := (hz F A L)) rfl ?_
    refine t_kv_widenPaths_90 x1.toInt.toNat (show x1.toInt.toNat = (x1.toInt - (0 : Int32).toInt).toNat by have e0 : (0 : Int32).toInt = 0 := rfl; first | rfl | omega) ?_
    intro r1
    show wl_E f _ _ mm91.2.2.2.2.2.2.2.2 110 [some (.ref 30), some (.int x1), some (.int x2), some (.int y3), some (.int r1)] [] (hz F (uA A 34 (kv_widenPaths_90 x2 y3 x1.toInt.toNat 0 (A 34))) L) _
    generalize hG175 : (kv_widenPaths_90 x2 y3 x1.toInt.toNat 0 (A 34)) = G175 at hE ⊢
    refine w_n 2 (pc1 := 82) (ls1 := [some (.ref 30), some (.int x1), some (.int x2), some (.int (y3 + 1)), some (.int r1)]) (st1 := []) (hp1 := (hz F (uA A 34 G175) L)) rfl ?_
    subst T
    have hb2 := i_up (B := x1) hb
    have hb3 : y3.toInt < x1.toInt := hb
    exact ih (show m = (x1.toInt - (y3 + 1).toInt).toNat by rw [hb2]; omega) (fun q3 q4 => cvE rfl (funext fun q => if k0 : q = 34 then by subst k0; exact Eq.trans (b := (kv_widenPaths_82 x1 x2 m (y3 + 1) G175)) rfl rfl else by unfold uA; simp only [nb1 k0, cond_false]) rfl (K q3 q4))
noncomputable def kv_widenPaths_75  (x1 : Int32) : Nat → Int32 → List Int32 → List Int32
  | 0, _, a34 => a34
  | m + 1, y2, a34 => (kv_widenPaths_75 x1 m (y2 + 1) (kv_widenPaths_82 x1 y2 x1.toInt.toNat 0 a34))
theorem t_kv_widenPaths_75 {f : Nat} {Q : Option Value → sm_H → Prop} : ∀ (m : Nat) {B D : Nat} {F : Nat → Nat → Int32} {A : Nat → List Int32} {L : Nat → List Int64} {x1 : Int32} {y2 : Int32} {o3 : Option Value} {o4 : Option Value}, m = (x1.toInt - y2.toInt).toNat → (∀ q2 : Int32, ∀ q3 : Option Value, ∀ q4 : Option Value, wl_E f B D mm91.2.2.2.2.2.2.2.2 122 [some (.ref 30), some (.int x1), some (.int q2), q3, q4] [] (hz F (uA A 34 (kv_widenPaths_75 x1 m y2 (A 34))) L) Q) → wl_E f B D mm91.2.2.2.2.2.2.2.2 75 [some (.ref 30), some (.int x1), some (.int y2), o3, o4] [] (hz F A L) Q := by
  intro m
  induction m with
  | zero =>
    intro B D F A L x1 y2 o3 o4 hm K
    generalize hT : (kv_widenPaths_75 x1 0 y2 (A 34)) = T at K
    have hE : T = (A 34) := hT.symm
    clear hT
    refine w_n 2 (pc1 := 77) (ls1 := [some (.ref 30), some (.int x1), some (.int y2), o3, o4]) (st1 := [.int x1, .int y2]) (hp1 := (hz F A L)) rfl ?_
    refine w_ge (p3 := 80) rfl rfl (fun hb => ?_) (fun h => False.elim (by have h : y2.toInt < x1.toInt := h; omega))
    subst T
    exact cvE rfl (funext fun q => if k0 : q = 34 then by subst k0; exact Eq.trans (b := (A 34)) rfl rfl else by unfold uA; simp only [nb1 k0, cond_false]) rfl (K _ _ _)
  | succ m ih =>
    intro B D F A L x1 y2 o3 o4 hm K
    generalize hT : (kv_widenPaths_75 x1 (m + 1) y2 (A 34)) = T at K
    have hE : T = (kv_widenPaths_75 x1 m (y2 + 1) (kv_widenPaths_82 x1 y2 x1.toInt.toNat 0 (A 34))) := hT.symm
    clear hT
    refine w_n 2 (pc1 := 77) (ls1 := [some (.ref 30), some (.int x1), some (.int y2), o3, o4]) (st1 := [.int x1, .int y2]) (hp1 := (hz F A L)) rfl ?_
    refine w_ge (p3 := 80) rfl rfl (fun h => False.elim (by have h : x1.toInt ≤ y2.toInt := h; omega)) (fun hb => ?_)
    refine w_n 2 (pc1 := 82) (ls1 := [some (.ref 30), some (.int x1), some (.int y2), some (.int 0), o4]) (st1 := []) (hp1 := (hz F A L)) rfl ?_
    refine t_kv_widenPaths_82 x1.toInt.toNat (show x1.toInt.toNat = (x1.toInt - (0 : Int32).toInt).toNat by have e0 : (0 : Int32).toInt = 0 := rfl; first | rfl | omega) ?_
    intro r1 r2
    show wl_E f _ _ mm91.2.2.2.2.2.2.2.2 116 [some (.ref 30), some (.int x1), some (.int y2), some (.int r1), r2] [] (hz F (uA A 34 (kv_widenPaths_82 x1 y2 x1.toInt.toNat 0 (A 34))) L) _
    generalize hG176 : (kv_widenPaths_82 x1 y2 x1.toInt.toNat 0 (A 34)) = G176 at hE ⊢
    refine w_n 2 (pc1 := 75) (ls1 := [some (.ref 30), some (.int x1), some (.int (y2 + 1)), some (.int r1), r2]) (st1 := []) (hp1 := (hz F (uA A 34 G176) L)) rfl ?_
    subst T
    have hb2 := i_up (B := x1) hb
    have hb3 : y2.toInt < x1.toInt := hb
    exact ih (show m = (x1.toInt - (y2 + 1).toInt).toNat by rw [hb2]; omega) (fun q2 q3 q4 => cvE rfl (funext fun q => if k0 : q = 34 then by subst k0; exact Eq.trans (b := (kv_widenPaths_75 x1 m (y2 + 1) G176)) rfl rfl else by unfold uA; simp only [nb1 k0, cond_false]) rfl (K q2 q3 q4))
noncomputable def kv_widenPaths (f3_0 : Int32) (a32 : List Int32) (a33 : List Int32) (a34 : List Int32) : List Int32 := (kv_widenPaths_75 f3_0 f3_0.toInt.toNat 0 (kv_widenPaths_10 a32 a33 f3_0 f3_0.toInt.toNat 0 a34))
theorem t_kv_widenPaths {f D : Nat} {F : Nat → Nat → Int32} {A : Nat → List Int32} {L : Nat → List Int64} {Q : Option Value → sm_H → Prop} (K : Q none (hz F (uA A 34 (kv_widenPaths (F 3 0) (A 32) (A 33) (A 34))) L)) : wl_M f D 91 [.ref 30] (hz F A L) Q := by
  generalize hT : (kv_widenPaths (F 3 0) (A 32) (A 33) (A 34)) = T at K
  have hE : T = (kv_widenPaths_75 (F 3 0) (F 3 0).toInt.toNat 0 (kv_widenPaths_10 (A 32) (A 33) (F 3 0) (F 3 0).toInt.toNat 0 (A 34))) := hT.symm
  clear hT
  refine w_m (E := mm91) rfl ?_
  show wl_E f f (D - 1) mm91.2.2.2.2.2.2.2.2 0 [some (.ref 30), none, none, none, none] [] (hz F A L) Q
  refine w_n 6 (pc1 := 10) (ls1 := [some (.ref 30), some (.int (F 3 0)), some (.int 0), none, none]) (st1 := []) (hp1 := (hz F A L)) rfl ?_
  refine t_kv_widenPaths_10 (F 3 0).toInt.toNat (show (F 3 0).toInt.toNat = ((F 3 0).toInt - (0 : Int32).toInt).toNat by have e0 : (0 : Int32).toInt = 0 := rfl; first | rfl | omega) ?_
  intro r1 r2 r3
  show wl_E f _ _ mm91.2.2.2.2.2.2.2.2 73 [some (.ref 30), some (.int (F 3 0)), some (.int r1), r2, r3] [] (hz F (uA A 34 (kv_widenPaths_10 (A 32) (A 33) (F 3 0) (F 3 0).toInt.toNat 0 (A 34))) L) _
  generalize hG171 : (kv_widenPaths_10 (A 32) (A 33) (F 3 0) (F 3 0).toInt.toNat 0 (A 34)) = G171 at hE ⊢
  refine w_n 2 (pc1 := 75) (ls1 := [some (.ref 30), some (.int (F 3 0)), some (.int 0), r2, r3]) (st1 := []) (hp1 := (hz F (uA A 34 G171) L)) rfl ?_
  refine t_kv_widenPaths_75 (F 3 0).toInt.toNat (show (F 3 0).toInt.toNat = ((F 3 0).toInt - (0 : Int32).toInt).toNat by have e0 : (0 : Int32).toInt = 0 := rfl; first | rfl | omega) ?_
  intro r4 r5 r6
  show wl_E f _ _ mm91.2.2.2.2.2.2.2.2 122 [some (.ref 30), some (.int (F 3 0)), some (.int r4), r5, r6] [] (hz F (uA (uA A 34 G171) 34 (kv_widenPaths_75 (F 3 0) (F 3 0).toInt.toNat 0 G171)) L) _
  generalize hG177 : (kv_widenPaths_75 (F 3 0) (F 3 0).toInt.toNat 0 G171) = G177 at hE ⊢
  subst T
  exact w_r rfl rfl (cvQ rfl (funext fun q => if k0 : q = 34 then by subst k0; exact Eq.trans (b := G177) rfl rfl else by unfold uA; simp only [nb1 k0, cond_false]) rfl K)
noncomputable def kc_widest (f3_0 : Int32) (f3_1 : Int32) (a6 : List Int32) (a32 : List Int32) (a33 : List Int32) (a34 : List Int32) (l11 : List Int64) (x1 : Int32) (x2 : Int32) : Int32 × List Int32 × List Int32 × List Int32 := (if (kt_isMeasure f3_0 x1) = 0 then ((-1), a32, a33, a34) else (if (kt_isMeasure f3_0 x2) = 0 then ((-1), a32, a33, a34) else (if x1 = x2 then ((-1), a32, a33, a34) else (((kv_widenPaths f3_0 (kv_weighPairs f3_0 f3_1 a6 a32 a33 l11).1 (kv_weighPairs f3_0 f3_1 a6 a32 a33 l11).2 a34).getD ((x1 * 6) + x2).toInt.toNat 0), (kv_weighPairs f3_0 f3_1 a6 a32 a33 l11).1, (kv_weighPairs f3_0 f3_1 a6 a32 a33 l11).2, (kv_widenPaths f3_0 (kv_weighPairs f3_0 f3_1 a6 a32 a33 l11).1 (kv_weighPairs f3_0 f3_1 a6 a32 a33 l11).2 a34)))))
theorem t_kc_widest {f D : Nat} {F : Nat → Nat → Int32} {A : Nat → List Int32} {L : Nat → List Int64} {Q : Option Value → sm_H → Prop} {x1 : Int32} {x2 : Int32} (K : Q (some (.int ((kc_widest (F 3 0) (F 3 1) (A 6) (A 32) (A 33) (A 34) (L 11) x1 x2).1))) (hz F (uA (uA (uA A 32 ((kc_widest (F 3 0) (F 3 1) (A 6) (A 32) (A 33) (A 34) (L 11) x1 x2).2.1)) 33 ((kc_widest (F 3 0) (F 3 1) (A 6) (A 32) (A 33) (A 34) (L 11) x1 x2).2.2.1)) 34 ((kc_widest (F 3 0) (F 3 1) (A 6) (A 32) (A 33) (A 34) (L 11) x1 x2).2.2.2)) L)) : wl_M f D 90 [.ref 0, .int x1, .int x2] (hz F A L) Q := by
  generalize hT : (kc_widest (F 3 0) (F 3 1) (A 6) (A 32) (A 33) (A 34) (L 11) x1 x2) = T at K
  have hE : T = (if (kt_isMeasure (F 3 0) x1) = 0 then ((-1), (A 32), (A 33), (A 34)) else (if (kt_isMeasure (F 3 0) x2) = 0 then ((-1), (A 32), (A 33), (A 34)) else (if x1 = x2 then ((-1), (A 32), (A 33), (A 34)) else (((kv_widenPaths (F 3 0) (kv_weighPairs (F 3 0) (F 3 1) (A 6) (A 32) (A 33) (L 11)).1 (kv_weighPairs (F 3 0) (F 3 1) (A 6) (A 32) (A 33) (L 11)).2 (A 34)).getD ((x1 * 6) + x2).toInt.toNat 0), (kv_weighPairs (F 3 0) (F 3 1) (A 6) (A 32) (A 33) (L 11)).1, (kv_weighPairs (F 3 0) (F 3 1) (A 6) (A 32) (A 33) (L 11)).2, (kv_widenPaths (F 3 0) (kv_weighPairs (F 3 0) (F 3 1) (A 6) (A 32) (A 33) (L 11)).1 (kv_weighPairs (F 3 0) (F 3 1) (A 6) (A 32) (A 33) (L 11)).2 (A 34)))))) := hT.symm
  clear hT
  refine w_m (E := mm90) rfl ?_
  show wl_E f f (D - 1) mm90.2.2.2.2.2.2.2.2 0 [some (.ref 0), some (.int x1), some (.int x2)] [] (hz F A L) Q
  refine w_n 3 (pc1 := 5) (ls1 := [some (.ref 0), some (.int x1), some (.int x2)]) (st1 := [.int x1, .ref 3]) (hp1 := (hz F A L)) rfl ?_
  refine w_c rfl rfl (t_kt_isMeasure ?_)
  show wl_E f _ _ mm90.2.2.2.2.2.2.2.2 8 [some (.ref 0), some (.int x1), some (.int x2)] [.int (kt_isMeasure (F 3 0) x1)] (hz F A L) _
  generalize hG167 : (kt_isMeasure (F 3 0) x1) = G167 at hE ⊢
  refine w_zeq (p3 := 11) rfl rfl (fun h => ?_) (fun h => ?_)
  · have h1 : G167 = 0 := h
    rw [if_pos h1] at hE
    refine w_n 1 (pc1 := 28) (ls1 := [some (.ref 0), some (.int x1), some (.int x2)]) (st1 := [.int (-1)]) (hp1 := (hz F A L)) rfl ?_
    subst T
    exact w_ri rfl (cvQ rfl (funext fun q => if k0 : q = 32 then by subst k0; exact Eq.trans (b := (A 32)) rfl rfl else if k1 : q = 33 then by subst k1; exact Eq.trans (b := (A 33)) rfl rfl else if k2 : q = 34 then by subst k2; exact Eq.trans (b := (A 34)) rfl rfl else by unfold uA; simp only [nb1 k0, nb1 k1, nb1 k2, cond_false]) rfl K)
  · have h1 : ¬ G167 = 0 := h
    rw [if_neg h1] at hE
    refine w_n 3 (pc1 := 16) (ls1 := [some (.ref 0), some (.int x1), some (.int x2)]) (st1 := [.int x2, .ref 3]) (hp1 := (hz F A L)) rfl ?_
    refine w_c rfl rfl (t_kt_isMeasure ?_)
    show wl_E f _ _ mm90.2.2.2.2.2.2.2.2 19 [some (.ref 0), some (.int x1), some (.int x2)] [.int (kt_isMeasure (F 3 0) x2)] (hz F A L) _
    generalize hG168 : (kt_isMeasure (F 3 0) x2) = G168 at hE ⊢
    refine w_zeq (p3 := 22) rfl rfl (fun h => ?_) (fun h => ?_)
    · have h2 : G168 = 0 := h
      rw [if_pos h2] at hE
      refine w_n 1 (pc1 := 28) (ls1 := [some (.ref 0), some (.int x1), some (.int x2)]) (st1 := [.int (-1)]) (hp1 := (hz F A L)) rfl ?_
      subst T
      exact w_ri rfl (cvQ rfl (funext fun q => if k0 : q = 32 then by subst k0; exact Eq.trans (b := (A 32)) rfl rfl else if k1 : q = 33 then by subst k1; exact Eq.trans (b := (A 33)) rfl rfl else if k2 : q = 34 then by subst k2; exact Eq.trans (b := (A 34)) rfl rfl else by unfold uA; simp only [nb1 k0, nb1 k1, nb1 k2, cond_false]) rfl K)
    · have h2 : ¬ G168 = 0 := h
      rw [if_neg h2] at hE
      refine w_n 2 (pc1 := 24) (ls1 := [some (.ref 0), some (.int x1), some (.int x2)]) (st1 := [.int x2, .int x1]) (hp1 := (hz F A L)) rfl ?_
      refine w_ne (p3 := 27) rfl rfl (fun h => ?_) (fun h => ?_)
      · have h3 : ¬ x1 = x2 := h
        rw [if_neg h3] at hE
        refine w_n 2 (pc1 := 33) (ls1 := [some (.ref 0), some (.int x1), some (.int x2)]) (st1 := [.ref 30]) (hp1 := (hz F A L)) rfl ?_
        refine w_c rfl rfl (t_kv_weighPairs ?_)
        show wl_E f _ _ mm90.2.2.2.2.2.2.2.2 36 [some (.ref 0), some (.int x1), some (.int x2)] [] (hz F (uA (uA A 32 (kv_weighPairs (F 3 0) (F 3 1) (A 6) (A 32) (A 33) (L 11)).1) 33 (kv_weighPairs (F 3 0) (F 3 1) (A 6) (A 32) (A 33) (L 11)).2) L) _
        generalize hG169 : (kv_weighPairs (F 3 0) (F 3 1) (A 6) (A 32) (A 33) (L 11)) = G169 at hE ⊢
        refine w_n 2 (pc1 := 40) (ls1 := [some (.ref 0), some (.int x1), some (.int x2)]) (st1 := [.ref 30]) (hp1 := (hz F (uA (uA A 32 G169.1) 33 G169.2) L)) rfl ?_
        refine w_c rfl rfl (t_kv_widenPaths ?_)
        show wl_E f _ _ mm90.2.2.2.2.2.2.2.2 43 [some (.ref 0), some (.int x1), some (.int x2)] [] (hz F (uA (uA (uA A 32 G169.1) 33 G169.2) 34 (kv_widenPaths (F 3 0) G169.1 G169.2 (A 34))) L) _
        generalize hG178 : (kv_widenPaths (F 3 0) G169.1 G169.2 (A 34)) = G178 at hE ⊢
        refine w_n 8 (pc1 := 56) (ls1 := [some (.ref 0), some (.int x1), some (.int x2)]) (st1 := [.int ((x1 * 6) + x2), .ref 34]) (hp1 := (hz F (uA (uA (uA A 32 G169.1) 33 G169.2) 34 G178) L)) rfl ?_
        refine w_al (k := 34) (l := G178) rfl rfl rfl (fun _ => ?_)
        subst T
        exact w_ri rfl (cvQ rfl rfl rfl K)
      · have h3 : x1 = x2 := h
        rw [if_pos h3] at hE
        refine w_n 1 (pc1 := 28) (ls1 := [some (.ref 0), some (.int x1), some (.int x2)]) (st1 := [.int (-1)]) (hp1 := (hz F A L)) rfl ?_
        subst T
        exact w_ri rfl (cvQ rfl (funext fun q => if k0 : q = 32 then by subst k0; exact Eq.trans (b := (A 32)) rfl rfl else if k1 : q = 33 then by subst k1; exact Eq.trans (b := (A 33)) rfl rfl else if k2 : q = 34 then by subst k2; exact Eq.trans (b := (A 34)) rfl rfl else by unfold uA; simp only [nb1 k0, nb1 k1, nb1 k2, cond_false]) rfl K)
noncomputable def km_laysWide_12 (a68 : List Int32) (x1 : Int32) : Nat → Int32 → List Int32 → List Int32
  | 0, _, a90 => a90
  | m + 1, y2, a90 => (if x1 = y2 then (km_laysWide_12 a68 x1 m (y2 + 1) (a90.set ((6 * x1) + y2).toInt.toNat 0)) else (if (km_beats a68 x1 y2) = 0 then (km_laysWide_12 a68 x1 m (y2 + 1) (a90.set ((6 * x1) + y2).toInt.toNat 0)) else (km_laysWide_12 a68 x1 m (y2 + 1) (a90.set ((6 * x1) + y2).toInt.toNat (km_pairOf a68 x1 y2)))))
theorem t_km_laysWide_12 {f : Nat} {Q : Option Value → sm_H → Prop} : ∀ (m : Nat) {B D : Nat} {F : Nat → Nat → Int32} {A : Nat → List Int32} {L : Nat → List Int64} {x1 : Int32} {y2 : Int32} {o3 : Option Value}, m = ((F 67 3).toInt - y2.toInt).toNat → (∀ q2 : Int32, wl_E f B D mm218.2.2.2.2.2.2.2.2 61 [some (.ref 67), some (.int x1), some (.int q2), o3] [] (hz F (uA A 90 (km_laysWide_12 (A 68) x1 m y2 (A 90))) L) Q) → wl_E f B D mm218.2.2.2.2.2.2.2.2 12 [some (.ref 67), some (.int x1), some (.int y2), o3] [] (hz F A L) Q := by
  intro m
  induction m with
  | zero =>
    intro B D F A L x1 y2 o3 hm K
    generalize hT : (km_laysWide_12 (A 68) x1 0 y2 (A 90)) = T at K
    have hE : T = (A 90) := hT.symm
    clear hT
    refine w_n 3 (pc1 := 17) (ls1 := [some (.ref 67), some (.int x1), some (.int y2), o3]) (st1 := [.int (F 67 3), .int y2]) (hp1 := (hz F A L)) rfl ?_
    refine w_ge (p3 := 20) rfl rfl (fun hb => ?_) (fun h => False.elim (by have h : y2.toInt < (F 67 3).toInt := h; omega))
    subst T
    exact cvE rfl (funext fun q => if k0 : q = 90 then by subst k0; exact Eq.trans (b := (A 90)) rfl rfl else by unfold uA; simp only [nb1 k0, cond_false]) rfl (K _)
  | succ m ih =>
    intro B D F A L x1 y2 o3 hm K
    generalize hT : (km_laysWide_12 (A 68) x1 (m + 1) y2 (A 90)) = T at K
    have hE : T = (if x1 = y2 then (km_laysWide_12 (A 68) x1 m (y2 + 1) ((A 90).set ((6 * x1) + y2).toInt.toNat 0)) else (if (km_beats (A 68) x1 y2) = 0 then (km_laysWide_12 (A 68) x1 m (y2 + 1) ((A 90).set ((6 * x1) + y2).toInt.toNat 0)) else (km_laysWide_12 (A 68) x1 m (y2 + 1) ((A 90).set ((6 * x1) + y2).toInt.toNat (km_pairOf (A 68) x1 y2))))) := hT.symm
    clear hT
    refine w_n 3 (pc1 := 17) (ls1 := [some (.ref 67), some (.int x1), some (.int y2), o3]) (st1 := [.int (F 67 3), .int y2]) (hp1 := (hz F A L)) rfl ?_
    refine w_ge (p3 := 20) rfl rfl (fun h => False.elim (by have h : (F 67 3).toInt ≤ y2.toInt := h; omega)) (fun hb => ?_)
    refine w_n 9 (pc1 := 32) (ls1 := [some (.ref 67), some (.int x1), some (.int y2), o3]) (st1 := [.int y2, .int x1, .int ((6 * x1) + y2), .ref 90]) (hp1 := (hz F A L)) rfl ?_
    refine w_eq (p3 := 35) rfl rfl (fun h => ?_) (fun h => ?_)
    · have h1 : x1 = y2 := h
      rw [if_pos h1] at hE
      refine w_n 1 (pc1 := 54) (ls1 := [some (.ref 67), some (.int x1), some (.int y2), o3]) (st1 := [.int 0, .int ((6 * x1) + y2), .ref 90]) (hp1 := (hz F A L)) rfl ?_
      refine w_as (k := 90) (l := (A 90)) (hp1 := (hz F (uA A 90 ((A 90).set ((6 * x1) + y2).toInt.toNat 0)) L)) rfl rfl rfl (hz_s90 _) (fun _ => ?_)
      refine w_n 2 (pc1 := 12) (ls1 := [some (.ref 67), some (.int x1), some (.int (y2 + 1)), o3]) (st1 := []) (hp1 := (hz F (uA A 90 ((A 90).set ((6 * x1) + y2).toInt.toNat 0)) L)) rfl ?_
      subst T
      have hb2 := i_up (B := (F 67 3)) hb
      have hb3 : y2.toInt < (F 67 3).toInt := hb
      exact ih (show m = ((F 67 3).toInt - (y2 + 1).toInt).toNat by rw [hb2]; omega) (fun q2 => cvE rfl (funext fun q => if k0 : q = 90 then by subst k0; exact Eq.trans (b := (km_laysWide_12 (A 68) x1 m (y2 + 1) ((A 90).set ((6 * x1) + y2).toInt.toNat 0))) rfl rfl else by unfold uA; simp only [nb1 k0, cond_false]) rfl (K q2))
    · have h1 : ¬ x1 = y2 := h
      rw [if_neg h1] at hE
      refine w_n 3 (pc1 := 38) (ls1 := [some (.ref 67), some (.int x1), some (.int y2), o3]) (st1 := [.int y2, .int x1, .ref 67, .int ((6 * x1) + y2), .ref 90]) (hp1 := (hz F A L)) rfl ?_
      refine w_c rfl rfl (t_km_beats ?_)
      show wl_E f _ _ mm218.2.2.2.2.2.2.2.2 41 [some (.ref 67), some (.int x1), some (.int y2), o3] [.int (km_beats (A 68) x1 y2), .int ((6 * x1) + y2), .ref 90] (hz F A L) _
      generalize hG181 : (km_beats (A 68) x1 y2) = G181 at hE ⊢
      refine w_zeq (p3 := 44) rfl rfl (fun h => ?_) (fun h => ?_)
      · have h2 : G181 = 0 := h
        rw [if_pos h2] at hE
        refine w_n 1 (pc1 := 54) (ls1 := [some (.ref 67), some (.int x1), some (.int y2), o3]) (st1 := [.int 0, .int ((6 * x1) + y2), .ref 90]) (hp1 := (hz F A L)) rfl ?_
        refine w_as (k := 90) (l := (A 90)) (hp1 := (hz F (uA A 90 ((A 90).set ((6 * x1) + y2).toInt.toNat 0)) L)) rfl rfl rfl (hz_s90 _) (fun _ => ?_)
        refine w_n 2 (pc1 := 12) (ls1 := [some (.ref 67), some (.int x1), some (.int (y2 + 1)), o3]) (st1 := []) (hp1 := (hz F (uA A 90 ((A 90).set ((6 * x1) + y2).toInt.toNat 0)) L)) rfl ?_
        subst T
        have hb2 := i_up (B := (F 67 3)) hb
        have hb3 : y2.toInt < (F 67 3).toInt := hb
        exact ih (show m = ((F 67 3).toInt - (y2 + 1).toInt).toNat by rw [hb2]; omega) (fun q2 => cvE rfl (funext fun q => if k0 : q = 90 then by subst k0; exact Eq.trans (b := (km_laysWide_12 (A 68) x1 m (y2 + 1) ((A 90).set ((6 * x1) + y2).toInt.toNat 0))) rfl rfl else by unfold uA; simp only [nb1 k0, cond_false]) rfl (K q2))
      · have h2 : ¬ G181 = 0 := h
        rw [if_neg h2] at hE
        refine w_n 3 (pc1 := 47) (ls1 := [some (.ref 67), some (.int x1), some (.int y2), o3]) (st1 := [.int y2, .int x1, .ref 67, .int ((6 * x1) + y2), .ref 90]) (hp1 := (hz F A L)) rfl ?_
        refine w_c rfl rfl (t_km_pairOf ?_)
        show wl_E f _ _ mm218.2.2.2.2.2.2.2.2 50 [some (.ref 67), some (.int x1), some (.int y2), o3] [.int (km_pairOf (A 68) x1 y2), .int ((6 * x1) + y2), .ref 90] (hz F A L) _
        generalize hG182 : (km_pairOf (A 68) x1 y2) = G182 at hE ⊢
        refine w_n 1 (pc1 := 54) (ls1 := [some (.ref 67), some (.int x1), some (.int y2), o3]) (st1 := [.int G182, .int ((6 * x1) + y2), .ref 90]) (hp1 := (hz F A L)) rfl ?_
        refine w_as (k := 90) (l := (A 90)) (hp1 := (hz F (uA A 90 ((A 90).set ((6 * x1) + y2).toInt.toNat G182)) L)) rfl rfl rfl (hz_s90 _) (fun _ => ?_)
        refine w_n 2 (pc1 := 12) (ls1 := [some (.ref 67), some (.int x1), some (.int (y2 + 1)), o3]) (st1 := []) (hp1 := (hz F (uA A 90 ((A 90).set ((6 * x1) + y2).toInt.toNat G182)) L)) rfl ?_
        subst T
        have hb2 := i_up (B := (F 67 3)) hb
        have hb3 : y2.toInt < (F 67 3).toInt := hb
        exact ih (show m = ((F 67 3).toInt - (y2 + 1).toInt).toNat by rw [hb2]; omega) (fun q2 => cvE rfl (funext fun q => if k0 : q = 90 then by subst k0; exact Eq.trans (b := (km_laysWide_12 (A 68) x1 m (y2 + 1) ((A 90).set ((6 * x1) + y2).toInt.toNat G182))) rfl rfl else by unfold uA; simp only [nb1 k0, cond_false]) rfl (K q2))
noncomputable def km_laysWide_2 (f67_3 : Int32) (a68 : List Int32)  : Nat → Int32 → List Int32 → List Int32
  | 0, _, a90 => a90
  | m + 1, y1, a90 => (km_laysWide_2 f67_3 a68 m (y1 + 1) (km_laysWide_12 a68 y1 f67_3.toInt.toNat 0 a90))
theorem t_km_laysWide_2 {f : Nat} {Q : Option Value → sm_H → Prop} : ∀ (m : Nat) {B D : Nat} {F : Nat → Nat → Int32} {A : Nat → List Int32} {L : Nat → List Int64} {y1 : Int32} {o2 : Option Value} {o3 : Option Value}, m = ((F 67 3).toInt - y1.toInt).toNat → (∀ q1 : Int32, ∀ q2 : Option Value, wl_E f B D mm218.2.2.2.2.2.2.2.2 67 [some (.ref 67), some (.int q1), q2, o3] [] (hz F (uA A 90 (km_laysWide_2 (F 67 3) (A 68) m y1 (A 90))) L) Q) → wl_E f B D mm218.2.2.2.2.2.2.2.2 2 [some (.ref 67), some (.int y1), o2, o3] [] (hz F A L) Q := by
  intro m
  induction m with
  | zero =>
    intro B D F A L y1 o2 o3 hm K
    generalize hT : (km_laysWide_2 (F 67 3) (A 68) 0 y1 (A 90)) = T at K
    have hE : T = (A 90) := hT.symm
    clear hT
    refine w_n 3 (pc1 := 7) (ls1 := [some (.ref 67), some (.int y1), o2, o3]) (st1 := [.int (F 67 3), .int y1]) (hp1 := (hz F A L)) rfl ?_
    refine w_ge (p3 := 10) rfl rfl (fun hb => ?_) (fun h => False.elim (by have h : y1.toInt < (F 67 3).toInt := h; omega))
    subst T
    exact cvE rfl (funext fun q => if k0 : q = 90 then by subst k0; exact Eq.trans (b := (A 90)) rfl rfl else by unfold uA; simp only [nb1 k0, cond_false]) rfl (K _ _)
  | succ m ih =>
    intro B D F A L y1 o2 o3 hm K
    generalize hT : (km_laysWide_2 (F 67 3) (A 68) (m + 1) y1 (A 90)) = T at K
    have hE : T = (km_laysWide_2 (F 67 3) (A 68) m (y1 + 1) (km_laysWide_12 (A 68) y1 (F 67 3).toInt.toNat 0 (A 90))) := hT.symm
    clear hT
    refine w_n 3 (pc1 := 7) (ls1 := [some (.ref 67), some (.int y1), o2, o3]) (st1 := [.int (F 67 3), .int y1]) (hp1 := (hz F A L)) rfl ?_
    refine w_ge (p3 := 10) rfl rfl (fun h => False.elim (by have h : (F 67 3).toInt ≤ y1.toInt := h; omega)) (fun hb => ?_)
    refine w_n 2 (pc1 := 12) (ls1 := [some (.ref 67), some (.int y1), some (.int 0), o3]) (st1 := []) (hp1 := (hz F A L)) rfl ?_
    refine t_km_laysWide_12 (F 67 3).toInt.toNat (show (F 67 3).toInt.toNat = ((F 67 3).toInt - (0 : Int32).toInt).toNat by have e0 : (0 : Int32).toInt = 0 := rfl; first | rfl | omega) ?_
    intro r1
    show wl_E f _ _ mm218.2.2.2.2.2.2.2.2 61 [some (.ref 67), some (.int y1), some (.int r1), o3] [] (hz F (uA A 90 (km_laysWide_12 (A 68) y1 (F 67 3).toInt.toNat 0 (A 90))) L) _
    generalize hG183 : (km_laysWide_12 (A 68) y1 (F 67 3).toInt.toNat 0 (A 90)) = G183 at hE ⊢
    refine w_n 2 (pc1 := 2) (ls1 := [some (.ref 67), some (.int (y1 + 1)), some (.int r1), o3]) (st1 := []) (hp1 := (hz F (uA A 90 G183) L)) rfl ?_
    subst T
    have hb2 := i_up (B := (F 67 3)) hb
    have hb3 : y1.toInt < (F 67 3).toInt := hb
    exact ih (show m = ((F 67 3).toInt - (y1 + 1).toInt).toNat by rw [hb2]; omega) (fun q1 q2 => cvE rfl (funext fun q => if k0 : q = 90 then by subst k0; exact Eq.trans (b := (km_laysWide_2 (F 67 3) (A 68) m (y1 + 1) G183)) rfl rfl else by unfold uA; simp only [nb1 k0, cond_false]) rfl (K q1 q2))
noncomputable def km_min (x0 : Int32) (x1 : Int32) : Int32 := (if x0.toInt < x1.toInt then x0 else x1)
theorem t_km_min {f D : Nat} {F : Nat → Nat → Int32} {A : Nat → List Int32} {L : Nat → List Int64} {Q : Option Value → sm_H → Prop} {x0 : Int32} {x1 : Int32} (K : Q (some (.int (km_min x0 x1))) (hz F A L)) : wl_M f D 219 [.int x0, .int x1] (hz F A L) Q := by
  generalize hT : (km_min x0 x1) = T at K
  have hE : T = (if x0.toInt < x1.toInt then x0 else x1) := hT.symm
  clear hT
  refine w_m (E := mm219) rfl ?_
  show wl_E f f (D - 1) mm219.2.2.2.2.2.2.2.2 0 [some (.int x0), some (.int x1)] [] (hz F A L) Q
  refine w_n 2 (pc1 := 2) (ls1 := [some (.int x0), some (.int x1)]) (st1 := [.int x1, .int x0]) (hp1 := (hz F A L)) rfl ?_
  refine w_ge (p3 := 5) rfl rfl (fun h => ?_) (fun h => ?_)
  · have h1 : x1.toInt ≤ x0.toInt := h
    rw [if_neg (Int.not_lt.mpr h1)] at hE
    refine w_n 1 (pc1 := 10) (ls1 := [some (.int x0), some (.int x1)]) (st1 := [.int x1]) (hp1 := (hz F A L)) rfl ?_
    subst T
    exact w_ri rfl (cvQ rfl rfl rfl K)
  · have h1 : x0.toInt < x1.toInt := h
    rw [if_pos h1] at hE
    refine w_n 2 (pc1 := 10) (ls1 := [some (.int x0), some (.int x1)]) (st1 := [.int x0]) (hp1 := (hz F A L)) rfl ?_
    subst T
    exact w_ri rfl (cvQ rfl rfl rfl K)
noncomputable def km_max (x0 : Int32) (x1 : Int32) : Int32 := (if x1.toInt < x0.toInt then x0 else x1)
theorem t_km_max {f D : Nat} {F : Nat → Nat → Int32} {A : Nat → List Int32} {L : Nat → List Int64} {Q : Option Value → sm_H → Prop} {x0 : Int32} {x1 : Int32} (K : Q (some (.int (km_max x0 x1))) (hz F A L)) : wl_M f D 187 [.int x0, .int x1] (hz F A L) Q := by
  generalize hT : (km_max x0 x1) = T at K
  have hE : T = (if x1.toInt < x0.toInt then x0 else x1) := hT.symm
  clear hT
  refine w_m (E := mm187) rfl ?_
  show wl_E f f (D - 1) mm187.2.2.2.2.2.2.2.2 0 [some (.int x0), some (.int x1)] [] (hz F A L) Q
  refine w_n 2 (pc1 := 2) (ls1 := [some (.int x0), some (.int x1)]) (st1 := [.int x1, .int x0]) (hp1 := (hz F A L)) rfl ?_
  refine w_le (p3 := 5) rfl rfl (fun h => ?_) (fun h => ?_)
  · have h1 : x0.toInt ≤ x1.toInt := h
    rw [if_neg (Int.not_lt.mpr h1)] at hE
    refine w_n 1 (pc1 := 10) (ls1 := [some (.int x0), some (.int x1)]) (st1 := [.int x1]) (hp1 := (hz F A L)) rfl ?_
    subst T
    exact w_ri rfl (cvQ rfl rfl rfl K)
  · have h1 : x1.toInt < x0.toInt := h
    rw [if_pos h1] at hE
    refine w_n 2 (pc1 := 10) (ls1 := [some (.int x0), some (.int x1)]) (st1 := [.int x0]) (hp1 := (hz F A L)) rfl ?_
    subst T
    exact w_ri rfl (cvQ rfl rfl rfl K)
noncomputable def km_laysWide_89  (x1 : Int32) (x2 : Int32) : Nat → Int32 → List Int32 → List Int32
  | 0, _, a90 => a90
  | m + 1, y3, a90 => (km_laysWide_89 x1 x2 m (y3 + 1) (a90.set ((6 * x2) + y3).toInt.toNat (km_max (a90.getD ((6 * x2) + y3).toInt.toNat 0) (km_min (a90.getD ((6 * x2) + x1).toInt.toNat 0) (a90.getD ((6 * x1) + y3).toInt.toNat 0)))))
theorem t_km_laysWide_89 {f : Nat} {Q : Option Value → sm_H → Prop} : ∀ (m : Nat) {B D : Nat} {F : Nat → Nat → Int32} {A : Nat → List Int32} {L : Nat → List Int64} {x1 : Int32} {x2 : Int32} {y3 : Int32}, m = ((F 67 3).toInt - y3.toInt).toNat → (∀ q3 : Int32, wl_E f B D mm218.2.2.2.2.2.2.2.2 153 [some (.ref 67), some (.int x1), some (.int x2), some (.int q3)] [] (hz F (uA A 90 (km_laysWide_89 x1 x2 m y3 (A 90))) L) Q) → wl_E f B D mm218.2.2.2.2.2.2.2.2 89 [some (.ref 67), some (.int x1), some (.int x2), some (.int y3)] [] (hz F A L) Q := by
  intro m
  induction m with
  | zero =>
    intro B D F A L x1 x2 y3 hm K
    generalize hT : (km_laysWide_89 x1 x2 0 y3 (A 90)) = T at K
    have hE : T = (A 90) := hT.symm
    clear hT
    refine w_n 3 (pc1 := 94) (ls1 := [some (.ref 67), some (.int x1), some (.int x2), some (.int y3)]) (st1 := [.int (F 67 3), .int y3]) (hp1 := (hz F A L)) rfl ?_
    refine w_ge (p3 := 97) rfl rfl (fun hb => ?_) (fun h => False.elim (by have h : y3.toInt < (F 67 3).toInt := h; omega))
    subst T
    exact cvE rfl (funext fun q => if k0 : q = 90 then by subst k0; exact Eq.trans (b := (A 90)) rfl rfl else by unfold uA; simp only [nb1 k0, cond_false]) rfl (K _)
  | succ m ih =>
    intro B D F A L x1 x2 y3 hm K
    generalize hT : (km_laysWide_89 x1 x2 (m + 1) y3 (A 90)) = T at K
    have hE : T = (km_laysWide_89 x1 x2 m (y3 + 1) ((A 90).set ((6 * x2) + y3).toInt.toNat (km_max ((A 90).getD ((6 * x2) + y3).toInt.toNat 0) (km_min ((A 90).getD ((6 * x2) + x1).toInt.toNat 0) ((A 90).getD ((6 * x1) + y3).toInt.toNat 0))))) := hT.symm
    clear hT
    refine w_n 3 (pc1 := 94) (ls1 := [some (.ref 67), some (.int x1), some (.int x2), some (.int y3)]) (st1 := [.int (F 67 3), .int y3]) (hp1 := (hz F A L)) rfl ?_
    refine w_ge (p3 := 97) rfl rfl (fun h => False.elim (by have h : (F 67 3).toInt ≤ y3.toInt := h; omega)) (fun hb => ?_)
    refine w_n 14 (pc1 := 117) (ls1 := [some (.ref 67), some (.int x1), some (.int x2), some (.int y3)]) (st1 := [.int ((6 * x2) + y3), .ref 90, .int ((6 * x2) + y3), .ref 90]) (hp1 := (hz F A L)) rfl ?_
    refine w_al (k := 90) (l := (A 90)) rfl rfl rfl (fun _ => ?_)
    refine w_n 7 (pc1 := 128) (ls1 := [some (.ref 67), some (.int x1), some (.int x2), some (.int y3)]) (st1 := [.int ((6 * x2) + x1), .ref 90, .int ((A 90).getD ((6 * x2) + y3).toInt.toNat 0), .int ((6 * x2) + y3), .ref 90]) (hp1 := (hz F A L)) rfl ?_
    refine w_al (k := 90) (l := (A 90)) rfl rfl rfl (fun _ => ?_)
    refine w_n 7 (pc1 := 139) (ls1 := [some (.ref 67), some (.int x1), some (.int x2), some (.int y3)]) (st1 := [.int ((6 * x1) + y3), .ref 90, .int ((A 90).getD ((6 * x2) + x1).toInt.toNat 0), .int ((A 90).getD ((6 * x2) + y3).toInt.toNat 0), .int ((6 * x2) + y3), .ref 90]) (hp1 := (hz F A L)) rfl ?_
    refine w_al (k := 90) (l := (A 90)) rfl rfl rfl (fun _ => ?_)
    refine w_c rfl rfl (t_km_min ?_)
    show wl_E f _ _ mm218.2.2.2.2.2.2.2.2 143 [some (.ref 67), some (.int x1), some (.int x2), some (.int y3)] [.int (km_min ((A 90).getD ((6 * x2) + x1).toInt.toNat 0) ((A 90).getD ((6 * x1) + y3).toInt.toNat 0)), .int ((A 90).getD ((6 * x2) + y3).toInt.toNat 0), .int ((6 * x2) + y3), .ref 90] (hz F A L) _
    generalize hG185 : (km_min ((A 90).getD ((6 * x2) + x1).toInt.toNat 0) ((A 90).getD ((6 * x1) + y3).toInt.toNat 0)) = G185 at hE ⊢
    refine w_c rfl rfl (t_km_max ?_)
    show wl_E f _ _ mm218.2.2.2.2.2.2.2.2 146 [some (.ref 67), some (.int x1), some (.int x2), some (.int y3)] [.int (km_max ((A 90).getD ((6 * x2) + y3).toInt.toNat 0) G185), .int ((6 * x2) + y3), .ref 90] (hz F A L) _
    generalize hG186 : (km_max ((A 90).getD ((6 * x2) + y3).toInt.toNat 0) G185) = G186 at hE ⊢
    refine w_as (k := 90) (l := (A 90)) (hp1 := (hz F (uA A 90 ((A 90).set ((6 * x2) + y3).toInt.toNat G186)) L)) rfl rfl rfl (hz_s90 _) (fun _ => ?_)
    refine w_n 2 (pc1 := 89) (ls1 := [some (.ref 67), some (.int x1), some (.int x2), some (.int (y3 + 1))]) (st1 := []) (hp1 := (hz F (uA A 90 ((A 90).set ((6 * x2) + y3).toInt.toNat G186)) L)) rfl ?_
    subst T
    have hb2 := i_up (B := (F 67 3)) hb
    have hb3 : y3.toInt < (F 67 3).toInt := hb
    exact ih (show m = ((F 67 3).toInt - (y3 + 1).toInt).toNat by rw [hb2]; omega) (fun q3 => cvE rfl (funext fun q => if k0 : q = 90 then by subst k0; exact Eq.trans (b := (km_laysWide_89 x1 x2 m (y3 + 1) ((A 90).set ((6 * x2) + y3).toInt.toNat G186))) rfl rfl else by unfold uA; simp only [nb1 k0, cond_false]) rfl (K q3))
noncomputable def km_laysWide_79 (f67_3 : Int32) (x1 : Int32) : Nat → Int32 → List Int32 → List Int32
  | 0, _, a90 => a90
  | m + 1, y2, a90 => (km_laysWide_79 f67_3 x1 m (y2 + 1) (km_laysWide_89 x1 y2 f67_3.toInt.toNat 0 a90))
theorem t_km_laysWide_79 {f : Nat} {Q : Option Value → sm_H → Prop} : ∀ (m : Nat) {B D : Nat} {F : Nat → Nat → Int32} {A : Nat → List Int32} {L : Nat → List Int64} {x1 : Int32} {y2 : Int32} {o3 : Option Value}, m = ((F 67 3).toInt - y2.toInt).toNat → (∀ q2 : Int32, ∀ q3 : Option Value, wl_E f B D mm218.2.2.2.2.2.2.2.2 159 [some (.ref 67), some (.int x1), some (.int q2), q3] [] (hz F (uA A 90 (km_laysWide_79 (F 67 3) x1 m y2 (A 90))) L) Q) → wl_E f B D mm218.2.2.2.2.2.2.2.2 79 [some (.ref 67), some (.int x1), some (.int y2), o3] [] (hz F A L) Q := by
  intro m
  induction m with
  | zero =>
    intro B D F A L x1 y2 o3 hm K
    generalize hT : (km_laysWide_79 (F 67 3) x1 0 y2 (A 90)) = T at K
    have hE : T = (A 90) := hT.symm
    clear hT
    refine w_n 3 (pc1 := 84) (ls1 := [some (.ref 67), some (.int x1), some (.int y2), o3]) (st1 := [.int (F 67 3), .int y2]) (hp1 := (hz F A L)) rfl ?_
    refine w_ge (p3 := 87) rfl rfl (fun hb => ?_) (fun h => False.elim (by have h : y2.toInt < (F 67 3).toInt := h; omega))
    subst T
    exact cvE rfl (funext fun q => if k0 : q = 90 then by subst k0; exact Eq.trans (b := (A 90)) rfl rfl else by unfold uA; simp only [nb1 k0, cond_false]) rfl (K _ _)
  | succ m ih =>
    intro B D F A L x1 y2 o3 hm K
    generalize hT : (km_laysWide_79 (F 67 3) x1 (m + 1) y2 (A 90)) = T at K
    have hE : T = (km_laysWide_79 (F 67 3) x1 m (y2 + 1) (km_laysWide_89 x1 y2 (F 67 3).toInt.toNat 0 (A 90))) := hT.symm
    clear hT
    refine w_n 3 (pc1 := 84) (ls1 := [some (.ref 67), some (.int x1), some (.int y2), o3]) (st1 := [.int (F 67 3), .int y2]) (hp1 := (hz F A L)) rfl ?_
    refine w_ge (p3 := 87) rfl rfl (fun h => False.elim (by have h : (F 67 3).toInt ≤ y2.toInt := h; omega)) (fun hb => ?_)
    refine w_n 2 (pc1 := 89) (ls1 := [some (.ref 67), some (.int x1), some (.int y2), some (.int 0)]) (st1 := []) (hp1 := (hz F A L)) rfl ?_
    refine t_km_laysWide_89 (F 67 3).toInt.toNat (show (F 67 3).toInt.toNat = ((F 67 3).toInt - (0 : Int32).toInt).toNat by have e0 : (0 : Int32).toInt = 0 := rfl; first | rfl | omega) ?_
    intro r1
    show wl_E f _ _ mm218.2.2.2.2.2.2.2.2 153 [some (.ref 67), some (.int x1), some (.int y2), some (.int r1)] [] (hz F (uA A 90 (km_laysWide_89 x1 y2 (F 67 3).toInt.toNat 0 (A 90))) L) _
    generalize hG187 : (km_laysWide_89 x1 y2 (F 67 3).toInt.toNat 0 (A 90)) = G187 at hE ⊢
    refine w_n 2 (pc1 := 79) (ls1 := [some (.ref 67), some (.int x1), some (.int (y2 + 1)), some (.int r1)]) (st1 := []) (hp1 := (hz F (uA A 90 G187) L)) rfl ?_
    subst T
    have hb2 := i_up (B := (F 67 3)) hb
    have hb3 : y2.toInt < (F 67 3).toInt := hb
    exact ih (show m = ((F 67 3).toInt - (y2 + 1).toInt).toNat by rw [hb2]; omega) (fun q2 q3 => cvE rfl (funext fun q => if k0 : q = 90 then by subst k0; exact Eq.trans (b := (km_laysWide_79 (F 67 3) x1 m (y2 + 1) G187)) rfl rfl else by unfold uA; simp only [nb1 k0, cond_false]) rfl (K q2 q3))
noncomputable def km_laysWide_69 (f67_3 : Int32)  : Nat → Int32 → List Int32 → List Int32
  | 0, _, a90 => a90
  | m + 1, y1, a90 => (km_laysWide_69 f67_3 m (y1 + 1) (km_laysWide_79 f67_3 y1 f67_3.toInt.toNat 0 a90))
theorem t_km_laysWide_69 {f : Nat} {Q : Option Value → sm_H → Prop} : ∀ (m : Nat) {B D : Nat} {F : Nat → Nat → Int32} {A : Nat → List Int32} {L : Nat → List Int64} {y1 : Int32} {o2 : Option Value} {o3 : Option Value}, m = ((F 67 3).toInt - y1.toInt).toNat → (∀ q1 : Int32, ∀ q2 : Option Value, ∀ q3 : Option Value, wl_E f B D mm218.2.2.2.2.2.2.2.2 165 [some (.ref 67), some (.int q1), q2, q3] [] (hz F (uA A 90 (km_laysWide_69 (F 67 3) m y1 (A 90))) L) Q) → wl_E f B D mm218.2.2.2.2.2.2.2.2 69 [some (.ref 67), some (.int y1), o2, o3] [] (hz F A L) Q := by
  intro m
  induction m with
  | zero =>
    intro B D F A L y1 o2 o3 hm K
    generalize hT : (km_laysWide_69 (F 67 3) 0 y1 (A 90)) = T at K
    have hE : T = (A 90) := hT.symm
    clear hT
    refine w_n 3 (pc1 := 74) (ls1 := [some (.ref 67), some (.int y1), o2, o3]) (st1 := [.int (F 67 3), .int y1]) (hp1 := (hz F A L)) rfl ?_
    refine w_ge (p3 := 77) rfl rfl (fun hb => ?_) (fun h => False.elim (by have h : y1.toInt < (F 67 3).toInt := h; omega))
    subst T
    exact cvE rfl (funext fun q => if k0 : q = 90 then by subst k0; exact Eq.trans (b := (A 90)) rfl rfl else by unfold uA; simp only [nb1 k0, cond_false]) rfl (K _ _ _)
  | succ m ih =>
    intro B D F A L y1 o2 o3 hm K
    generalize hT : (km_laysWide_69 (F 67 3) (m + 1) y1 (A 90)) = T at K
    have hE : T = (km_laysWide_69 (F 67 3) m (y1 + 1) (km_laysWide_79 (F 67 3) y1 (F 67 3).toInt.toNat 0 (A 90))) := hT.symm
    clear hT
    refine w_n 3 (pc1 := 74) (ls1 := [some (.ref 67), some (.int y1), o2, o3]) (st1 := [.int (F 67 3), .int y1]) (hp1 := (hz F A L)) rfl ?_
    refine w_ge (p3 := 77) rfl rfl (fun h => False.elim (by have h : (F 67 3).toInt ≤ y1.toInt := h; omega)) (fun hb => ?_)
    refine w_n 2 (pc1 := 79) (ls1 := [some (.ref 67), some (.int y1), some (.int 0), o3]) (st1 := []) (hp1 := (hz F A L)) rfl ?_
    refine t_km_laysWide_79 (F 67 3).toInt.toNat (show (F 67 3).toInt.toNat = ((F 67 3).toInt - (0 : Int32).toInt).toNat by have e0 : (0 : Int32).toInt = 0 := rfl; first | rfl | omega) ?_
    intro r1 r2
    show wl_E f _ _ mm218.2.2.2.2.2.2.2.2 159 [some (.ref 67), some (.int y1), some (.int r1), r2] [] (hz F (uA A 90 (km_laysWide_79 (F 67 3) y1 (F 67 3).toInt.toNat 0 (A 90))) L) _
    generalize hG188 : (km_laysWide_79 (F 67 3) y1 (F 67 3).toInt.toNat 0 (A 90)) = G188 at hE ⊢
    refine w_n 2 (pc1 := 69) (ls1 := [some (.ref 67), some (.int (y1 + 1)), some (.int r1), r2]) (st1 := []) (hp1 := (hz F (uA A 90 G188) L)) rfl ?_
    subst T
    have hb2 := i_up (B := (F 67 3)) hb
    have hb3 : y1.toInt < (F 67 3).toInt := hb
    exact ih (show m = ((F 67 3).toInt - (y1 + 1).toInt).toNat by rw [hb2]; omega) (fun q1 q2 q3 => cvE rfl (funext fun q => if k0 : q = 90 then by subst k0; exact Eq.trans (b := (km_laysWide_69 (F 67 3) m (y1 + 1) G188)) rfl rfl else by unfold uA; simp only [nb1 k0, cond_false]) rfl (K q1 q2 q3))
noncomputable def km_laysWide (f67_3 : Int32) (a68 : List Int32) (a90 : List Int32) : List Int32 := (km_laysWide_69 f67_3 f67_3.toInt.toNat 0 (km_laysWide_2 f67_3 a68 f67_3.toInt.toNat 0 a90))
theorem t_km_laysWide {f D : Nat} {F : Nat → Nat → Int32} {A : Nat → List Int32} {L : Nat → List Int64} {Q : Option Value → sm_H → Prop} (K : Q none (hz F (uA A 90 (km_laysWide (F 67 3) (A 68) (A 90))) L)) : wl_M f D 218 [.ref 67] (hz F A L) Q := by
  generalize hT : (km_laysWide (F 67 3) (A 68) (A 90)) = T at K
  have hE : T = (km_laysWide_69 (F 67 3) (F 67 3).toInt.toNat 0 (km_laysWide_2 (F 67 3) (A 68) (F 67 3).toInt.toNat 0 (A 90))) := hT.symm
  clear hT
  refine w_m (E := mm218) rfl ?_
  show wl_E f f (D - 1) mm218.2.2.2.2.2.2.2.2 0 [some (.ref 67), none, none, none] [] (hz F A L) Q
  refine w_n 2 (pc1 := 2) (ls1 := [some (.ref 67), some (.int 0), none, none]) (st1 := []) (hp1 := (hz F A L)) rfl ?_
  refine t_km_laysWide_2 (F 67 3).toInt.toNat (show (F 67 3).toInt.toNat = ((F 67 3).toInt - (0 : Int32).toInt).toNat by have e0 : (0 : Int32).toInt = 0 := rfl; first | rfl | omega) ?_
  intro r1 r2
  show wl_E f _ _ mm218.2.2.2.2.2.2.2.2 67 [some (.ref 67), some (.int r1), r2, none] [] (hz F (uA A 90 (km_laysWide_2 (F 67 3) (A 68) (F 67 3).toInt.toNat 0 (A 90))) L) _
  generalize hG184 : (km_laysWide_2 (F 67 3) (A 68) (F 67 3).toInt.toNat 0 (A 90)) = G184 at hE ⊢
  refine w_n 2 (pc1 := 69) (ls1 := [some (.ref 67), some (.int 0), r2, none]) (st1 := []) (hp1 := (hz F (uA A 90 G184) L)) rfl ?_
  refine t_km_laysWide_69 (F 67 3).toInt.toNat (show (F 67 3).toInt.toNat = ((F 67 3).toInt - (0 : Int32).toInt).toNat by have e0 : (0 : Int32).toInt = 0 := rfl; first | rfl | omega) ?_
  intro r3 r4 r5
  show wl_E f _ _ mm218.2.2.2.2.2.2.2.2 165 [some (.ref 67), some (.int r3), r4, r5] [] (hz F (uA (uA A 90 G184) 90 (km_laysWide_69 (F 67 3) (F 67 3).toInt.toNat 0 G184)) L) _
  generalize hG189 : (km_laysWide_69 (F 67 3) (F 67 3).toInt.toNat 0 G184) = G189 at hE ⊢
  subst T
  exact w_r rfl rfl (cvQ rfl (funext fun q => if k0 : q = 90 then by subst k0; exact Eq.trans (b := G189) rfl rfl else by unfold uA; simp only [nb1 k0, cond_false]) rfl K)
noncomputable def km_widest (f67_3 : Int32) (a68 : List Int32) (a90 : List Int32) (x1 : Int32) (x2 : Int32) : Int32 × List Int32 := (if (km_isMeasure f67_3 x1) = 0 then ((-1), a90) else (if (km_isMeasure f67_3 x2) = 0 then ((-1), a90) else (if x1 = x2 then ((-1), a90) else (((km_laysWide f67_3 a68 a90).getD ((6 * x1) + x2).toInt.toNat 0), (km_laysWide f67_3 a68 a90)))))
theorem t_km_widest {f D : Nat} {F : Nat → Nat → Int32} {A : Nat → List Int32} {L : Nat → List Int64} {Q : Option Value → sm_H → Prop} {x1 : Int32} {x2 : Int32} (K : Q (some (.int ((km_widest (F 67 3) (A 68) (A 90) x1 x2).1))) (hz F (uA A 90 ((km_widest (F 67 3) (A 68) (A 90) x1 x2).2)) L)) : wl_M f D 217 [.ref 67, .int x1, .int x2] (hz F A L) Q := by
  generalize hT : (km_widest (F 67 3) (A 68) (A 90) x1 x2) = T at K
  have hE : T = (if (km_isMeasure (F 67 3) x1) = 0 then ((-1), (A 90)) else (if (km_isMeasure (F 67 3) x2) = 0 then ((-1), (A 90)) else (if x1 = x2 then ((-1), (A 90)) else (((km_laysWide (F 67 3) (A 68) (A 90)).getD ((6 * x1) + x2).toInt.toNat 0), (km_laysWide (F 67 3) (A 68) (A 90)))))) := hT.symm
  clear hT
  refine w_m (E := mm217) rfl ?_
  show wl_E f f (D - 1) mm217.2.2.2.2.2.2.2.2 0 [some (.ref 67), some (.int x1), some (.int x2)] [] (hz F A L) Q
  refine w_n 2 (pc1 := 2) (ls1 := [some (.ref 67), some (.int x1), some (.int x2)]) (st1 := [.int x1, .ref 67]) (hp1 := (hz F A L)) rfl ?_
  refine w_c rfl rfl (t_km_isMeasure ?_)
  show wl_E f _ _ mm217.2.2.2.2.2.2.2.2 5 [some (.ref 67), some (.int x1), some (.int x2)] [.int (km_isMeasure (F 67 3) x1)] (hz F A L) _
  generalize hG179 : (km_isMeasure (F 67 3) x1) = G179 at hE ⊢
  refine w_zeq (p3 := 8) rfl rfl (fun h => ?_) (fun h => ?_)
  · have h1 : G179 = 0 := h
    rw [if_pos h1] at hE
    refine w_n 1 (pc1 := 22) (ls1 := [some (.ref 67), some (.int x1), some (.int x2)]) (st1 := [.int (-1)]) (hp1 := (hz F A L)) rfl ?_
    subst T
    exact w_ri rfl (cvQ rfl (funext fun q => if k0 : q = 90 then by subst k0; exact Eq.trans (b := (A 90)) rfl rfl else by unfold uA; simp only [nb1 k0, cond_false]) rfl K)
  · have h1 : ¬ G179 = 0 := h
    rw [if_neg h1] at hE
    refine w_n 2 (pc1 := 10) (ls1 := [some (.ref 67), some (.int x1), some (.int x2)]) (st1 := [.int x2, .ref 67]) (hp1 := (hz F A L)) rfl ?_
    refine w_c rfl rfl (t_km_isMeasure ?_)
    show wl_E f _ _ mm217.2.2.2.2.2.2.2.2 13 [some (.ref 67), some (.int x1), some (.int x2)] [.int (km_isMeasure (F 67 3) x2)] (hz F A L) _
    generalize hG180 : (km_isMeasure (F 67 3) x2) = G180 at hE ⊢
    refine w_zeq (p3 := 16) rfl rfl (fun h => ?_) (fun h => ?_)
    · have h2 : G180 = 0 := h
      rw [if_pos h2] at hE
      refine w_n 1 (pc1 := 22) (ls1 := [some (.ref 67), some (.int x1), some (.int x2)]) (st1 := [.int (-1)]) (hp1 := (hz F A L)) rfl ?_
      subst T
      exact w_ri rfl (cvQ rfl (funext fun q => if k0 : q = 90 then by subst k0; exact Eq.trans (b := (A 90)) rfl rfl else by unfold uA; simp only [nb1 k0, cond_false]) rfl K)
    · have h2 : ¬ G180 = 0 := h
      rw [if_neg h2] at hE
      refine w_n 2 (pc1 := 18) (ls1 := [some (.ref 67), some (.int x1), some (.int x2)]) (st1 := [.int x2, .int x1]) (hp1 := (hz F A L)) rfl ?_
      refine w_ne (p3 := 21) rfl rfl (fun h => ?_) (fun h => ?_)
      · have h3 : ¬ x1 = x2 := h
        rw [if_neg h3] at hE
        refine w_n 1 (pc1 := 24) (ls1 := [some (.ref 67), some (.int x1), some (.int x2)]) (st1 := [.ref 67]) (hp1 := (hz F A L)) rfl ?_
        refine w_c rfl rfl (t_km_laysWide ?_)
        show wl_E f _ _ mm217.2.2.2.2.2.2.2.2 27 [some (.ref 67), some (.int x1), some (.int x2)] [] (hz F (uA A 90 (km_laysWide (F 67 3) (A 68) (A 90))) L) _
        generalize hG190 : (km_laysWide (F 67 3) (A 68) (A 90)) = G190 at hE ⊢
        refine w_n 7 (pc1 := 37) (ls1 := [some (.ref 67), some (.int x1), some (.int x2)]) (st1 := [.int ((6 * x1) + x2), .ref 90]) (hp1 := (hz F (uA A 90 G190) L)) rfl ?_
        refine w_al (k := 90) (l := G190) rfl rfl rfl (fun _ => ?_)
        subst T
        exact w_ri rfl (cvQ rfl rfl rfl K)
      · have h3 : x1 = x2 := h
        rw [if_pos h3] at hE
        refine w_n 1 (pc1 := 22) (ls1 := [some (.ref 67), some (.int x1), some (.int x2)]) (st1 := [.int (-1)]) (hp1 := (hz F A L)) rfl ?_
        subst T
        exact w_ri rfl (cvQ rfl (funext fun q => if k0 : q = 90 then by subst k0; exact Eq.trans (b := (A 90)) rfl rfl else by unfold uA; simp only [nb1 k0, cond_false]) rfl K)
noncomputable def kv_winsPaths_2 (a34 : List Int32) (x1 : Int32) : Nat → Int32 → Int32
  | 0, _ => 1
  | m + 1, y2 => (if (a34.getD ((x1 * 6) + y2).toInt.toNat 0).toInt < (a34.getD ((y2 * 6) + x1).toInt.toNat 0).toInt then 0 else (kv_winsPaths_2 a34 x1 m (y2 + 1)))
theorem t_kv_winsPaths_2 {f : Nat} {Q : Option Value → sm_H → Prop} : ∀ (m : Nat) {B D : Nat} {F : Nat → Nat → Int32} {A : Nat → List Int32} {L : Nat → List Int64} {x1 : Int32} {y2 : Int32}, m = ((F 3 0).toInt - y2.toInt).toNat → (Q (some (.int (kv_winsPaths_2 (A 34) x1 m y2))) (hz F A L)) → wl_E f B D mm94.2.2.2.2.2.2.2.2 2 [some (.ref 30), some (.int x1), some (.int y2)] [] (hz F A L) Q := by
  intro m
  induction m with
  | zero =>
    intro B D F A L x1 y2 hm K
    generalize hT : (kv_winsPaths_2 (A 34) x1 0 y2) = T at K
    have hE : T = 1 := hT.symm
    clear hT
    refine w_n 4 (pc1 := 10) (ls1 := [some (.ref 30), some (.int x1), some (.int y2)]) (st1 := [.int (F 3 0), .int y2]) (hp1 := (hz F A L)) rfl ?_
    refine w_ge (p3 := 13) rfl rfl (fun hb => ?_) (fun h => False.elim (by have h : y2.toInt < (F 3 0).toInt := h; omega))
    refine w_n 1 (pc1 := 47) (ls1 := [some (.ref 30), some (.int x1), some (.int y2)]) (st1 := [.int 1]) (hp1 := (hz F A L)) rfl ?_
    subst T
    exact w_ri rfl (cvQ rfl rfl rfl K)
  | succ m ih =>
    intro B D F A L x1 y2 hm K
    generalize hT : (kv_winsPaths_2 (A 34) x1 (m + 1) y2) = T at K
    have hE : T = (if ((A 34).getD ((x1 * 6) + y2).toInt.toNat 0).toInt < ((A 34).getD ((y2 * 6) + x1).toInt.toNat 0).toInt then 0 else (kv_winsPaths_2 (A 34) x1 m (y2 + 1))) := hT.symm
    clear hT
    refine w_n 4 (pc1 := 10) (ls1 := [some (.ref 30), some (.int x1), some (.int y2)]) (st1 := [.int (F 3 0), .int y2]) (hp1 := (hz F A L)) rfl ?_
    refine w_ge (p3 := 13) rfl rfl (fun h => False.elim (by have h : (F 3 0).toInt ≤ y2.toInt := h; omega)) (fun hb => ?_)
    refine w_n 7 (pc1 := 23) (ls1 := [some (.ref 30), some (.int x1), some (.int y2)]) (st1 := [.int ((x1 * 6) + y2), .ref 34]) (hp1 := (hz F A L)) rfl ?_
    refine w_al (k := 34) (l := (A 34)) rfl rfl rfl (fun _ => ?_)
    refine w_n 7 (pc1 := 34) (ls1 := [some (.ref 30), some (.int x1), some (.int y2)]) (st1 := [.int ((y2 * 6) + x1), .ref 34, .int ((A 34).getD ((x1 * 6) + y2).toInt.toNat 0)]) (hp1 := (hz F A L)) rfl ?_
    refine w_al (k := 34) (l := (A 34)) rfl rfl rfl (fun _ => ?_)
    refine w_ge (p3 := 38) rfl rfl (fun h => ?_) (fun h => ?_)
    · have h1 : ((A 34).getD ((y2 * 6) + x1).toInt.toNat 0).toInt ≤ ((A 34).getD ((x1 * 6) + y2).toInt.toNat 0).toInt := h
      rw [if_neg (Int.not_lt.mpr h1)] at hE
      refine w_n 2 (pc1 := 2) (ls1 := [some (.ref 30), some (.int x1), some (.int (y2 + 1))]) (st1 := []) (hp1 := (hz F A L)) rfl ?_
      subst T
      have hb2 := i_up (B := (F 3 0)) hb
      have hb3 : y2.toInt < (F 3 0).toInt := hb
      exact ih (show m = ((F 3 0).toInt - (y2 + 1).toInt).toNat by rw [hb2]; omega) (cvQ rfl rfl rfl K)
    · have h1 : ((A 34).getD ((x1 * 6) + y2).toInt.toNat 0).toInt < ((A 34).getD ((y2 * 6) + x1).toInt.toNat 0).toInt := h
      rw [if_pos h1] at hE
      refine w_n 1 (pc1 := 39) (ls1 := [some (.ref 30), some (.int x1), some (.int y2)]) (st1 := [.int 0]) (hp1 := (hz F A L)) rfl ?_
      subst T
      exact w_ri rfl (cvQ rfl rfl rfl K)
noncomputable def kv_winsPaths (f3_0 : Int32) (a34 : List Int32) (x1 : Int32) : Int32 := (kv_winsPaths_2 a34 x1 f3_0.toInt.toNat 0)
theorem t_kv_winsPaths {f D : Nat} {F : Nat → Nat → Int32} {A : Nat → List Int32} {L : Nat → List Int64} {Q : Option Value → sm_H → Prop} {x1 : Int32} (K : Q (some (.int (kv_winsPaths (F 3 0) (A 34) x1))) (hz F A L)) : wl_M f D 94 [.ref 30, .int x1] (hz F A L) Q := by
  generalize hT : (kv_winsPaths (F 3 0) (A 34) x1) = T at K
  have hE : T = (kv_winsPaths_2 (A 34) x1 (F 3 0).toInt.toNat 0) := hT.symm
  clear hT
  refine w_m (E := mm94) rfl ?_
  show wl_E f f (D - 1) mm94.2.2.2.2.2.2.2.2 0 [some (.ref 30), some (.int x1), none] [] (hz F A L) Q
  refine w_n 2 (pc1 := 2) (ls1 := [some (.ref 30), some (.int x1), some (.int 0)]) (st1 := []) (hp1 := (hz F A L)) rfl ?_
  subst T
  exact t_kv_winsPaths_2 _ (show (F 3 0).toInt.toNat = ((F 3 0).toInt - (0 : Int32).toInt).toNat by have e0 : (0 : Int32).toInt = 0 := rfl; first | rfl | omega) (cvQ rfl rfl rfl K)
noncomputable def kc_pathWinners_18 (f3_0 : Int32) (a34 : List Int32)  : Nat → Int32 → Int32 → Int32
  | 0, y1, _ => y1
  | m + 1, y1, y2 => (if (kv_winsPaths f3_0 a34 y2) = 0 then (kc_pathWinners_18 f3_0 a34 m y1 (y2 + 1)) else (kc_pathWinners_18 f3_0 a34 m (y1 ||| ((1 : Int32) <<< (y2 &&& 31))) (y2 + 1)))
theorem t_kc_pathWinners_18 {f : Nat} {Q : Option Value → sm_H → Prop} : ∀ (m : Nat) {B D : Nat} {F : Nat → Nat → Int32} {A : Nat → List Int32} {L : Nat → List Int64} {y1 : Int32} {y2 : Int32}, m = ((F 3 0).toInt - y2.toInt).toNat → (∀ q2 : Int32, wl_E f B D mm93.2.2.2.2.2.2.2.2 52 [some (.ref 0), some (.int (kc_pathWinners_18 (F 3 0) (A 34) m y1 y2)), some (.int q2)] [] (hz F A L) Q) → wl_E f B D mm93.2.2.2.2.2.2.2.2 18 [some (.ref 0), some (.int y1), some (.int y2)] [] (hz F A L) Q := by
  intro m
  induction m with
  | zero =>
    intro B D F A L y1 y2 hm K
    generalize hT : (kc_pathWinners_18 (F 3 0) (A 34) 0 y1 y2) = T at K
    have hE : T = y1 := hT.symm
    clear hT
    refine w_n 4 (pc1 := 26) (ls1 := [some (.ref 0), some (.int y1), some (.int y2)]) (st1 := [.int (F 3 0), .int y2]) (hp1 := (hz F A L)) rfl ?_
    refine w_ge (p3 := 29) rfl rfl (fun hb => ?_) (fun h => False.elim (by have h : y2.toInt < (F 3 0).toInt := h; omega))
    subst T
    exact cvE rfl rfl rfl (K _)
  | succ m ih =>
    intro B D F A L y1 y2 hm K
    generalize hT : (kc_pathWinners_18 (F 3 0) (A 34) (m + 1) y1 y2) = T at K
    have hE : T = (if (kv_winsPaths (F 3 0) (A 34) y2) = 0 then (kc_pathWinners_18 (F 3 0) (A 34) m y1 (y2 + 1)) else (kc_pathWinners_18 (F 3 0) (A 34) m (y1 ||| ((1 : Int32) <<< (y2 &&& 31))) (y2 + 1))) := hT.symm
    clear hT
    refine w_n 4 (pc1 := 26) (ls1 := [some (.ref 0), some (.int y1), some (.int y2)]) (st1 := [.int (F 3 0), .int y2]) (hp1 := (hz F A L)) rfl ?_
    refine w_ge (p3 := 29) rfl rfl (fun h => False.elim (by have h : (F 3 0).toInt ≤ y2.toInt := h; omega)) (fun hb => ?_)
    refine w_n 3 (pc1 := 34) (ls1 := [some (.ref 0), some (.int y1), some (.int y2)]) (st1 := [.int y2, .ref 30]) (hp1 := (hz F A L)) rfl ?_
    refine w_c rfl rfl (t_kv_winsPaths ?_)
    show wl_E f _ _ mm93.2.2.2.2.2.2.2.2 37 [some (.ref 0), some (.int y1), some (.int y2)] [.int (kv_winsPaths (F 3 0) (A 34) y2)] (hz F A L) _
    generalize hG193 : (kv_winsPaths (F 3 0) (A 34) y2) = G193 at hE ⊢
    refine w_zeq (p3 := 40) rfl rfl (fun h => ?_) (fun h => ?_)
    · have h1 : G193 = 0 := h
      rw [if_pos h1] at hE
      refine w_n 2 (pc1 := 18) (ls1 := [some (.ref 0), some (.int y1), some (.int (y2 + 1))]) (st1 := []) (hp1 := (hz F A L)) rfl ?_
      subst T
      have hb2 := i_up (B := (F 3 0)) hb
      have hb3 : y2.toInt < (F 3 0).toInt := hb
      exact ih (show m = ((F 3 0).toInt - (y2 + 1).toInt).toNat by rw [hb2]; omega) (fun q2 => cvE rfl rfl rfl (K q2))
    · have h1 : ¬ G193 = 0 := h
      rw [if_neg h1] at hE
      refine w_n 8 (pc1 := 18) (ls1 := [some (.ref 0), some (.int (y1 ||| ((1 : Int32) <<< (y2 &&& 31)))), some (.int (y2 + 1))]) (st1 := []) (hp1 := (hz F A L)) rfl ?_
      subst T
      have hb2 := i_up (B := (F 3 0)) hb
      have hb3 : y2.toInt < (F 3 0).toInt := hb
      exact ih (show m = ((F 3 0).toInt - (y2 + 1).toInt).toNat by rw [hb2]; omega) (fun q2 => cvE rfl rfl rfl (K q2))
noncomputable def kc_pathWinners (f3_0 : Int32) (f3_1 : Int32) (a6 : List Int32) (a32 : List Int32) (a33 : List Int32) (a34 : List Int32) (l11 : List Int64) : Int32 × List Int32 × List Int32 × List Int32 := ((kc_pathWinners_18 f3_0 (kv_widenPaths f3_0 (kv_weighPairs f3_0 f3_1 a6 a32 a33 l11).1 (kv_weighPairs f3_0 f3_1 a6 a32 a33 l11).2 a34) f3_0.toInt.toNat 0 0), (kv_weighPairs f3_0 f3_1 a6 a32 a33 l11).1, (kv_weighPairs f3_0 f3_1 a6 a32 a33 l11).2, (kv_widenPaths f3_0 (kv_weighPairs f3_0 f3_1 a6 a32 a33 l11).1 (kv_weighPairs f3_0 f3_1 a6 a32 a33 l11).2 a34))
theorem t_kc_pathWinners {f D : Nat} {F : Nat → Nat → Int32} {A : Nat → List Int32} {L : Nat → List Int64} {Q : Option Value → sm_H → Prop} (K : Q (some (.int ((kc_pathWinners (F 3 0) (F 3 1) (A 6) (A 32) (A 33) (A 34) (L 11)).1))) (hz F (uA (uA (uA A 32 ((kc_pathWinners (F 3 0) (F 3 1) (A 6) (A 32) (A 33) (A 34) (L 11)).2.1)) 33 ((kc_pathWinners (F 3 0) (F 3 1) (A 6) (A 32) (A 33) (A 34) (L 11)).2.2.1)) 34 ((kc_pathWinners (F 3 0) (F 3 1) (A 6) (A 32) (A 33) (A 34) (L 11)).2.2.2)) L)) : wl_M f D 93 [.ref 0] (hz F A L) Q := by
  generalize hT : (kc_pathWinners (F 3 0) (F 3 1) (A 6) (A 32) (A 33) (A 34) (L 11)) = T at K
  have hE : T = ((kc_pathWinners_18 (F 3 0) (kv_widenPaths (F 3 0) (kv_weighPairs (F 3 0) (F 3 1) (A 6) (A 32) (A 33) (L 11)).1 (kv_weighPairs (F 3 0) (F 3 1) (A 6) (A 32) (A 33) (L 11)).2 (A 34)) (F 3 0).toInt.toNat 0 0), (kv_weighPairs (F 3 0) (F 3 1) (A 6) (A 32) (A 33) (L 11)).1, (kv_weighPairs (F 3 0) (F 3 1) (A 6) (A 32) (A 33) (L 11)).2, (kv_widenPaths (F 3 0) (kv_weighPairs (F 3 0) (F 3 1) (A 6) (A 32) (A 33) (L 11)).1 (kv_weighPairs (F 3 0) (F 3 1) (A 6) (A 32) (A 33) (L 11)).2 (A 34))) := hT.symm
  clear hT
  refine w_m (E := mm93) rfl ?_
  show wl_E f f (D - 1) mm93.2.2.2.2.2.2.2.2 0 [some (.ref 0), none, none] [] (hz F A L) Q
  refine w_n 2 (pc1 := 4) (ls1 := [some (.ref 0), none, none]) (st1 := [.ref 30]) (hp1 := (hz F A L)) rfl ?_
  refine w_c rfl rfl (t_kv_weighPairs ?_)
  show wl_E f _ _ mm93.2.2.2.2.2.2.2.2 7 [some (.ref 0), none, none] [] (hz F (uA (uA A 32 (kv_weighPairs (F 3 0) (F 3 1) (A 6) (A 32) (A 33) (L 11)).1) 33 (kv_weighPairs (F 3 0) (F 3 1) (A 6) (A 32) (A 33) (L 11)).2) L) _
  generalize hG191 : (kv_weighPairs (F 3 0) (F 3 1) (A 6) (A 32) (A 33) (L 11)) = G191 at hE ⊢
  refine w_n 2 (pc1 := 11) (ls1 := [some (.ref 0), none, none]) (st1 := [.ref 30]) (hp1 := (hz F (uA (uA A 32 G191.1) 33 G191.2) L)) rfl ?_
  refine w_c rfl rfl (t_kv_widenPaths ?_)
  show wl_E f _ _ mm93.2.2.2.2.2.2.2.2 14 [some (.ref 0), none, none] [] (hz F (uA (uA (uA A 32 G191.1) 33 G191.2) 34 (kv_widenPaths (F 3 0) G191.1 G191.2 (A 34))) L) _
  generalize hG192 : (kv_widenPaths (F 3 0) G191.1 G191.2 (A 34)) = G192 at hE ⊢
  refine w_n 4 (pc1 := 18) (ls1 := [some (.ref 0), some (.int 0), some (.int 0)]) (st1 := []) (hp1 := (hz F (uA (uA (uA A 32 G191.1) 33 G191.2) 34 G192) L)) rfl ?_
  refine t_kc_pathWinners_18 (F 3 0).toInt.toNat (show (F 3 0).toInt.toNat = ((F 3 0).toInt - (0 : Int32).toInt).toNat by have e0 : (0 : Int32).toInt = 0 := rfl; first | rfl | omega) ?_
  intro r1
  show wl_E f _ _ mm93.2.2.2.2.2.2.2.2 52 [some (.ref 0), some (.int (kc_pathWinners_18 (F 3 0) G192 (F 3 0).toInt.toNat 0 0)), some (.int r1)] [] (hz F (uA (uA (uA A 32 G191.1) 33 G191.2) 34 G192) L) _
  generalize hG194 : (kc_pathWinners_18 (F 3 0) G192 (F 3 0).toInt.toNat 0 0) = G194 at hE ⊢
  refine w_n 1 (pc1 := 53) (ls1 := [some (.ref 0), some (.int G194), some (.int r1)]) (st1 := [.int G194]) (hp1 := (hz F (uA (uA (uA A 32 G191.1) 33 G191.2) 34 G192) L)) rfl ?_
  subst T
  exact w_ri rfl (cvQ rfl rfl rfl K)
noncomputable def km_pathWinners_21 (a90 : List Int32) (x2 : Int32) : Nat → Int32 → Int32 → Int32
  | 0, y3, _ => y3
  | m + 1, y3, y4 => (if y3 = 0 then (km_pathWinners_21 a90 x2 m 0 (y4 + 1)) else (if x2 = y4 then (km_pathWinners_21 a90 x2 m 1 (y4 + 1)) else (if (a90.getD ((6 * x2) + y4).toInt.toNat 0).toInt < (a90.getD ((6 * y4) + x2).toInt.toNat 0).toInt then (km_pathWinners_21 a90 x2 m 0 (y4 + 1)) else (km_pathWinners_21 a90 x2 m 1 (y4 + 1)))))
theorem t_km_pathWinners_21 {f : Nat} {Q : Option Value → sm_H → Prop} : ∀ (m : Nat) {B D : Nat} {F : Nat → Nat → Int32} {A : Nat → List Int32} {L : Nat → List Int64} {x1 : Int32} {x2 : Int32} {y3 : Int32} {y4 : Int32}, m = ((F 67 3).toInt - y4.toInt).toNat → (∀ q4 : Int32, wl_E f B D mm220.2.2.2.2.2.2.2.2 79 [some (.ref 67), some (.int x1), some (.int x2), some (.int (km_pathWinners_21 (A 90) x2 m y3 y4)), some (.int q4)] [] (hz F A L) Q) → wl_E f B D mm220.2.2.2.2.2.2.2.2 21 [some (.ref 67), some (.int x1), some (.int x2), some (.int y3), some (.int y4)] [] (hz F A L) Q := by
  intro m
  induction m with
  | zero =>
    intro B D F A L x1 x2 y3 y4 hm K
    generalize hT : (km_pathWinners_21 (A 90) x2 0 y3 y4) = T at K
    have hE : T = y3 := hT.symm
    clear hT
    refine w_n 3 (pc1 := 27) (ls1 := [some (.ref 67), some (.int x1), some (.int x2), some (.int y3), some (.int y4)]) (st1 := [.int (F 67 3), .int y4]) (hp1 := (hz F A L)) rfl ?_
    refine w_ge (p3 := 30) rfl rfl (fun hb => ?_) (fun h => False.elim (by have h : y4.toInt < (F 67 3).toInt := h; omega))
    subst T
    exact cvE rfl rfl rfl (K _)
  | succ m ih =>
    intro B D F A L x1 x2 y3 y4 hm K
    generalize hT : (km_pathWinners_21 (A 90) x2 (m + 1) y3 y4) = T at K
    have hE : T = (if y3 = 0 then (km_pathWinners_21 (A 90) x2 m 0 (y4 + 1)) else (if x2 = y4 then (km_pathWinners_21 (A 90) x2 m 1 (y4 + 1)) else (if ((A 90).getD ((6 * x2) + y4).toInt.toNat 0).toInt < ((A 90).getD ((6 * y4) + x2).toInt.toNat 0).toInt then (km_pathWinners_21 (A 90) x2 m 0 (y4 + 1)) else (km_pathWinners_21 (A 90) x2 m 1 (y4 + 1))))) := hT.symm
    clear hT
    refine w_n 3 (pc1 := 27) (ls1 := [some (.ref 67), some (.int x1), some (.int x2), some (.int y3), some (.int y4)]) (st1 := [.int (F 67 3), .int y4]) (hp1 := (hz F A L)) rfl ?_
    refine w_ge (p3 := 30) rfl rfl (fun h => False.elim (by have h : (F 67 3).toInt ≤ y4.toInt := h; omega)) (fun hb => ?_)
    refine w_n 1 (pc1 := 31) (ls1 := [some (.ref 67), some (.int x1), some (.int x2), some (.int y3), some (.int y4)]) (st1 := [.int y3]) (hp1 := (hz F A L)) rfl ?_
    refine w_zeq (p3 := 34) rfl rfl (fun h => ?_) (fun h => ?_)
    · have h1 : y3 = 0 := h
      rw [if_pos h1] at hE
      refine w_n 4 (pc1 := 21) (ls1 := [some (.ref 67), some (.int x1), some (.int x2), some (.int 0), some (.int (y4 + 1))]) (st1 := []) (hp1 := (hz F A L)) rfl ?_
      subst T
      have hb2 := i_up (B := (F 67 3)) hb
      have hb3 : y4.toInt < (F 67 3).toInt := hb
      exact ih (show m = ((F 67 3).toInt - (y4 + 1).toInt).toNat by rw [hb2]; omega) (fun q4 => cvE rfl rfl rfl (K q4))
    · have h1 : ¬ y3 = 0 := h
      rw [if_neg h1] at hE
      refine w_n 2 (pc1 := 37) (ls1 := [some (.ref 67), some (.int x1), some (.int x2), some (.int y3), some (.int y4)]) (st1 := [.int y4, .int x2]) (hp1 := (hz F A L)) rfl ?_
      refine w_eq (p3 := 40) rfl rfl (fun h => ?_) (fun h => ?_)
      · have h2 : x2 = y4 := h
        rw [if_pos h2] at hE
        refine w_n 5 (pc1 := 21) (ls1 := [some (.ref 67), some (.int x1), some (.int x2), some (.int 1), some (.int (y4 + 1))]) (st1 := []) (hp1 := (hz F A L)) rfl ?_
        subst T
        have hb2 := i_up (B := (F 67 3)) hb
        have hb3 : y4.toInt < (F 67 3).toInt := hb
        exact ih (show m = ((F 67 3).toInt - (y4 + 1).toInt).toNat by rw [hb2]; omega) (fun q4 => cvE rfl rfl rfl (K q4))
      · have h2 : ¬ x2 = y4 := h
        rw [if_neg h2] at hE
        refine w_n 7 (pc1 := 51) (ls1 := [some (.ref 67), some (.int x1), some (.int x2), some (.int y3), some (.int y4)]) (st1 := [.int ((6 * x2) + y4), .ref 90]) (hp1 := (hz F A L)) rfl ?_
        refine w_al (k := 90) (l := (A 90)) rfl rfl rfl (fun _ => ?_)
        refine w_n 7 (pc1 := 63) (ls1 := [some (.ref 67), some (.int x1), some (.int x2), some (.int y3), some (.int y4)]) (st1 := [.int ((6 * y4) + x2), .ref 90, .int ((A 90).getD ((6 * x2) + y4).toInt.toNat 0)]) (hp1 := (hz F A L)) rfl ?_
        refine w_al (k := 90) (l := (A 90)) rfl rfl rfl (fun _ => ?_)
        refine w_lt (p3 := 67) rfl rfl (fun h => ?_) (fun h => ?_)
        · have h3 : ((A 90).getD ((6 * x2) + y4).toInt.toNat 0).toInt < ((A 90).getD ((6 * y4) + x2).toInt.toNat 0).toInt := h
          rw [if_pos h3] at hE
          refine w_n 4 (pc1 := 21) (ls1 := [some (.ref 67), some (.int x1), some (.int x2), some (.int 0), some (.int (y4 + 1))]) (st1 := []) (hp1 := (hz F A L)) rfl ?_
          subst T
          have hb2 := i_up (B := (F 67 3)) hb
          have hb3 : y4.toInt < (F 67 3).toInt := hb
          exact ih (show m = ((F 67 3).toInt - (y4 + 1).toInt).toNat by rw [hb2]; omega) (fun q4 => cvE rfl rfl rfl (K q4))
        · have h3 : ((A 90).getD ((6 * y4) + x2).toInt.toNat 0).toInt ≤ ((A 90).getD ((6 * x2) + y4).toInt.toNat 0).toInt := h
          rw [if_neg (Int.not_lt.mpr h3)] at hE
          refine w_n 5 (pc1 := 21) (ls1 := [some (.ref 67), some (.int x1), some (.int x2), some (.int 1), some (.int (y4 + 1))]) (st1 := []) (hp1 := (hz F A L)) rfl ?_
          subst T
          have hb2 := i_up (B := (F 67 3)) hb
          have hb3 : y4.toInt < (F 67 3).toInt := hb
          exact ih (show m = ((F 67 3).toInt - (y4 + 1).toInt).toNat by rw [hb2]; omega) (fun q4 => cvE rfl rfl rfl (K q4))
noncomputable def km_pathWinners_8 (f67_3 : Int32) (a90 : List Int32)  : Nat → Int32 → Int32 → Int32
  | 0, y1, _ => y1
  | m + 1, y1, y2 => (if (km_pathWinners_21 a90 y2 f67_3.toInt.toNat 1 0) = 0 then (km_pathWinners_8 f67_3 a90 m (y1 ||| 0) (y2 + 1)) else (km_pathWinners_8 f67_3 a90 m (y1 ||| ((1 : Int32) <<< (y2 &&& 31))) (y2 + 1)))
theorem t_km_pathWinners_8 {f : Nat} {Q : Option Value → sm_H → Prop} : ∀ (m : Nat) {B D : Nat} {F : Nat → Nat → Int32} {A : Nat → List Int32} {L : Nat → List Int64} {y1 : Int32} {y2 : Int32} {o3 : Option Value} {o4 : Option Value}, m = ((F 67 3).toInt - y2.toInt).toNat → (∀ q2 : Int32, ∀ q3 : Option Value, ∀ q4 : Option Value, wl_E f B D mm220.2.2.2.2.2.2.2.2 99 [some (.ref 67), some (.int (km_pathWinners_8 (F 67 3) (A 90) m y1 y2)), some (.int q2), q3, q4] [] (hz F A L) Q) → wl_E f B D mm220.2.2.2.2.2.2.2.2 8 [some (.ref 67), some (.int y1), some (.int y2), o3, o4] [] (hz F A L) Q := by
  intro m
  induction m with
  | zero =>
    intro B D F A L y1 y2 o3 o4 hm K
    generalize hT : (km_pathWinners_8 (F 67 3) (A 90) 0 y1 y2) = T at K
    have hE : T = y1 := hT.symm
    clear hT
    refine w_n 3 (pc1 := 13) (ls1 := [some (.ref 67), some (.int y1), some (.int y2), o3, o4]) (st1 := [.int (F 67 3), .int y2]) (hp1 := (hz F A L)) rfl ?_
    refine w_ge (p3 := 16) rfl rfl (fun hb => ?_) (fun h => False.elim (by have h : y2.toInt < (F 67 3).toInt := h; omega))
    subst T
    exact cvE rfl rfl rfl (K _ _ _)
  | succ m ih =>
    intro B D F A L y1 y2 o3 o4 hm K
    generalize hT : (km_pathWinners_8 (F 67 3) (A 90) (m + 1) y1 y2) = T at K
    have hE : T = (if (km_pathWinners_21 (A 90) y2 (F 67 3).toInt.toNat 1 0) = 0 then (km_pathWinners_8 (F 67 3) (A 90) m (y1 ||| 0) (y2 + 1)) else (km_pathWinners_8 (F 67 3) (A 90) m (y1 ||| ((1 : Int32) <<< (y2 &&& 31))) (y2 + 1))) := hT.symm
    clear hT
    refine w_n 3 (pc1 := 13) (ls1 := [some (.ref 67), some (.int y1), some (.int y2), o3, o4]) (st1 := [.int (F 67 3), .int y2]) (hp1 := (hz F A L)) rfl ?_
    refine w_ge (p3 := 16) rfl rfl (fun h => False.elim (by have h : (F 67 3).toInt ≤ y2.toInt := h; omega)) (fun hb => ?_)
    refine w_n 4 (pc1 := 21) (ls1 := [some (.ref 67), some (.int y1), some (.int y2), some (.int 1), some (.int 0)]) (st1 := []) (hp1 := (hz F A L)) rfl ?_
    refine t_km_pathWinners_21 (F 67 3).toInt.toNat (show (F 67 3).toInt.toNat = ((F 67 3).toInt - (0 : Int32).toInt).toNat by have e0 : (0 : Int32).toInt = 0 := rfl; first | rfl | omega) ?_
    intro r1
    show wl_E f _ _ mm220.2.2.2.2.2.2.2.2 79 [some (.ref 67), some (.int y1), some (.int y2), some (.int (km_pathWinners_21 (A 90) y2 (F 67 3).toInt.toNat 1 0)), some (.int r1)] [] (hz F A L) _
    generalize hG196 : (km_pathWinners_21 (A 90) y2 (F 67 3).toInt.toNat 1 0) = G196 at hE ⊢
    refine w_n 2 (pc1 := 81) (ls1 := [some (.ref 67), some (.int y1), some (.int y2), some (.int G196), some (.int r1)]) (st1 := [.int G196, .int y1]) (hp1 := (hz F A L)) rfl ?_
    refine w_zeq (p3 := 84) rfl rfl (fun h => ?_) (fun h => ?_)
    · have h1 : G196 = 0 := h
      rw [if_pos h1] at hE
      refine w_n 5 (pc1 := 8) (ls1 := [some (.ref 67), some (.int (y1 ||| 0)), some (.int (y2 + 1)), some (.int G196), some (.int r1)]) (st1 := []) (hp1 := (hz F A L)) rfl ?_
      subst T
      have hb2 := i_up (B := (F 67 3)) hb
      have hb3 : y2.toInt < (F 67 3).toInt := hb
      exact ih (show m = ((F 67 3).toInt - (y2 + 1).toInt).toNat by rw [hb2]; omega) (fun q2 q3 q4 => cvE rfl rfl rfl (K q2 q3 q4))
    · have h1 : ¬ G196 = 0 := h
      rw [if_neg h1] at hE
      refine w_n 8 (pc1 := 8) (ls1 := [some (.ref 67), some (.int (y1 ||| ((1 : Int32) <<< (y2 &&& 31)))), some (.int (y2 + 1)), some (.int G196), some (.int r1)]) (st1 := []) (hp1 := (hz F A L)) rfl ?_
      subst T
      have hb2 := i_up (B := (F 67 3)) hb
      have hb3 : y2.toInt < (F 67 3).toInt := hb
      exact ih (show m = ((F 67 3).toInt - (y2 + 1).toInt).toNat by rw [hb2]; omega) (fun q2 q3 q4 => cvE rfl rfl rfl (K q2 q3 q4))
noncomputable def km_pathWinners (f67_3 : Int32) (a68 : List Int32) (a90 : List Int32) : Int32 × List Int32 := ((km_pathWinners_8 f67_3 (km_laysWide f67_3 a68 a90) f67_3.toInt.toNat 0 0), (km_laysWide f67_3 a68 a90))
theorem t_km_pathWinners {f D : Nat} {F : Nat → Nat → Int32} {A : Nat → List Int32} {L : Nat → List Int64} {Q : Option Value → sm_H → Prop} (K : Q (some (.int ((km_pathWinners (F 67 3) (A 68) (A 90)).1))) (hz F (uA A 90 ((km_pathWinners (F 67 3) (A 68) (A 90)).2)) L)) : wl_M f D 220 [.ref 67] (hz F A L) Q := by
  generalize hT : (km_pathWinners (F 67 3) (A 68) (A 90)) = T at K
  have hE : T = ((km_pathWinners_8 (F 67 3) (km_laysWide (F 67 3) (A 68) (A 90)) (F 67 3).toInt.toNat 0 0), (km_laysWide (F 67 3) (A 68) (A 90))) := hT.symm
  clear hT
  refine w_m (E := mm220) rfl ?_
  show wl_E f f (D - 1) mm220.2.2.2.2.2.2.2.2 0 [some (.ref 67), none, none, none, none] [] (hz F A L) Q
  refine w_n 1 (pc1 := 1) (ls1 := [some (.ref 67), none, none, none, none]) (st1 := [.ref 67]) (hp1 := (hz F A L)) rfl ?_
  refine w_c rfl rfl (t_km_laysWide ?_)
  show wl_E f _ _ mm220.2.2.2.2.2.2.2.2 4 [some (.ref 67), none, none, none, none] [] (hz F (uA A 90 (km_laysWide (F 67 3) (A 68) (A 90))) L) _
  generalize hG195 : (km_laysWide (F 67 3) (A 68) (A 90)) = G195 at hE ⊢
  refine w_n 4 (pc1 := 8) (ls1 := [some (.ref 67), some (.int 0), some (.int 0), none, none]) (st1 := []) (hp1 := (hz F (uA A 90 G195) L)) rfl ?_
  refine t_km_pathWinners_8 (F 67 3).toInt.toNat (show (F 67 3).toInt.toNat = ((F 67 3).toInt - (0 : Int32).toInt).toNat by have e0 : (0 : Int32).toInt = 0 := rfl; first | rfl | omega) ?_
  intro r1 r2 r3
  show wl_E f _ _ mm220.2.2.2.2.2.2.2.2 99 [some (.ref 67), some (.int (km_pathWinners_8 (F 67 3) G195 (F 67 3).toInt.toNat 0 0)), some (.int r1), r2, r3] [] (hz F (uA A 90 G195) L) _
  generalize hG197 : (km_pathWinners_8 (F 67 3) G195 (F 67 3).toInt.toNat 0 0) = G197 at hE ⊢
  refine w_n 1 (pc1 := 100) (ls1 := [some (.ref 67), some (.int G197), some (.int r1), r2, r3]) (st1 := [.int G197]) (hp1 := (hz F (uA A 90 G195) L)) rfl ?_
  subst T
  exact w_ri rfl (cvQ rfl rfl rfl K)
noncomputable def km_copies_68_69_2 (a68 : List Int32)  : Nat → Int32 → List Int32 → List Int32
  | 0, _, a69 => a69
  | m + 1, y2, a69 => (km_copies_68_69_2 a68 m (y2 + 1) (a69.set y2.toInt.toNat (a68.getD y2.toInt.toNat 0)))
theorem t_km_copies_68_69_2 {f : Nat} {Q : Option Value → sm_H → Prop} : ∀ (m : Nat) {B D : Nat} {F : Nat → Nat → Int32} {A : Nat → List Int32} {L : Nat → List Int64} {y2 : Int32}, m = (150 - y2.toInt).toNat → (∀ q2 : Int32, wl_E f B D mm199.2.2.2.2.2.2.2.2 21 [some (.ref 68), some (.ref 69), some (.int q2)] [] (hz F (uA A 69 (km_copies_68_69_2 (A 68) m y2 (A 69))) L) Q) → wl_E f B D mm199.2.2.2.2.2.2.2.2 2 [some (.ref 68), some (.ref 69), some (.int y2)] [] (hz F A L) Q := by
  intro m
  induction m with
  | zero =>
    intro B D F A L y2 hm K
    generalize hT : (km_copies_68_69_2 (A 68) 0 y2 (A 69)) = T at K
    have hE : T = (A 69) := hT.symm
    clear hT
    refine w_n 2 (pc1 := 6) (ls1 := [some (.ref 68), some (.ref 69), some (.int y2)]) (st1 := [.int 150, .int y2]) (hp1 := (hz F A L)) rfl ?_
    refine w_ge (p3 := 9) rfl rfl (fun hb => ?_) (fun h => False.elim (by have h : y2.toInt < 150 := h; omega))
    subst T
    exact cvE rfl (funext fun q => if k0 : q = 69 then by subst k0; exact Eq.trans (b := (A 69)) rfl rfl else by unfold uA; simp only [nb1 k0, cond_false]) rfl (K _)
  | succ m ih =>
    intro B D F A L y2 hm K
    generalize hT : (km_copies_68_69_2 (A 68) (m + 1) y2 (A 69)) = T at K
    have hE : T = (km_copies_68_69_2 (A 68) m (y2 + 1) ((A 69).set y2.toInt.toNat ((A 68).getD y2.toInt.toNat 0))) := hT.symm
    clear hT
    refine w_n 2 (pc1 := 6) (ls1 := [some (.ref 68), some (.ref 69), some (.int y2)]) (st1 := [.int 150, .int y2]) (hp1 := (hz F A L)) rfl ?_
    refine w_ge (p3 := 9) rfl rfl (fun h => False.elim (by have h : 150 ≤ y2.toInt := h; omega)) (fun hb => ?_)
    refine w_n 4 (pc1 := 13) (ls1 := [some (.ref 68), some (.ref 69), some (.int y2)]) (st1 := [.int y2, .ref 68, .int y2, .ref 69]) (hp1 := (hz F A L)) rfl ?_
    refine w_al (k := 68) (l := (A 68)) rfl rfl rfl (fun ab => ?_)
    refine w_as (k := 69) (l := (A 69)) (hp1 := (hz F (uA A 69 ((A 69).set y2.toInt.toNat ((A 68).getD y2.toInt.toNat 0))) L)) rfl rfl rfl (hz_s69 _) (fun ab => ?_)
    refine w_n 2 (pc1 := 2) (ls1 := [some (.ref 68), some (.ref 69), some (.int (y2 + 1))]) (st1 := []) (hp1 := (hz F (uA A 69 ((A 69).set y2.toInt.toNat ((A 68).getD y2.toInt.toNat 0))) L)) rfl ?_
    subst T
    have hb2 := i_up (B := (150 : Int32)) hb
    have hb3 : y2.toInt < 150 := hb
    exact ih (show m = (150 - (y2 + 1).toInt).toNat by rw [hb2]; omega) (fun q2 => cvE rfl (funext fun q => if k0 : q = 69 then by subst k0; exact Eq.trans (b := (km_copies_68_69_2 (A 68) m (y2 + 1) ((A 69).set y2.toInt.toNat ((A 68).getD y2.toInt.toNat 0)))) rfl rfl else by unfold uA; simp only [nb1 k0, cond_false]) rfl (K q2))
noncomputable def km_copies_68_69 (a68 : List Int32) (a69 : List Int32) : List Int32 := (km_copies_68_69_2 a68 150 0 a69)
theorem t_km_copies_68_69 {f D : Nat} {F : Nat → Nat → Int32} {A : Nat → List Int32} {L : Nat → List Int64} {Q : Option Value → sm_H → Prop} (K : Q none (hz F (uA A 69 (km_copies_68_69 (A 68) (A 69))) L)) : wl_M f D 199 [.ref 68, .ref 69] (hz F A L) Q := by
  generalize hT : (km_copies_68_69 (A 68) (A 69)) = T at K
  have hE : T = (km_copies_68_69_2 (A 68) 150 0 (A 69)) := hT.symm
  clear hT
  refine w_m (E := mm199) rfl ?_
  show wl_E f f (D - 1) mm199.2.2.2.2.2.2.2.2 0 [some (.ref 68), some (.ref 69), none] [] (hz F A L) Q
  refine w_n 2 (pc1 := 2) (ls1 := [some (.ref 68), some (.ref 69), some (.int 0)]) (st1 := []) (hp1 := (hz F A L)) rfl ?_
  refine t_km_copies_68_69_2 150 (show (150 : Nat) = (150 - (0 : Int32).toInt).toNat by have e0 : (0 : Int32).toInt = 0 := rfl; first | rfl | omega) ?_
  intro r1
  show wl_E f _ _ mm199.2.2.2.2.2.2.2.2 21 [some (.ref 68), some (.ref 69), some (.int r1)] [] (hz F (uA A 69 (km_copies_68_69_2 (A 68) 150 0 (A 69))) L) _
  generalize hG200 : (km_copies_68_69_2 (A 68) 150 0 (A 69)) = G200 at hE ⊢
  subst T
  exact w_r rfl rfl (cvQ rfl rfl rfl K)
noncomputable def km_feelsOne_2   : Nat → Int32 → List Int32 → List Int32
  | 0, _, a84 => a84
  | m + 1, y2, a84 => (km_feelsOne_2 m (y2 + 1) (a84.set y2.toInt.toNat 0))
theorem t_km_feelsOne_2 {f : Nat} {Q : Option Value → sm_H → Prop} : ∀ (m : Nat) {B D : Nat} {F : Nat → Nat → Int32} {A : Nat → List Int32} {L : Nat → List Int64} {x1 : Int32} {y2 : Int32}, m = (8 - y2.toInt).toNat → (∀ q2 : Int32, wl_E f B D mm179.2.2.2.2.2.2.2.2 21 [some (.ref 67), some (.int x1), some (.int q2)] [] (hz F (uA A 84 (km_feelsOne_2 m y2 (A 84))) L) Q) → wl_E f B D mm179.2.2.2.2.2.2.2.2 2 [some (.ref 67), some (.int x1), some (.int y2)] [] (hz F A L) Q := by
  intro m
  induction m with
  | zero =>
    intro B D F A L x1 y2 hm K
    generalize hT : (km_feelsOne_2 0 y2 (A 84)) = T at K
    have hE : T = (A 84) := hT.symm
    clear hT
    refine w_n 2 (pc1 := 5) (ls1 := [some (.ref 67), some (.int x1), some (.int y2)]) (st1 := [.int 8, .int y2]) (hp1 := (hz F A L)) rfl ?_
    refine w_ge (p3 := 8) rfl rfl (fun hb => ?_) (fun h => False.elim (by have h : y2.toInt < 8 := h; omega))
    subst T
    exact cvE rfl (funext fun q => if k0 : q = 84 then by subst k0; exact Eq.trans (b := (A 84)) rfl rfl else by unfold uA; simp only [nb1 k0, cond_false]) rfl (K _)
  | succ m ih =>
    intro B D F A L x1 y2 hm K
    generalize hT : (km_feelsOne_2 (m + 1) y2 (A 84)) = T at K
    have hE : T = (km_feelsOne_2 m (y2 + 1) ((A 84).set y2.toInt.toNat 0)) := hT.symm
    clear hT
    refine w_n 2 (pc1 := 5) (ls1 := [some (.ref 67), some (.int x1), some (.int y2)]) (st1 := [.int 8, .int y2]) (hp1 := (hz F A L)) rfl ?_
    refine w_ge (p3 := 8) rfl rfl (fun h => False.elim (by have h : 8 ≤ y2.toInt := h; omega)) (fun hb => ?_)
    refine w_n 4 (pc1 := 14) (ls1 := [some (.ref 67), some (.int x1), some (.int y2)]) (st1 := [.int 0, .int y2, .ref 84]) (hp1 := (hz F A L)) rfl ?_
    refine w_as (k := 84) (l := (A 84)) (hp1 := (hz F (uA A 84 ((A 84).set y2.toInt.toNat 0)) L)) rfl rfl rfl (hz_s84 _) (fun ab => ?_)
    refine w_n 2 (pc1 := 2) (ls1 := [some (.ref 67), some (.int x1), some (.int (y2 + 1))]) (st1 := []) (hp1 := (hz F (uA A 84 ((A 84).set y2.toInt.toNat 0)) L)) rfl ?_
    subst T
    have hb2 := i_up (B := (8 : Int32)) hb
    have hb3 : y2.toInt < 8 := hb
    exact ih (show m = (8 - (y2 + 1).toInt).toNat by rw [hb2]; omega) (fun q2 => cvE rfl (funext fun q => if k0 : q = 84 then by subst k0; exact Eq.trans (b := (km_feelsOne_2 m (y2 + 1) ((A 84).set y2.toInt.toNat 0))) rfl rfl else by unfold uA; simp only [nb1 k0, cond_false]) rfl (K q2))
noncomputable def km_feelsOne (a68 : List Int32) (a84 : List Int32) (x1 : Int32) : List Int32 := ((((((km_feelsOne_2 8 0 a84).set 0 x1).set 4 (a68.getD (12 + x1).toInt.toNat 0)).set 5 (a68.getD (36 + x1).toInt.toNat 0)).set 6 (a68.getD (60 + x1).toInt.toNat 0)).set 7 (a68.getD 147 0))
theorem t_km_feelsOne {f D : Nat} {F : Nat → Nat → Int32} {A : Nat → List Int32} {L : Nat → List Int64} {Q : Option Value → sm_H → Prop} {x1 : Int32} (K : Q none (hz F (uA A 84 (km_feelsOne (A 68) (A 84) x1)) L)) : wl_M f D 179 [.ref 67, .int x1] (hz F A L) Q := by
  generalize hT : (km_feelsOne (A 68) (A 84) x1) = T at K
  have hE : T = ((((((km_feelsOne_2 8 0 (A 84)).set 0 x1).set 4 ((A 68).getD (12 + x1).toInt.toNat 0)).set 5 ((A 68).getD (36 + x1).toInt.toNat 0)).set 6 ((A 68).getD (60 + x1).toInt.toNat 0)).set 7 ((A 68).getD 147 0)) := hT.symm
  clear hT
  refine w_m (E := mm179) rfl ?_
  show wl_E f f (D - 1) mm179.2.2.2.2.2.2.2.2 0 [some (.ref 67), some (.int x1), none] [] (hz F A L) Q
  refine w_n 2 (pc1 := 2) (ls1 := [some (.ref 67), some (.int x1), some (.int 0)]) (st1 := []) (hp1 := (hz F A L)) rfl ?_
  refine t_km_feelsOne_2 8 (show (8 : Nat) = (8 - (0 : Int32).toInt).toNat by have e0 : (0 : Int32).toInt = 0 := rfl; first | rfl | omega) ?_
  intro r1
  show wl_E f _ _ mm179.2.2.2.2.2.2.2.2 21 [some (.ref 67), some (.int x1), some (.int r1)] [] (hz F (uA A 84 (km_feelsOne_2 8 0 (A 84))) L) _
  generalize hG202 : (km_feelsOne_2 8 0 (A 84)) = G202 at hE ⊢
  refine w_n 4 (pc1 := 27) (ls1 := [some (.ref 67), some (.int x1), some (.int r1)]) (st1 := [.int x1, .int 0, .ref 84]) (hp1 := (hz F (uA A 84 G202) L)) rfl ?_
  refine w_as (k := 84) (l := G202) (hp1 := (hz F (uA (uA A 84 G202) 84 (G202.set 0 x1)) L)) rfl rfl rfl (hz_s84 _) (fun _ => ?_)
  refine w_n 8 (pc1 := 41) (ls1 := [some (.ref 67), some (.int x1), some (.int r1)]) (st1 := [.int (12 + x1), .ref 68, .int 4, .ref 84]) (hp1 := (hz F (uA (uA A 84 G202) 84 (G202.set 0 x1)) L)) rfl ?_
  refine w_al (k := 68) (l := (A 68)) rfl rfl rfl (fun _ => ?_)
  refine w_as (k := 84) (l := (G202.set 0 x1)) (hp1 := (hz F (uA (uA (uA A 84 G202) 84 (G202.set 0 x1)) 84 ((G202.set 0 x1).set 4 ((A 68).getD (12 + x1).toInt.toNat 0))) L)) rfl rfl rfl (hz_s84 _) (fun _ => ?_)
  refine w_n 8 (pc1 := 56) (ls1 := [some (.ref 67), some (.int x1), some (.int r1)]) (st1 := [.int (36 + x1), .ref 68, .int 5, .ref 84]) (hp1 := (hz F (uA (uA (uA A 84 G202) 84 (G202.set 0 x1)) 84 ((G202.set 0 x1).set 4 ((A 68).getD (12 + x1).toInt.toNat 0))) L)) rfl ?_
  refine w_al (k := 68) (l := (A 68)) rfl rfl rfl (fun _ => ?_)
  refine w_as (k := 84) (l := ((G202.set 0 x1).set 4 ((A 68).getD (12 + x1).toInt.toNat 0))) (hp1 := (hz F (uA (uA (uA (uA A 84 G202) 84 (G202.set 0 x1)) 84 ((G202.set 0 x1).set 4 ((A 68).getD (12 + x1).toInt.toNat 0))) 84 (((G202.set 0 x1).set 4 ((A 68).getD (12 + x1).toInt.toNat 0)).set 5 ((A 68).getD (36 + x1).toInt.toNat 0))) L)) rfl rfl rfl (hz_s84 _) (fun _ => ?_)
  refine w_n 8 (pc1 := 72) (ls1 := [some (.ref 67), some (.int x1), some (.int r1)]) (st1 := [.int (60 + x1), .ref 68, .int 6, .ref 84]) (hp1 := (hz F (uA (uA (uA (uA A 84 G202) 84 (G202.set 0 x1)) 84 ((G202.set 0 x1).set 4 ((A 68).getD (12 + x1).toInt.toNat 0))) 84 (((G202.set 0 x1).set 4 ((A 68).getD (12 + x1).toInt.toNat 0)).set 5 ((A 68).getD (36 + x1).toInt.toNat 0))) L)) rfl ?_
  refine w_al (k := 68) (l := (A 68)) rfl rfl rfl (fun _ => ?_)
  refine w_as (k := 84) (l := (((G202.set 0 x1).set 4 ((A 68).getD (12 + x1).toInt.toNat 0)).set 5 ((A 68).getD (36 + x1).toInt.toNat 0))) (hp1 := (hz F (uA (uA (uA (uA (uA A 84 G202) 84 (G202.set 0 x1)) 84 ((G202.set 0 x1).set 4 ((A 68).getD (12 + x1).toInt.toNat 0))) 84 (((G202.set 0 x1).set 4 ((A 68).getD (12 + x1).toInt.toNat 0)).set 5 ((A 68).getD (36 + x1).toInt.toNat 0))) 84 ((((G202.set 0 x1).set 4 ((A 68).getD (12 + x1).toInt.toNat 0)).set 5 ((A 68).getD (36 + x1).toInt.toNat 0)).set 6 ((A 68).getD (60 + x1).toInt.toNat 0))) L)) rfl rfl rfl (hz_s84 _) (fun _ => ?_)
  refine w_n 6 (pc1 := 87) (ls1 := [some (.ref 67), some (.int x1), some (.int r1)]) (st1 := [.int 147, .ref 68, .int 7, .ref 84]) (hp1 := (hz F (uA (uA (uA (uA (uA A 84 G202) 84 (G202.set 0 x1)) 84 ((G202.set 0 x1).set 4 ((A 68).getD (12 + x1).toInt.toNat 0))) 84 (((G202.set 0 x1).set 4 ((A 68).getD (12 + x1).toInt.toNat 0)).set 5 ((A 68).getD (36 + x1).toInt.toNat 0))) 84 ((((G202.set 0 x1).set 4 ((A 68).getD (12 + x1).toInt.toNat 0)).set 5 ((A 68).getD (36 + x1).toInt.toNat 0)).set 6 ((A 68).getD (60 + x1).toInt.toNat 0))) L)) rfl ?_
  refine w_al (k := 68) (l := (A 68)) rfl rfl rfl (fun _ => ?_)
  refine w_as (k := 84) (l := ((((G202.set 0 x1).set 4 ((A 68).getD (12 + x1).toInt.toNat 0)).set 5 ((A 68).getD (36 + x1).toInt.toNat 0)).set 6 ((A 68).getD (60 + x1).toInt.toNat 0))) (hp1 := (hz F (uA (uA (uA (uA (uA (uA A 84 G202) 84 (G202.set 0 x1)) 84 ((G202.set 0 x1).set 4 ((A 68).getD (12 + x1).toInt.toNat 0))) 84 (((G202.set 0 x1).set 4 ((A 68).getD (12 + x1).toInt.toNat 0)).set 5 ((A 68).getD (36 + x1).toInt.toNat 0))) 84 ((((G202.set 0 x1).set 4 ((A 68).getD (12 + x1).toInt.toNat 0)).set 5 ((A 68).getD (36 + x1).toInt.toNat 0)).set 6 ((A 68).getD (60 + x1).toInt.toNat 0))) 84 (((((G202.set 0 x1).set 4 ((A 68).getD (12 + x1).toInt.toNat 0)).set 5 ((A 68).getD (36 + x1).toInt.toNat 0)).set 6 ((A 68).getD (60 + x1).toInt.toNat 0)).set 7 ((A 68).getD 147 0))) L)) rfl rfl rfl (hz_s84 _) (fun _ => ?_)
  subst T
  exact w_r rfl rfl (cvQ rfl (funext fun q => if k0 : q = 84 then by subst k0; exact Eq.trans (b := (((((G202.set 0 x1).set 4 ((A 68).getD (12 + x1).toInt.toNat 0)).set 5 ((A 68).getD (36 + x1).toInt.toNat 0)).set 6 ((A 68).getD (60 + x1).toInt.toNat 0)).set 7 ((A 68).getD 147 0))) rfl rfl else by unfold uA; simp only [nb1 k0, cond_false]) rfl K)
noncomputable def km_reckon (x0 : Int32) (x1 : Int32) (x2 : Int32) : Int32 := (if x0 = 2 then (x1 + x2) else (if x0 = 3 then (x1 - x2) else (if x0 = 4 then (x1 * x2) else (if x0 = 5 then (x1 / x2) else (if x0 = 6 then (x1 - x1 / x2 * x2) else (if x0 = 7 then (if x1.toInt < x2.toInt then 1 else 0) else (if x0 = 8 then (if x2.toInt < x1.toInt then 1 else 0) else (if x1 = x2 then 1 else 0))))))))
theorem t_km_reckon {f D : Nat} {F : Nat → Nat → Int32} {A : Nat → List Int32} {L : Nat → List Int64} {Q : Option Value → sm_H → Prop} {x0 : Int32} {x1 : Int32} {x2 : Int32} (K : Q (some (.int (km_reckon x0 x1 x2))) (hz F A L)) : wl_M f D 182 [.int x0, .int x1, .int x2] (hz F A L) Q := by
  generalize hT : (km_reckon x0 x1 x2) = T at K
  have hE : T = (if x0 = 2 then (x1 + x2) else (if x0 = 3 then (x1 - x2) else (if x0 = 4 then (x1 * x2) else (if x0 = 5 then (x1 / x2) else (if x0 = 6 then (x1 - x1 / x2 * x2) else (if x0 = 7 then (if x1.toInt < x2.toInt then 1 else 0) else (if x0 = 8 then (if x2.toInt < x1.toInt then 1 else 0) else (if x1 = x2 then 1 else 0)))))))) := hT.symm
  clear hT
  refine w_m (E := mm182) rfl ?_
  show wl_E f f (D - 1) mm182.2.2.2.2.2.2.2.2 0 [some (.int x0), some (.int x1), some (.int x2)] [] (hz F A L) Q
  refine w_n 1 (pc1 := 1) (ls1 := [some (.int x0), some (.int x1), some (.int x2)]) (st1 := [.int x0]) (hp1 := (hz F A L)) rfl ?_
  by_cases h : x0 = 2
  · have h1 : x0 = 2 := h
    rw [if_pos h1] at hE
    refine w_k h1 ?_
    refine w_n 1 (pc1 := 44) (ls1 := [some (.int x0), some (.int x1), some (.int x2)]) (st1 := []) (hp1 := (hz F A L)) rfl ?_
    refine w_n 3 (pc1 := 47) (ls1 := [some (.int x0), some (.int x1), some (.int x2)]) (st1 := [.int (x1 + x2)]) (hp1 := (hz F A L)) rfl ?_
    subst T
    exact w_ri rfl (cvQ rfl rfl rfl K)
  · have h1 : ¬ x0 = 2 := h
    rw [if_neg h1] at hE
    by_cases h : x0 = 3
    · have h2 : x0 = 3 := h
      rw [if_pos h2] at hE
      refine w_k h2 ?_
      refine w_n 1 (pc1 := 48) (ls1 := [some (.int x0), some (.int x1), some (.int x2)]) (st1 := []) (hp1 := (hz F A L)) rfl ?_
      refine w_n 3 (pc1 := 51) (ls1 := [some (.int x0), some (.int x1), some (.int x2)]) (st1 := [.int (x1 - x2)]) (hp1 := (hz F A L)) rfl ?_
      subst T
      exact w_ri rfl (cvQ rfl rfl rfl K)
    · have h2 : ¬ x0 = 3 := h
      rw [if_neg h2] at hE
      by_cases h : x0 = 4
      · have h3 : x0 = 4 := h
        rw [if_pos h3] at hE
        refine w_k h3 ?_
        refine w_n 1 (pc1 := 52) (ls1 := [some (.int x0), some (.int x1), some (.int x2)]) (st1 := []) (hp1 := (hz F A L)) rfl ?_
        refine w_n 3 (pc1 := 55) (ls1 := [some (.int x0), some (.int x1), some (.int x2)]) (st1 := [.int (x1 * x2)]) (hp1 := (hz F A L)) rfl ?_
        subst T
        exact w_ri rfl (cvQ rfl rfl rfl K)
      · have h3 : ¬ x0 = 4 := h
        rw [if_neg h3] at hE
        by_cases h : x0 = 5
        · have h4 : x0 = 5 := h
          rw [if_pos h4] at hE
          refine w_k h4 ?_
          refine w_n 1 (pc1 := 56) (ls1 := [some (.int x0), some (.int x1), some (.int x2)]) (st1 := []) (hp1 := (hz F A L)) rfl ?_
          refine w_n 2 (pc1 := 58) (ls1 := [some (.int x0), some (.int x1), some (.int x2)]) (st1 := [.int x2, .int x1]) (hp1 := (hz F A L)) rfl ?_
          refine w_dv rfl rfl (fun _ => ?_)
          subst T
          exact w_ri rfl (cvQ rfl rfl rfl K)
        · have h4 : ¬ x0 = 5 := h
          rw [if_neg h4] at hE
          by_cases h : x0 = 6
          · have h5 : x0 = 6 := h
            rw [if_pos h5] at hE
            refine w_k h5 ?_
            refine w_n 1 (pc1 := 60) (ls1 := [some (.int x0), some (.int x1), some (.int x2)]) (st1 := []) (hp1 := (hz F A L)) rfl ?_
            refine w_n 2 (pc1 := 62) (ls1 := [some (.int x0), some (.int x1), some (.int x2)]) (st1 := [.int x2, .int x1]) (hp1 := (hz F A L)) rfl ?_
            refine w_rm rfl rfl (fun _ => ?_)
            subst T
            exact w_ri rfl (cvQ rfl rfl rfl K)
          · have h5 : ¬ x0 = 6 := h
            rw [if_neg h5] at hE
            by_cases h : x0 = 7
            · have h6 : x0 = 7 := h
              rw [if_pos h6] at hE
              refine w_k h6 ?_
              refine w_n 1 (pc1 := 64) (ls1 := [some (.int x0), some (.int x1), some (.int x2)]) (st1 := []) (hp1 := (hz F A L)) rfl ?_
              refine w_n 2 (pc1 := 66) (ls1 := [some (.int x0), some (.int x1), some (.int x2)]) (st1 := [.int x2, .int x1]) (hp1 := (hz F A L)) rfl ?_
              refine w_ge (p3 := 69) rfl rfl (fun h => ?_) (fun h => ?_)
              · have h7 : x2.toInt ≤ x1.toInt := h
                rw [if_neg (Int.not_lt.mpr h7)] at hE
                refine w_n 1 (pc1 := 74) (ls1 := [some (.int x0), some (.int x1), some (.int x2)]) (st1 := [.int 0]) (hp1 := (hz F A L)) rfl ?_
                subst T
                exact w_ri rfl (cvQ rfl rfl rfl K)
              · have h7 : x1.toInt < x2.toInt := h
                rw [if_pos h7] at hE
                refine w_n 2 (pc1 := 74) (ls1 := [some (.int x0), some (.int x1), some (.int x2)]) (st1 := [.int 1]) (hp1 := (hz F A L)) rfl ?_
                subst T
                exact w_ri rfl (cvQ rfl rfl rfl K)
            · have h6 : ¬ x0 = 7 := h
              rw [if_neg h6] at hE
              by_cases h : x0 = 8
              · have h8 : x0 = 8 := h
                rw [if_pos h8] at hE
                refine w_k h8 ?_
                refine w_n 1 (pc1 := 75) (ls1 := [some (.int x0), some (.int x1), some (.int x2)]) (st1 := []) (hp1 := (hz F A L)) rfl ?_
                refine w_n 2 (pc1 := 77) (ls1 := [some (.int x0), some (.int x1), some (.int x2)]) (st1 := [.int x2, .int x1]) (hp1 := (hz F A L)) rfl ?_
                refine w_le (p3 := 80) rfl rfl (fun h => ?_) (fun h => ?_)
                · have h9 : x1.toInt ≤ x2.toInt := h
                  rw [if_neg (Int.not_lt.mpr h9)] at hE
                  refine w_n 1 (pc1 := 85) (ls1 := [some (.int x0), some (.int x1), some (.int x2)]) (st1 := [.int 0]) (hp1 := (hz F A L)) rfl ?_
                  subst T
                  exact w_ri rfl (cvQ rfl rfl rfl K)
                · have h9 : x2.toInt < x1.toInt := h
                  rw [if_pos h9] at hE
                  refine w_n 2 (pc1 := 85) (ls1 := [some (.int x0), some (.int x1), some (.int x2)]) (st1 := [.int 1]) (hp1 := (hz F A L)) rfl ?_
                  subst T
                  exact w_ri rfl (cvQ rfl rfl rfl K)
              · have h8 : ¬ x0 = 8 := h
                rw [if_neg h8] at hE
                have n0 : ¬ x0.toInt = 2 := fun z => h1 (Int32.toInt_inj.mp (show _ = (2 : Int32).toInt from z))
                have n1 : ¬ x0.toInt = 3 := fun z => h2 (Int32.toInt_inj.mp (show _ = (3 : Int32).toInt from z))
                have n2 : ¬ x0.toInt = 4 := fun z => h3 (Int32.toInt_inj.mp (show _ = (4 : Int32).toInt from z))
                have n3 : ¬ x0.toInt = 5 := fun z => h4 (Int32.toInt_inj.mp (show _ = (5 : Int32).toInt from z))
                have n4 : ¬ x0.toInt = 6 := fun z => h5 (Int32.toInt_inj.mp (show _ = (6 : Int32).toInt from z))
                have n5 : ¬ x0.toInt = 7 := fun z => h6 (Int32.toInt_inj.mp (show _ = (7 : Int32).toInt from z))
                have n6 : ¬ x0.toInt = 8 := fun z => h8 (Int32.toInt_inj.mp (show _ = (8 : Int32).toInt from z))
                refine w_tsw rfl (by omega) (p1 := 86) (by decide) (by decide) ?_
                refine w_n 2 (pc1 := 88) (ls1 := [some (.int x0), some (.int x1), some (.int x2)]) (st1 := [.int x2, .int x1]) (hp1 := (hz F A L)) rfl ?_
                refine w_ne (p3 := 91) rfl rfl (fun h => ?_) (fun h => ?_)
                · have h10 : ¬ x1 = x2 := h
                  rw [if_neg h10] at hE
                  refine w_n 1 (pc1 := 96) (ls1 := [some (.int x0), some (.int x1), some (.int x2)]) (st1 := [.int 0]) (hp1 := (hz F A L)) rfl ?_
                  subst T
                  exact w_ri rfl (cvQ rfl rfl rfl K)
                · have h10 : x1 = x2 := h
                  rw [if_pos h10] at hE
                  refine w_n 2 (pc1 := 96) (ls1 := [some (.int x0), some (.int x1), some (.int x2)]) (st1 := [.int 1]) (hp1 := (hz F A L)) rfl ?_
                  subst T
                  exact w_ri rfl (cvQ rfl rfl rfl K)
noncomputable def km_comesTo_16 (a78 : List Int32) (a84 : List Int32) (x2 : Int32) (x4 : Int32) : Nat → Int32 → Int32 → List Int32 → Int32 × List Int32
  | 0, _, _, a83 => (0, a83)
  | m + 1, y3, y5, a83 => (if y5.toInt < x2.toInt then (if ((a78.getD y5.toInt.toNat 0) / 1048576) = 0 then (km_comesTo_16 a78 a84 x2 x4 m (y3 + 1) (y5 + 1) (a83.set y3.toInt.toNat ((a78.getD y5.toInt.toNat 0) - (a78.getD y5.toInt.toNat 0) / 1048576 * 1048576))) else (if ((a78.getD y5.toInt.toNat 0) / 1048576) = 1 then (km_comesTo_16 a78 a84 x2 x4 m (y3 + 1) (y5 + 1) (a83.set y3.toInt.toNat (a84.getD ((a78.getD y5.toInt.toNat 0) - (a78.getD y5.toInt.toNat 0) / 1048576 * 1048576).toInt.toNat 0))) else (if ((a78.getD y5.toInt.toNat 0) / 1048576) = 10 then (km_comesTo_16 a78 a84 x2 x4 m y3 (y5 + 1) (a83.set (y3 - 1).toInt.toNat (1 - (a83.getD (y3 - 1).toInt.toNat 0)))) else (if ((a78.getD y5.toInt.toNat 0) / 1048576) = 11 then (if ((a78.getD y5.toInt.toNat 0) / 1048576) = 12 then (if (a83.getD (y3 - 1).toInt.toNat 0) = 1 then (km_comesTo_16 a78 a84 x2 x4 m y3 (x4 + ((a78.getD y5.toInt.toNat 0) - (a78.getD y5.toInt.toNat 0) / 1048576 * 1048576)) a83) else (km_comesTo_16 a78 a84 x2 x4 m (y3 - 1) (y5 + 1) a83)) else (if (a83.getD (y3 - 1).toInt.toNat 0) = 0 then (km_comesTo_16 a78 a84 x2 x4 m y3 (x4 + ((a78.getD y5.toInt.toNat 0) - (a78.getD y5.toInt.toNat 0) / 1048576 * 1048576)) a83) else (km_comesTo_16 a78 a84 x2 x4 m (y3 - 1) (y5 + 1) a83))) else (if ((a78.getD y5.toInt.toNat 0) / 1048576) = 12 then (if (a83.getD (y3 - 1).toInt.toNat 0) = 1 then (km_comesTo_16 a78 a84 x2 x4 m y3 (x4 + ((a78.getD y5.toInt.toNat 0) - (a78.getD y5.toInt.toNat 0) / 1048576 * 1048576)) a83) else (km_comesTo_16 a78 a84 x2 x4 m (y3 - 1) (y5 + 1) a83)) else (if ((a78.getD y5.toInt.toNat 0) / 1048576) = 5 then (if (a83.getD (y3 - 1).toInt.toNat 0) = 0 then (0, a83) else (km_comesTo_16 a78 a84 x2 x4 m (y3 - 1) (y5 + 1) (a83.set ((y3 - 1) - 1).toInt.toNat (km_reckon ((a78.getD y5.toInt.toNat 0) / 1048576) (a83.getD ((y3 - 1) - 1).toInt.toNat 0) (a83.getD (y3 - 1).toInt.toNat 0))))) else (if ((a78.getD y5.toInt.toNat 0) / 1048576) = 6 then (if (a83.getD (y3 - 1).toInt.toNat 0) = 0 then (0, a83) else (km_comesTo_16 a78 a84 x2 x4 m (y3 - 1) (y5 + 1) (a83.set ((y3 - 1) - 1).toInt.toNat (km_reckon ((a78.getD y5.toInt.toNat 0) / 1048576) (a83.getD ((y3 - 1) - 1).toInt.toNat 0) (a83.getD (y3 - 1).toInt.toNat 0))))) else (km_comesTo_16 a78 a84 x2 x4 m (y3 - 1) (y5 + 1) (a83.set ((y3 - 1) - 1).toInt.toNat (km_reckon ((a78.getD y5.toInt.toNat 0) / 1048576) (a83.getD ((y3 - 1) - 1).toInt.toNat 0) (a83.getD (y3 - 1).toInt.toNat 0))))))))))) else ((a83.getD 0 0), a83))
