/-! lifts, printed by genlift.py: 3 -/
noncomputable def kc_readRanking (f1_2 : Int32) (f1_3 : Int32) (f1_4 : Int32) (f3_0 : Int32) (a2 : List Int32) : Int64 × Int32 × Int32 := (kc_readRanking_10 f1_2 f1_4 f3_0 a2 f3_0.toInt.toNat 0 0 0 0 f1_3)
theorem t_kc_readRanking {f D : Nat} {F : Nat → Nat → Int32} {A : Nat → List Int32} {L : Nat → List Int64} {Q : Option Value → sm_H → Prop} (K : Q (some (.long ((kc_readRanking (F 1 2) (F 1 3) (F 1 4) (F 3 0) (A 2)).1))) (hz (uF (uF F 1 3 ((kc_readRanking (F 1 2) (F 1 3) (F 1 4) (F 3 0) (A 2)).2.1)) 1 4 ((kc_readRanking (F 1 2) (F 1 3) (F 1 4) (F 3 0) (A 2)).2.2)) A L)) : wl_M f D 43 [.ref 0] (hz F A L) Q := by
  generalize hT : (kc_readRanking (F 1 2) (F 1 3) (F 1 4) (F 3 0) (A 2)) = T at K
  have hE : T = (kc_readRanking_10 (F 1 2) (F 1 4) (F 3 0) (A 2) (F 3 0).toInt.toNat 0 0 0 0 (F 1 3)) := hT.symm
  clear hT
  refine w_m (E := mm43) rfl ?_
  show wl_E f f (D - 1) mm43.2.2.2.2.2.2.2.2 0 [some (.ref 0), none, none, none, none, none, none] [] (hz F A L) Q
  refine w_n 8 (pc1 := 10) (ls1 := [some (.ref 0), some (.long 0), none, some (.int 0), some (.int 0), some (.int 0), none]) (st1 := []) (hp1 := (hz F A L)) rfl ?_
  subst T
  exact t_kc_readRanking_10 _ (show (F 3 0).toInt.toNat = ((F 3 0).toInt - (0 : Int32).toInt).toNat by have e0 : (0 : Int32).toInt = 0 := rfl; first | rfl | omega) (cvQ (funext fun q => funext fun z => if k0 : q = 1 ∧ z = 3 then by obtain ⟨w1, w2⟩ := k0; subst w1; subst w2; exact Eq.trans (b := (kc_readRanking_10 (F 1 2) (F 1 4) (F 3 0) (A 2) (F 3 0).toInt.toNat 0 0 0 0 (F 1 3)).2.1) rfl rfl else if k1 : q = 1 ∧ z = 4 then by obtain ⟨w1, w2⟩ := k1; subst w1; subst w2; exact Eq.trans (b := (kc_readRanking_10 (F 1 2) (F 1 4) (F 3 0) (A 2) (F 3 0).toInt.toNat 0 0 0 0 (F 1 3)).2.2) rfl rfl else by unfold uF; simp only [nb2 k0, nb2 k1, cond_false]) rfl rfl K)
noncomputable def kt_aheadOf (l11 : List Int64) (x1 : Int32) (x2 : Int32) : Int32 := (((((l11.getD x1.toInt.toNat 0).toUInt64 >>> ((x2 * 6).toInt64.toUInt64 &&& Int64.toUInt64 63)).toInt64).toInt32) &&& 63)
theorem t_kt_aheadOf {f D : Nat} {F : Nat → Nat → Int32} {A : Nat → List Int32} {L : Nat → List Int64} {Q : Option Value → sm_H → Prop} {x1 : Int32} {x2 : Int32} (K : Q (some (.int (kt_aheadOf (L 11) x1 x2))) (hz F A L)) : wl_M f D 46 [.ref 3, .int x1, .int x2] (hz F A L) Q := by
  generalize hT : (kt_aheadOf (L 11) x1 x2) = T at K
  have hE : T = ((((((L 11).getD x1.toInt.toNat 0).toUInt64 >>> ((x2 * 6).toInt64.toUInt64 &&& Int64.toUInt64 63)).toInt64).toInt32) &&& 63) := hT.symm
  clear hT
  refine w_m (E := mm46) rfl ?_
  show wl_E f f (D - 1) mm46.2.2.2.2.2.2.2.2 0 [some (.ref 3), some (.int x1), some (.int x2)] [] (hz F A L) Q
  refine w_n 3 (pc1 := 5) (ls1 := [some (.ref 3), some (.int x1), some (.int x2)]) (st1 := [.int x1, .ref 11]) (hp1 := (hz F A L)) rfl ?_
  refine w_ll (k := 11) (l := (L 11)) rfl rfl rfl (fun _ => ?_)
  refine w_n 7 (pc1 := 15) (ls1 := [some (.ref 3), some (.int x1), some (.int x2)]) (st1 := [.int ((((((L 11).getD x1.toInt.toNat 0).toUInt64 >>> ((x2 * 6).toInt64.toUInt64 &&& Int64.toUInt64 63)).toInt64).toInt32) &&& 63)]) (hp1 := (hz F A L)) rfl ?_
  subst T
  exact w_ri rfl (cvQ rfl rfl rfl K)
noncomputable def kt_steps_18 (l11 : List Int64) (x1 : Int32) (x3 : Int32) : Nat → Int32 → Int32 → Int32
  | 0, y4, _ => y4
  | m + 1, y4, y5 => (if (kt_aheadOf l11 x1 x3) = (kt_aheadOf l11 x1 y5) then (kt_steps_18 l11 x1 x3 m (y4 ||| 1) (y5 + 1)) else (kt_steps_18 l11 x1 x3 m (y4 ||| 0) (y5 + 1)))
theorem t_kt_steps_18 {f : Nat} {Q : Option Value → sm_H → Prop} : ∀ (m : Nat) {B D : Nat} {F : Nat → Nat → Int32} {A : Nat → List Int32} {L : Nat → List Int64} {x1 : Int32} {x2 : Int32} {x3 : Int32} {y4 : Int32} {y5 : Int32}, m = (x3.toInt - y5.toInt).toNat → (∀ q5 : Int32, wl_E f B D mm45.2.2.2.2.2.2.2.2 56 [some (.ref 3), some (.int x1), some (.int x2), some (.int x3), some (.int (kt_steps_18 (L 11) x1 x3 m y4 y5)), some (.int q5)] [] (hz F A L) Q) → wl_E f B D mm45.2.2.2.2.2.2.2.2 18 [some (.ref 3), some (.int x1), some (.int x2), some (.int x3), some (.int y4), some (.int y5)] [] (hz F A L) Q := by
  intro m
  induction m with
  | zero =>
    intro B D F A L x1 x2 x3 y4 y5 hm K
    generalize hT : (kt_steps_18 (L 11) x1 x3 0 y4 y5) = T at K
    have hE : T = y4 := hT.symm
    clear hT
    refine w_n 2 (pc1 := 21) (ls1 := [some (.ref 3), some (.int x1), some (.int x2), some (.int x3), some (.int y4), some (.int y5)]) (st1 := [.int x3, .int y5]) (hp1 := (hz F A L)) rfl ?_
    refine w_ge (p3 := 24) rfl rfl (fun hb => ?_) (fun h => False.elim (by have h : y5.toInt < x3.toInt := h; omega))
    subst T
    exact cvE rfl rfl rfl (K _)
  | succ m ih =>
    intro B D F A L x1 x2 x3 y4 y5 hm K
    generalize hT : (kt_steps_18 (L 11) x1 x3 (m + 1) y4 y5) = T at K
    have hE : T = (if (kt_aheadOf (L 11) x1 x3) = (kt_aheadOf (L 11) x1 y5) then (kt_steps_18 (L 11) x1 x3 m (y4 ||| 1) (y5 + 1)) else (kt_steps_18 (L 11) x1 x3 m (y4 ||| 0) (y5 + 1))) := hT.symm
    clear hT
    refine w_n 2 (pc1 := 21) (ls1 := [some (.ref 3), some (.int x1), some (.int x2), some (.int x3), some (.int y4), some (.int y5)]) (st1 := [.int x3, .int y5]) (hp1 := (hz F A L)) rfl ?_
    refine w_ge (p3 := 24) rfl rfl (fun h => False.elim (by have h : x3.toInt ≤ y5.toInt := h; omega)) (fun hb => ?_)
    refine w_n 4 (pc1 := 29) (ls1 := [some (.ref 3), some (.int x1), some (.int x2), some (.int x3), some (.int y4), some (.int y5)]) (st1 := [.int x3, .int x1, .ref 3, .int y4]) (hp1 := (hz F A L)) rfl ?_
    refine w_c rfl rfl (t_kt_aheadOf ?_)
    show wl_E f _ _ mm45.2.2.2.2.2.2.2.2 32 [some (.ref 3), some (.int x1), some (.int x2), some (.int x3), some (.int y4), some (.int y5)] [.int (kt_aheadOf (L 11) x1 x3), .int y4] (hz F A L) _
    generalize hG68 : (kt_aheadOf (L 11) x1 x3) = G68 at hE ⊢
    refine w_n 3 (pc1 := 36) (ls1 := [some (.ref 3), some (.int x1), some (.int x2), some (.int x3), some (.int y4), some (.int y5)]) (st1 := [.int y5, .int x1, .ref 3, .int G68, .int y4]) (hp1 := (hz F A L)) rfl ?_
    refine w_c rfl rfl (t_kt_aheadOf ?_)
    show wl_E f _ _ mm45.2.2.2.2.2.2.2.2 39 [some (.ref 3), some (.int x1), some (.int x2), some (.int x3), some (.int y4), some (.int y5)] [.int (kt_aheadOf (L 11) x1 y5), .int G68, .int y4] (hz F A L) _
    generalize hG69 : (kt_aheadOf (L 11) x1 y5) = G69 at hE ⊢
    refine w_ne (p3 := 42) rfl rfl (fun h => ?_) (fun h => ?_)
    · have h1 : ¬ G68 = G69 := h
      rw [if_neg h1] at hE
      refine w_n 5 (pc1 := 18) (ls1 := [some (.ref 3), some (.int x1), some (.int x2), some (.int x3), some (.int (y4 ||| 0)), some (.int (y5 + 1))]) (st1 := []) (hp1 := (hz F A L)) rfl ?_
      subst T
      have hb2 := i_up (B := x3) hb
      have hb3 : y5.toInt < x3.toInt := hb
      exact ih (show m = (x3.toInt - (y5 + 1).toInt).toNat by rw [hb2]; omega) (fun q5 => cvE rfl rfl rfl (K q5))
    · have h1 : G68 = G69 := h
      rw [if_pos h1] at hE
      refine w_n 6 (pc1 := 18) (ls1 := [some (.ref 3), some (.int x1), some (.int x2), some (.int x3), some (.int (y4 ||| 1)), some (.int (y5 + 1))]) (st1 := []) (hp1 := (hz F A L)) rfl ?_
      subst T
      have hb2 := i_up (B := x3) hb
      have hb3 : y5.toInt < x3.toInt := hb
      exact ih (show m = (x3.toInt - (y5 + 1).toInt).toNat by rw [hb2]; omega) (fun q5 => cvE rfl rfl rfl (K q5))
noncomputable def kt_steps_4 (l11 : List Int64) (x1 : Int32) : Nat → Int32 → Int32 → Int32
  | 0, y2, _ => y2
  | m + 1, y2, y3 => (if (kt_steps_18 l11 x1 y3 y3.toInt.toNat 0 0) = 0 then (kt_steps_4 l11 x1 m (y2 + 1) (y3 + 1)) else (kt_steps_4 l11 x1 m y2 (y3 + 1)))
theorem t_kt_steps_4 {f : Nat} {Q : Option Value → sm_H → Prop} : ∀ (m : Nat) {B D : Nat} {F : Nat → Nat → Int32} {A : Nat → List Int32} {L : Nat → List Int64} {x1 : Int32} {y2 : Int32} {y3 : Int32} {o4 : Option Value} {o5 : Option Value}, m = ((F 3 0).toInt - y3.toInt).toNat → (∀ q3 : Int32, ∀ q4 : Option Value, ∀ q5 : Option Value, wl_E f B D mm45.2.2.2.2.2.2.2.2 70 [some (.ref 3), some (.int x1), some (.int (kt_steps_4 (L 11) x1 m y2 y3)), some (.int q3), q4, q5] [] (hz F A L) Q) → wl_E f B D mm45.2.2.2.2.2.2.2.2 4 [some (.ref 3), some (.int x1), some (.int y2), some (.int y3), o4, o5] [] (hz F A L) Q := by
  intro m
  induction m with
  | zero =>
    intro B D F A L x1 y2 y3 o4 o5 hm K
    generalize hT : (kt_steps_4 (L 11) x1 0 y2 y3) = T at K
    have hE : T = y2 := hT.symm
    clear hT
    refine w_n 3 (pc1 := 9) (ls1 := [some (.ref 3), some (.int x1), some (.int y2), some (.int y3), o4, o5]) (st1 := [.int (F 3 0), .int y3]) (hp1 := (hz F A L)) rfl ?_
    refine w_ge (p3 := 12) rfl rfl (fun hb => ?_) (fun h => False.elim (by have h : y3.toInt < (F 3 0).toInt := h; omega))
    subst T
    exact cvE rfl rfl rfl (K _ _ _)
  | succ m ih =>
    intro B D F A L x1 y2 y3 o4 o5 hm K
    generalize hT : (kt_steps_4 (L 11) x1 (m + 1) y2 y3) = T at K
    have hE : T = (if (kt_steps_18 (L 11) x1 y3 y3.toInt.toNat 0 0) = 0 then (kt_steps_4 (L 11) x1 m (y2 + 1) (y3 + 1)) else (kt_steps_4 (L 11) x1 m y2 (y3 + 1))) := hT.symm
    clear hT
    refine w_n 3 (pc1 := 9) (ls1 := [some (.ref 3), some (.int x1), some (.int y2), some (.int y3), o4, o5]) (st1 := [.int (F 3 0), .int y3]) (hp1 := (hz F A L)) rfl ?_
    refine w_ge (p3 := 12) rfl rfl (fun h => False.elim (by have h : (F 3 0).toInt ≤ y3.toInt := h; omega)) (fun hb => ?_)
    refine w_n 4 (pc1 := 18) (ls1 := [some (.ref 3), some (.int x1), some (.int y2), some (.int y3), some (.int 0), some (.int 0)]) (st1 := []) (hp1 := (hz F A L)) rfl ?_
    refine t_kt_steps_18 y3.toInt.toNat (show y3.toInt.toNat = (y3.toInt - (0 : Int32).toInt).toNat by have e0 : (0 : Int32).toInt = 0 := rfl; first | rfl | omega) ?_
    intro r1
    show wl_E f _ _ mm45.2.2.2.2.2.2.2.2 56 [some (.ref 3), some (.int x1), some (.int y2), some (.int y3), some (.int (kt_steps_18 (L 11) x1 y3 y3.toInt.toNat 0 0)), some (.int r1)] [] (hz F A L) _
    generalize hG70 : (kt_steps_18 (L 11) x1 y3 y3.toInt.toNat 0 0) = G70 at hE ⊢
    refine w_n 1 (pc1 := 58) (ls1 := [some (.ref 3), some (.int x1), some (.int y2), some (.int y3), some (.int G70), some (.int r1)]) (st1 := [.int G70]) (hp1 := (hz F A L)) rfl ?_
    refine w_zne (p3 := 61) rfl rfl (fun h => ?_) (fun h => ?_)
    · have h1 : ¬ G70 = 0 := h
      rw [if_neg h1] at hE
      refine w_n 2 (pc1 := 4) (ls1 := [some (.ref 3), some (.int x1), some (.int y2), some (.int (y3 + 1)), some (.int G70), some (.int r1)]) (st1 := []) (hp1 := (hz F A L)) rfl ?_
      subst T
      have hb2 := i_up (B := (F 3 0)) hb
      have hb3 : y3.toInt < (F 3 0).toInt := hb
      exact ih (show m = ((F 3 0).toInt - (y3 + 1).toInt).toNat by rw [hb2]; omega) (fun q3 q4 q5 => cvE rfl rfl rfl (K q3 q4 q5))
    · have h1 : G70 = 0 := h
      rw [if_pos h1] at hE
      refine w_n 3 (pc1 := 4) (ls1 := [some (.ref 3), some (.int x1), some (.int (y2 + 1)), some (.int (y3 + 1)), some (.int G70), some (.int r1)]) (st1 := []) (hp1 := (hz F A L)) rfl ?_
      subst T
      have hb2 := i_up (B := (F 3 0)) hb
      have hb3 : y3.toInt < (F 3 0).toInt := hb
      exact ih (show m = ((F 3 0).toInt - (y3 + 1).toInt).toNat by rw [hb2]; omega) (fun q3 q4 q5 => cvE rfl rfl rfl (K q3 q4 q5))
noncomputable def kt_steps (f3_0 : Int32) (l11 : List Int64) (x1 : Int32) : Int32 := (kt_steps_4 l11 x1 f3_0.toInt.toNat 0 0)
theorem t_kt_steps {f D : Nat} {F : Nat → Nat → Int32} {A : Nat → List Int32} {L : Nat → List Int64} {Q : Option Value → sm_H → Prop} {x1 : Int32} (K : Q (some (.int (kt_steps (F 3 0) (L 11) x1))) (hz F A L)) : wl_M f D 45 [.ref 3, .int x1] (hz F A L) Q := by
  generalize hT : (kt_steps (F 3 0) (L 11) x1) = T at K
  have hE : T = (kt_steps_4 (L 11) x1 (F 3 0).toInt.toNat 0 0) := hT.symm
  clear hT
  refine w_m (E := mm45) rfl ?_
  show wl_E f f (D - 1) mm45.2.2.2.2.2.2.2.2 0 [some (.ref 3), some (.int x1), none, none, none, none] [] (hz F A L) Q
  refine w_n 4 (pc1 := 4) (ls1 := [some (.ref 3), some (.int x1), some (.int 0), some (.int 0), none, none]) (st1 := []) (hp1 := (hz F A L)) rfl ?_
  refine t_kt_steps_4 (F 3 0).toInt.toNat (show (F 3 0).toInt.toNat = ((F 3 0).toInt - (0 : Int32).toInt).toNat by have e0 : (0 : Int32).toInt = 0 := rfl; first | rfl | omega) ?_
  intro r1 r2 r3
  show wl_E f _ _ mm45.2.2.2.2.2.2.2.2 70 [some (.ref 3), some (.int x1), some (.int (kt_steps_4 (L 11) x1 (F 3 0).toInt.toNat 0 0)), some (.int r1), r2, r3] [] (hz F A L) _
  generalize hG71 : (kt_steps_4 (L 11) x1 (F 3 0).toInt.toNat 0 0) = G71 at hE ⊢
  refine w_n 1 (pc1 := 71) (ls1 := [some (.ref 3), some (.int x1), some (.int G71), some (.int r1), r2, r3]) (st1 := [.int G71]) (hp1 := (hz F A L)) rfl ?_
  subst T
  exact w_ri rfl (cvQ rfl rfl rfl K)
noncomputable def kc_ranking (f1_1 : Int32) (f1_2 : Int32) (f1_3 : Int32) (f1_4 : Int32) (f3_0 : Int32) (f3_1 : Int32) (a2 : List Int32) (l11 : List Int64) (x1 : Int32) (x2 : Int32) : Int32 × Int32 × Int32 × Int32 × Int32 × List Int64 := (if (kt_isTold f3_1 x1) = 0 then ((-1), f1_1, f1_2, f1_3, f1_4, l11) else (if (kx_has f1_1 x2 1 40) = 0 then ((-1), f1_1, f1_2, f1_3, f1_4, l11) else (if (kc_readRanking (kx_open x2).1 (kx_open x2).2.1 (kx_open x2).2.2 f3_0 a2).2.2 = 0 then ((kt_steps f3_0 (l11.set x1.toInt.toNat (kc_readRanking (kx_open x2).1 (kx_open x2).2.1 (kx_open x2).2.2 f3_0 a2).1) x1), 0, (kx_open x2).1, (kc_readRanking (kx_open x2).1 (kx_open x2).2.1 (kx_open x2).2.2 f3_0 a2).2.1, (kc_readRanking (kx_open x2).1 (kx_open x2).2.1 (kx_open x2).2.2 f3_0 a2).2.2, (l11.set x1.toInt.toNat (kc_readRanking (kx_open x2).1 (kx_open x2).2.1 (kx_open x2).2.2 f3_0 a2).1)) else ((kc_readRanking (kx_open x2).1 (kx_open x2).2.1 (kx_open x2).2.2 f3_0 a2).2.2, 0, (kx_open x2).1, (kc_readRanking (kx_open x2).1 (kx_open x2).2.1 (kx_open x2).2.2 f3_0 a2).2.1, (kc_readRanking (kx_open x2).1 (kx_open x2).2.1 (kx_open x2).2.2 f3_0 a2).2.2, l11))))
theorem t_kc_ranking {f D : Nat} {F : Nat → Nat → Int32} {A : Nat → List Int32} {L : Nat → List Int64} {Q : Option Value → sm_H → Prop} {x1 : Int32} {x2 : Int32} (K : Q (some (.int ((kc_ranking (F 1 1) (F 1 2) (F 1 3) (F 1 4) (F 3 0) (F 3 1) (A 2) (L 11) x1 x2).1))) (hz (uF (uF (uF (uF F 1 1 ((kc_ranking (F 1 1) (F 1 2) (F 1 3) (F 1 4) (F 3 0) (F 3 1) (A 2) (L 11) x1 x2).2.1)) 1 2 ((kc_ranking (F 1 1) (F 1 2) (F 1 3) (F 1 4) (F 3 0) (F 3 1) (A 2) (L 11) x1 x2).2.2.1)) 1 3 ((kc_ranking (F 1 1) (F 1 2) (F 1 3) (F 1 4) (F 3 0) (F 3 1) (A 2) (L 11) x1 x2).2.2.2.1)) 1 4 ((kc_ranking (F 1 1) (F 1 2) (F 1 3) (F 1 4) (F 3 0) (F 3 1) (A 2) (L 11) x1 x2).2.2.2.2.1)) A (uL L 11 ((kc_ranking (F 1 1) (F 1 2) (F 1 3) (F 1 4) (F 3 0) (F 3 1) (A 2) (L 11) x1 x2).2.2.2.2.2)))) : wl_M f D 42 [.ref 0, .int x1, .int x2] (hz F A L) Q := by
  generalize hT : (kc_ranking (F 1 1) (F 1 2) (F 1 3) (F 1 4) (F 3 0) (F 3 1) (A 2) (L 11) x1 x2) = T at K
  have hE : T = (if (kt_isTold (F 3 1) x1) = 0 then ((-1), (F 1 1), (F 1 2), (F 1 3), (F 1 4), (L 11)) else (if (kx_has (F 1 1) x2 1 40) = 0 then ((-1), (F 1 1), (F 1 2), (F 1 3), (F 1 4), (L 11)) else (if (kc_readRanking (kx_open x2).1 (kx_open x2).2.1 (kx_open x2).2.2 (F 3 0) (A 2)).2.2 = 0 then ((kt_steps (F 3 0) ((L 11).set x1.toInt.toNat (kc_readRanking (kx_open x2).1 (kx_open x2).2.1 (kx_open x2).2.2 (F 3 0) (A 2)).1) x1), 0, (kx_open x2).1, (kc_readRanking (kx_open x2).1 (kx_open x2).2.1 (kx_open x2).2.2 (F 3 0) (A 2)).2.1, (kc_readRanking (kx_open x2).1 (kx_open x2).2.1 (kx_open x2).2.2 (F 3 0) (A 2)).2.2, ((L 11).set x1.toInt.toNat (kc_readRanking (kx_open x2).1 (kx_open x2).2.1 (kx_open x2).2.2 (F 3 0) (A 2)).1)) else ((kc_readRanking (kx_open x2).1 (kx_open x2).2.1 (kx_open x2).2.2 (F 3 0) (A 2)).2.2, 0, (kx_open x2).1, (kc_readRanking (kx_open x2).1 (kx_open x2).2.1 (kx_open x2).2.2 (F 3 0) (A 2)).2.1, (kc_readRanking (kx_open x2).1 (kx_open x2).2.1 (kx_open x2).2.2 (F 3 0) (A 2)).2.2, (L 11))))) := hT.symm
  clear hT
  refine w_m (E := mm42) rfl ?_
  show wl_E f f (D - 1) mm42.2.2.2.2.2.2.2.2 0 [some (.ref 0), some (.int x1), some (.int x2), none, none] [] (hz F A L) Q
  refine w_n 3 (pc1 := 5) (ls1 := [some (.ref 0), some (.int x1), some (.int x2), none, none]) (st1 := [.int x1, .ref 3]) (hp1 := (hz F A L)) rfl ?_
  refine w_c rfl rfl (t_kt_isTold ?_)
  show wl_E f _ _ mm42.2.2.2.2.2.2.2.2 8 [some (.ref 0), some (.int x1), some (.int x2), none, none] [.int (kt_isTold (F 3 1) x1)] (hz F A L) _
  generalize hG48 : (kt_isTold (F 3 1) x1) = G48 at hE ⊢
  refine w_zeq (p3 := 11) rfl rfl (fun h => ?_) (fun h => ?_)
  · have h1 : G48 = 0 := h
    rw [if_pos h1] at hE
    refine w_n 1 (pc1 := 26) (ls1 := [some (.ref 0), some (.int x1), some (.int x2), none, none]) (st1 := [.int (-1)]) (hp1 := (hz F A L)) rfl ?_
    subst T
    exact w_ri rfl (cvQ (funext fun q => funext fun z => if k0 : q = 1 ∧ z = 1 then by obtain ⟨w1, w2⟩ := k0; subst w1; subst w2; exact Eq.trans (b := (F 1 1)) rfl rfl else if k1 : q = 1 ∧ z = 2 then by obtain ⟨w1, w2⟩ := k1; subst w1; subst w2; exact Eq.trans (b := (F 1 2)) rfl rfl else if k2 : q = 1 ∧ z = 3 then by obtain ⟨w1, w2⟩ := k2; subst w1; subst w2; exact Eq.trans (b := (F 1 3)) rfl rfl else if k3 : q = 1 ∧ z = 4 then by obtain ⟨w1, w2⟩ := k3; subst w1; subst w2; exact Eq.trans (b := (F 1 4)) rfl rfl else by unfold uF; simp only [nb2 k0, nb2 k1, nb2 k2, nb2 k3, cond_false]) rfl (funext fun q => if k0 : q = 11 then by subst k0; exact Eq.trans (b := (L 11)) rfl rfl else by unfold uL; simp only [nb1 k0, cond_false]) K)
  · have h1 : ¬ G48 = 0 := h
    rw [if_neg h1] at hE
    refine w_n 5 (pc1 := 19) (ls1 := [some (.ref 0), some (.int x1), some (.int x2), none, none]) (st1 := [.int 40, .int 1, .int x2, .ref 1]) (hp1 := (hz F A L)) rfl ?_
    refine w_c rfl rfl (t_kx_has ?_)
    show wl_E f _ _ mm42.2.2.2.2.2.2.2.2 22 [some (.ref 0), some (.int x1), some (.int x2), none, none] [.int (kx_has (F 1 1) x2 1 40)] (hz F A L) _
    generalize hG49 : (kx_has (F 1 1) x2 1 40) = G49 at hE ⊢
    refine w_zne (p3 := 25) rfl rfl (fun h => ?_) (fun h => ?_)
    · have h2 : ¬ G49 = 0 := h
      rw [if_neg h2] at hE
      refine w_n 3 (pc1 := 32) (ls1 := [some (.ref 0), some (.int x1), some (.int x2), none, none]) (st1 := [.int x2, .ref 1]) (hp1 := (hz F A L)) rfl ?_
      refine w_c rfl rfl (t_kx_open ?_)
      show wl_E f _ _ mm42.2.2.2.2.2.2.2.2 35 [some (.ref 0), some (.int x1), some (.int x2), none, none] [] (hz (uF (uF (uF F 1 2 (kx_open x2).1) 1 3 (kx_open x2).2.1) 1 4 (kx_open x2).2.2) A L) _
      generalize hG50 : (kx_open x2) = G50 at hE ⊢
      refine w_n 1 (pc1 := 36) (ls1 := [some (.ref 0), some (.int x1), some (.int x2), none, none]) (st1 := [.ref 0]) (hp1 := (hz (uF (uF (uF F 1 2 G50.1) 1 3 G50.2.1) 1 4 G50.2.2) A L)) rfl ?_
      refine w_c rfl rfl (t_kc_readRanking ?_)
      show wl_E f _ _ mm42.2.2.2.2.2.2.2.2 39 [some (.ref 0), some (.int x1), some (.int x2), none, none] [.long (kc_readRanking G50.1 G50.2.1 G50.2.2 (F 3 0) (A 2)).1] (hz (uF (uF (uF (uF (uF F 1 2 G50.1) 1 3 G50.2.1) 1 4 G50.2.2) 1 3 (kc_readRanking G50.1 G50.2.1 G50.2.2 (F 3 0) (A 2)).2.1) 1 4 (kc_readRanking G50.1 G50.2.1 G50.2.2 (F 3 0) (A 2)).2.2) A L) _
      generalize hG67 : (kc_readRanking G50.1 G50.2.1 G50.2.2 (F 3 0) (A 2)) = G67 at hE ⊢
      refine w_n 4 (pc1 := 45) (ls1 := [some (.ref 0), some (.int x1), some (.int x2), some (.long G67.1), none]) (st1 := [.int 0, .ref 1]) (hp1 := (hz (uF (uF (uF (uF (uF F 1 2 G50.1) 1 3 G50.2.1) 1 4 G50.2.2) 1 3 G67.2.1) 1 4 G67.2.2) A L)) rfl ?_
      refine w_pf (k := 1) (fs := hz_f1 (uF (uF (uF (uF (uF F 1 2 G50.1) 1 3 G50.2.1) 1 4 G50.2.2) 1 3 G67.2.1) 1 4 G67.2.2)) (hp1 := (hz (uF (uF (uF (uF (uF (uF F 1 2 G50.1) 1 3 G50.2.1) 1 4 G50.2.2) 1 3 G67.2.1) 1 4 G67.2.2) 1 1 0) A L)) rfl rfl rfl (hz_p1_1 _) ?_
      refine w_n 3 (pc1 := 55) (ls1 := [some (.ref 0), some (.int x1), some (.int x2), some (.long G67.1), none]) (st1 := [.int G67.2.2]) (hp1 := (hz (uF (uF (uF (uF (uF (uF F 1 2 G50.1) 1 3 G50.2.1) 1 4 G50.2.2) 1 3 G67.2.1) 1 4 G67.2.2) 1 1 0) A L)) rfl ?_
      refine w_zeq (p3 := 58) rfl rfl (fun h => ?_) (fun h => ?_)
      · have h3 : G67.2.2 = 0 := h
        rw [if_pos h3] at hE
        refine w_n 5 (pc1 := 75) (ls1 := [some (.ref 0), some (.int x1), some (.int x2), some (.long G67.1), none]) (st1 := [.long G67.1, .int x1, .ref 11]) (hp1 := (hz (uF (uF (uF (uF (uF (uF F 1 2 G50.1) 1 3 G50.2.1) 1 4 G50.2.2) 1 3 G67.2.1) 1 4 G67.2.2) 1 1 0) A L)) rfl ?_
        refine w_ls (k := 11) (l := (L 11)) (hp1 := (hz (uF (uF (uF (uF (uF (uF F 1 2 G50.1) 1 3 G50.2.1) 1 4 G50.2.2) 1 3 G67.2.1) 1 4 G67.2.2) 1 1 0) A (uL L 11 ((L 11).set x1.toInt.toNat G67.1)))) rfl rfl rfl (hz_s11 _) (fun _ => ?_)
        refine w_n 3 (pc1 := 81) (ls1 := [some (.ref 0), some (.int x1), some (.int x2), some (.long G67.1), none]) (st1 := [.int x1, .ref 3]) (hp1 := (hz (uF (uF (uF (uF (uF (uF F 1 2 G50.1) 1 3 G50.2.1) 1 4 G50.2.2) 1 3 G67.2.1) 1 4 G67.2.2) 1 1 0) A (uL L 11 ((L 11).set x1.toInt.toNat G67.1)))) rfl ?_
        refine w_c rfl rfl (t_kt_steps ?_)
        show wl_E f _ _ mm42.2.2.2.2.2.2.2.2 84 [some (.ref 0), some (.int x1), some (.int x2), some (.long G67.1), none] [.int (kt_steps (F 3 0) ((L 11).set x1.toInt.toNat G67.1) x1)] (hz (uF (uF (uF (uF (uF (uF F 1 2 G50.1) 1 3 G50.2.1) 1 4 G50.2.2) 1 3 G67.2.1) 1 4 G67.2.2) 1 1 0) A (uL L 11 ((L 11).set x1.toInt.toNat G67.1))) _
        generalize hG72 : (kt_steps (F 3 0) ((L 11).set x1.toInt.toNat G67.1) x1) = G72 at hE ⊢
        subst T
        exact w_ri rfl (cvQ (funext fun q => funext fun z => if k0 : q = 1 ∧ z = 1 then by obtain ⟨w1, w2⟩ := k0; subst w1; subst w2; exact Eq.trans (b := 0) rfl rfl else if k1 : q = 1 ∧ z = 2 then by obtain ⟨w1, w2⟩ := k1; subst w1; subst w2; exact Eq.trans (b := G50.1) rfl rfl else if k2 : q = 1 ∧ z = 3 then by obtain ⟨w1, w2⟩ := k2; subst w1; subst w2; exact Eq.trans (b := G67.2.1) rfl rfl else if k3 : q = 1 ∧ z = 4 then by obtain ⟨w1, w2⟩ := k3; subst w1; subst w2; exact Eq.trans (b := G67.2.2) rfl rfl else by unfold uF; simp only [nb2 k0, nb2 k1, nb2 k2, nb2 k3, cond_false]) rfl rfl K)
      · have h3 : ¬ G67.2.2 = 0 := h
        rw [if_neg h3] at hE
        refine w_n 3 (pc1 := 65) (ls1 := [some (.ref 0), some (.int x1), some (.int x2), some (.long G67.1), none]) (st1 := [.int G67.2.2]) (hp1 := (hz (uF (uF (uF (uF (uF (uF F 1 2 G50.1) 1 3 G50.2.1) 1 4 G50.2.2) 1 3 G67.2.1) 1 4 G67.2.2) 1 1 0) A L)) rfl ?_
        subst T
        exact w_ri rfl (cvQ (funext fun q => funext fun z => if k0 : q = 1 ∧ z = 1 then by obtain ⟨w1, w2⟩ := k0; subst w1; subst w2; exact Eq.trans (b := 0) rfl rfl else if k1 : q = 1 ∧ z = 2 then by obtain ⟨w1, w2⟩ := k1; subst w1; subst w2; exact Eq.trans (b := G50.1) rfl rfl else if k2 : q = 1 ∧ z = 3 then by obtain ⟨w1, w2⟩ := k2; subst w1; subst w2; exact Eq.trans (b := G67.2.1) rfl rfl else if k3 : q = 1 ∧ z = 4 then by obtain ⟨w1, w2⟩ := k3; subst w1; subst w2; exact Eq.trans (b := G67.2.2) rfl rfl else by unfold uF; simp only [nb2 k0, nb2 k1, nb2 k2, nb2 k3, cond_false]) rfl (funext fun q => if k0 : q = 11 then by subst k0; exact Eq.trans (b := (L 11)) rfl rfl else by unfold uL; simp only [nb1 k0, cond_false]) K)
    · have h2 : G49 = 0 := h
      rw [if_pos h2] at hE
      refine w_n 1 (pc1 := 26) (ls1 := [some (.ref 0), some (.int x1), some (.int x2), none, none]) (st1 := [.int (-1)]) (hp1 := (hz F A L)) rfl ?_
      subst T
      exact w_ri rfl (cvQ (funext fun q => funext fun z => if k0 : q = 1 ∧ z = 1 then by obtain ⟨w1, w2⟩ := k0; subst w1; subst w2; exact Eq.trans (b := (F 1 1)) rfl rfl else if k1 : q = 1 ∧ z = 2 then by obtain ⟨w1, w2⟩ := k1; subst w1; subst w2; exact Eq.trans (b := (F 1 2)) rfl rfl else if k2 : q = 1 ∧ z = 3 then by obtain ⟨w1, w2⟩ := k2; subst w1; subst w2; exact Eq.trans (b := (F 1 3)) rfl rfl else if k3 : q = 1 ∧ z = 4 then by obtain ⟨w1, w2⟩ := k3; subst w1; subst w2; exact Eq.trans (b := (F 1 4)) rfl rfl else by unfold uF; simp only [nb2 k0, nb2 k1, nb2 k2, nb2 k3, cond_false]) rfl (funext fun q => if k0 : q = 11 then by subst k0; exact Eq.trans (b := (L 11)) rfl rfl else by unfold uL; simp only [nb1 k0, cond_false]) K)
noncomputable def km_ranking_245 (a85 : List Int32) (x1 : Int32) : Nat → Int32 → List Int32 → List Int32
  | 0, _, a68 => a68
  | m + 1, y6, a68 => (km_ranking_245 a85 x1 m (y6 + 1) (a68.set ((72 + (6 * x1)) + y6).toInt.toNat (a85.getD y6.toInt.toNat 0)))
theorem t_km_ranking_245 {f : Nat} {Q : Option Value → sm_H → Prop} : ∀ (m : Nat) {B D : Nat} {F : Nat → Nat → Int32} {A : Nat → List Int32} {L : Nat → List Int64} {x1 : Int32} {x2 : Int32} {x3 : Int32} {x4 : Int32} {x5 : Int32} {y6 : Int32} {o7 : Option Value} {o8 : Option Value}, m = ((F 67 3).toInt - y6.toInt).toNat → (∀ q6 : Int32, wl_E f B D mm172.2.2.2.2.2.2.2.2 282 [some (.ref 67), some (.int x1), some (.int x2), some (.int x3), some (.int x4), some (.int x5), some (.int q6), o7, o8] [] (hz F (uA A 68 (km_ranking_245 (A 85) x1 m y6 (A 68))) L) Q) → wl_E f B D mm172.2.2.2.2.2.2.2.2 245 [some (.ref 67), some (.int x1), some (.int x2), some (.int x3), some (.int x4), some (.int x5), some (.int y6), o7, o8] [] (hz F A L) Q := by
  intro m
  induction m with
  | zero =>
    intro B D F A L x1 x2 x3 x4 x5 y6 o7 o8 hm K
    generalize hT : (km_ranking_245 (A 85) x1 0 y6 (A 68)) = T at K
    have hE : T = (A 68) := hT.symm
    clear hT
    refine w_n 3 (pc1 := 251) (ls1 := [some (.ref 67), some (.int x1), some (.int x2), some (.int x3), some (.int x4), some (.int x5), some (.int y6), o7, o8]) (st1 := [.int (F 67 3), .int y6]) (hp1 := (hz F A L)) rfl ?_
    refine w_ge (p3 := 254) rfl rfl (fun hb => ?_) (fun h => False.elim (by have h : y6.toInt < (F 67 3).toInt := h; omega))
    subst T
    exact cvE rfl (funext fun q => if k0 : q = 68 then by subst k0; exact Eq.trans (b := (A 68)) rfl rfl else by unfold uA; simp only [nb1 k0, cond_false]) rfl (K _)
  | succ m ih =>
    intro B D F A L x1 x2 x3 x4 x5 y6 o7 o8 hm K
    generalize hT : (km_ranking_245 (A 85) x1 (m + 1) y6 (A 68)) = T at K
    have hE : T = (km_ranking_245 (A 85) x1 m (y6 + 1) ((A 68).set ((72 + (6 * x1)) + y6).toInt.toNat ((A 85).getD y6.toInt.toNat 0))) := hT.symm
    clear hT
    refine w_n 3 (pc1 := 251) (ls1 := [some (.ref 67), some (.int x1), some (.int x2), some (.int x3), some (.int x4), some (.int x5), some (.int y6), o7, o8]) (st1 := [.int (F 67 3), .int y6]) (hp1 := (hz F A L)) rfl ?_
    refine w_ge (p3 := 254) rfl rfl (fun h => False.elim (by have h : (F 67 3).toInt ≤ y6.toInt := h; omega)) (fun hb => ?_)
    refine w_n 12 (pc1 := 274) (ls1 := [some (.ref 67), some (.int x1), some (.int x2), some (.int x3), some (.int x4), some (.int x5), some (.int y6), o7, o8]) (st1 := [.int y6, .ref 85, .int ((72 + (6 * x1)) + y6), .ref 68]) (hp1 := (hz F A L)) rfl ?_
    refine w_al (k := 85) (l := (A 85)) rfl rfl rfl (fun ab => ?_)
    refine w_as (k := 68) (l := (A 68)) (hp1 := (hz F (uA A 68 ((A 68).set ((72 + (6 * x1)) + y6).toInt.toNat ((A 85).getD y6.toInt.toNat 0))) L)) rfl rfl rfl (hz_s68 _) (fun _ => ?_)
    refine w_n 2 (pc1 := 245) (ls1 := [some (.ref 67), some (.int x1), some (.int x2), some (.int x3), some (.int x4), some (.int x5), some (.int (y6 + 1)), o7, o8]) (st1 := []) (hp1 := (hz F (uA A 68 ((A 68).set ((72 + (6 * x1)) + y6).toInt.toNat ((A 85).getD y6.toInt.toNat 0))) L)) rfl ?_
    subst T
    have hb2 := i_up (B := (F 67 3)) hb
    have hb3 : y6.toInt < (F 67 3).toInt := hb
    exact ih (show m = ((F 67 3).toInt - (y6 + 1).toInt).toNat by rw [hb2]; omega) (fun q6 => cvE rfl (funext fun q => if k0 : q = 68 then by subst k0; exact Eq.trans (b := (km_ranking_245 (A 85) x1 m (y6 + 1) ((A 68).set ((72 + (6 * x1)) + y6).toInt.toNat ((A 85).getD y6.toInt.toNat 0)))) rfl rfl else by unfold uA; simp only [nb1 k0, cond_false]) rfl (K q6))
noncomputable def km_wrongAt (x1 : Int32) (x2 : Int32) : Int32 × Int32 := (0, (((-1000) * x1) - x2))
theorem t_km_wrongAt {f D : Nat} {F : Nat → Nat → Int32} {A : Nat → List Int32} {L : Nat → List Int64} {Q : Option Value → sm_H → Prop} {x1 : Int32} {x2 : Int32} (K : Q (some (.int ((km_wrongAt x1 x2).1))) (hz (uF F 67 11 ((km_wrongAt x1 x2).2)) A L)) : wl_M f D 154 [.ref 67, .int x1, .int x2] (hz F A L) Q := by
  generalize hT : (km_wrongAt x1 x2) = T at K
  have hE : T = (0, (((-1000) * x1) - x2)) := hT.symm
  clear hT
  refine w_m (E := mm154) rfl ?_
  show wl_E f f (D - 1) mm154.2.2.2.2.2.2.2.2 0 [some (.ref 67), some (.int x1), some (.int x2)] [] (hz F A L) Q
  refine w_n 6 (pc1 := 8) (ls1 := [some (.ref 67), some (.int x1), some (.int x2)]) (st1 := [.int (((-1000) * x1) - x2), .ref 67]) (hp1 := (hz F A L)) rfl ?_
  refine w_pf (k := 67) (fs := hz_f67 F) (hp1 := (hz (uF F 67 11 (((-1000) * x1) - x2)) A L)) rfl rfl rfl (hz_p67_11 _) ?_
  refine w_n 1 (pc1 := 12) (ls1 := [some (.ref 67), some (.int x1), some (.int x2)]) (st1 := [.int 0]) (hp1 := (hz (uF F 67 11 (((-1000) * x1) - x2)) A L)) rfl ?_
  subst T
  exact w_ri rfl (cvQ rfl rfl rfl K)
noncomputable def km_wrongOf (f67_9 : Int32) (x1 : Int32) : Int32 × Int32 := ((km_wrongAt x1 f67_9).2, (km_wrongAt x1 f67_9).2)
theorem t_km_wrongOf {f D : Nat} {F : Nat → Nat → Int32} {A : Nat → List Int32} {L : Nat → List Int64} {Q : Option Value → sm_H → Prop} {x1 : Int32} (K : Q (some (.int ((km_wrongOf (F 67 9) x1).1))) (hz (uF F 67 11 ((km_wrongOf (F 67 9) x1).2)) A L)) : wl_M f D 173 [.ref 67, .int x1] (hz F A L) Q := by
  generalize hT : (km_wrongOf (F 67 9) x1) = T at K
  have hE : T = ((km_wrongAt x1 (F 67 9)).2, (km_wrongAt x1 (F 67 9)).2) := hT.symm
  clear hT
  refine w_m (E := mm173) rfl ?_
  show wl_E f f (D - 1) mm173.2.2.2.2.2.2.2.2 0 [some (.ref 67), some (.int x1)] [] (hz F A L) Q
  refine w_n 4 (pc1 := 6) (ls1 := [some (.ref 67), some (.int x1)]) (st1 := [.int (F 67 9), .int x1, .ref 67]) (hp1 := (hz F A L)) rfl ?_
  refine w_c rfl rfl (t_km_wrongAt ?_)
  show wl_E f _ _ mm173.2.2.2.2.2.2.2.2 9 [some (.ref 67), some (.int x1)] [.int (km_wrongAt x1 (F 67 9)).1] (hz (uF F 67 11 (km_wrongAt x1 (F 67 9)).2) A L) _
  generalize hG76 : (km_wrongAt x1 (F 67 9)) = G76 at hE ⊢
  refine w_n 3 (pc1 := 14) (ls1 := [some (.ref 67), some (.int x1)]) (st1 := [.int G76.2]) (hp1 := (hz (uF F 67 11 G76.2) A L)) rfl ?_
  subst T
  exact w_ri rfl (cvQ rfl rfl rfl K)
noncomputable def km_here (f67_9 : Int32) (f67_10 : Int32) (a71 : List Int32) : Int32 := (if f67_9.toInt < f67_10.toInt then ((a71.getD f67_9.toInt.toNat 0) &&& 255) else (-1))
theorem t_km_here {f D : Nat} {F : Nat → Nat → Int32} {A : Nat → List Int32} {L : Nat → List Int64} {Q : Option Value → sm_H → Prop} (K : Q (some (.int (km_here (F 67 9) (F 67 10) (A 71)))) (hz F A L)) : wl_M f D 153 [.ref 67] (hz F A L) Q := by
  generalize hT : (km_here (F 67 9) (F 67 10) (A 71)) = T at K
  have hE : T = (if (F 67 9).toInt < (F 67 10).toInt then (((A 71).getD (F 67 9).toInt.toNat 0) &&& 255) else (-1)) := hT.symm
  clear hT
  refine w_m (E := mm153) rfl ?_
  show wl_E f f (D - 1) mm153.2.2.2.2.2.2.2.2 0 [some (.ref 67)] [] (hz F A L) Q
  refine w_n 4 (pc1 := 8) (ls1 := [some (.ref 67)]) (st1 := [.int (F 67 10), .int (F 67 9)]) (hp1 := (hz F A L)) rfl ?_
  refine w_ge (p3 := 11) rfl rfl (fun h => ?_) (fun h => ?_)
  · have h1 : (F 67 10).toInt ≤ (F 67 9).toInt := h
    rw [if_neg (Int.not_lt.mpr h1)] at hE
    refine w_n 1 (pc1 := 28) (ls1 := [some (.ref 67)]) (st1 := [.int (-1)]) (hp1 := (hz F A L)) rfl ?_
    subst T
    exact w_ri rfl (cvQ rfl rfl rfl K)
  · have h1 : (F 67 9).toInt < (F 67 10).toInt := h
    rw [if_pos h1] at hE
    refine w_n 4 (pc1 := 19) (ls1 := [some (.ref 67)]) (st1 := [.int (F 67 9), .ref 71]) (hp1 := (hz F A L)) rfl ?_
    refine w_bl (k := 71) (l := (A 71)) rfl rfl rfl (fun _ => ?_)
    refine w_n 3 (pc1 := 28) (ls1 := [some (.ref 67)]) (st1 := [.int (((A 71).getD (F 67 9).toInt.toNat 0) &&& 255)]) (hp1 := (hz F A L)) rfl ?_
    subst T
    exact w_ri rfl (cvQ rfl rfl rfl K)
noncomputable def km_isMeasure (f67_3 : Int32) (x1 : Int32) : Int32 := (km_in x1 0 (f67_3 - 1))
theorem t_km_isMeasure {f D : Nat} {F : Nat → Nat → Int32} {A : Nat → List Int32} {L : Nat → List Int64} {Q : Option Value → sm_H → Prop} {x1 : Int32} (K : Q (some (.int (km_isMeasure (F 67 3) x1))) (hz F A L)) : wl_M f D 174 [.ref 67, .int x1] (hz F A L) Q := by
  generalize hT : (km_isMeasure (F 67 3) x1) = T at K
  have hE : T = (km_in x1 0 ((F 67 3) - 1)) := hT.symm
  clear hT
  refine w_m (E := mm174) rfl ?_
  show wl_E f f (D - 1) mm174.2.2.2.2.2.2.2.2 0 [some (.ref 67), some (.int x1)] [] (hz F A L) Q
  refine w_n 6 (pc1 := 8) (ls1 := [some (.ref 67), some (.int x1)]) (st1 := [.int ((F 67 3) - 1), .int 0, .int x1]) (hp1 := (hz F A L)) rfl ?_
  refine w_c rfl rfl (t_km_in ?_)
  show wl_E f _ _ mm174.2.2.2.2.2.2.2.2 11 [some (.ref 67), some (.int x1)] [.int (km_in x1 0 ((F 67 3) - 1))] (hz F A L) _
  generalize hG79 : (km_in x1 0 ((F 67 3) - 1)) = G79 at hE ⊢
  subst T
  exact w_ri rfl (cvQ rfl rfl rfl K)
noncomputable def km_ranking_54 (f67_3 : Int32) (f67_8 : Int32) (f67_10 : Int32) (f67_11 : Int32) (a68 : List Int32) (a71 : List Int32) (x1 : Int32) : Nat → Int32 → Int32 → Int32 → Int32 → Int32 → List Int32 → Int32 × Int32 × Int32 × Int32 × Int32 × List Int32 × List Int32
  | 0, _, y4, _, _, f67_9, a85 => (if f67_9.toInt < f67_10.toInt then ((km_wrongOf f67_9 1).1, f67_8, f67_9, f67_10, (km_wrongOf f67_9 1).2, a68, a85) else (y4, f67_8, f67_9, f67_10, f67_11, (km_ranking_245 a85 x1 f67_3.toInt.toNat 0 a68), a85))
  | m + 1, y3, y4, y5, y6, f67_9, a85 => (if 0 < y6.toInt then (if (km_here f67_9 f67_10 a71) = 61 then (if (km_isMeasure f67_3 ((km_here (f67_9 + 1) f67_10 a71) - 97)) = 0 then ((km_wrongOf (f67_9 + 1) 1).1, f67_8, (f67_9 + 1), f67_10, (km_wrongOf (f67_9 + 1) 1).2, a68, a85) else (if (km_has y3 ((km_here (f67_9 + 1) f67_10 a71) - 97)) = 0 then (km_ranking_54 f67_3 f67_8 f67_10 f67_11 a68 a71 x1 m (y3 ||| ((1 : Int32) <<< (((km_here (f67_9 + 1) f67_10 a71) - 97) &&& 31))) (y4 + 0) y5 (y6 + 1) ((f67_9 + 1) + 1) (a85.set ((km_here (f67_9 + 1) f67_10 a71) - 97).toInt.toNat y5)) else ((km_wrongOf (f67_9 + 1) 6).1, f67_8, (f67_9 + 1), f67_10, (km_wrongOf (f67_9 + 1) 6).2, a68, a85))) else (if (km_here f67_9 f67_10 a71) = 62 then (if (km_isMeasure f67_3 ((km_here (f67_9 + 1) f67_10 a71) - 97)) = 0 then ((km_wrongOf (f67_9 + 1) 1).1, f67_8, (f67_9 + 1), f67_10, (km_wrongOf (f67_9 + 1) 1).2, a68, a85) else (if (km_has y3 ((km_here (f67_9 + 1) f67_10 a71) - 97)) = 0 then (km_ranking_54 f67_3 f67_8 f67_10 f67_11 a68 a71 x1 m (y3 ||| ((1 : Int32) <<< (((km_here (f67_9 + 1) f67_10 a71) - 97) &&& 31))) (y4 + 1) y6 (y6 + 1) ((f67_9 + 1) + 1) (a85.set ((km_here (f67_9 + 1) f67_10 a71) - 97).toInt.toNat y6)) else ((km_wrongOf (f67_9 + 1) 6).1, f67_8, (f67_9 + 1), f67_10, (km_wrongOf (f67_9 + 1) 6).2, a68, a85))) else ((km_wrongOf f67_9 1).1, f67_8, f67_9, f67_10, (km_wrongOf f67_9 1).2, a68, a85))) else (if (km_isMeasure f67_3 ((km_here f67_9 f67_10 a71) - 97)) = 0 then ((km_wrongOf f67_9 1).1, f67_8, f67_9, f67_10, (km_wrongOf f67_9 1).2, a68, a85) else (if (km_has y3 ((km_here f67_9 f67_10 a71) - 97)) = 0 then (km_ranking_54 f67_3 f67_8 f67_10 f67_11 a68 a71 x1 m (y3 ||| ((1 : Int32) <<< (((km_here f67_9 f67_10 a71) - 97) &&& 31))) (y4 + 1) y6 (y6 + 1) (f67_9 + 1) (a85.set ((km_here f67_9 f67_10 a71) - 97).toInt.toNat y6)) else ((km_wrongOf f67_9 6).1, f67_8, f67_9, f67_10, (km_wrongOf f67_9 6).2, a68, a85))))
theorem t_km_ranking_54 {f : Nat} {Q : Option Value → sm_H → Prop} : ∀ (m : Nat) {B D : Nat} {F : Nat → Nat → Int32} {A : Nat → List Int32} {L : Nat → List Int64} {x1 : Int32} {x2 : Int32} {y3 : Int32} {y4 : Int32} {y5 : Int32} {y6 : Int32} {o7 : Option Value} {o8 : Option Value}, m = ((F 67 3).toInt - y6.toInt).toNat → (Q (some (.int ((km_ranking_54 (F 67 3) (F 67 8) (F 67 10) (F 67 11) (A 68) (A 71) x1 m y3 y4 y5 y6 (F 67 9) (A 85)).1))) (hz (uF (uF (uF (uF F 67 8 ((km_ranking_54 (F 67 3) (F 67 8) (F 67 10) (F 67 11) (A 68) (A 71) x1 m y3 y4 y5 y6 (F 67 9) (A 85)).2.1)) 67 9 ((km_ranking_54 (F 67 3) (F 67 8) (F 67 10) (F 67 11) (A 68) (A 71) x1 m y3 y4 y5 y6 (F 67 9) (A 85)).2.2.1)) 67 10 ((km_ranking_54 (F 67 3) (F 67 8) (F 67 10) (F 67 11) (A 68) (A 71) x1 m y3 y4 y5 y6 (F 67 9) (A 85)).2.2.2.1)) 67 11 ((km_ranking_54 (F 67 3) (F 67 8) (F 67 10) (F 67 11) (A 68) (A 71) x1 m y3 y4 y5 y6 (F 67 9) (A 85)).2.2.2.2.1)) (uA (uA A 68 ((km_ranking_54 (F 67 3) (F 67 8) (F 67 10) (F 67 11) (A 68) (A 71) x1 m y3 y4 y5 y6 (F 67 9) (A 85)).2.2.2.2.2.1)) 85 ((km_ranking_54 (F 67 3) (F 67 8) (F 67 10) (F 67 11) (A 68) (A 71) x1 m y3 y4 y5 y6 (F 67 9) (A 85)).2.2.2.2.2.2)) L)) → wl_E f B D mm172.2.2.2.2.2.2.2.2 54 [some (.ref 67), some (.int x1), some (.int x2), some (.int y3), some (.int y4), some (.int y5), some (.int y6), o7, o8] [] (hz F A L) Q := by
  intro m
  induction m with
  | zero =>
    intro B D F A L x1 x2 y3 y4 y5 y6 o7 o8 hm K
    generalize hT : (km_ranking_54 (F 67 3) (F 67 8) (F 67 10) (F 67 11) (A 68) (A 71) x1 0 y3 y4 y5 y6 (F 67 9) (A 85)) = T at K
    have hE : T = (if (F 67 9).toInt < (F 67 10).toInt then ((km_wrongOf (F 67 9) 1).1, (F 67 8), (F 67 9), (F 67 10), (km_wrongOf (F 67 9) 1).2, (A 68), (A 85)) else (y4, (F 67 8), (F 67 9), (F 67 10), (F 67 11), (km_ranking_245 (A 85) x1 (F 67 3).toInt.toNat 0 (A 68)), (A 85))) := hT.symm
    clear hT
    refine w_n 3 (pc1 := 60) (ls1 := [some (.ref 67), some (.int x1), some (.int x2), some (.int y3), some (.int y4), some (.int y5), some (.int y6), o7, o8]) (st1 := [.int (F 67 3), .int y6]) (hp1 := (hz F A L)) rfl ?_
    refine w_ge (p3 := 63) rfl rfl (fun hb => ?_) (fun h => False.elim (by have h : y6.toInt < (F 67 3).toInt := h; omega))
    refine w_n 4 (pc1 := 233) (ls1 := [some (.ref 67), some (.int x1), some (.int x2), some (.int y3), some (.int y4), some (.int y5), some (.int y6), o7, o8]) (st1 := [.int (F 67 10), .int (F 67 9)]) (hp1 := (hz F A L)) rfl ?_
    refine w_ge (p3 := 236) rfl rfl (fun h => ?_) (fun h => ?_)
    · have h1 : (F 67 10).toInt ≤ (F 67 9).toInt := h
      rw [if_neg (Int.not_lt.mpr h1)] at hE
      refine w_n 2 (pc1 := 245) (ls1 := [some (.ref 67), some (.int x1), some (.int x2), some (.int y3), some (.int y4), some (.int y5), some (.int 0), o7, o8]) (st1 := []) (hp1 := (hz F A L)) rfl ?_
      refine t_km_ranking_245 (F 67 3).toInt.toNat (show (F 67 3).toInt.toNat = ((F 67 3).toInt - (0 : Int32).toInt).toNat by have e0 : (0 : Int32).toInt = 0 := rfl; first | rfl | omega) ?_
      intro r1
      show wl_E f _ _ mm172.2.2.2.2.2.2.2.2 282 [some (.ref 67), some (.int x1), some (.int x2), some (.int y3), some (.int y4), some (.int y5), some (.int r1), o7, o8] [] (hz F (uA A 68 (km_ranking_245 (A 85) x1 (F 67 3).toInt.toNat 0 (A 68))) L) _
      generalize hG75 : (km_ranking_245 (A 85) x1 (F 67 3).toInt.toNat 0 (A 68)) = G75 at hE ⊢
      refine w_n 1 (pc1 := 284) (ls1 := [some (.ref 67), some (.int x1), some (.int x2), some (.int y3), some (.int y4), some (.int y5), some (.int r1), o7, o8]) (st1 := [.int y4]) (hp1 := (hz F (uA A 68 G75) L)) rfl ?_
      subst T
      exact w_ri rfl (cvQ (funext fun q => funext fun z => if k0 : q = 67 ∧ z = 8 then by obtain ⟨w1, w2⟩ := k0; subst w1; subst w2; exact Eq.trans (b := (F 67 8)) rfl rfl else if k1 : q = 67 ∧ z = 9 then by obtain ⟨w1, w2⟩ := k1; subst w1; subst w2; exact Eq.trans (b := (F 67 9)) rfl rfl else if k2 : q = 67 ∧ z = 10 then by obtain ⟨w1, w2⟩ := k2; subst w1; subst w2; exact Eq.trans (b := (F 67 10)) rfl rfl else if k3 : q = 67 ∧ z = 11 then by obtain ⟨w1, w2⟩ := k3; subst w1; subst w2; exact Eq.trans (b := (F 67 11)) rfl rfl else by unfold uF; simp only [nb2 k0, nb2 k1, nb2 k2, nb2 k3, cond_false]) (funext fun q => if k0 : q = 68 then by subst k0; exact Eq.trans (b := G75) rfl rfl else if k1 : q = 85 then by subst k1; exact Eq.trans (b := (A 85)) rfl rfl else by unfold uA; simp only [nb1 k0, nb1 k1, cond_false]) rfl K)
    · have h1 : (F 67 9).toInt < (F 67 10).toInt := h
      rw [if_pos h1] at hE
      refine w_n 2 (pc1 := 238) (ls1 := [some (.ref 67), some (.int x1), some (.int x2), some (.int y3), some (.int y4), some (.int y5), some (.int y6), o7, o8]) (st1 := [.int 1, .ref 67]) (hp1 := (hz F A L)) rfl ?_
      refine w_c rfl rfl (t_km_wrongOf ?_)
      show wl_E f _ _ mm172.2.2.2.2.2.2.2.2 241 [some (.ref 67), some (.int x1), some (.int x2), some (.int y3), some (.int y4), some (.int y5), some (.int y6), o7, o8] [.int (km_wrongOf (F 67 9) 1).1] (hz (uF F 67 11 (km_wrongOf (F 67 9) 1).2) A L) _
      generalize hG77 : (km_wrongOf (F 67 9) 1) = G77 at hE ⊢
      subst T
      exact w_ri rfl (cvQ (funext fun q => funext fun z => if k0 : q = 67 ∧ z = 8 then by obtain ⟨w1, w2⟩ := k0; subst w1; subst w2; exact Eq.trans (b := (F 67 8)) rfl rfl else if k1 : q = 67 ∧ z = 9 then by obtain ⟨w1, w2⟩ := k1; subst w1; subst w2; exact Eq.trans (b := (F 67 9)) rfl rfl else if k2 : q = 67 ∧ z = 10 then by obtain ⟨w1, w2⟩ := k2; subst w1; subst w2; exact Eq.trans (b := (F 67 10)) rfl rfl else if k3 : q = 67 ∧ z = 11 then by obtain ⟨w1, w2⟩ := k3; subst w1; subst w2; exact Eq.trans (b := G77.2) rfl rfl else by unfold uF; simp only [nb2 k0, nb2 k1, nb2 k2, nb2 k3, cond_false]) (funext fun q => if k0 : q = 68 then by subst k0; exact Eq.trans (b := (A 68)) rfl rfl else if k1 : q = 85 then by subst k1; exact Eq.trans (b := (A 85)) rfl rfl else by unfold uA; simp only [nb1 k0, nb1 k1, cond_false]) rfl K)
  | succ m ih =>
    intro B D F A L x1 x2 y3 y4 y5 y6 o7 o8 hm K
    generalize hT : (km_ranking_54 (F 67 3) (F 67 8) (F 67 10) (F 67 11) (A 68) (A 71) x1 (m + 1) y3 y4 y5 y6 (F 67 9) (A 85)) = T at K
    have hE : T = (if 0 < y6.toInt then (if (km_here (F 67 9) (F 67 10) (A 71)) = 61 then (if (km_isMeasure (F 67 3) ((km_here ((F 67 9) + 1) (F 67 10) (A 71)) - 97)) = 0 then ((km_wrongOf ((F 67 9) + 1) 1).1, (F 67 8), ((F 67 9) + 1), (F 67 10), (km_wrongOf ((F 67 9) + 1) 1).2, (A 68), (A 85)) else (if (km_has y3 ((km_here ((F 67 9) + 1) (F 67 10) (A 71)) - 97)) = 0 then (km_ranking_54 (F 67 3) (F 67 8) (F 67 10) (F 67 11) (A 68) (A 71) x1 m (y3 ||| ((1 : Int32) <<< (((km_here ((F 67 9) + 1) (F 67 10) (A 71)) - 97) &&& 31))) (y4 + 0) y5 (y6 + 1) (((F 67 9) + 1) + 1) ((A 85).set ((km_here ((F 67 9) + 1) (F 67 10) (A 71)) - 97).toInt.toNat y5)) else ((km_wrongOf ((F 67 9) + 1) 6).1, (F 67 8), ((F 67 9) + 1), (F 67 10), (km_wrongOf ((F 67 9) + 1) 6).2, (A 68), (A 85)))) else (if (km_here (F 67 9) (F 67 10) (A 71)) = 62 then (if (km_isMeasure (F 67 3) ((km_here ((F 67 9) + 1) (F 67 10) (A 71)) - 97)) = 0 then ((km_wrongOf ((F 67 9) + 1) 1).1, (F 67 8), ((F 67 9) + 1), (F 67 10), (km_wrongOf ((F 67 9) + 1) 1).2, (A 68), (A 85)) else (if (km_has y3 ((km_here ((F 67 9) + 1) (F 67 10) (A 71)) - 97)) = 0 then (km_ranking_54 (F 67 3) (F 67 8) (F 67 10) (F 67 11) (A 68) (A 71) x1 m (y3 ||| ((1 : Int32) <<< (((km_here ((F 67 9) + 1) (F 67 10) (A 71)) - 97) &&& 31))) (y4 + 1) y6 (y6 + 1) (((F 67 9) + 1) + 1) ((A 85).set ((km_here ((F 67 9) + 1) (F 67 10) (A 71)) - 97).toInt.toNat y6)) else ((km_wrongOf ((F 67 9) + 1) 6).1, (F 67 8), ((F 67 9) + 1), (F 67 10), (km_wrongOf ((F 67 9) + 1) 6).2, (A 68), (A 85)))) else ((km_wrongOf (F 67 9) 1).1, (F 67 8), (F 67 9), (F 67 10), (km_wrongOf (F 67 9) 1).2, (A 68), (A 85)))) else (if (km_isMeasure (F 67 3) ((km_here (F 67 9) (F 67 10) (A 71)) - 97)) = 0 then ((km_wrongOf (F 67 9) 1).1, (F 67 8), (F 67 9), (F 67 10), (km_wrongOf (F 67 9) 1).2, (A 68), (A 85)) else (if (km_has y3 ((km_here (F 67 9) (F 67 10) (A 71)) - 97)) = 0 then (km_ranking_54 (F 67 3) (F 67 8) (F 67 10) (F 67 11) (A 68) (A 71) x1 m (y3 ||| ((1 : Int32) <<< (((km_here (F 67 9) (F 67 10) (A 71)) - 97) &&& 31))) (y4 + 1) y6 (y6 + 1) ((F 67 9) + 1) ((A 85).set ((km_here (F 67 9) (F 67 10) (A 71)) - 97).toInt.toNat y6)) else ((km_wrongOf (F 67 9) 6).1, (F 67 8), (F 67 9), (F 67 10), (km_wrongOf (F 67 9) 6).2, (A 68), (A 85))))) := hT.symm
    clear hT
    refine w_n 3 (pc1 := 60) (ls1 := [some (.ref 67), some (.int x1), some (.int x2), some (.int y3), some (.int y4), some (.int y5), some (.int y6), o7, o8]) (st1 := [.int (F 67 3), .int y6]) (hp1 := (hz F A L)) rfl ?_
    refine w_ge (p3 := 63) rfl rfl (fun h => False.elim (by have h : (F 67 3).toInt ≤ y6.toInt := h; omega)) (fun hb => ?_)
    refine w_n 1 (pc1 := 65) (ls1 := [some (.ref 67), some (.int x1), some (.int x2), some (.int y3), some (.int y4), some (.int y5), some (.int y6), o7, o8]) (st1 := [.int y6]) (hp1 := (hz F A L)) rfl ?_
    refine w_zle (p3 := 68) rfl rfl (fun h => ?_) (fun h => ?_)
    · have h2 : y6.toInt ≤ 0 := h
      rw [if_neg (Int.not_lt.mpr h2)] at hE
      refine w_n 3 (pc1 := 86) (ls1 := [some (.ref 67), some (.int x1), some (.int x2), some (.int y3), some (.int y4), some (.int y5), some (.int y6), some (.int 0), o8]) (st1 := [.int y6]) (hp1 := (hz F A L)) rfl ?_
      refine w_zle (p3 := 89) rfl rfl (fun _ => ?_) (fun h => False.elim (by have h : 0 < y6.toInt := h; omega))
      refine w_n 1 (pc1 := 111) (ls1 := [some (.ref 67), some (.int x1), some (.int x2), some (.int y3), some (.int y4), some (.int y5), some (.int y6), some (.int 0), o8]) (st1 := [.int y6]) (hp1 := (hz F A L)) rfl ?_
      refine w_zle (p3 := 114) rfl rfl (fun _ => ?_) (fun h => False.elim (by have h : 0 < y6.toInt := h; omega))
      refine w_n 1 (pc1 := 125) (ls1 := [some (.ref 67), some (.int x1), some (.int x2), some (.int y3), some (.int y4), some (.int y5), some (.int y6), some (.int 0), o8]) (st1 := [.ref 67]) (hp1 := (hz F A L)) rfl ?_
      refine w_c rfl rfl (t_km_here ?_)
      show wl_E f _ _ mm172.2.2.2.2.2.2.2.2 128 [some (.ref 67), some (.int x1), some (.int x2), some (.int y3), some (.int y4), some (.int y5), some (.int y6), some (.int 0), o8] [.int (km_here (F 67 9) (F 67 10) (A 71))] (hz F A L) _
      generalize hG78 : (km_here (F 67 9) (F 67 10) (A 71)) = G78 at hE ⊢
      refine w_n 5 (pc1 := 136) (ls1 := [some (.ref 67), some (.int x1), some (.int x2), some (.int y3), some (.int y4), some (.int y5), some (.int y6), some (.int 0), some (.int (G78 - 97))]) (st1 := [.int (G78 - 97), .ref 67]) (hp1 := (hz F A L)) rfl ?_
      refine w_c rfl rfl (t_km_isMeasure ?_)
      show wl_E f _ _ mm172.2.2.2.2.2.2.2.2 139 [some (.ref 67), some (.int x1), some (.int x2), some (.int y3), some (.int y4), some (.int y5), some (.int y6), some (.int 0), some (.int (G78 - 97))] [.int (km_isMeasure (F 67 3) (G78 - 97))] (hz F A L) _
      generalize hG80 : (km_isMeasure (F 67 3) (G78 - 97)) = G80 at hE ⊢
      refine w_zne (p3 := 142) rfl rfl (fun h => ?_) (fun h => ?_)
      · have h3 : ¬ G80 = 0 := h
        rw [if_neg h3] at hE
        refine w_n 2 (pc1 := 151) (ls1 := [some (.ref 67), some (.int x1), some (.int x2), some (.int y3), some (.int y4), some (.int y5), some (.int y6), some (.int 0), some (.int (G78 - 97))]) (st1 := [.int (G78 - 97), .int y3]) (hp1 := (hz F A L)) rfl ?_
        refine w_c rfl rfl (t_km_has ?_)
        show wl_E f _ _ mm172.2.2.2.2.2.2.2.2 154 [some (.ref 67), some (.int x1), some (.int x2), some (.int y3), some (.int y4), some (.int y5), some (.int y6), some (.int 0), some (.int (G78 - 97))] [.int (km_has y3 (G78 - 97))] (hz F A L) _
        generalize hG81 : (km_has y3 (G78 - 97)) = G81 at hE ⊢
        refine w_zeq (p3 := 157) rfl rfl (fun h => ?_) (fun h => ?_)
        · have h4 : G81 = 0 := h
          rw [if_pos h4] at hE
          refine w_n 7 (pc1 := 173) (ls1 := [some (.ref 67), some (.int x1), some (.int x2), some (.int (y3 ||| ((1 : Int32) <<< ((G78 - 97) &&& 31)))), some (.int y4), some (.int y5), some (.int y6), some (.int 0), some (.int (G78 - 97))]) (st1 := [.int 0]) (hp1 := (hz F A L)) rfl ?_
          refine w_zeq (p3 := 176) rfl rfl (fun _ => ?_) (fun h => absurd h (by decide))
          refine w_n 4 (pc1 := 189) (ls1 := [some (.ref 67), some (.int x1), some (.int x2), some (.int (y3 ||| ((1 : Int32) <<< ((G78 - 97) &&& 31)))), some (.int y4), some (.int y6), some (.int y6), some (.int 0), some (.int (G78 - 97))]) (st1 := [.int 0, .int y4]) (hp1 := (hz F A L)) rfl ?_
          refine w_zeq (p3 := 192) rfl rfl (fun _ => ?_) (fun h => absurd h (by decide))
          refine w_n 7 (pc1 := 208) (ls1 := [some (.ref 67), some (.int x1), some (.int x2), some (.int (y3 ||| ((1 : Int32) <<< ((G78 - 97) &&& 31)))), some (.int (y4 + 1)), some (.int y6), some (.int y6), some (.int 0), some (.int (G78 - 97))]) (st1 := [.int y6, .int (G78 - 97), .ref 85]) (hp1 := (hz F A L)) rfl ?_
          refine w_as (k := 85) (l := (A 85)) (hp1 := (hz F (uA A 85 ((A 85).set (G78 - 97).toInt.toNat y6)) L)) rfl rfl rfl (hz_s85 _) (fun _ => ?_)
          refine w_n 5 (pc1 := 216) (ls1 := [some (.ref 67), some (.int x1), some (.int x2), some (.int (y3 ||| ((1 : Int32) <<< ((G78 - 97) &&& 31)))), some (.int (y4 + 1)), some (.int y6), some (.int y6), some (.int 0), some (.int (G78 - 97))]) (st1 := [.int ((F 67 9) + 1), .ref 67]) (hp1 := (hz F (uA A 85 ((A 85).set (G78 - 97).toInt.toNat y6)) L)) rfl ?_
          refine w_pf (k := 67) (fs := hz_f67 F) (hp1 := (hz (uF F 67 9 ((F 67 9) + 1)) (uA A 85 ((A 85).set (G78 - 97).toInt.toNat y6)) L)) rfl rfl rfl (hz_p67_9 _) ?_
          refine w_n 2 (pc1 := 54) (ls1 := [some (.ref 67), some (.int x1), some (.int x2), some (.int (y3 ||| ((1 : Int32) <<< ((G78 - 97) &&& 31)))), some (.int (y4 + 1)), some (.int y6), some (.int (y6 + 1)), some (.int 0), some (.int (G78 - 97))]) (st1 := []) (hp1 := (hz (uF F 67 9 ((F 67 9) + 1)) (uA A 85 ((A 85).set (G78 - 97).toInt.toNat y6)) L)) rfl ?_
          subst T
          have hb2 := i_up (B := (F 67 3)) hb
          have hb3 : y6.toInt < (F 67 3).toInt := hb
          exact ih (show m = ((F 67 3).toInt - (y6 + 1).toInt).toNat by rw [hb2]; omega) (cvQ (funext fun q => funext fun z => if k0 : q = 67 ∧ z = 8 then by obtain ⟨w1, w2⟩ := k0; subst w1; subst w2; exact Eq.trans (b := (km_ranking_54 (F 67 3) (F 67 8) (F 67 10) (F 67 11) (A 68) (A 71) x1 m (y3 ||| ((1 : Int32) <<< ((G78 - 97) &&& 31))) (y4 + 1) y6 (y6 + 1) ((F 67 9) + 1) ((A 85).set (G78 - 97).toInt.toNat y6)).2.1) rfl rfl else if k1 : q = 67 ∧ z = 9 then by obtain ⟨w1, w2⟩ := k1; subst w1; subst w2; exact Eq.trans (b := (km_ranking_54 (F 67 3) (F 67 8) (F 67 10) (F 67 11) (A 68) (A 71) x1 m (y3 ||| ((1 : Int32) <<< ((G78 - 97) &&& 31))) (y4 + 1) y6 (y6 + 1) ((F 67 9) + 1) ((A 85).set (G78 - 97).toInt.toNat y6)).2.2.1) rfl rfl else if k2 : q = 67 ∧ z = 10 then by obtain ⟨w1, w2⟩ := k2; subst w1; subst w2; exact Eq.trans (b := (km_ranking_54 (F 67 3) (F 67 8) (F 67 10) (F 67 11) (A 68) (A 71) x1 m (y3 ||| ((1 : Int32) <<< ((G78 - 97) &&& 31))) (y4 + 1) y6 (y6 + 1) ((F 67 9) + 1) ((A 85).set (G78 - 97).toInt.toNat y6)).2.2.2.1) rfl rfl else if k3 : q = 67 ∧ z = 11 then by obtain ⟨w1, w2⟩ := k3; subst w1; subst w2; exact Eq.trans (b := (km_ranking_54 (F 67 3) (F 67 8) (F 67 10) (F 67 11) (A 68) (A 71) x1 m (y3 ||| ((1 : Int32) <<< ((G78 - 97) &&& 31))) (y4 + 1) y6 (y6 + 1) ((F 67 9) + 1) ((A 85).set (G78 - 97).toInt.toNat y6)).2.2.2.2.1) rfl rfl else by unfold uF; simp only [nb2 k0, nb2 k1, nb2 k2, nb2 k3, cond_false]) (funext fun q => if k0 : q = 68 then by subst k0; exact Eq.trans (b := (km_ranking_54 (F 67 3) (F 67 8) (F 67 10) (F 67 11) (A 68) (A 71) x1 m (y3 ||| ((1 : Int32) <<< ((G78 - 97) &&& 31))) (y4 + 1) y6 (y6 + 1) ((F 67 9) + 1) ((A 85).set (G78 - 97).toInt.toNat y6)).2.2.2.2.2.1) rfl rfl else if k1 : q = 85 then by subst k1; exact Eq.trans (b := (km_ranking_54 (F 67 3) (F 67 8) (F 67 10) (F 67 11) (A 68) (A 71) x1 m (y3 ||| ((1 : Int32) <<< ((G78 - 97) &&& 31))) (y4 + 1) y6 (y6 + 1) ((F 67 9) + 1) ((A 85).set (G78 - 97).toInt.toNat y6)).2.2.2.2.2.2) rfl rfl else by unfold uA; simp only [nb1 k0, nb1 k1, cond_false]) rfl K)
        · have h4 : ¬ G81 = 0 := h
          rw [if_neg h4] at hE
          refine w_n 2 (pc1 := 160) (ls1 := [some (.ref 67), some (.int x1), some (.int x2), some (.int y3), some (.int y4), some (.int y5), some (.int y6), some (.int 0), some (.int (G78 - 97))]) (st1 := [.int 6, .ref 67]) (hp1 := (hz F A L)) rfl ?_
          refine w_c rfl rfl (t_km_wrongOf ?_)
          show wl_E f _ _ mm172.2.2.2.2.2.2.2.2 163 [some (.ref 67), some (.int x1), some (.int x2), some (.int y3), some (.int y4), some (.int y5), some (.int y6), some (.int 0), some (.int (G78 - 97))] [.int (km_wrongOf (F 67 9) 6).1] (hz (uF F 67 11 (km_wrongOf (F 67 9) 6).2) A L) _
          generalize hG82 : (km_wrongOf (F 67 9) 6) = G82 at hE ⊢
          subst T
          exact w_ri rfl (cvQ (funext fun q => funext fun z => if k0 : q = 67 ∧ z = 8 then by obtain ⟨w1, w2⟩ := k0; subst w1; subst w2; exact Eq.trans (b := (F 67 8)) rfl rfl else if k1 : q = 67 ∧ z = 9 then by obtain ⟨w1, w2⟩ := k1; subst w1; subst w2; exact Eq.trans (b := (F 67 9)) rfl rfl else if k2 : q = 67 ∧ z = 10 then by obtain ⟨w1, w2⟩ := k2; subst w1; subst w2; exact Eq.trans (b := (F 67 10)) rfl rfl else if k3 : q = 67 ∧ z = 11 then by obtain ⟨w1, w2⟩ := k3; subst w1; subst w2; exact Eq.trans (b := G82.2) rfl rfl else by unfold uF; simp only [nb2 k0, nb2 k1, nb2 k2, nb2 k3, cond_false]) (funext fun q => if k0 : q = 68 then by subst k0; exact Eq.trans (b := (A 68)) rfl rfl else if k1 : q = 85 then by subst k1; exact Eq.trans (b := (A 85)) rfl rfl else by unfold uA; simp only [nb1 k0, nb1 k1, cond_false]) rfl K)
      · have h3 : G80 = 0 := h
        rw [if_pos h3] at hE
        refine w_n 2 (pc1 := 144) (ls1 := [some (.ref 67), some (.int x1), some (.int x2), some (.int y3), some (.int y4), some (.int y5), some (.int y6), some (.int 0), some (.int (G78 - 97))]) (st1 := [.int 1, .ref 67]) (hp1 := (hz F A L)) rfl ?_
        refine w_c rfl rfl (t_km_wrongOf ?_)
        show wl_E f _ _ mm172.2.2.2.2.2.2.2.2 147 [some (.ref 67), some (.int x1), some (.int x2), some (.int y3), some (.int y4), some (.int y5), some (.int y6), some (.int 0), some (.int (G78 - 97))] [.int (km_wrongOf (F 67 9) 1).1] (hz (uF F 67 11 (km_wrongOf (F 67 9) 1).2) A L) _
        generalize hG83 : (km_wrongOf (F 67 9) 1) = G83 at hE ⊢
        subst T
        exact w_ri rfl (cvQ (funext fun q => funext fun z => if k0 : q = 67 ∧ z = 8 then by obtain ⟨w1, w2⟩ := k0; subst w1; subst w2; exact Eq.trans (b := (F 67 8)) rfl rfl else if k1 : q = 67 ∧ z = 9 then by obtain ⟨w1, w2⟩ := k1; subst w1; subst w2; exact Eq.trans (b := (F 67 9)) rfl rfl else if k2 : q = 67 ∧ z = 10 then by obtain ⟨w1, w2⟩ := k2; subst w1; subst w2; exact Eq.trans (b := (F 67 10)) rfl rfl else if k3 : q = 67 ∧ z = 11 then by obtain ⟨w1, w2⟩ := k3; subst w1; subst w2; exact Eq.trans (b := G83.2) rfl rfl else by unfold uF; simp only [nb2 k0, nb2 k1, nb2 k2, nb2 k3, cond_false]) (funext fun q => if k0 : q = 68 then by subst k0; exact Eq.trans (b := (A 68)) rfl rfl else if k1 : q = 85 then by subst k1; exact Eq.trans (b := (A 85)) rfl rfl else by unfold uA; simp only [nb1 k0, nb1 k1, cond_false]) rfl K)
    · have h2 : 0 < y6.toInt := h
      rw [if_pos h2] at hE
      refine w_n 1 (pc1 := 69) (ls1 := [some (.ref 67), some (.int x1), some (.int x2), some (.int y3), some (.int y4), some (.int y5), some (.int y6), o7, o8]) (st1 := [.ref 67]) (hp1 := (hz F A L)) rfl ?_
      refine w_c rfl rfl (t_km_here ?_)
      show wl_E f _ _ mm172.2.2.2.2.2.2.2.2 72 [some (.ref 67), some (.int x1), some (.int x2), some (.int y3), some (.int y4), some (.int y5), some (.int y6), o7, o8] [.int (km_here (F 67 9) (F 67 10) (A 71))] (hz F A L) _
      generalize hG84 : (km_here (F 67 9) (F 67 10) (A 71)) = G84 at hE ⊢
      refine w_n 1 (pc1 := 74) (ls1 := [some (.ref 67), some (.int x1), some (.int x2), some (.int y3), some (.int y4), some (.int y5), some (.int y6), o7, o8]) (st1 := [.int 61, .int G84]) (hp1 := (hz F A L)) rfl ?_
      refine w_ne (p3 := 77) rfl rfl (fun h => ?_) (fun h => ?_)
      · have h5 : ¬ G84 = 61 := h
        rw [if_neg h5] at hE
        refine w_n 3 (pc1 := 86) (ls1 := [some (.ref 67), some (.int x1), some (.int x2), some (.int y3), some (.int y4), some (.int y5), some (.int y6), some (.int 0), o8]) (st1 := [.int y6]) (hp1 := (hz F A L)) rfl ?_
        refine w_zle (p3 := 89) rfl rfl (fun h => False.elim (by have h : y6.toInt ≤ 0 := h; omega)) (fun _ => ?_)
        refine w_n 1 (pc1 := 91) (ls1 := [some (.ref 67), some (.int x1), some (.int x2), some (.int y3), some (.int y4), some (.int y5), some (.int y6), some (.int 0), o8]) (st1 := [.int 0]) (hp1 := (hz F A L)) rfl ?_
        refine w_zne (p3 := 94) rfl rfl (fun h => absurd h (by decide)) (fun _ => ?_)
        refine w_n 1 (pc1 := 95) (ls1 := [some (.ref 67), some (.int x1), some (.int x2), some (.int y3), some (.int y4), some (.int y5), some (.int y6), some (.int 0), o8]) (st1 := [.ref 67]) (hp1 := (hz F A L)) rfl ?_
        refine w_c rfl rfl (t_km_here ?_)
        show wl_E f _ _ mm172.2.2.2.2.2.2.2.2 98 [some (.ref 67), some (.int x1), some (.int x2), some (.int y3), some (.int y4), some (.int y5), some (.int y6), some (.int 0), o8] [.int (km_here (F 67 9) (F 67 10) (A 71))] (hz F A L) _
        rw [hG84]
        refine w_n 1 (pc1 := 100) (ls1 := [some (.ref 67), some (.int x1), some (.int x2), some (.int y3), some (.int y4), some (.int y5), some (.int y6), some (.int 0), o8]) (st1 := [.int 62, .int G84]) (hp1 := (hz F A L)) rfl ?_
        refine w_eq (p3 := 103) rfl rfl (fun h => ?_) (fun h => ?_)
        · have h6 : G84 = 62 := h
          rw [if_pos h6] at hE
          refine w_n 1 (pc1 := 111) (ls1 := [some (.ref 67), some (.int x1), some (.int x2), some (.int y3), some (.int y4), some (.int y5), some (.int y6), some (.int 0), o8]) (st1 := [.int y6]) (hp1 := (hz F A L)) rfl ?_
          refine w_zle (p3 := 114) rfl rfl (fun h => False.elim (by have h : y6.toInt ≤ 0 := h; omega)) (fun _ => ?_)
          refine w_n 5 (pc1 := 121) (ls1 := [some (.ref 67), some (.int x1), some (.int x2), some (.int y3), some (.int y4), some (.int y5), some (.int y6), some (.int 0), o8]) (st1 := [.int ((F 67 9) + 1), .ref 67]) (hp1 := (hz F A L)) rfl ?_
          refine w_pf (k := 67) (fs := hz_f67 F) (hp1 := (hz (uF F 67 9 ((F 67 9) + 1)) A L)) rfl rfl rfl (hz_p67_9 _) ?_
          refine w_n 1 (pc1 := 125) (ls1 := [some (.ref 67), some (.int x1), some (.int x2), some (.int y3), some (.int y4), some (.int y5), some (.int y6), some (.int 0), o8]) (st1 := [.ref 67]) (hp1 := (hz (uF F 67 9 ((F 67 9) + 1)) A L)) rfl ?_
          refine w_c rfl rfl (t_km_here ?_)
          show wl_E f _ _ mm172.2.2.2.2.2.2.2.2 128 [some (.ref 67), some (.int x1), some (.int x2), some (.int y3), some (.int y4), some (.int y5), some (.int y6), some (.int 0), o8] [.int (km_here ((F 67 9) + 1) (F 67 10) (A 71))] (hz (uF F 67 9 ((F 67 9) + 1)) A L) _
          generalize hG85 : (km_here ((F 67 9) + 1) (F 67 10) (A 71)) = G85 at hE ⊢
          refine w_n 5 (pc1 := 136) (ls1 := [some (.ref 67), some (.int x1), some (.int x2), some (.int y3), some (.int y4), some (.int y5), some (.int y6), some (.int 0), some (.int (G85 - 97))]) (st1 := [.int (G85 - 97), .ref 67]) (hp1 := (hz (uF F 67 9 ((F 67 9) + 1)) A L)) rfl ?_
          refine w_c rfl rfl (t_km_isMeasure ?_)
          show wl_E f _ _ mm172.2.2.2.2.2.2.2.2 139 [some (.ref 67), some (.int x1), some (.int x2), some (.int y3), some (.int y4), some (.int y5), some (.int y6), some (.int 0), some (.int (G85 - 97))] [.int (km_isMeasure (F 67 3) (G85 - 97))] (hz (uF F 67 9 ((F 67 9) + 1)) A L) _
          generalize hG86 : (km_isMeasure (F 67 3) (G85 - 97)) = G86 at hE ⊢
          refine w_zne (p3 := 142) rfl rfl (fun h => ?_) (fun h => ?_)
          · have h7 : ¬ G86 = 0 := h
            rw [if_neg h7] at hE
            refine w_n 2 (pc1 := 151) (ls1 := [some (.ref 67), some (.int x1), some (.int x2), some (.int y3), some (.int y4), some (.int y5), some (.int y6), some (.int 0), some (.int (G85 - 97))]) (st1 := [.int (G85 - 97), .int y3]) (hp1 := (hz (uF F 67 9 ((F 67 9) + 1)) A L)) rfl ?_
            refine w_c rfl rfl (t_km_has ?_)
            show wl_E f _ _ mm172.2.2.2.2.2.2.2.2 154 [some (.ref 67), some (.int x1), some (.int x2), some (.int y3), some (.int y4), some (.int y5), some (.int y6), some (.int 0), some (.int (G85 - 97))] [.int (km_has y3 (G85 - 97))] (hz (uF F 67 9 ((F 67 9) + 1)) A L) _
            generalize hG87 : (km_has y3 (G85 - 97)) = G87 at hE ⊢
            refine w_zeq (p3 := 157) rfl rfl (fun h => ?_) (fun h => ?_)
            · have h8 : G87 = 0 := h
              rw [if_pos h8] at hE
              refine w_n 7 (pc1 := 173) (ls1 := [some (.ref 67), some (.int x1), some (.int x2), some (.int (y3 ||| ((1 : Int32) <<< ((G85 - 97) &&& 31)))), some (.int y4), some (.int y5), some (.int y6), some (.int 0), some (.int (G85 - 97))]) (st1 := [.int 0]) (hp1 := (hz (uF F 67 9 ((F 67 9) + 1)) A L)) rfl ?_
              refine w_zeq (p3 := 176) rfl rfl (fun _ => ?_) (fun h => absurd h (by decide))
              refine w_n 4 (pc1 := 189) (ls1 := [some (.ref 67), some (.int x1), some (.int x2), some (.int (y3 ||| ((1 : Int32) <<< ((G85 - 97) &&& 31)))), some (.int y4), some (.int y6), some (.int y6), some (.int 0), some (.int (G85 - 97))]) (st1 := [.int 0, .int y4]) (hp1 := (hz (uF F 67 9 ((F 67 9) + 1)) A L)) rfl ?_
              refine w_zeq (p3 := 192) rfl rfl (fun _ => ?_) (fun h => absurd h (by decide))
              refine w_n 7 (pc1 := 208) (ls1 := [some (.ref 67), some (.int x1), some (.int x2), some (.int (y3 ||| ((1 : Int32) <<< ((G85 - 97) &&& 31)))), some (.int (y4 + 1)), some (.int y6), some (.int y6), some (.int 0), some (.int (G85 - 97))]) (st1 := [.int y6, .int (G85 - 97), .ref 85]) (hp1 := (hz (uF F 67 9 ((F 67 9) + 1)) A L)) rfl ?_
              refine w_as (k := 85) (l := (A 85)) (hp1 := (hz (uF F 67 9 ((F 67 9) + 1)) (uA A 85 ((A 85).set (G85 - 97).toInt.toNat y6)) L)) rfl rfl rfl (hz_s85 _) (fun _ => ?_)
              refine w_n 5 (pc1 := 216) (ls1 := [some (.ref 67), some (.int x1), some (.int x2), some (.int (y3 ||| ((1 : Int32) <<< ((G85 - 97) &&& 31)))), some (.int (y4 + 1)), some (.int y6), some (.int y6), some (.int 0), some (.int (G85 - 97))]) (st1 := [.int (((F 67 9) + 1) + 1), .ref 67]) (hp1 := (hz (uF F 67 9 ((F 67 9) + 1)) (uA A 85 ((A 85).set (G85 - 97).toInt.toNat y6)) L)) rfl ?_
              refine w_pf (k := 67) (fs := hz_f67 (uF F 67 9 ((F 67 9) + 1))) (hp1 := (hz (uF (uF F 67 9 ((F 67 9) + 1)) 67 9 (((F 67 9) + 1) + 1)) (uA A 85 ((A 85).set (G85 - 97).toInt.toNat y6)) L)) rfl rfl rfl (hz_p67_9 _) ?_
              refine w_n 2 (pc1 := 54) (ls1 := [some (.ref 67), some (.int x1), some (.int x2), some (.int (y3 ||| ((1 : Int32) <<< ((G85 - 97) &&& 31)))), some (.int (y4 + 1)), some (.int y6), some (.int (y6 + 1)), some (.int 0), some (.int (G85 - 97))]) (st1 := []) (hp1 := (hz (uF (uF F 67 9 ((F 67 9) + 1)) 67 9 (((F 67 9) + 1) + 1)) (uA A 85 ((A 85).set (G85 - 97).toInt.toNat y6)) L)) rfl ?_
              subst T
              have hb2 := i_up (B := (F 67 3)) hb
              have hb3 : y6.toInt < (F 67 3).toInt := hb
              exact ih (show m = ((F 67 3).toInt - (y6 + 1).toInt).toNat by rw [hb2]; omega) (cvQ (funext fun q => funext fun z => if k0 : q = 67 ∧ z = 8 then by obtain ⟨w1, w2⟩ := k0; subst w1; subst w2; exact Eq.trans (b := (km_ranking_54 (F 67 3) (F 67 8) (F 67 10) (F 67 11) (A 68) (A 71) x1 m (y3 ||| ((1 : Int32) <<< ((G85 - 97) &&& 31))) (y4 + 1) y6 (y6 + 1) (((F 67 9) + 1) + 1) ((A 85).set (G85 - 97).toInt.toNat y6)).2.1) rfl rfl else if k1 : q = 67 ∧ z = 9 then by obtain ⟨w1, w2⟩ := k1; subst w1; subst w2; exact Eq.trans (b := (km_ranking_54 (F 67 3) (F 67 8) (F 67 10) (F 67 11) (A 68) (A 71) x1 m (y3 ||| ((1 : Int32) <<< ((G85 - 97) &&& 31))) (y4 + 1) y6 (y6 + 1) (((F 67 9) + 1) + 1) ((A 85).set (G85 - 97).toInt.toNat y6)).2.2.1) rfl rfl else if k2 : q = 67 ∧ z = 10 then by obtain ⟨w1, w2⟩ := k2; subst w1; subst w2; exact Eq.trans (b := (km_ranking_54 (F 67 3) (F 67 8) (F 67 10) (F 67 11) (A 68) (A 71) x1 m (y3 ||| ((1 : Int32) <<< ((G85 - 97) &&& 31))) (y4 + 1) y6 (y6 + 1) (((F 67 9) + 1) + 1) ((A 85).set (G85 - 97).toInt.toNat y6)).2.2.2.1) rfl rfl else if k3 : q = 67 ∧ z = 11 then by obtain ⟨w1, w2⟩ := k3; subst w1; subst w2; exact Eq.trans (b := (km_ranking_54 (F 67 3) (F 67 8) (F 67 10) (F 67 11) (A 68) (A 71) x1 m (y3 ||| ((1 : Int32) <<< ((G85 - 97) &&& 31))) (y4 + 1) y6 (y6 + 1) (((F 67 9) + 1) + 1) ((A 85).set (G85 - 97).toInt.toNat y6)).2.2.2.2.1) rfl rfl else by unfold uF; simp only [nb2 k0, nb2 k1, nb2 k2, nb2 k3, cond_false]) (funext fun q => if k0 : q = 68 then by subst k0; exact Eq.trans (b := (km_ranking_54 (F 67 3) (F 67 8) (F 67 10) (F 67 11) (A 68) (A 71) x1 m (y3 ||| ((1 : Int32) <<< ((G85 - 97) &&& 31))) (y4 + 1) y6 (y6 + 1) (((F 67 9) + 1) + 1) ((A 85).set (G85 - 97).toInt.toNat y6)).2.2.2.2.2.1) rfl rfl else if k1 : q = 85 then by subst k1; exact Eq.trans (b := (km_ranking_54 (F 67 3) (F 67 8) (F 67 10) (F 67 11) (A 68) (A 71) x1 m (y3 ||| ((1 : Int32) <<< ((G85 - 97) &&& 31))) (y4 + 1) y6 (y6 + 1) (((F 67 9) + 1) + 1) ((A 85).set (G85 - 97).toInt.toNat y6)).2.2.2.2.2.2) rfl rfl else by unfold uA; simp only [nb1 k0, nb1 k1, cond_false]) rfl K)
            · have h8 : ¬ G87 = 0 := h
              rw [if_neg h8] at hE
              refine w_n 2 (pc1 := 160) (ls1 := [some (.ref 67), some (.int x1), some (.int x2), some (.int y3), some (.int y4), some (.int y5), some (.int y6), some (.int 0), some (.int (G85 - 97))]) (st1 := [.int 6, .ref 67]) (hp1 := (hz (uF F 67 9 ((F 67 9) + 1)) A L)) rfl ?_
              refine w_c rfl rfl (t_km_wrongOf ?_)
              show wl_E f _ _ mm172.2.2.2.2.2.2.2.2 163 [some (.ref 67), some (.int x1), some (.int x2), some (.int y3), some (.int y4), some (.int y5), some (.int y6), some (.int 0), some (.int (G85 - 97))] [.int (km_wrongOf ((F 67 9) + 1) 6).1] (hz (uF (uF F 67 9 ((F 67 9) + 1)) 67 11 (km_wrongOf ((F 67 9) + 1) 6).2) A L) _
              generalize hG88 : (km_wrongOf ((F 67 9) + 1) 6) = G88 at hE ⊢
              subst T
              exact w_ri rfl (cvQ (funext fun q => funext fun z => if k0 : q = 67 ∧ z = 8 then by obtain ⟨w1, w2⟩ := k0; subst w1; subst w2; exact Eq.trans (b := (F 67 8)) rfl rfl else if k1 : q = 67 ∧ z = 9 then by obtain ⟨w1, w2⟩ := k1; subst w1; subst w2; exact Eq.trans (b := ((F 67 9) + 1)) rfl rfl else if k2 : q = 67 ∧ z = 10 then by obtain ⟨w1, w2⟩ := k2; subst w1; subst w2; exact Eq.trans (b := (F 67 10)) rfl rfl else if k3 : q = 67 ∧ z = 11 then by obtain ⟨w1, w2⟩ := k3; subst w1; subst w2; exact Eq.trans (b := G88.2) rfl rfl else by unfold uF; simp only [nb2 k0, nb2 k1, nb2 k2, nb2 k3, cond_false]) (funext fun q => if k0 : q = 68 then by subst k0; exact Eq.trans (b := (A 68)) rfl rfl else if k1 : q = 85 then by subst k1; exact Eq.trans (b := (A 85)) rfl rfl else by unfold uA; simp only [nb1 k0, nb1 k1, cond_false]) rfl K)
          · have h7 : G86 = 0 := h
            rw [if_pos h7] at hE
            refine w_n 2 (pc1 := 144) (ls1 := [some (.ref 67), some (.int x1), some (.int x2), some (.int y3), some (.int y4), some (.int y5), some (.int y6), some (.int 0), some (.int (G85 - 97))]) (st1 := [.int 1, .ref 67]) (hp1 := (hz (uF F 67 9 ((F 67 9) + 1)) A L)) rfl ?_
            refine w_c rfl rfl (t_km_wrongOf ?_)
            show wl_E f _ _ mm172.2.2.2.2.2.2.2.2 147 [some (.ref 67), some (.int x1), some (.int x2), some (.int y3), some (.int y4), some (.int y5), some (.int y6), some (.int 0), some (.int (G85 - 97))] [.int (km_wrongOf ((F 67 9) + 1) 1).1] (hz (uF (uF F 67 9 ((F 67 9) + 1)) 67 11 (km_wrongOf ((F 67 9) + 1) 1).2) A L) _
            generalize hG89 : (km_wrongOf ((F 67 9) + 1) 1) = G89 at hE ⊢
            subst T
            exact w_ri rfl (cvQ (funext fun q => funext fun z => if k0 : q = 67 ∧ z = 8 then by obtain ⟨w1, w2⟩ := k0; subst w1; subst w2; exact Eq.trans (b := (F 67 8)) rfl rfl else if k1 : q = 67 ∧ z = 9 then by obtain ⟨w1, w2⟩ := k1; subst w1; subst w2; exact Eq.trans (b := ((F 67 9) + 1)) rfl rfl else if k2 : q = 67 ∧ z = 10 then by obtain ⟨w1, w2⟩ := k2; subst w1; subst w2; exact Eq.trans (b := (F 67 10)) rfl rfl else if k3 : q = 67 ∧ z = 11 then by obtain ⟨w1, w2⟩ := k3; subst w1; subst w2; exact Eq.trans (b := G89.2) rfl rfl else by unfold uF; simp only [nb2 k0, nb2 k1, nb2 k2, nb2 k3, cond_false]) (funext fun q => if k0 : q = 68 then by subst k0; exact Eq.trans (b := (A 68)) rfl rfl else if k1 : q = 85 then by subst k1; exact Eq.trans (b := (A 85)) rfl rfl else by unfold uA; simp only [nb1 k0, nb1 k1, cond_false]) rfl K)
        · have h6 : ¬ G84 = 62 := h
          rw [if_neg h6] at hE
          refine w_n 2 (pc1 := 105) (ls1 := [some (.ref 67), some (.int x1), some (.int x2), some (.int y3), some (.int y4), some (.int y5), some (.int y6), some (.int 0), o8]) (st1 := [.int 1, .ref 67]) (hp1 := (hz F A L)) rfl ?_
          refine w_c rfl rfl (t_km_wrongOf ?_)
          show wl_E f _ _ mm172.2.2.2.2.2.2.2.2 108 [some (.ref 67), some (.int x1), some (.int x2), some (.int y3), some (.int y4), some (.int y5), some (.int y6), some (.int 0), o8] [.int (km_wrongOf (F 67 9) 1).1] (hz (uF F 67 11 (km_wrongOf (F 67 9) 1).2) A L) _
          generalize hG90 : (km_wrongOf (F 67 9) 1) = G90 at hE ⊢
          subst T
          exact w_ri rfl (cvQ (funext fun q => funext fun z => if k0 : q = 67 ∧ z = 8 then by obtain ⟨w1, w2⟩ := k0; subst w1; subst w2; exact Eq.trans (b := (F 67 8)) rfl rfl else if k1 : q = 67 ∧ z = 9 then by obtain ⟨w1, w2⟩ := k1; subst w1; subst w2; exact Eq.trans (b := (F 67 9)) rfl rfl else if k2 : q = 67 ∧ z = 10 then by obtain ⟨w1, w2⟩ := k2; subst w1; subst w2; exact Eq.trans (b := (F 67 10)) rfl rfl else if k3 : q = 67 ∧ z = 11 then by obtain ⟨w1, w2⟩ := k3; subst w1; subst w2; exact Eq.trans (b := G90.2) rfl rfl else by unfold uF; simp only [nb2 k0, nb2 k1, nb2 k2, nb2 k3, cond_false]) (funext fun q => if k0 : q = 68 then by subst k0; exact Eq.trans (b := (A 68)) rfl rfl else if k1 : q = 85 then by subst k1; exact Eq.trans (b := (A 85)) rfl rfl else by unfold uA; simp only [nb1 k0, nb1 k1, cond_false]) rfl K)
      · have h5 : G84 = 61 := h
        rw [if_pos h5] at hE
        refine w_n 4 (pc1 := 86) (ls1 := [some (.ref 67), some (.int x1), some (.int x2), some (.int y3), some (.int y4), some (.int y5), some (.int y6), some (.int 1), o8]) (st1 := [.int y6]) (hp1 := (hz F A L)) rfl ?_
        refine w_zle (p3 := 89) rfl rfl (fun h => False.elim (by have h : y6.toInt ≤ 0 := h; omega)) (fun _ => ?_)
        refine w_n 1 (pc1 := 91) (ls1 := [some (.ref 67), some (.int x1), some (.int x2), some (.int y3), some (.int y4), some (.int y5), some (.int y6), some (.int 1), o8]) (st1 := [.int 1]) (hp1 := (hz F A L)) rfl ?_
        refine w_zne (p3 := 94) rfl rfl (fun _ => ?_) (fun h => absurd h (by decide))
        refine w_n 1 (pc1 := 111) (ls1 := [some (.ref 67), some (.int x1), some (.int x2), some (.int y3), some (.int y4), some (.int y5), some (.int y6), some (.int 1), o8]) (st1 := [.int y6]) (hp1 := (hz F A L)) rfl ?_
        refine w_zle (p3 := 114) rfl rfl (fun h => False.elim (by have h : y6.toInt ≤ 0 := h; omega)) (fun _ => ?_)
        refine w_n 5 (pc1 := 121) (ls1 := [some (.ref 67), some (.int x1), some (.int x2), some (.int y3), some (.int y4), some (.int y5), some (.int y6), some (.int 1), o8]) (st1 := [.int ((F 67 9) + 1), .ref 67]) (hp1 := (hz F A L)) rfl ?_
        refine w_pf (k := 67) (fs := hz_f67 F) (hp1 := (hz (uF F 67 9 ((F 67 9) + 1)) A L)) rfl rfl rfl (hz_p67_9 _) ?_
        refine w_n 1 (pc1 := 125) (ls1 := [some (.ref 67), some (.int x1), some (.int x2), some (.int y3), some (.int y4), some (.int y5), some (.int y6), some (.int 1), o8]) (st1 := [.ref 67]) (hp1 := (hz (uF F 67 9 ((F 67 9) + 1)) A L)) rfl ?_
        refine w_c rfl rfl (t_km_here ?_)
        show wl_E f _ _ mm172.2.2.2.2.2.2.2.2 128 [some (.ref 67), some (.int x1), some (.int x2), some (.int y3), some (.int y4), some (.int y5), some (.int y6), some (.int 1), o8] [.int (km_here ((F 67 9) + 1) (F 67 10) (A 71))] (hz (uF F 67 9 ((F 67 9) + 1)) A L) _
        generalize hG91 : (km_here ((F 67 9) + 1) (F 67 10) (A 71)) = G91 at hE ⊢
        refine w_n 5 (pc1 := 136) (ls1 := [some (.ref 67), some (.int x1), some (.int x2), some (.int y3), some (.int y4), some (.int y5), some (.int y6), some (.int 1), some (.int (G91 - 97))]) (st1 := [.int (G91 - 97), .ref 67]) (hp1 := (hz (uF F 67 9 ((F 67 9) + 1)) A L)) rfl ?_
        refine w_c rfl rfl (t_km_isMeasure ?_)
        show wl_E f _ _ mm172.2.2.2.2.2.2.2.2 139 [some (.ref 67), some (.int x1), some (.int x2), some (.int y3), some (.int y4), some (.int y5), some (.int y6), some (.int 1), some (.int (G91 - 97))] [.int (km_isMeasure (F 67 3) (G91 - 97))] (hz (uF F 67 9 ((F 67 9) + 1)) A L) _
        generalize hG92 : (km_isMeasure (F 67 3) (G91 - 97)) = G92 at hE ⊢
        refine w_zne (p3 := 142) rfl rfl (fun h => ?_) (fun h => ?_)
        · have h9 : ¬ G92 = 0 := h
          rw [if_neg h9] at hE
          refine w_n 2 (pc1 := 151) (ls1 := [some (.ref 67), some (.int x1), some (.int x2), some (.int y3), some (.int y4), some (.int y5), some (.int y6), some (.int 1), some (.int (G91 - 97))]) (st1 := [.int (G91 - 97), .int y3]) (hp1 := (hz (uF F 67 9 ((F 67 9) + 1)) A L)) rfl ?_
          refine w_c rfl rfl (t_km_has ?_)
          show wl_E f _ _ mm172.2.2.2.2.2.2.2.2 154 [some (.ref 67), some (.int x1), some (.int x2), some (.int y3), some (.int y4), some (.int y5), some (.int y6), some (.int 1), some (.int (G91 - 97))] [.int (km_has y3 (G91 - 97))] (hz (uF F 67 9 ((F 67 9) + 1)) A L) _
          generalize hG93 : (km_has y3 (G91 - 97)) = G93 at hE ⊢
          refine w_zeq (p3 := 157) rfl rfl (fun h => ?_) (fun h => ?_)
          · have h10 : G93 = 0 := h
            rw [if_pos h10] at hE
            refine w_n 7 (pc1 := 173) (ls1 := [some (.ref 67), some (.int x1), some (.int x2), some (.int (y3 ||| ((1 : Int32) <<< ((G91 - 97) &&& 31)))), some (.int y4), some (.int y5), some (.int y6), some (.int 1), some (.int (G91 - 97))]) (st1 := [.int 1]) (hp1 := (hz (uF F 67 9 ((F 67 9) + 1)) A L)) rfl ?_
            refine w_zeq (p3 := 176) rfl rfl (fun h => absurd h (by decide)) (fun _ => ?_)
            refine w_n 5 (pc1 := 189) (ls1 := [some (.ref 67), some (.int x1), some (.int x2), some (.int (y3 ||| ((1 : Int32) <<< ((G91 - 97) &&& 31)))), some (.int y4), some (.int y5), some (.int y6), some (.int 1), some (.int (G91 - 97))]) (st1 := [.int 1, .int y4]) (hp1 := (hz (uF F 67 9 ((F 67 9) + 1)) A L)) rfl ?_
            refine w_zeq (p3 := 192) rfl rfl (fun h => absurd h (by decide)) (fun _ => ?_)
            refine w_n 8 (pc1 := 208) (ls1 := [some (.ref 67), some (.int x1), some (.int x2), some (.int (y3 ||| ((1 : Int32) <<< ((G91 - 97) &&& 31)))), some (.int (y4 + 0)), some (.int y5), some (.int y6), some (.int 1), some (.int (G91 - 97))]) (st1 := [.int y5, .int (G91 - 97), .ref 85]) (hp1 := (hz (uF F 67 9 ((F 67 9) + 1)) A L)) rfl ?_
            refine w_as (k := 85) (l := (A 85)) (hp1 := (hz (uF F 67 9 ((F 67 9) + 1)) (uA A 85 ((A 85).set (G91 - 97).toInt.toNat y5)) L)) rfl rfl rfl (hz_s85 _) (fun _ => ?_)
            refine w_n 5 (pc1 := 216) (ls1 := [some (.ref 67), some (.int x1), some (.int x2), some (.int (y3 ||| ((1 : Int32) <<< ((G91 - 97) &&& 31)))), some (.int (y4 + 0)), some (.int y5), some (.int y6), some (.int 1), some (.int (G91 - 97))]) (st1 := [.int (((F 67 9) + 1) + 1), .ref 67]) (hp1 := (hz (uF F 67 9 ((F 67 9) + 1)) (uA A 85 ((A 85).set (G91 - 97).toInt.toNat y5)) L)) rfl ?_
            refine w_pf (k := 67) (fs := hz_f67 (uF F 67 9 ((F 67 9) + 1))) (hp1 := (hz (uF (uF F 67 9 ((F 67 9) + 1)) 67 9 (((F 67 9) + 1) + 1)) (uA A 85 ((A 85).set (G91 - 97).toInt.toNat y5)) L)) rfl rfl rfl (hz_p67_9 _) ?_
            refine w_n 2 (pc1 := 54) (ls1 := [some (.ref 67), some (.int x1), some (.int x2), some (.int (y3 ||| ((1 : Int32) <<< ((G91 - 97) &&& 31)))), some (.int (y4 + 0)), some (.int y5), some (.int (y6 + 1)), some (.int 1), some (.int (G91 - 97))]) (st1 := []) (hp1 := (hz (uF (uF F 67 9 ((F 67 9) + 1)) 67 9 (((F 67 9) + 1) + 1)) (uA A 85 ((A 85).set (G91 - 97).toInt.toNat y5)) L)) rfl ?_
            subst T
            have hb2 := i_up (B := (F 67 3)) hb
            have hb3 : y6.toInt < (F 67 3).toInt := hb
            exact ih (show m = ((F 67 3).toInt - (y6 + 1).toInt).toNat by rw [hb2]; omega) (cvQ (funext fun q => funext fun z => if k0 : q = 67 ∧ z = 8 then by obtain ⟨w1, w2⟩ := k0; subst w1; subst w2; exact Eq.trans (b := (km_ranking_54 (F 67 3) (F 67 8) (F 67 10) (F 67 11) (A 68) (A 71) x1 m (y3 ||| ((1 : Int32) <<< ((G91 - 97) &&& 31))) (y4 + 0) y5 (y6 + 1) (((F 67 9) + 1) + 1) ((A 85).set (G91 - 97).toInt.toNat y5)).2.1) rfl rfl else if k1 : q = 67 ∧ z = 9 then by obtain ⟨w1, w2⟩ := k1; subst w1; subst w2; exact Eq.trans (b := (km_ranking_54 (F 67 3) (F 67 8) (F 67 10) (F 67 11) (A 68) (A 71) x1 m (y3 ||| ((1 : Int32) <<< ((G91 - 97) &&& 31))) (y4 + 0) y5 (y6 + 1) (((F 67 9) + 1) + 1) ((A 85).set (G91 - 97).toInt.toNat y5)).2.2.1) rfl rfl else if k2 : q = 67 ∧ z = 10 then by obtain ⟨w1, w2⟩ := k2; subst w1; subst w2; exact Eq.trans (b := (km_ranking_54 (F 67 3) (F 67 8) (F 67 10) (F 67 11) (A 68) (A 71) x1 m (y3 ||| ((1 : Int32) <<< ((G91 - 97) &&& 31))) (y4 + 0) y5 (y6 + 1) (((F 67 9) + 1) + 1) ((A 85).set (G91 - 97).toInt.toNat y5)).2.2.2.1) rfl rfl else if k3 : q = 67 ∧ z = 11 then by obtain ⟨w1, w2⟩ := k3; subst w1; subst w2; exact Eq.trans (b := (km_ranking_54 (F 67 3) (F 67 8) (F 67 10) (F 67 11) (A 68) (A 71) x1 m (y3 ||| ((1 : Int32) <<< ((G91 - 97) &&& 31))) (y4 + 0) y5 (y6 + 1) (((F 67 9) + 1) + 1) ((A 85).set (G91 - 97).toInt.toNat y5)).2.2.2.2.1) rfl rfl else by unfold uF; simp only [nb2 k0, nb2 k1, nb2 k2, nb2 k3, cond_false]) (funext fun q => if k0 : q = 68 then by subst k0; exact Eq.trans (b := (km_ranking_54 (F 67 3) (F 67 8) (F 67 10) (F 67 11) (A 68) (A 71) x1 m (y3 ||| ((1 : Int32) <<< ((G91 - 97) &&& 31))) (y4 + 0) y5 (y6 + 1) (((F 67 9) + 1) + 1) ((A 85).set (G91 - 97).toInt.toNat y5)).2.2.2.2.2.1) rfl rfl else if k1 : q = 85 then by subst k1; exact Eq.trans (b := (km_ranking_54 (F 67 3) (F 67 8) (F 67 10) (F 67 11) (A 68) (A 71) x1 m (y3 ||| ((1 : Int32) <<< ((G91 - 97) &&& 31))) (y4 + 0) y5 (y6 + 1) (((F 67 9) + 1) + 1) ((A 85).set (G91 - 97).toInt.toNat y5)).2.2.2.2.2.2) rfl rfl else by unfold uA; simp only [nb1 k0, nb1 k1, cond_false]) rfl K)
          · have h10 : ¬ G93 = 0 := h
            rw [if_neg h10] at hE
            refine w_n 2 (pc1 := 160) (ls1 := [some (.ref 67), some (.int x1), some (.int x2), some (.int y3), some (.int y4), some (.int y5), some (.int y6), some (.int 1), some (.int (G91 - 97))]) (st1 := [.int 6, .ref 67]) (hp1 := (hz (uF F 67 9 ((F 67 9) + 1)) A L)) rfl ?_
            refine w_c rfl rfl (t_km_wrongOf ?_)
            show wl_E f _ _ mm172.2.2.2.2.2.2.2.2 163 [some (.ref 67), some (.int x1), some (.int x2), some (.int y3), some (.int y4), some (.int y5), some (.int y6), some (.int 1), some (.int (G91 - 97))] [.int (km_wrongOf ((F 67 9) + 1) 6).1] (hz (uF (uF F 67 9 ((F 67 9) + 1)) 67 11 (km_wrongOf ((F 67 9) + 1) 6).2) A L) _
            generalize hG94 : (km_wrongOf ((F 67 9) + 1) 6) = G94 at hE ⊢
            subst T
            exact w_ri rfl (cvQ (funext fun q => funext fun z => if k0 : q = 67 ∧ z = 8 then by obtain ⟨w1, w2⟩ := k0; subst w1; subst w2; exact Eq.trans (b := (F 67 8)) rfl rfl else if k1 : q = 67 ∧ z = 9 then by obtain ⟨w1, w2⟩ := k1; subst w1; subst w2; exact Eq.trans (b := ((F 67 9) + 1)) rfl rfl else if k2 : q = 67 ∧ z = 10 then by obtain ⟨w1, w2⟩ := k2; subst w1; subst w2; exact Eq.trans (b := (F 67 10)) rfl rfl else if k3 : q = 67 ∧ z = 11 then by obtain ⟨w1, w2⟩ := k3; subst w1; subst w2; exact Eq.trans (b := G94.2) rfl rfl else by unfold uF; simp only [nb2 k0, nb2 k1, nb2 k2, nb2 k3, cond_false]) (funext fun q => if k0 : q = 68 then by subst k0; exact Eq.trans (b := (A 68)) rfl rfl else if k1 : q = 85 then by subst k1; exact Eq.trans (b := (A 85)) rfl rfl else by unfold uA; simp only [nb1 k0, nb1 k1, cond_false]) rfl K)
        · have h9 : G92 = 0 := h
          rw [if_pos h9] at hE
          refine w_n 2 (pc1 := 144) (ls1 := [some (.ref 67), some (.int x1), some (.int x2), some (.int y3), some (.int y4), some (.int y5), some (.int y6), some (.int 1), some (.int (G91 - 97))]) (st1 := [.int 1, .ref 67]) (hp1 := (hz (uF F 67 9 ((F 67 9) + 1)) A L)) rfl ?_
          refine w_c rfl rfl (t_km_wrongOf ?_)
          show wl_E f _ _ mm172.2.2.2.2.2.2.2.2 147 [some (.ref 67), some (.int x1), some (.int x2), some (.int y3), some (.int y4), some (.int y5), some (.int y6), some (.int 1), some (.int (G91 - 97))] [.int (km_wrongOf ((F 67 9) + 1) 1).1] (hz (uF (uF F 67 9 ((F 67 9) + 1)) 67 11 (km_wrongOf ((F 67 9) + 1) 1).2) A L) _
          generalize hG95 : (km_wrongOf ((F 67 9) + 1) 1) = G95 at hE ⊢
          subst T
          exact w_ri rfl (cvQ (funext fun q => funext fun z => if k0 : q = 67 ∧ z = 8 then by obtain ⟨w1, w2⟩ := k0; subst w1; subst w2; exact Eq.trans (b := (F 67 8)) rfl rfl else if k1 : q = 67 ∧ z = 9 then by obtain ⟨w1, w2⟩ := k1; subst w1; subst w2; exact Eq.trans (b := ((F 67 9) + 1)) rfl rfl else if k2 : q = 67 ∧ z = 10 then by obtain ⟨w1, w2⟩ := k2; subst w1; subst w2; exact Eq.trans (b := (F 67 10)) rfl rfl else if k3 : q = 67 ∧ z = 11 then by obtain ⟨w1, w2⟩ := k3; subst w1; subst w2; exact Eq.trans (b := G95.2) rfl rfl else by unfold uF; simp only [nb2 k0, nb2 k1, nb2 k2, nb2 k3, cond_false]) (funext fun q => if k0 : q = 68 then by subst k0; exact Eq.trans (b := (A 68)) rfl rfl else if k1 : q = 85 then by subst k1; exact Eq.trans (b := (A 85)) rfl rfl else by unfold uA; simp only [nb1 k0, nb1 k1, cond_false]) rfl K)
noncomputable def km_ranking (f67_3 : Int32) (f67_8 : Int32) (f67_9 : Int32) (f67_10 : Int32) (f67_11 : Int32) (a68 : List Int32) (a71 : List Int32) (a85 : List Int32) (x1 : Int32) (x2 : Int32) : Int32 × Int32 × Int32 × Int32 × Int32 × List Int32 × List Int32 := (if (km_isGuest a68 x1) = 0 then ((-1), f67_8, f67_9, f67_10, f67_11, a68, a85) else (if (km_in x2 1 40) = 0 then ((-1), f67_8, f67_9, f67_10, f67_11, a68, a85) else (if f67_8.toInt < x2.toInt then ((-1), f67_8, f67_9, f67_10, f67_11, a68, a85) else (km_ranking_54 f67_3 0 x2 f67_11 a68 a71 x1 f67_3.toInt.toNat 0 0 0 0 0 a85))))
theorem t_km_ranking {f D : Nat} {F : Nat → Nat → Int32} {A : Nat → List Int32} {L : Nat → List Int64} {Q : Option Value → sm_H → Prop} {x1 : Int32} {x2 : Int32} (K : Q (some (.int ((km_ranking (F 67 3) (F 67 8) (F 67 9) (F 67 10) (F 67 11) (A 68) (A 71) (A 85) x1 x2).1))) (hz (uF (uF (uF (uF F 67 8 ((km_ranking (F 67 3) (F 67 8) (F 67 9) (F 67 10) (F 67 11) (A 68) (A 71) (A 85) x1 x2).2.1)) 67 9 ((km_ranking (F 67 3) (F 67 8) (F 67 9) (F 67 10) (F 67 11) (A 68) (A 71) (A 85) x1 x2).2.2.1)) 67 10 ((km_ranking (F 67 3) (F 67 8) (F 67 9) (F 67 10) (F 67 11) (A 68) (A 71) (A 85) x1 x2).2.2.2.1)) 67 11 ((km_ranking (F 67 3) (F 67 8) (F 67 9) (F 67 10) (F 67 11) (A 68) (A 71) (A 85) x1 x2).2.2.2.2.1)) (uA (uA A 68 ((km_ranking (F 67 3) (F 67 8) (F 67 9) (F 67 10) (F 67 11) (A 68) (A 71) (A 85) x1 x2).2.2.2.2.2.1)) 85 ((km_ranking (F 67 3) (F 67 8) (F 67 9) (F 67 10) (F 67 11) (A 68) (A 71) (A 85) x1 x2).2.2.2.2.2.2)) L)) : wl_M f D 172 [.ref 67, .int x1, .int x2] (hz F A L) Q := by
  generalize hT : (km_ranking (F 67 3) (F 67 8) (F 67 9) (F 67 10) (F 67 11) (A 68) (A 71) (A 85) x1 x2) = T at K
  have hE : T = (if (km_isGuest (A 68) x1) = 0 then ((-1), (F 67 8), (F 67 9), (F 67 10), (F 67 11), (A 68), (A 85)) else (if (km_in x2 1 40) = 0 then ((-1), (F 67 8), (F 67 9), (F 67 10), (F 67 11), (A 68), (A 85)) else (if (F 67 8).toInt < x2.toInt then ((-1), (F 67 8), (F 67 9), (F 67 10), (F 67 11), (A 68), (A 85)) else (km_ranking_54 (F 67 3) 0 x2 (F 67 11) (A 68) (A 71) x1 (F 67 3).toInt.toNat 0 0 0 0 0 (A 85))))) := hT.symm
  clear hT
  refine w_m (E := mm172) rfl ?_
  show wl_E f f (D - 1) mm172.2.2.2.2.2.2.2.2 0 [some (.ref 67), some (.int x1), some (.int x2), none, none, none, none, none, none] [] (hz F A L) Q
  refine w_n 2 (pc1 := 2) (ls1 := [some (.ref 67), some (.int x1), some (.int x2), none, none, none, none, none, none]) (st1 := [.int x1, .ref 67]) (hp1 := (hz F A L)) rfl ?_
  refine w_c rfl rfl (t_km_isGuest ?_)
  show wl_E f _ _ mm172.2.2.2.2.2.2.2.2 5 [some (.ref 67), some (.int x1), some (.int x2), none, none, none, none, none, none] [.int (km_isGuest (A 68) x1)] (hz F A L) _
  generalize hG73 : (km_isGuest (A 68) x1) = G73 at hE ⊢
  refine w_zeq (p3 := 8) rfl rfl (fun h => ?_) (fun h => ?_)
  · have h1 : G73 = 0 := h
    rw [if_pos h1] at hE
    refine w_n 1 (pc1 := 27) (ls1 := [some (.ref 67), some (.int x1), some (.int x2), none, none, none, none, none, none]) (st1 := [.int (-1)]) (hp1 := (hz F A L)) rfl ?_
    subst T
    exact w_ri rfl (cvQ (funext fun q => funext fun z => if k0 : q = 67 ∧ z = 8 then by obtain ⟨w1, w2⟩ := k0; subst w1; subst w2; exact Eq.trans (b := (F 67 8)) rfl rfl else if k1 : q = 67 ∧ z = 9 then by obtain ⟨w1, w2⟩ := k1; subst w1; subst w2; exact Eq.trans (b := (F 67 9)) rfl rfl else if k2 : q = 67 ∧ z = 10 then by obtain ⟨w1, w2⟩ := k2; subst w1; subst w2; exact Eq.trans (b := (F 67 10)) rfl rfl else if k3 : q = 67 ∧ z = 11 then by obtain ⟨w1, w2⟩ := k3; subst w1; subst w2; exact Eq.trans (b := (F 67 11)) rfl rfl else by unfold uF; simp only [nb2 k0, nb2 k1, nb2 k2, nb2 k3, cond_false]) (funext fun q => if k0 : q = 68 then by subst k0; exact Eq.trans (b := (A 68)) rfl rfl else if k1 : q = 85 then by subst k1; exact Eq.trans (b := (A 85)) rfl rfl else by unfold uA; simp only [nb1 k0, nb1 k1, cond_false]) rfl K)
  · have h1 : ¬ G73 = 0 := h
    rw [if_neg h1] at hE
    refine w_n 3 (pc1 := 12) (ls1 := [some (.ref 67), some (.int x1), some (.int x2), none, none, none, none, none, none]) (st1 := [.int 40, .int 1, .int x2]) (hp1 := (hz F A L)) rfl ?_
    refine w_c rfl rfl (t_km_in ?_)
    show wl_E f _ _ mm172.2.2.2.2.2.2.2.2 15 [some (.ref 67), some (.int x1), some (.int x2), none, none, none, none, none, none] [.int (km_in x2 1 40)] (hz F A L) _
    generalize hG74 : (km_in x2 1 40) = G74 at hE ⊢
    refine w_zeq (p3 := 18) rfl rfl (fun h => ?_) (fun h => ?_)
    · have h2 : G74 = 0 := h
      rw [if_pos h2] at hE
      refine w_n 1 (pc1 := 27) (ls1 := [some (.ref 67), some (.int x1), some (.int x2), none, none, none, none, none, none]) (st1 := [.int (-1)]) (hp1 := (hz F A L)) rfl ?_
      subst T
      exact w_ri rfl (cvQ (funext fun q => funext fun z => if k0 : q = 67 ∧ z = 8 then by obtain ⟨w1, w2⟩ := k0; subst w1; subst w2; exact Eq.trans (b := (F 67 8)) rfl rfl else if k1 : q = 67 ∧ z = 9 then by obtain ⟨w1, w2⟩ := k1; subst w1; subst w2; exact Eq.trans (b := (F 67 9)) rfl rfl else if k2 : q = 67 ∧ z = 10 then by obtain ⟨w1, w2⟩ := k2; subst w1; subst w2; exact Eq.trans (b := (F 67 10)) rfl rfl else if k3 : q = 67 ∧ z = 11 then by obtain ⟨w1, w2⟩ := k3; subst w1; subst w2; exact Eq.trans (b := (F 67 11)) rfl rfl else by unfold uF; simp only [nb2 k0, nb2 k1, nb2 k2, nb2 k3, cond_false]) (funext fun q => if k0 : q = 68 then by subst k0; exact Eq.trans (b := (A 68)) rfl rfl else if k1 : q = 85 then by subst k1; exact Eq.trans (b := (A 85)) rfl rfl else by unfold uA; simp only [nb1 k0, nb1 k1, cond_false]) rfl K)
    · have h2 : ¬ G74 = 0 := h
      rw [if_neg h2] at hE
      refine w_n 3 (pc1 := 23) (ls1 := [some (.ref 67), some (.int x1), some (.int x2), none, none, none, none, none, none]) (st1 := [.int (F 67 8), .int x2]) (hp1 := (hz F A L)) rfl ?_
      refine w_le (p3 := 26) rfl rfl (fun h => ?_) (fun h => ?_)
      · have h3 : x2.toInt ≤ (F 67 8).toInt := h
        rw [if_neg (Int.not_lt.mpr h3)] at hE
        refine w_n 2 (pc1 := 30) (ls1 := [some (.ref 67), some (.int x1), some (.int x2), none, none, none, none, none, none]) (st1 := [.int 0, .ref 67]) (hp1 := (hz F A L)) rfl ?_
        refine w_pf (k := 67) (fs := hz_f67 F) (hp1 := (hz (uF F 67 9 0) A L)) rfl rfl rfl (hz_p67_9 _) ?_
        refine w_n 2 (pc1 := 35) (ls1 := [some (.ref 67), some (.int x1), some (.int x2), none, none, none, none, none, none]) (st1 := [.int x2, .ref 67]) (hp1 := (hz (uF F 67 9 0) A L)) rfl ?_
        refine w_pf (k := 67) (fs := hz_f67 (uF F 67 9 0)) (hp1 := (hz (uF (uF F 67 9 0) 67 10 x2) A L)) rfl rfl rfl (hz_p67_10 _) ?_
        refine w_n 2 (pc1 := 40) (ls1 := [some (.ref 67), some (.int x1), some (.int x2), none, none, none, none, none, none]) (st1 := [.int 0, .ref 67]) (hp1 := (hz (uF (uF F 67 9 0) 67 10 x2) A L)) rfl ?_
        refine w_pf (k := 67) (fs := hz_f67 (uF (uF F 67 9 0) 67 10 x2)) (hp1 := (hz (uF (uF (uF F 67 9 0) 67 10 x2) 67 8 0) A L)) rfl rfl rfl (hz_p67_8 _) ?_
        refine w_n 8 (pc1 := 54) (ls1 := [some (.ref 67), some (.int x1), some (.int x2), some (.int 0), some (.int 0), some (.int 0), some (.int 0), none, none]) (st1 := []) (hp1 := (hz (uF (uF (uF F 67 9 0) 67 10 x2) 67 8 0) A L)) rfl ?_
        subst T
        exact t_km_ranking_54 _ (show (F 67 3).toInt.toNat = ((F 67 3).toInt - (0 : Int32).toInt).toNat by have e0 : (0 : Int32).toInt = 0 := rfl; first | rfl | omega) (cvQ (funext fun q => funext fun z => if k0 : q = 67 ∧ z = 8 then by obtain ⟨w1, w2⟩ := k0; subst w1; subst w2; exact Eq.trans (b := (km_ranking_54 (F 67 3) 0 x2 (F 67 11) (A 68) (A 71) x1 (F 67 3).toInt.toNat 0 0 0 0 0 (A 85)).2.1) rfl rfl else if k1 : q = 67 ∧ z = 9 then by obtain ⟨w1, w2⟩ := k1; subst w1; subst w2; exact Eq.trans (b := (km_ranking_54 (F 67 3) 0 x2 (F 67 11) (A 68) (A 71) x1 (F 67 3).toInt.toNat 0 0 0 0 0 (A 85)).2.2.1) rfl rfl else if k2 : q = 67 ∧ z = 10 then by obtain ⟨w1, w2⟩ := k2; subst w1; subst w2; exact Eq.trans (b := (km_ranking_54 (F 67 3) 0 x2 (F 67 11) (A 68) (A 71) x1 (F 67 3).toInt.toNat 0 0 0 0 0 (A 85)).2.2.2.1) rfl rfl else if k3 : q = 67 ∧ z = 11 then by obtain ⟨w1, w2⟩ := k3; subst w1; subst w2; exact Eq.trans (b := (km_ranking_54 (F 67 3) 0 x2 (F 67 11) (A 68) (A 71) x1 (F 67 3).toInt.toNat 0 0 0 0 0 (A 85)).2.2.2.2.1) rfl rfl else by unfold uF; simp only [nb2 k0, nb2 k1, nb2 k2, nb2 k3, cond_false]) (funext fun q => if k0 : q = 68 then by subst k0; exact Eq.trans (b := (km_ranking_54 (F 67 3) 0 x2 (F 67 11) (A 68) (A 71) x1 (F 67 3).toInt.toNat 0 0 0 0 0 (A 85)).2.2.2.2.2.1) rfl rfl else if k1 : q = 85 then by subst k1; exact Eq.trans (b := (km_ranking_54 (F 67 3) 0 x2 (F 67 11) (A 68) (A 71) x1 (F 67 3).toInt.toNat 0 0 0 0 0 (A 85)).2.2.2.2.2.2) rfl rfl else by unfold uA; simp only [nb1 k0, nb1 k1, cond_false]) rfl K)
      · have h3 : (F 67 8).toInt < x2.toInt := h
        rw [if_pos h3] at hE
        refine w_n 1 (pc1 := 27) (ls1 := [some (.ref 67), some (.int x1), some (.int x2), none, none, none, none, none, none]) (st1 := [.int (-1)]) (hp1 := (hz F A L)) rfl ?_
        subst T
        exact w_ri rfl (cvQ (funext fun q => funext fun z => if k0 : q = 67 ∧ z = 8 then by obtain ⟨w1, w2⟩ := k0; subst w1; subst w2; exact Eq.trans (b := (F 67 8)) rfl rfl else if k1 : q = 67 ∧ z = 9 then by obtain ⟨w1, w2⟩ := k1; subst w1; subst w2; exact Eq.trans (b := (F 67 9)) rfl rfl else if k2 : q = 67 ∧ z = 10 then by obtain ⟨w1, w2⟩ := k2; subst w1; subst w2; exact Eq.trans (b := (F 67 10)) rfl rfl else if k3 : q = 67 ∧ z = 11 then by obtain ⟨w1, w2⟩ := k3; subst w1; subst w2; exact Eq.trans (b := (F 67 11)) rfl rfl else by unfold uF; simp only [nb2 k0, nb2 k1, nb2 k2, nb2 k3, cond_false]) (funext fun q => if k0 : q = 68 then by subst k0; exact Eq.trans (b := (A 68)) rfl rfl else if k1 : q = 85 then by subst k1; exact Eq.trans (b := (A 85)) rfl rfl else by unfold uA; simp only [nb1 k0, nb1 k1, cond_false]) rfl K)
