/-! lifts, printed by genlift.py: 16 -/
noncomputable def kr_opens (f1_2 : Int32) (f1_3 : Int32) (f1_4 : Int32) (f52_2 : Int32) (a2 : List Int32) (x1 : Int32) : Int32 × Int32 × Int32 × Int32 := (if f1_4 = 0 then (lt (kx_sign f1_2 f1_3 a2) (fun g462 => (if g462 = x1 then (if f52_2.toInt < 6 then (lt (kx_pass f1_2 f1_3 f1_4 a2 x1) (fun g464 => (if g464.2 = 0 then (1, g464.1, g464.2, (f52_2 + 1)) else (0, g464.1, g464.2, f52_2)))) else (lt (kx_fail f1_3 f1_4 5) (fun g465 => (lt (kx_pass f1_2 f1_3 g465.2 a2 x1) (fun g466 => (if g466.2 = 0 then (1, g466.1, g466.2, (f52_2 + 1)) else (0, g466.1, g466.2, f52_2))))))) else (lt (kx_pass f1_2 f1_3 f1_4 a2 x1) (fun g463 => (if g463.2 = 0 then (1, g463.1, g463.2, (f52_2 + 1)) else (0, g463.1, g463.2, f52_2))))))) else (lt (kx_pass f1_2 f1_3 f1_4 a2 x1) (fun g461 => (if g461.2 = 0 then (1, g461.1, g461.2, (f52_2 + 1)) else (0, g461.1, g461.2, f52_2)))))
theorem t_kr_opens {f D : Nat} {F : Nat → Nat → Int32} {A : Nat → List Int32} {L : Nat → List Int64} {Q : Option Value → sm_H → Prop} {x1 : Int32} (K : Q (some (.int ((kr_opens (F 1 2) (F 1 3) (F 1 4) (F 52 2) (A 2) x1).1))) (hz (uF (uF (uF F 1 3 ((kr_opens (F 1 2) (F 1 3) (F 1 4) (F 52 2) (A 2) x1).2.1)) 1 4 ((kr_opens (F 1 2) (F 1 3) (F 1 4) (F 52 2) (A 2) x1).2.2.1)) 52 2 ((kr_opens (F 1 2) (F 1 3) (F 1 4) (F 52 2) (A 2) x1).2.2.2)) A L)) : wl_M f D 30 [.ref 52, .int x1] (hz F A L) Q := by
  generalize hT : (kr_opens (F 1 2) (F 1 3) (F 1 4) (F 52 2) (A 2) x1) = T at K
  have hE : T = (if (F 1 4) = 0 then (lt (kx_sign (F 1 2) (F 1 3) (A 2)) (fun g462 => (if g462 = x1 then (if (F 52 2).toInt < 6 then (lt (kx_pass (F 1 2) (F 1 3) (F 1 4) (A 2) x1) (fun g464 => (if g464.2 = 0 then (1, g464.1, g464.2, ((F 52 2) + 1)) else (0, g464.1, g464.2, (F 52 2))))) else (lt (kx_fail (F 1 3) (F 1 4) 5) (fun g465 => (lt (kx_pass (F 1 2) (F 1 3) g465.2 (A 2) x1) (fun g466 => (if g466.2 = 0 then (1, g466.1, g466.2, ((F 52 2) + 1)) else (0, g466.1, g466.2, (F 52 2)))))))) else (lt (kx_pass (F 1 2) (F 1 3) (F 1 4) (A 2) x1) (fun g463 => (if g463.2 = 0 then (1, g463.1, g463.2, ((F 52 2) + 1)) else (0, g463.1, g463.2, (F 52 2)))))))) else (lt (kx_pass (F 1 2) (F 1 3) (F 1 4) (A 2) x1) (fun g461 => (if g461.2 = 0 then (1, g461.1, g461.2, ((F 52 2) + 1)) else (0, g461.1, g461.2, (F 52 2)))))) := hT.symm
  clear hT
  refine w_m (E := mm30) rfl ?_
  show wl_E f f (D - 1) mm30.2.2.2.2.2.2.2.2 0 [some (.ref 52), some (.int x1)] [] (hz F A L) Q
  refine w_n 3 (pc1 := 7) (ls1 := [some (.ref 52), some (.int x1)]) (st1 := [.int (F 1 4)]) (hp1 := (hz F A L)) rfl ?_
  refine w_zne (p3 := 10) rfl rfl (fun h => ?_) (fun h => ?_)
  · have h1 : ¬ (F 1 4) = 0 := h
    rw [if_neg h1] at hE
    refine w_n 3 (pc1 := 44) (ls1 := [some (.ref 52), some (.int x1)]) (st1 := [.int x1, .ref 1]) (hp1 := (hz F A L)) rfl ?_
    refine w_c rfl rfl (t_kx_pass ?_)
    show wl_E f _ _ mm30.2.2.2.2.2.2.2.2 47 [some (.ref 52), some (.int x1)] [] (hz (uF (uF F 1 3 (kx_pass (F 1 2) (F 1 3) (F 1 4) (A 2) x1).1) 1 4 (kx_pass (F 1 2) (F 1 3) (F 1 4) (A 2) x1).2) A L) _
    generalize hG461 : (kx_pass (F 1 2) (F 1 3) (F 1 4) (A 2) x1) = G461 at hE ⊢
    replace hE := hE.trans (lt_e _ _)
    refine w_n 3 (pc1 := 54) (ls1 := [some (.ref 52), some (.int x1)]) (st1 := [.int G461.2]) (hp1 := (hz (uF (uF F 1 3 G461.1) 1 4 G461.2) A L)) rfl ?_
    refine w_zeq (p3 := 57) rfl rfl (fun h => ?_) (fun h => ?_)
    · have h2 : G461.2 = 0 := h
      rw [if_pos h2] at hE
      refine w_n 5 (pc1 := 66) (ls1 := [some (.ref 52), some (.int x1)]) (st1 := [.int ((F 52 2) + 1), .ref 52]) (hp1 := (hz (uF (uF F 1 3 G461.1) 1 4 G461.2) A L)) rfl ?_
      refine w_pf (k := 52) (fs := hz_f52 (uF (uF F 1 3 G461.1) 1 4 G461.2)) (hp1 := (hz (uF (uF (uF F 1 3 G461.1) 1 4 G461.2) 52 2 ((F 52 2) + 1)) A L)) rfl rfl rfl (hz_p52_2 _) ?_
      refine w_n 1 (pc1 := 70) (ls1 := [some (.ref 52), some (.int x1)]) (st1 := [.int 1]) (hp1 := (hz (uF (uF (uF F 1 3 G461.1) 1 4 G461.2) 52 2 ((F 52 2) + 1)) A L)) rfl ?_
      subst T
      exact w_ri rfl (cvQ rfl rfl rfl K)
    · have h2 : ¬ G461.2 = 0 := h
      rw [if_neg h2] at hE
      refine w_n 1 (pc1 := 58) (ls1 := [some (.ref 52), some (.int x1)]) (st1 := [.int 0]) (hp1 := (hz (uF (uF F 1 3 G461.1) 1 4 G461.2) A L)) rfl ?_
      subst T
      exact w_ri rfl (cvQ (funext fun q => funext fun z => if k0 : q = 1 ∧ z = 3 then by obtain ⟨w1, w2⟩ := k0; subst w1; subst w2; exact Eq.trans (b := G461.1) rfl rfl else if k1 : q = 1 ∧ z = 4 then by obtain ⟨w1, w2⟩ := k1; subst w1; subst w2; exact Eq.trans (b := G461.2) rfl rfl else if k2 : q = 52 ∧ z = 2 then by obtain ⟨w1, w2⟩ := k2; subst w1; subst w2; exact Eq.trans (b := (F 52 2)) rfl rfl else by unfold uF; simp only [nb2 k0, nb2 k1, nb2 k2, cond_false]) rfl rfl K)
  · have h1 : (F 1 4) = 0 := h
    rw [if_pos h1] at hE
    refine w_n 2 (pc1 := 14) (ls1 := [some (.ref 52), some (.int x1)]) (st1 := [.ref 1]) (hp1 := (hz F A L)) rfl ?_
    refine w_c rfl rfl (t_kx_sign ?_)
    show wl_E f _ _ mm30.2.2.2.2.2.2.2.2 17 [some (.ref 52), some (.int x1)] [.int (kx_sign (F 1 2) (F 1 3) (A 2))] (hz F A L) _
    generalize hG462 : (kx_sign (F 1 2) (F 1 3) (A 2)) = G462 at hE ⊢
    replace hE := hE.trans (lt_e _ _)
    refine w_n 1 (pc1 := 18) (ls1 := [some (.ref 52), some (.int x1)]) (st1 := [.int x1, .int G462]) (hp1 := (hz F A L)) rfl ?_
    refine w_ne (p3 := 21) rfl rfl (fun h => ?_) (fun h => ?_)
    · have h3 : ¬ G462 = x1 := h
      rw [if_neg h3] at hE
      refine w_n 3 (pc1 := 44) (ls1 := [some (.ref 52), some (.int x1)]) (st1 := [.int x1, .ref 1]) (hp1 := (hz F A L)) rfl ?_
      refine w_c rfl rfl (t_kx_pass ?_)
      show wl_E f _ _ mm30.2.2.2.2.2.2.2.2 47 [some (.ref 52), some (.int x1)] [] (hz (uF (uF F 1 3 (kx_pass (F 1 2) (F 1 3) (F 1 4) (A 2) x1).1) 1 4 (kx_pass (F 1 2) (F 1 3) (F 1 4) (A 2) x1).2) A L) _
      generalize hG463 : (kx_pass (F 1 2) (F 1 3) (F 1 4) (A 2) x1) = G463 at hE ⊢
      replace hE := hE.trans (lt_e _ _)
      refine w_n 3 (pc1 := 54) (ls1 := [some (.ref 52), some (.int x1)]) (st1 := [.int G463.2]) (hp1 := (hz (uF (uF F 1 3 G463.1) 1 4 G463.2) A L)) rfl ?_
      refine w_zeq (p3 := 57) rfl rfl (fun h => ?_) (fun h => ?_)
      · have h4 : G463.2 = 0 := h
        rw [if_pos h4] at hE
        refine w_n 5 (pc1 := 66) (ls1 := [some (.ref 52), some (.int x1)]) (st1 := [.int ((F 52 2) + 1), .ref 52]) (hp1 := (hz (uF (uF F 1 3 G463.1) 1 4 G463.2) A L)) rfl ?_
        refine w_pf (k := 52) (fs := hz_f52 (uF (uF F 1 3 G463.1) 1 4 G463.2)) (hp1 := (hz (uF (uF (uF F 1 3 G463.1) 1 4 G463.2) 52 2 ((F 52 2) + 1)) A L)) rfl rfl rfl (hz_p52_2 _) ?_
        refine w_n 1 (pc1 := 70) (ls1 := [some (.ref 52), some (.int x1)]) (st1 := [.int 1]) (hp1 := (hz (uF (uF (uF F 1 3 G463.1) 1 4 G463.2) 52 2 ((F 52 2) + 1)) A L)) rfl ?_
        subst T
        exact w_ri rfl (cvQ rfl rfl rfl K)
      · have h4 : ¬ G463.2 = 0 := h
        rw [if_neg h4] at hE
        refine w_n 1 (pc1 := 58) (ls1 := [some (.ref 52), some (.int x1)]) (st1 := [.int 0]) (hp1 := (hz (uF (uF F 1 3 G463.1) 1 4 G463.2) A L)) rfl ?_
        subst T
        exact w_ri rfl (cvQ (funext fun q => funext fun z => if k0 : q = 1 ∧ z = 3 then by obtain ⟨w1, w2⟩ := k0; subst w1; subst w2; exact Eq.trans (b := G463.1) rfl rfl else if k1 : q = 1 ∧ z = 4 then by obtain ⟨w1, w2⟩ := k1; subst w1; subst w2; exact Eq.trans (b := G463.2) rfl rfl else if k2 : q = 52 ∧ z = 2 then by obtain ⟨w1, w2⟩ := k2; subst w1; subst w2; exact Eq.trans (b := (F 52 2)) rfl rfl else by unfold uF; simp only [nb2 k0, nb2 k1, nb2 k2, cond_false]) rfl rfl K)
    · have h3 : G462 = x1 := h
      rw [if_pos h3] at hE
      refine w_n 3 (pc1 := 27) (ls1 := [some (.ref 52), some (.int x1)]) (st1 := [.int 6, .int (F 52 2)]) (hp1 := (hz F A L)) rfl ?_
      refine w_lt (p3 := 30) rfl rfl (fun h => ?_) (fun h => ?_)
      · have h5 : (F 52 2).toInt < 6 := h
        rw [if_pos h5] at hE
        refine w_n 3 (pc1 := 44) (ls1 := [some (.ref 52), some (.int x1)]) (st1 := [.int x1, .ref 1]) (hp1 := (hz F A L)) rfl ?_
        refine w_c rfl rfl (t_kx_pass ?_)
        show wl_E f _ _ mm30.2.2.2.2.2.2.2.2 47 [some (.ref 52), some (.int x1)] [] (hz (uF (uF F 1 3 (kx_pass (F 1 2) (F 1 3) (F 1 4) (A 2) x1).1) 1 4 (kx_pass (F 1 2) (F 1 3) (F 1 4) (A 2) x1).2) A L) _
        generalize hG464 : (kx_pass (F 1 2) (F 1 3) (F 1 4) (A 2) x1) = G464 at hE ⊢
        replace hE := hE.trans (lt_e _ _)
        refine w_n 3 (pc1 := 54) (ls1 := [some (.ref 52), some (.int x1)]) (st1 := [.int G464.2]) (hp1 := (hz (uF (uF F 1 3 G464.1) 1 4 G464.2) A L)) rfl ?_
        refine w_zeq (p3 := 57) rfl rfl (fun h => ?_) (fun h => ?_)
        · have h6 : G464.2 = 0 := h
          rw [if_pos h6] at hE
          refine w_n 5 (pc1 := 66) (ls1 := [some (.ref 52), some (.int x1)]) (st1 := [.int ((F 52 2) + 1), .ref 52]) (hp1 := (hz (uF (uF F 1 3 G464.1) 1 4 G464.2) A L)) rfl ?_
          refine w_pf (k := 52) (fs := hz_f52 (uF (uF F 1 3 G464.1) 1 4 G464.2)) (hp1 := (hz (uF (uF (uF F 1 3 G464.1) 1 4 G464.2) 52 2 ((F 52 2) + 1)) A L)) rfl rfl rfl (hz_p52_2 _) ?_
          refine w_n 1 (pc1 := 70) (ls1 := [some (.ref 52), some (.int x1)]) (st1 := [.int 1]) (hp1 := (hz (uF (uF (uF F 1 3 G464.1) 1 4 G464.2) 52 2 ((F 52 2) + 1)) A L)) rfl ?_
          subst T
          exact w_ri rfl (cvQ rfl rfl rfl K)
        · have h6 : ¬ G464.2 = 0 := h
          rw [if_neg h6] at hE
          refine w_n 1 (pc1 := 58) (ls1 := [some (.ref 52), some (.int x1)]) (st1 := [.int 0]) (hp1 := (hz (uF (uF F 1 3 G464.1) 1 4 G464.2) A L)) rfl ?_
          subst T
          exact w_ri rfl (cvQ (funext fun q => funext fun z => if k0 : q = 1 ∧ z = 3 then by obtain ⟨w1, w2⟩ := k0; subst w1; subst w2; exact Eq.trans (b := G464.1) rfl rfl else if k1 : q = 1 ∧ z = 4 then by obtain ⟨w1, w2⟩ := k1; subst w1; subst w2; exact Eq.trans (b := G464.2) rfl rfl else if k2 : q = 52 ∧ z = 2 then by obtain ⟨w1, w2⟩ := k2; subst w1; subst w2; exact Eq.trans (b := (F 52 2)) rfl rfl else by unfold uF; simp only [nb2 k0, nb2 k1, nb2 k2, cond_false]) rfl rfl K)
      · have h5 : 6 ≤ (F 52 2).toInt := h
        rw [if_neg (Int.not_lt.mpr h5)] at hE
        refine w_n 3 (pc1 := 35) (ls1 := [some (.ref 52), some (.int x1)]) (st1 := [.int 5, .ref 1]) (hp1 := (hz F A L)) rfl ?_
        refine w_c rfl rfl (t_kx_fail ?_)
        show wl_E f _ _ mm30.2.2.2.2.2.2.2.2 38 [some (.ref 52), some (.int x1)] [.int (kx_fail (F 1 3) (F 1 4) 5).1] (hz (uF F 1 4 (kx_fail (F 1 3) (F 1 4) 5).2) A L) _
        generalize hG465 : (kx_fail (F 1 3) (F 1 4) 5) = G465 at hE ⊢
        replace hE := hE.trans (lt_e _ _)
        refine w_n 4 (pc1 := 44) (ls1 := [some (.ref 52), some (.int x1)]) (st1 := [.int x1, .ref 1]) (hp1 := (hz (uF F 1 4 G465.2) A L)) rfl ?_
        refine w_c rfl rfl (t_kx_pass ?_)
        show wl_E f _ _ mm30.2.2.2.2.2.2.2.2 47 [some (.ref 52), some (.int x1)] [] (hz (uF (uF (uF F 1 4 G465.2) 1 3 (kx_pass (F 1 2) (F 1 3) G465.2 (A 2) x1).1) 1 4 (kx_pass (F 1 2) (F 1 3) G465.2 (A 2) x1).2) A L) _
        generalize hG466 : (kx_pass (F 1 2) (F 1 3) G465.2 (A 2) x1) = G466 at hE ⊢
        replace hE := hE.trans (lt_e _ _)
        refine w_n 3 (pc1 := 54) (ls1 := [some (.ref 52), some (.int x1)]) (st1 := [.int G466.2]) (hp1 := (hz (uF (uF (uF F 1 4 G465.2) 1 3 G466.1) 1 4 G466.2) A L)) rfl ?_
        refine w_zeq (p3 := 57) rfl rfl (fun h => ?_) (fun h => ?_)
        · have h7 : G466.2 = 0 := h
          rw [if_pos h7] at hE
          refine w_n 5 (pc1 := 66) (ls1 := [some (.ref 52), some (.int x1)]) (st1 := [.int ((F 52 2) + 1), .ref 52]) (hp1 := (hz (uF (uF (uF F 1 4 G465.2) 1 3 G466.1) 1 4 G466.2) A L)) rfl ?_
          refine w_pf (k := 52) (fs := hz_f52 (uF (uF (uF F 1 4 G465.2) 1 3 G466.1) 1 4 G466.2)) (hp1 := (hz (uF (uF (uF (uF F 1 4 G465.2) 1 3 G466.1) 1 4 G466.2) 52 2 ((F 52 2) + 1)) A L)) rfl rfl rfl (hz_p52_2 _) ?_
          refine w_n 1 (pc1 := 70) (ls1 := [some (.ref 52), some (.int x1)]) (st1 := [.int 1]) (hp1 := (hz (uF (uF (uF (uF F 1 4 G465.2) 1 3 G466.1) 1 4 G466.2) 52 2 ((F 52 2) + 1)) A L)) rfl ?_
          subst T
          exact w_ri rfl (cvQ (funext fun q => funext fun z => if k0 : q = 1 ∧ z = 3 then by obtain ⟨w1, w2⟩ := k0; subst w1; subst w2; exact Eq.trans (b := G466.1) rfl rfl else if k1 : q = 1 ∧ z = 4 then by obtain ⟨w1, w2⟩ := k1; subst w1; subst w2; exact Eq.trans (b := G466.2) rfl rfl else if k2 : q = 52 ∧ z = 2 then by obtain ⟨w1, w2⟩ := k2; subst w1; subst w2; exact Eq.trans (b := ((F 52 2) + 1)) rfl rfl else by unfold uF; simp only [nb2 k0, nb2 k1, nb2 k2, cond_false]) rfl rfl K)
        · have h7 : ¬ G466.2 = 0 := h
          rw [if_neg h7] at hE
          refine w_n 1 (pc1 := 58) (ls1 := [some (.ref 52), some (.int x1)]) (st1 := [.int 0]) (hp1 := (hz (uF (uF (uF F 1 4 G465.2) 1 3 G466.1) 1 4 G466.2) A L)) rfl ?_
          subst T
          exact w_ri rfl (cvQ (funext fun q => funext fun z => if k0 : q = 1 ∧ z = 3 then by obtain ⟨w1, w2⟩ := k0; subst w1; subst w2; exact Eq.trans (b := G466.1) rfl rfl else if k1 : q = 1 ∧ z = 4 then by obtain ⟨w1, w2⟩ := k1; subst w1; subst w2; exact Eq.trans (b := G466.2) rfl rfl else if k2 : q = 52 ∧ z = 2 then by obtain ⟨w1, w2⟩ := k2; subst w1; subst w2; exact Eq.trans (b := (F 52 2)) rfl rfl else by unfold uF; simp only [nb2 k0, nb2 k1, nb2 k2, cond_false]) rfl rfl K)
noncomputable def kr_readFactor (r : Int32 → Int32 → Int32 → Int32 → Int32 → List Int32 → List Int32 → List Int32 → (Int32 × Int32 × Int32 × Int32 × List Int32 × List Int32)) (f1_2 : Int32) (f1_3 : Int32) (f1_4 : Int32) (f52_2 : Int32) (f53_1 : Int32) (a2 : List Int32) (a58 : List Int32) (a59 : List Int32) : Int32 × Int32 × Int32 × Int32 × List Int32 × List Int32 := (if f1_4 = 0 then (lt (kx_sign f1_2 f1_3 a2) (fun g450 => (if g450 = 91 then (lt (kr_opens f1_2 f1_3 f1_4 f52_2 a2 91) (fun g467 => (if g467.1 = 0 then (g467.2.1, g467.2.2.1, g467.2.2.2, f53_1, a58, a59) else (lt (r f1_2 g467.2.1 g467.2.2.1 g467.2.2.2 f53_1 a2 a58 a59) (fun g468 => (lt (kx_pass f1_2 g468.1 g468.2.1 a2 93) (fun g469 => (g469.1, g469.2, (g468.2.2.1 - 1), g468.2.2.2.1, g468.2.2.2.2.1, g468.2.2.2.2.2)))))))) else (lt (kc_within g450 48 57) (fun g451 => (if g451 = 0 then (if g450 = (-1) then (lt (kx_fail f1_3 f1_4 1) (fun g454 => (f1_3, g454.2, f52_2, f53_1, a58, a59))) else (if (sx_ixF (g450.toUInt32 % 65536).toInt32 sx_b 0).toInt < 0 then (lt (kx_fail f1_3 f1_4 1) (fun g453 => (f1_3, g453.2, f52_2, f53_1, a58, a59))) else (lt (kl_add_53 f53_1 a58 a59 103 (sx_ixF (g450.toUInt32 % 65536).toInt32 sx_b 0)) (fun g452 => ((f1_3 + 1), f1_4, f52_2, g452.2.1, g452.2.2.1, g452.2.2.2))))) else (lt (kr_readNumber f1_2 f1_3 f1_4 f53_1 a2 a58 a59) (fun g460 => (g460.1, g460.2.1, f52_2, g460.2.2.1, g460.2.2.2.1, g460.2.2.2.2))))))))) else (f1_3, f1_4, f52_2, f53_1, a58, a59))
theorem t_kr_readFactor {f D : Nat} {n : Nat} {r : Int32 → Int32 → Int32 → Int32 → Int32 → List Int32 → List Int32 → List Int32 → (Int32 × Int32 × Int32 × Int32 × List Int32 × List Int32)} (hr : ∀ (D : Nat) {F : Nat → Nat → Int32} {A : Nat → List Int32} {L : Nat → List Int64} {Q : Option Value → sm_H → Prop}, D ≤ n → (Q none (hz (uF (uF (uF (uF F 1 3 ((r (F 1 2) (F 1 3) (F 1 4) (F 52 2) (F 53 1) (A 2) (A 58) (A 59)).1)) 1 4 ((r (F 1 2) (F 1 3) (F 1 4) (F 52 2) (F 53 1) (A 2) (A 58) (A 59)).2.1)) 52 2 ((r (F 1 2) (F 1 3) (F 1 4) (F 52 2) (F 53 1) (A 2) (A 58) (A 59)).2.2.1)) 53 1 ((r (F 1 2) (F 1 3) (F 1 4) (F 52 2) (F 53 1) (A 2) (A 58) (A 59)).2.2.2.1)) (uA (uA A 58 ((r (F 1 2) (F 1 3) (F 1 4) (F 52 2) (F 53 1) (A 2) (A 58) (A 59)).2.2.2.2.1)) 59 ((r (F 1 2) (F 1 3) (F 1 4) (F 52 2) (F 53 1) (A 2) (A 58) (A 59)).2.2.2.2.2)) L)) → wl_M f D 27 [.ref 52] (hz F A L) Q) (hnf : n ≤ f) {F : Nat → Nat → Int32} {A : Nat → List Int32} {L : Nat → List Int64} {Q : Option Value → sm_H → Prop} (hn : D ≤ n) (K : Q none (hz (uF (uF (uF (uF F 1 3 ((kr_readFactor r (F 1 2) (F 1 3) (F 1 4) (F 52 2) (F 53 1) (A 2) (A 58) (A 59)).1)) 1 4 ((kr_readFactor r (F 1 2) (F 1 3) (F 1 4) (F 52 2) (F 53 1) (A 2) (A 58) (A 59)).2.1)) 52 2 ((kr_readFactor r (F 1 2) (F 1 3) (F 1 4) (F 52 2) (F 53 1) (A 2) (A 58) (A 59)).2.2.1)) 53 1 ((kr_readFactor r (F 1 2) (F 1 3) (F 1 4) (F 52 2) (F 53 1) (A 2) (A 58) (A 59)).2.2.2.1)) (uA (uA A 58 ((kr_readFactor r (F 1 2) (F 1 3) (F 1 4) (F 52 2) (F 53 1) (A 2) (A 58) (A 59)).2.2.2.2.1)) 59 ((kr_readFactor r (F 1 2) (F 1 3) (F 1 4) (F 52 2) (F 53 1) (A 2) (A 58) (A 59)).2.2.2.2.2)) L)) : wl_M f D 29 [.ref 52] (hz F A L) Q := by
  generalize hT : (kr_readFactor r (F 1 2) (F 1 3) (F 1 4) (F 52 2) (F 53 1) (A 2) (A 58) (A 59)) = T at K
  have hE : T = (if (F 1 4) = 0 then (lt (kx_sign (F 1 2) (F 1 3) (A 2)) (fun g450 => (if g450 = 91 then (lt (kr_opens (F 1 2) (F 1 3) (F 1 4) (F 52 2) (A 2) 91) (fun g467 => (if g467.1 = 0 then (g467.2.1, g467.2.2.1, g467.2.2.2, (F 53 1), (A 58), (A 59)) else (lt (r (F 1 2) g467.2.1 g467.2.2.1 g467.2.2.2 (F 53 1) (A 2) (A 58) (A 59)) (fun g468 => (lt (kx_pass (F 1 2) g468.1 g468.2.1 (A 2) 93) (fun g469 => (g469.1, g469.2, (g468.2.2.1 - 1), g468.2.2.2.1, g468.2.2.2.2.1, g468.2.2.2.2.2)))))))) else (lt (kc_within g450 48 57) (fun g451 => (if g451 = 0 then (if g450 = (-1) then (lt (kx_fail (F 1 3) (F 1 4) 1) (fun g454 => ((F 1 3), g454.2, (F 52 2), (F 53 1), (A 58), (A 59)))) else (if (sx_ixF (g450.toUInt32 % 65536).toInt32 sx_b 0).toInt < 0 then (lt (kx_fail (F 1 3) (F 1 4) 1) (fun g453 => ((F 1 3), g453.2, (F 52 2), (F 53 1), (A 58), (A 59)))) else (lt (kl_add_53 (F 53 1) (A 58) (A 59) 103 (sx_ixF (g450.toUInt32 % 65536).toInt32 sx_b 0)) (fun g452 => (((F 1 3) + 1), (F 1 4), (F 52 2), g452.2.1, g452.2.2.1, g452.2.2.2))))) else (lt (kr_readNumber (F 1 2) (F 1 3) (F 1 4) (F 53 1) (A 2) (A 58) (A 59)) (fun g460 => (g460.1, g460.2.1, (F 52 2), g460.2.2.1, g460.2.2.2.1, g460.2.2.2.2))))))))) else ((F 1 3), (F 1 4), (F 52 2), (F 53 1), (A 58), (A 59))) := hT.symm
  clear hT
  refine w_m (E := mm29) rfl ?_
  show wl_E f f (D - 1) mm29.2.2.2.2.2.2.2.2 0 [some (.ref 52), none, none] [] (hz F A L) Q
  refine w_n 3 (pc1 := 7) (ls1 := [some (.ref 52), none, none]) (st1 := [.int (F 1 4)]) (hp1 := (hz F A L)) rfl ?_
  refine w_zeq (p3 := 10) rfl rfl (fun h => ?_) (fun h => ?_)
  · have h1 : (F 1 4) = 0 := h
    rw [if_pos h1] at hE
    refine w_n 2 (pc1 := 15) (ls1 := [some (.ref 52), none, none]) (st1 := [.ref 1]) (hp1 := (hz F A L)) rfl ?_
    refine w_c rfl rfl (t_kx_sign ?_)
    show wl_E f _ _ mm29.2.2.2.2.2.2.2.2 18 [some (.ref 52), none, none] [.int (kx_sign (F 1 2) (F 1 3) (A 2))] (hz F A L) _
    generalize hG450 : (kx_sign (F 1 2) (F 1 3) (A 2)) = G450 at hE ⊢
    replace hE := hE.trans (lt_e _ _)
    refine w_n 3 (pc1 := 22) (ls1 := [some (.ref 52), some (.int G450), none]) (st1 := [.int 91, .int G450]) (hp1 := (hz F A L)) rfl ?_
    refine w_ne (p3 := 25) rfl rfl (fun h => ?_) (fun h => ?_)
    · have h2 : ¬ G450 = 91 := h
      rw [if_neg h2] at hE
      refine w_n 3 (pc1 := 66) (ls1 := [some (.ref 52), some (.int G450), none]) (st1 := [.int 57, .int 48, .int G450]) (hp1 := (hz F A L)) rfl ?_
      refine w_c rfl rfl (t_kc_within ?_)
      show wl_E f _ _ mm29.2.2.2.2.2.2.2.2 69 [some (.ref 52), some (.int G450), none] [.int (kc_within G450 48 57)] (hz F A L) _
      generalize hG451 : (kc_within G450 48 57) = G451 at hE ⊢
      replace hE := hE.trans (lt_e _ _)
      refine w_zeq (p3 := 72) rfl rfl (fun h => ?_) (fun h => ?_)
      · have h3 : G451 = 0 := h
        rw [if_pos h3] at hE
        refine w_n 2 (pc1 := 81) (ls1 := [some (.ref 52), some (.int G450), none]) (st1 := [.int (-1), .int G450]) (hp1 := (hz F A L)) rfl ?_
        refine w_ne (p3 := 84) rfl rfl (fun h => ?_) (fun h => ?_)
        · have h4 : ¬ G450 = (-1) := h
          rw [if_neg h4] at hE
          refine w_io (x := G450) rfl rfl rfl ?_
          refine w_n 2 (pc1 := 97) (ls1 := [some (.ref 52), some (.int G450), some (.int (sx_ixF (G450.toUInt32 % 65536).toInt32 sx_b 0))]) (st1 := [.int (sx_ixF (G450.toUInt32 % 65536).toInt32 sx_b 0)]) (hp1 := (hz F A L)) rfl ?_
          refine w_zge (p3 := 100) rfl rfl (fun h => ?_) (fun h => ?_)
          · have h5 : 0 ≤ (sx_ixF (G450.toUInt32 % 65536).toInt32 sx_b 0).toInt := h
            rw [if_neg (Int.not_lt.mpr h5)] at hE
            refine w_n 6 (pc1 := 120) (ls1 := [some (.ref 52), some (.int G450), some (.int (sx_ixF (G450.toUInt32 % 65536).toInt32 sx_b 0))]) (st1 := [.int ((F 1 3) + 1), .ref 1]) (hp1 := (hz F A L)) rfl ?_
            refine w_pf (k := 1) (fs := hz_f1 F) (hp1 := (hz (uF F 1 3 ((F 1 3) + 1)) A L)) rfl rfl rfl (hz_p1_3 _) ?_
            refine w_n 4 (pc1 := 130) (ls1 := [some (.ref 52), some (.int G450), some (.int (sx_ixF (G450.toUInt32 % 65536).toInt32 sx_b 0))]) (st1 := [.int (sx_ixF (G450.toUInt32 % 65536).toInt32 sx_b 0), .int 103, .ref 53]) (hp1 := (hz (uF F 1 3 ((F 1 3) + 1)) A L)) rfl ?_
            refine w_c rfl rfl (t_kl_add_53 ?_)
            show wl_E f _ _ mm29.2.2.2.2.2.2.2.2 133 [some (.ref 52), some (.int G450), some (.int (sx_ixF (G450.toUInt32 % 65536).toInt32 sx_b 0))] [.int (kl_add_53 (F 53 1) (A 58) (A 59) 103 (sx_ixF (G450.toUInt32 % 65536).toInt32 sx_b 0)).1] (hz (uF (uF F 1 3 ((F 1 3) + 1)) 53 1 (kl_add_53 (F 53 1) (A 58) (A 59) 103 (sx_ixF (G450.toUInt32 % 65536).toInt32 sx_b 0)).2.1) (uA (uA A 58 (kl_add_53 (F 53 1) (A 58) (A 59) 103 (sx_ixF (G450.toUInt32 % 65536).toInt32 sx_b 0)).2.2.1) 59 (kl_add_53 (F 53 1) (A 58) (A 59) 103 (sx_ixF (G450.toUInt32 % 65536).toInt32 sx_b 0)).2.2.2) L) _
            generalize hG452 : (kl_add_53 (F 53 1) (A 58) (A 59) 103 (sx_ixF (G450.toUInt32 % 65536).toInt32 sx_b 0)) = G452 at hE ⊢
            replace hE := hE.trans (lt_e _ _)
            refine w_n 1 (pc1 := 134) (ls1 := [some (.ref 52), some (.int G450), some (.int (sx_ixF (G450.toUInt32 % 65536).toInt32 sx_b 0))]) (st1 := []) (hp1 := (hz (uF (uF F 1 3 ((F 1 3) + 1)) 53 1 G452.2.1) (uA (uA A 58 G452.2.2.1) 59 G452.2.2.2) L)) rfl ?_
            subst T
            exact w_r rfl rfl (cvQ (funext fun q => funext fun z => if k0 : q = 1 ∧ z = 3 then by obtain ⟨w1, w2⟩ := k0; subst w1; subst w2; exact Eq.trans (b := ((F 1 3) + 1)) rfl rfl else if k1 : q = 1 ∧ z = 4 then by obtain ⟨w1, w2⟩ := k1; subst w1; subst w2; exact Eq.trans (b := (F 1 4)) rfl rfl else if k2 : q = 52 ∧ z = 2 then by obtain ⟨w1, w2⟩ := k2; subst w1; subst w2; exact Eq.trans (b := (F 52 2)) rfl rfl else if k3 : q = 53 ∧ z = 1 then by obtain ⟨w1, w2⟩ := k3; subst w1; subst w2; exact Eq.trans (b := G452.2.1) rfl rfl else by unfold uF; simp only [nb2 k0, nb2 k1, nb2 k2, nb2 k3, cond_false]) rfl rfl K)
          · have h5 : (sx_ixF (G450.toUInt32 % 65536).toInt32 sx_b 0).toInt < 0 := h
            rw [if_pos h5] at hE
            refine w_n 3 (pc1 := 105) (ls1 := [some (.ref 52), some (.int G450), some (.int (sx_ixF (G450.toUInt32 % 65536).toInt32 sx_b 0))]) (st1 := [.int 1, .ref 1]) (hp1 := (hz F A L)) rfl ?_
            refine w_c rfl rfl (t_kx_fail ?_)
            show wl_E f _ _ mm29.2.2.2.2.2.2.2.2 108 [some (.ref 52), some (.int G450), some (.int (sx_ixF (G450.toUInt32 % 65536).toInt32 sx_b 0))] [.int (kx_fail (F 1 3) (F 1 4) 1).1] (hz (uF F 1 4 (kx_fail (F 1 3) (F 1 4) 1).2) A L) _
            generalize hG453 : (kx_fail (F 1 3) (F 1 4) 1) = G453 at hE ⊢
            replace hE := hE.trans (lt_e _ _)
            refine w_n 1 (pc1 := 109) (ls1 := [some (.ref 52), some (.int G450), some (.int (sx_ixF (G450.toUInt32 % 65536).toInt32 sx_b 0))]) (st1 := []) (hp1 := (hz (uF F 1 4 G453.2) A L)) rfl ?_
            subst T
            exact w_r rfl rfl (cvQ (funext fun q => funext fun z => if k0 : q = 1 ∧ z = 3 then by obtain ⟨w1, w2⟩ := k0; subst w1; subst w2; exact Eq.trans (b := (F 1 3)) rfl rfl else if k1 : q = 1 ∧ z = 4 then by obtain ⟨w1, w2⟩ := k1; subst w1; subst w2; exact Eq.trans (b := G453.2) rfl rfl else if k2 : q = 52 ∧ z = 2 then by obtain ⟨w1, w2⟩ := k2; subst w1; subst w2; exact Eq.trans (b := (F 52 2)) rfl rfl else if k3 : q = 53 ∧ z = 1 then by obtain ⟨w1, w2⟩ := k3; subst w1; subst w2; exact Eq.trans (b := (F 53 1)) rfl rfl else by unfold uF; simp only [nb2 k0, nb2 k1, nb2 k2, nb2 k3, cond_false]) (funext fun q => if k0 : q = 58 then by subst k0; exact Eq.trans (b := (A 58)) rfl rfl else if k1 : q = 59 then by subst k1; exact Eq.trans (b := (A 59)) rfl rfl else by unfold uA; simp only [nb1 k0, nb1 k1, cond_false]) rfl K)
        · have h4 : G450 = (-1) := h
          rw [if_pos h4] at hE
          refine w_n 4 (pc1 := 97) (ls1 := [some (.ref 52), some (.int G450), some (.int (-1))]) (st1 := [.int (-1)]) (hp1 := (hz F A L)) rfl ?_
          refine w_zge (p3 := 100) rfl rfl (fun h => absurd h (by decide)) (fun _ => ?_)
          refine w_n 3 (pc1 := 105) (ls1 := [some (.ref 52), some (.int G450), some (.int (-1))]) (st1 := [.int 1, .ref 1]) (hp1 := (hz F A L)) rfl ?_
          refine w_c rfl rfl (t_kx_fail ?_)
          show wl_E f _ _ mm29.2.2.2.2.2.2.2.2 108 [some (.ref 52), some (.int G450), some (.int (-1))] [.int (kx_fail (F 1 3) (F 1 4) 1).1] (hz (uF F 1 4 (kx_fail (F 1 3) (F 1 4) 1).2) A L) _
          generalize hG454 : (kx_fail (F 1 3) (F 1 4) 1) = G454 at hE ⊢
          replace hE := hE.trans (lt_e _ _)
          refine w_n 1 (pc1 := 109) (ls1 := [some (.ref 52), some (.int G450), some (.int (-1))]) (st1 := []) (hp1 := (hz (uF F 1 4 G454.2) A L)) rfl ?_
          subst T
          exact w_r rfl rfl (cvQ (funext fun q => funext fun z => if k0 : q = 1 ∧ z = 3 then by obtain ⟨w1, w2⟩ := k0; subst w1; subst w2; exact Eq.trans (b := (F 1 3)) rfl rfl else if k1 : q = 1 ∧ z = 4 then by obtain ⟨w1, w2⟩ := k1; subst w1; subst w2; exact Eq.trans (b := G454.2) rfl rfl else if k2 : q = 52 ∧ z = 2 then by obtain ⟨w1, w2⟩ := k2; subst w1; subst w2; exact Eq.trans (b := (F 52 2)) rfl rfl else if k3 : q = 53 ∧ z = 1 then by obtain ⟨w1, w2⟩ := k3; subst w1; subst w2; exact Eq.trans (b := (F 53 1)) rfl rfl else by unfold uF; simp only [nb2 k0, nb2 k1, nb2 k2, nb2 k3, cond_false]) (funext fun q => if k0 : q = 58 then by subst k0; exact Eq.trans (b := (A 58)) rfl rfl else if k1 : q = 59 then by subst k1; exact Eq.trans (b := (A 59)) rfl rfl else by unfold uA; simp only [nb1 k0, nb1 k1, cond_false]) rfl K)
      · have h3 : ¬ G451 = 0 := h
        rw [if_neg h3] at hE
        refine w_n 1 (pc1 := 73) (ls1 := [some (.ref 52), some (.int G450), none]) (st1 := [.ref 52]) (hp1 := (hz F A L)) rfl ?_
        refine w_c rfl rfl (t_kr_readNumber ?_)
        show wl_E f _ _ mm29.2.2.2.2.2.2.2.2 76 [some (.ref 52), some (.int G450), none] [] (hz (uF (uF (uF F 1 3 (kr_readNumber (F 1 2) (F 1 3) (F 1 4) (F 53 1) (A 2) (A 58) (A 59)).1) 1 4 (kr_readNumber (F 1 2) (F 1 3) (F 1 4) (F 53 1) (A 2) (A 58) (A 59)).2.1) 53 1 (kr_readNumber (F 1 2) (F 1 3) (F 1 4) (F 53 1) (A 2) (A 58) (A 59)).2.2.1) (uA (uA A 58 (kr_readNumber (F 1 2) (F 1 3) (F 1 4) (F 53 1) (A 2) (A 58) (A 59)).2.2.2.1) 59 (kr_readNumber (F 1 2) (F 1 3) (F 1 4) (F 53 1) (A 2) (A 58) (A 59)).2.2.2.2) L) _
        generalize hG460 : (kr_readNumber (F 1 2) (F 1 3) (F 1 4) (F 53 1) (A 2) (A 58) (A 59)) = G460 at hE ⊢
        replace hE := hE.trans (lt_e _ _)
        refine w_n 1 (pc1 := 134) (ls1 := [some (.ref 52), some (.int G450), none]) (st1 := []) (hp1 := (hz (uF (uF (uF F 1 3 G460.1) 1 4 G460.2.1) 53 1 G460.2.2.1) (uA (uA A 58 G460.2.2.2.1) 59 G460.2.2.2.2) L)) rfl ?_
        subst T
        exact w_r rfl rfl (cvQ (funext fun q => funext fun z => if k0 : q = 1 ∧ z = 3 then by obtain ⟨w1, w2⟩ := k0; subst w1; subst w2; exact Eq.trans (b := G460.1) rfl rfl else if k1 : q = 1 ∧ z = 4 then by obtain ⟨w1, w2⟩ := k1; subst w1; subst w2; exact Eq.trans (b := G460.2.1) rfl rfl else if k2 : q = 52 ∧ z = 2 then by obtain ⟨w1, w2⟩ := k2; subst w1; subst w2; exact Eq.trans (b := (F 52 2)) rfl rfl else if k3 : q = 53 ∧ z = 1 then by obtain ⟨w1, w2⟩ := k3; subst w1; subst w2; exact Eq.trans (b := G460.2.2.1) rfl rfl else by unfold uF; simp only [nb2 k0, nb2 k1, nb2 k2, nb2 k3, cond_false]) rfl rfl K)
    · have h2 : G450 = 91 := h
      rw [if_pos h2] at hE
      refine w_n 2 (pc1 := 28) (ls1 := [some (.ref 52), some (.int G450), none]) (st1 := [.int 91, .ref 52]) (hp1 := (hz F A L)) rfl ?_
      refine w_c rfl rfl (t_kr_opens ?_)
      show wl_E f _ _ mm29.2.2.2.2.2.2.2.2 31 [some (.ref 52), some (.int G450), none] [.int (kr_opens (F 1 2) (F 1 3) (F 1 4) (F 52 2) (A 2) 91).1] (hz (uF (uF (uF F 1 3 (kr_opens (F 1 2) (F 1 3) (F 1 4) (F 52 2) (A 2) 91).2.1) 1 4 (kr_opens (F 1 2) (F 1 3) (F 1 4) (F 52 2) (A 2) 91).2.2.1) 52 2 (kr_opens (F 1 2) (F 1 3) (F 1 4) (F 52 2) (A 2) 91).2.2.2) A L) _
      generalize hG467 : (kr_opens (F 1 2) (F 1 3) (F 1 4) (F 52 2) (A 2) 91) = G467 at hE ⊢
      replace hE := hE.trans (lt_e _ _)
      refine w_zne (p3 := 34) rfl rfl (fun h => ?_) (fun h => ?_)
      · have h6 : ¬ G467.1 = 0 := h
        rw [if_neg h6] at hE
        refine w_n 1 (pc1 := 36) (ls1 := [some (.ref 52), some (.int G450), none]) (st1 := [.ref 52]) (hp1 := (hz (uF (uF (uF F 1 3 G467.2.1) 1 4 G467.2.2.1) 52 2 G467.2.2.2) A L)) rfl ?_
        refine w_c rfl rfl (hr _ (by omega) ?_)
        show wl_E f _ _ mm29.2.2.2.2.2.2.2.2 39 [some (.ref 52), some (.int G450), none] [] (hz (uF (uF (uF (uF (uF (uF (uF F 1 3 G467.2.1) 1 4 G467.2.2.1) 52 2 G467.2.2.2) 1 3 (r (F 1 2) G467.2.1 G467.2.2.1 G467.2.2.2 (F 53 1) (A 2) (A 58) (A 59)).1) 1 4 (r (F 1 2) G467.2.1 G467.2.2.1 G467.2.2.2 (F 53 1) (A 2) (A 58) (A 59)).2.1) 52 2 (r (F 1 2) G467.2.1 G467.2.2.1 G467.2.2.2 (F 53 1) (A 2) (A 58) (A 59)).2.2.1) 53 1 (r (F 1 2) G467.2.1 G467.2.2.1 G467.2.2.2 (F 53 1) (A 2) (A 58) (A 59)).2.2.2.1) (uA (uA A 58 (r (F 1 2) G467.2.1 G467.2.2.1 G467.2.2.2 (F 53 1) (A 2) (A 58) (A 59)).2.2.2.2.1) 59 (r (F 1 2) G467.2.1 G467.2.2.1 G467.2.2.2 (F 53 1) (A 2) (A 58) (A 59)).2.2.2.2.2) L) _
        generalize hG468 : (r (F 1 2) G467.2.1 G467.2.2.1 G467.2.2.2 (F 53 1) (A 2) (A 58) (A 59)) = G468 at hE ⊢
        replace hE := hE.trans (lt_e _ _)
        refine w_n 3 (pc1 := 45) (ls1 := [some (.ref 52), some (.int G450), none]) (st1 := [.int 93, .ref 1]) (hp1 := (hz (uF (uF (uF (uF (uF (uF (uF F 1 3 G467.2.1) 1 4 G467.2.2.1) 52 2 G467.2.2.2) 1 3 G468.1) 1 4 G468.2.1) 52 2 G468.2.2.1) 53 1 G468.2.2.2.1) (uA (uA A 58 G468.2.2.2.2.1) 59 G468.2.2.2.2.2) L)) rfl ?_
        refine w_c rfl rfl (t_kx_pass ?_)
        show wl_E f _ _ mm29.2.2.2.2.2.2.2.2 48 [some (.ref 52), some (.int G450), none] [] (hz (uF (uF (uF (uF (uF (uF (uF (uF (uF F 1 3 G467.2.1) 1 4 G467.2.2.1) 52 2 G467.2.2.2) 1 3 G468.1) 1 4 G468.2.1) 52 2 G468.2.2.1) 53 1 G468.2.2.2.1) 1 3 (kx_pass (F 1 2) G468.1 G468.2.1 (A 2) 93).1) 1 4 (kx_pass (F 1 2) G468.1 G468.2.1 (A 2) 93).2) (uA (uA A 58 G468.2.2.2.2.1) 59 G468.2.2.2.2.2) L) _
        generalize hG469 : (kx_pass (F 1 2) G468.1 G468.2.1 (A 2) 93) = G469 at hE ⊢
        replace hE := hE.trans (lt_e _ _)
        refine w_n 5 (pc1 := 55) (ls1 := [some (.ref 52), some (.int G450), none]) (st1 := [.int (G468.2.2.1 - 1), .ref 52]) (hp1 := (hz (uF (uF (uF (uF (uF (uF (uF (uF (uF F 1 3 G467.2.1) 1 4 G467.2.2.1) 52 2 G467.2.2.2) 1 3 G468.1) 1 4 G468.2.1) 52 2 G468.2.2.1) 53 1 G468.2.2.2.1) 1 3 G469.1) 1 4 G469.2) (uA (uA A 58 G468.2.2.2.2.1) 59 G468.2.2.2.2.2) L)) rfl ?_
        refine w_pf (k := 52) (fs := hz_f52 (uF (uF (uF (uF (uF (uF (uF (uF (uF F 1 3 G467.2.1) 1 4 G467.2.2.1) 52 2 G467.2.2.2) 1 3 G468.1) 1 4 G468.2.1) 52 2 G468.2.2.1) 53 1 G468.2.2.2.1) 1 3 G469.1) 1 4 G469.2)) (hp1 := (hz (uF (uF (uF (uF (uF (uF (uF (uF (uF (uF F 1 3 G467.2.1) 1 4 G467.2.2.1) 52 2 G467.2.2.2) 1 3 G468.1) 1 4 G468.2.1) 52 2 G468.2.2.1) 53 1 G468.2.2.2.1) 1 3 G469.1) 1 4 G469.2) 52 2 (G468.2.2.1 - 1)) (uA (uA A 58 G468.2.2.2.2.1) 59 G468.2.2.2.2.2) L)) rfl rfl rfl (hz_p52_2 _) ?_
        refine w_n 1 (pc1 := 134) (ls1 := [some (.ref 52), some (.int G450), none]) (st1 := []) (hp1 := (hz (uF (uF (uF (uF (uF (uF (uF (uF (uF (uF F 1 3 G467.2.1) 1 4 G467.2.2.1) 52 2 G467.2.2.2) 1 3 G468.1) 1 4 G468.2.1) 52 2 G468.2.2.1) 53 1 G468.2.2.2.1) 1 3 G469.1) 1 4 G469.2) 52 2 (G468.2.2.1 - 1)) (uA (uA A 58 G468.2.2.2.2.1) 59 G468.2.2.2.2.2) L)) rfl ?_
        subst T
        exact w_r rfl rfl (cvQ (funext fun q => funext fun z => if k0 : q = 1 ∧ z = 3 then by obtain ⟨w1, w2⟩ := k0; subst w1; subst w2; exact Eq.trans (b := G469.1) rfl rfl else if k1 : q = 1 ∧ z = 4 then by obtain ⟨w1, w2⟩ := k1; subst w1; subst w2; exact Eq.trans (b := G469.2) rfl rfl else if k2 : q = 52 ∧ z = 2 then by obtain ⟨w1, w2⟩ := k2; subst w1; subst w2; exact Eq.trans (b := (G468.2.2.1 - 1)) rfl rfl else if k3 : q = 53 ∧ z = 1 then by obtain ⟨w1, w2⟩ := k3; subst w1; subst w2; exact Eq.trans (b := G468.2.2.2.1) rfl rfl else by unfold uF; simp only [nb2 k0, nb2 k1, nb2 k2, nb2 k3, cond_false]) rfl rfl K)
      · have h6 : G467.1 = 0 := h
        rw [if_pos h6] at hE
        subst T
        exact w_r rfl rfl (cvQ (funext fun q => funext fun z => if k0 : q = 1 ∧ z = 3 then by obtain ⟨w1, w2⟩ := k0; subst w1; subst w2; exact Eq.trans (b := G467.2.1) rfl rfl else if k1 : q = 1 ∧ z = 4 then by obtain ⟨w1, w2⟩ := k1; subst w1; subst w2; exact Eq.trans (b := G467.2.2.1) rfl rfl else if k2 : q = 52 ∧ z = 2 then by obtain ⟨w1, w2⟩ := k2; subst w1; subst w2; exact Eq.trans (b := G467.2.2.2) rfl rfl else if k3 : q = 53 ∧ z = 1 then by obtain ⟨w1, w2⟩ := k3; subst w1; subst w2; exact Eq.trans (b := (F 53 1)) rfl rfl else by unfold uF; simp only [nb2 k0, nb2 k1, nb2 k2, nb2 k3, cond_false]) (funext fun q => if k0 : q = 58 then by subst k0; exact Eq.trans (b := (A 58)) rfl rfl else if k1 : q = 59 then by subst k1; exact Eq.trans (b := (A 59)) rfl rfl else by unfold uA; simp only [nb1 k0, nb1 k1, cond_false]) rfl K)
  · have h1 : ¬ (F 1 4) = 0 := h
    rw [if_neg h1] at hE
    subst T
    exact w_r rfl rfl (cvQ (funext fun q => funext fun z => if k0 : q = 1 ∧ z = 3 then by obtain ⟨w1, w2⟩ := k0; subst w1; subst w2; exact Eq.trans (b := (F 1 3)) rfl rfl else if k1 : q = 1 ∧ z = 4 then by obtain ⟨w1, w2⟩ := k1; subst w1; subst w2; exact Eq.trans (b := (F 1 4)) rfl rfl else if k2 : q = 52 ∧ z = 2 then by obtain ⟨w1, w2⟩ := k2; subst w1; subst w2; exact Eq.trans (b := (F 52 2)) rfl rfl else if k3 : q = 53 ∧ z = 1 then by obtain ⟨w1, w2⟩ := k3; subst w1; subst w2; exact Eq.trans (b := (F 53 1)) rfl rfl else by unfold uF; simp only [nb2 k0, nb2 k1, nb2 k2, nb2 k3, cond_false]) (funext fun q => if k0 : q = 58 then by subst k0; exact Eq.trans (b := (A 58)) rfl rfl else if k1 : q = 59 then by subst k1; exact Eq.trans (b := (A 59)) rfl rfl else by unfold uA; simp only [nb1 k0, nb1 k1, cond_false]) rfl K)
noncomputable def kr_readProduct_6 (r : Int32 → Int32 → Int32 → Int32 → Int32 → List Int32 → List Int32 → List Int32 → (Int32 × Int32 × Int32 × Int32 × List Int32 × List Int32)) (f1_2 : Int32) (a2 : List Int32)  : Nat → Int32 → Int32 → Int32 → Int32 → Int32 → List Int32 → List Int32 → Int32 × Int32 × Int32 × Int32 × List Int32 × List Int32
  | 0, _, f1_3, f1_4, f52_2, f53_1, a58, a59 => (f1_3, f1_4, f52_2, f53_1, a58, a59)
  | m + 1, y1, f1_3, f1_4, f52_2, f53_1, a58, a59 => (lt (kx_stands f1_2 f1_3 f1_4 a2 42 47) (fun g471 => (if g471 = 0 then (lt (kx_stands f1_2 f1_3 f1_4 a2 37 37) (fun g475 => (if g475 = 0 then (f1_3, f1_4, f52_2, f53_1, a58, a59) else (lt (kx_sign f1_2 f1_3 a2) (fun g476 => (lt (kr_readFactor r f1_2 (f1_3 + 1) f1_4 f52_2 f53_1 a2 a58 a59) (fun g477 => (lt (kl_add_53 g477.2.2.2.1 g477.2.2.2.2.1 g477.2.2.2.2.2 g476 0) (fun g478 => (kr_readProduct_6 r f1_2 a2 m (y1 + 1) g477.1 g477.2.1 g477.2.2.1 g478.2.1 g478.2.2.1 g478.2.2.2)))))))))) else (lt (kx_sign f1_2 f1_3 a2) (fun g472 => (lt (kr_readFactor r f1_2 (f1_3 + 1) f1_4 f52_2 f53_1 a2 a58 a59) (fun g473 => (lt (kl_add_53 g473.2.2.2.1 g473.2.2.2.2.1 g473.2.2.2.2.2 g472 0) (fun g474 => (kr_readProduct_6 r f1_2 a2 m (y1 + 1) g473.1 g473.2.1 g473.2.2.1 g474.2.1 g474.2.2.1 g474.2.2.2))))))))))
theorem t_kr_readProduct_6 {f : Nat} {n : Nat} {r : Int32 → Int32 → Int32 → Int32 → Int32 → List Int32 → List Int32 → List Int32 → (Int32 × Int32 × Int32 × Int32 × List Int32 × List Int32)} (hr : ∀ (D : Nat) {F : Nat → Nat → Int32} {A : Nat → List Int32} {L : Nat → List Int64} {Q : Option Value → sm_H → Prop}, D ≤ n → (Q none (hz (uF (uF (uF (uF F 1 3 ((r (F 1 2) (F 1 3) (F 1 4) (F 52 2) (F 53 1) (A 2) (A 58) (A 59)).1)) 1 4 ((r (F 1 2) (F 1 3) (F 1 4) (F 52 2) (F 53 1) (A 2) (A 58) (A 59)).2.1)) 52 2 ((r (F 1 2) (F 1 3) (F 1 4) (F 52 2) (F 53 1) (A 2) (A 58) (A 59)).2.2.1)) 53 1 ((r (F 1 2) (F 1 3) (F 1 4) (F 52 2) (F 53 1) (A 2) (A 58) (A 59)).2.2.2.1)) (uA (uA A 58 ((r (F 1 2) (F 1 3) (F 1 4) (F 52 2) (F 53 1) (A 2) (A 58) (A 59)).2.2.2.2.1)) 59 ((r (F 1 2) (F 1 3) (F 1 4) (F 52 2) (F 53 1) (A 2) (A 58) (A 59)).2.2.2.2.2)) L)) → wl_M f D 27 [.ref 52] (hz F A L) Q) (hnf : n ≤ f) {Q : Option Value → sm_H → Prop} : ∀ (m : Nat) {B D : Nat} {F : Nat → Nat → Int32} {A : Nat → List Int32} {L : Nat → List Int64} {y1 : Int32} {o2 : Option Value}, m = (240 - y1.toInt).toNat → (_ : D ≤ n) → (∀ q1 : Int32, ∀ q2 : Option Value, wl_E f B D mm28.2.2.2.2.2.2.2.2 82 [some (.ref 52), some (.int q1), q2] [] (hz (uF (uF (uF (uF F 1 3 ((kr_readProduct_6 r (F 1 2) (A 2) m y1 (F 1 3) (F 1 4) (F 52 2) (F 53 1) (A 58) (A 59)).1)) 1 4 ((kr_readProduct_6 r (F 1 2) (A 2) m y1 (F 1 3) (F 1 4) (F 52 2) (F 53 1) (A 58) (A 59)).2.1)) 52 2 ((kr_readProduct_6 r (F 1 2) (A 2) m y1 (F 1 3) (F 1 4) (F 52 2) (F 53 1) (A 58) (A 59)).2.2.1)) 53 1 ((kr_readProduct_6 r (F 1 2) (A 2) m y1 (F 1 3) (F 1 4) (F 52 2) (F 53 1) (A 58) (A 59)).2.2.2.1)) (uA (uA A 58 ((kr_readProduct_6 r (F 1 2) (A 2) m y1 (F 1 3) (F 1 4) (F 52 2) (F 53 1) (A 58) (A 59)).2.2.2.2.1)) 59 ((kr_readProduct_6 r (F 1 2) (A 2) m y1 (F 1 3) (F 1 4) (F 52 2) (F 53 1) (A 58) (A 59)).2.2.2.2.2)) L) Q) → wl_E f B D mm28.2.2.2.2.2.2.2.2 6 [some (.ref 52), some (.int y1), o2] [] (hz F A L) Q := by
  intro m
  induction m with
  | zero =>
    intro B D F A L y1 o2 hm hn K
    generalize hT : (kr_readProduct_6 r (F 1 2) (A 2) 0 y1 (F 1 3) (F 1 4) (F 52 2) (F 53 1) (A 58) (A 59)) = T at K
    have hE : T = ((F 1 3), (F 1 4), (F 52 2), (F 53 1), (A 58), (A 59)) := hT.symm
    clear hT
    refine w_n 2 (pc1 := 10) (ls1 := [some (.ref 52), some (.int y1), o2]) (st1 := [.int 240, .int y1]) (hp1 := (hz F A L)) rfl ?_
    refine w_ge (p3 := 13) rfl rfl (fun hb => ?_) (fun h => False.elim (by have h : y1.toInt < 240 := h; omega))
    subst T
    exact cvE (funext fun q => funext fun z => if k0 : q = 1 ∧ z = 3 then by obtain ⟨w1, w2⟩ := k0; subst w1; subst w2; exact Eq.trans (b := (F 1 3)) rfl rfl else if k1 : q = 1 ∧ z = 4 then by obtain ⟨w1, w2⟩ := k1; subst w1; subst w2; exact Eq.trans (b := (F 1 4)) rfl rfl else if k2 : q = 52 ∧ z = 2 then by obtain ⟨w1, w2⟩ := k2; subst w1; subst w2; exact Eq.trans (b := (F 52 2)) rfl rfl else if k3 : q = 53 ∧ z = 1 then by obtain ⟨w1, w2⟩ := k3; subst w1; subst w2; exact Eq.trans (b := (F 53 1)) rfl rfl else by unfold uF; simp only [nb2 k0, nb2 k1, nb2 k2, nb2 k3, cond_false]) (funext fun q => if k0 : q = 58 then by subst k0; exact Eq.trans (b := (A 58)) rfl rfl else if k1 : q = 59 then by subst k1; exact Eq.trans (b := (A 59)) rfl rfl else by unfold uA; simp only [nb1 k0, nb1 k1, cond_false]) rfl (K _ _)
  | succ m ih =>
    intro B D F A L y1 o2 hm hn K
    generalize hT : (kr_readProduct_6 r (F 1 2) (A 2) (m + 1) y1 (F 1 3) (F 1 4) (F 52 2) (F 53 1) (A 58) (A 59)) = T at K
    have hE : T = (lt (kx_stands (F 1 2) (F 1 3) (F 1 4) (A 2) 42 47) (fun g471 => (if g471 = 0 then (lt (kx_stands (F 1 2) (F 1 3) (F 1 4) (A 2) 37 37) (fun g475 => (if g475 = 0 then ((F 1 3), (F 1 4), (F 52 2), (F 53 1), (A 58), (A 59)) else (lt (kx_sign (F 1 2) (F 1 3) (A 2)) (fun g476 => (lt (kr_readFactor r (F 1 2) ((F 1 3) + 1) (F 1 4) (F 52 2) (F 53 1) (A 2) (A 58) (A 59)) (fun g477 => (lt (kl_add_53 g477.2.2.2.1 g477.2.2.2.2.1 g477.2.2.2.2.2 g476 0) (fun g478 => (kr_readProduct_6 r (F 1 2) (A 2) m (y1 + 1) g477.1 g477.2.1 g477.2.2.1 g478.2.1 g478.2.2.1 g478.2.2.2)))))))))) else (lt (kx_sign (F 1 2) (F 1 3) (A 2)) (fun g472 => (lt (kr_readFactor r (F 1 2) ((F 1 3) + 1) (F 1 4) (F 52 2) (F 53 1) (A 2) (A 58) (A 59)) (fun g473 => (lt (kl_add_53 g473.2.2.2.1 g473.2.2.2.2.1 g473.2.2.2.2.2 g472 0) (fun g474 => (kr_readProduct_6 r (F 1 2) (A 2) m (y1 + 1) g473.1 g473.2.1 g473.2.2.1 g474.2.1 g474.2.2.1 g474.2.2.2)))))))))) := hT.symm
    clear hT
    refine w_n 2 (pc1 := 10) (ls1 := [some (.ref 52), some (.int y1), o2]) (st1 := [.int 240, .int y1]) (hp1 := (hz F A L)) rfl ?_
    refine w_ge (p3 := 13) rfl rfl (fun h => False.elim (by have h : 240 ≤ y1.toInt := h; omega)) (fun hb => ?_)
    refine w_n 4 (pc1 := 21) (ls1 := [some (.ref 52), some (.int y1), o2]) (st1 := [.int 47, .int 42, .ref 1]) (hp1 := (hz F A L)) rfl ?_
    refine w_c rfl rfl (t_kx_stands ?_)
    show wl_E f _ _ mm28.2.2.2.2.2.2.2.2 24 [some (.ref 52), some (.int y1), o2] [.int (kx_stands (F 1 2) (F 1 3) (F 1 4) (A 2) 42 47)] (hz F A L) _
    generalize hG471 : (kx_stands (F 1 2) (F 1 3) (F 1 4) (A 2) 42 47) = G471 at hE ⊢
    replace hE := hE.trans (lt_e _ _)
    refine w_zne (p3 := 27) rfl rfl (fun h => ?_) (fun h => ?_)
    · have h1 : ¬ G471 = 0 := h
      rw [if_neg h1] at hE
      refine w_n 2 (pc1 := 45) (ls1 := [some (.ref 52), some (.int y1), o2]) (st1 := [.ref 1]) (hp1 := (hz F A L)) rfl ?_
      refine w_c rfl rfl (t_kx_sign ?_)
      show wl_E f _ _ mm28.2.2.2.2.2.2.2.2 48 [some (.ref 52), some (.int y1), o2] [.int (kx_sign (F 1 2) (F 1 3) (A 2))] (hz F A L) _
      generalize hG472 : (kx_sign (F 1 2) (F 1 3) (A 2)) = G472 at hE ⊢
      replace hE := hE.trans (lt_e _ _)
      refine w_n 7 (pc1 := 59) (ls1 := [some (.ref 52), some (.int y1), some (.int G472)]) (st1 := [.int ((F 1 3) + 1), .ref 1]) (hp1 := (hz F A L)) rfl ?_
      refine w_pf (k := 1) (fs := hz_f1 F) (hp1 := (hz (uF F 1 3 ((F 1 3) + 1)) A L)) rfl rfl rfl (hz_p1_3 _) ?_
      refine w_n 1 (pc1 := 63) (ls1 := [some (.ref 52), some (.int y1), some (.int G472)]) (st1 := [.ref 52]) (hp1 := (hz (uF F 1 3 ((F 1 3) + 1)) A L)) rfl ?_
      refine w_c rfl rfl (t_kr_readFactor hr (by omega) (by omega) ?_)
      show wl_E f _ _ mm28.2.2.2.2.2.2.2.2 66 [some (.ref 52), some (.int y1), some (.int G472)] [] (hz (uF (uF (uF (uF (uF F 1 3 ((F 1 3) + 1)) 1 3 (kr_readFactor r (F 1 2) ((F 1 3) + 1) (F 1 4) (F 52 2) (F 53 1) (A 2) (A 58) (A 59)).1) 1 4 (kr_readFactor r (F 1 2) ((F 1 3) + 1) (F 1 4) (F 52 2) (F 53 1) (A 2) (A 58) (A 59)).2.1) 52 2 (kr_readFactor r (F 1 2) ((F 1 3) + 1) (F 1 4) (F 52 2) (F 53 1) (A 2) (A 58) (A 59)).2.2.1) 53 1 (kr_readFactor r (F 1 2) ((F 1 3) + 1) (F 1 4) (F 52 2) (F 53 1) (A 2) (A 58) (A 59)).2.2.2.1) (uA (uA A 58 (kr_readFactor r (F 1 2) ((F 1 3) + 1) (F 1 4) (F 52 2) (F 53 1) (A 2) (A 58) (A 59)).2.2.2.2.1) 59 (kr_readFactor r (F 1 2) ((F 1 3) + 1) (F 1 4) (F 52 2) (F 53 1) (A 2) (A 58) (A 59)).2.2.2.2.2) L) _
      generalize hG473 : (kr_readFactor r (F 1 2) ((F 1 3) + 1) (F 1 4) (F 52 2) (F 53 1) (A 2) (A 58) (A 59)) = G473 at hE ⊢
      replace hE := hE.trans (lt_e _ _)
      refine w_n 4 (pc1 := 72) (ls1 := [some (.ref 52), some (.int y1), some (.int G472)]) (st1 := [.int 0, .int G472, .ref 53]) (hp1 := (hz (uF (uF (uF (uF (uF F 1 3 ((F 1 3) + 1)) 1 3 G473.1) 1 4 G473.2.1) 52 2 G473.2.2.1) 53 1 G473.2.2.2.1) (uA (uA A 58 G473.2.2.2.2.1) 59 G473.2.2.2.2.2) L)) rfl ?_
      refine w_c rfl rfl (t_kl_add_53 ?_)
      show wl_E f _ _ mm28.2.2.2.2.2.2.2.2 75 [some (.ref 52), some (.int y1), some (.int G472)] [.int (kl_add_53 G473.2.2.2.1 G473.2.2.2.2.1 G473.2.2.2.2.2 G472 0).1] (hz (uF (uF (uF (uF (uF (uF F 1 3 ((F 1 3) + 1)) 1 3 G473.1) 1 4 G473.2.1) 52 2 G473.2.2.1) 53 1 G473.2.2.2.1) 53 1 (kl_add_53 G473.2.2.2.1 G473.2.2.2.2.1 G473.2.2.2.2.2 G472 0).2.1) (uA (uA (uA (uA A 58 G473.2.2.2.2.1) 59 G473.2.2.2.2.2) 58 (kl_add_53 G473.2.2.2.1 G473.2.2.2.2.1 G473.2.2.2.2.2 G472 0).2.2.1) 59 (kl_add_53 G473.2.2.2.1 G473.2.2.2.2.1 G473.2.2.2.2.2 G472 0).2.2.2) L) _
      generalize hG474 : (kl_add_53 G473.2.2.2.1 G473.2.2.2.2.1 G473.2.2.2.2.2 G472 0) = G474 at hE ⊢
      replace hE := hE.trans (lt_e _ _)
      refine w_n 3 (pc1 := 6) (ls1 := [some (.ref 52), some (.int (y1 + 1)), some (.int G472)]) (st1 := []) (hp1 := (hz (uF (uF (uF (uF (uF (uF F 1 3 ((F 1 3) + 1)) 1 3 G473.1) 1 4 G473.2.1) 52 2 G473.2.2.1) 53 1 G473.2.2.2.1) 53 1 G474.2.1) (uA (uA (uA (uA A 58 G473.2.2.2.2.1) 59 G473.2.2.2.2.2) 58 G474.2.2.1) 59 G474.2.2.2) L)) rfl ?_
      subst T
      have hb2 := i_up (B := (240 : Int32)) hb
      have hb3 : y1.toInt < 240 := hb
      exact ih (show m = (240 - (y1 + 1).toInt).toNat by rw [hb2]; omega) hn (fun q1 q2 => cvE (funext fun q => funext fun z => if k0 : q = 1 ∧ z = 3 then by obtain ⟨w1, w2⟩ := k0; subst w1; subst w2; exact Eq.trans (b := (kr_readProduct_6 r (F 1 2) (A 2) m (y1 + 1) G473.1 G473.2.1 G473.2.2.1 G474.2.1 G474.2.2.1 G474.2.2.2).1) rfl rfl else if k1 : q = 1 ∧ z = 4 then by obtain ⟨w1, w2⟩ := k1; subst w1; subst w2; exact Eq.trans (b := (kr_readProduct_6 r (F 1 2) (A 2) m (y1 + 1) G473.1 G473.2.1 G473.2.2.1 G474.2.1 G474.2.2.1 G474.2.2.2).2.1) rfl rfl else if k2 : q = 52 ∧ z = 2 then by obtain ⟨w1, w2⟩ := k2; subst w1; subst w2; exact Eq.trans (b := (kr_readProduct_6 r (F 1 2) (A 2) m (y1 + 1) G473.1 G473.2.1 G473.2.2.1 G474.2.1 G474.2.2.1 G474.2.2.2).2.2.1) rfl rfl else if k3 : q = 53 ∧ z = 1 then by obtain ⟨w1, w2⟩ := k3; subst w1; subst w2; exact Eq.trans (b := (kr_readProduct_6 r (F 1 2) (A 2) m (y1 + 1) G473.1 G473.2.1 G473.2.2.1 G474.2.1 G474.2.2.1 G474.2.2.2).2.2.2.1) rfl rfl else by unfold uF; simp only [nb2 k0, nb2 k1, nb2 k2, nb2 k3, cond_false]) (funext fun q => if k0 : q = 58 then by subst k0; exact Eq.trans (b := (kr_readProduct_6 r (F 1 2) (A 2) m (y1 + 1) G473.1 G473.2.1 G473.2.2.1 G474.2.1 G474.2.2.1 G474.2.2.2).2.2.2.2.1) rfl rfl else if k1 : q = 59 then by subst k1; exact Eq.trans (b := (kr_readProduct_6 r (F 1 2) (A 2) m (y1 + 1) G473.1 G473.2.1 G473.2.2.1 G474.2.1 G474.2.2.1 G474.2.2.2).2.2.2.2.2) rfl rfl else by unfold uA; simp only [nb1 k0, nb1 k1, cond_false]) rfl (K q1 q2))
    · have h1 : G471 = 0 := h
      rw [if_pos h1] at hE
      refine w_n 4 (pc1 := 35) (ls1 := [some (.ref 52), some (.int y1), o2]) (st1 := [.int 37, .int 37, .ref 1]) (hp1 := (hz F A L)) rfl ?_
      refine w_c rfl rfl (t_kx_stands ?_)
      show wl_E f _ _ mm28.2.2.2.2.2.2.2.2 38 [some (.ref 52), some (.int y1), o2] [.int (kx_stands (F 1 2) (F 1 3) (F 1 4) (A 2) 37 37)] (hz F A L) _
      generalize hG475 : (kx_stands (F 1 2) (F 1 3) (F 1 4) (A 2) 37 37) = G475 at hE ⊢
      replace hE := hE.trans (lt_e _ _)
      refine w_zeq (p3 := 41) rfl rfl (fun h => ?_) (fun h => ?_)
      · have h2 : G475 = 0 := h
        rw [if_pos h2] at hE
        subst T
        exact cvE (funext fun q => funext fun z => if k0 : q = 1 ∧ z = 3 then by obtain ⟨w1, w2⟩ := k0; subst w1; subst w2; exact Eq.trans (b := (F 1 3)) rfl rfl else if k1 : q = 1 ∧ z = 4 then by obtain ⟨w1, w2⟩ := k1; subst w1; subst w2; exact Eq.trans (b := (F 1 4)) rfl rfl else if k2 : q = 52 ∧ z = 2 then by obtain ⟨w1, w2⟩ := k2; subst w1; subst w2; exact Eq.trans (b := (F 52 2)) rfl rfl else if k3 : q = 53 ∧ z = 1 then by obtain ⟨w1, w2⟩ := k3; subst w1; subst w2; exact Eq.trans (b := (F 53 1)) rfl rfl else by unfold uF; simp only [nb2 k0, nb2 k1, nb2 k2, nb2 k3, cond_false]) (funext fun q => if k0 : q = 58 then by subst k0; exact Eq.trans (b := (A 58)) rfl rfl else if k1 : q = 59 then by subst k1; exact Eq.trans (b := (A 59)) rfl rfl else by unfold uA; simp only [nb1 k0, nb1 k1, cond_false]) rfl (K _ _)
      · have h2 : ¬ G475 = 0 := h
        rw [if_neg h2] at hE
        refine w_n 2 (pc1 := 45) (ls1 := [some (.ref 52), some (.int y1), o2]) (st1 := [.ref 1]) (hp1 := (hz F A L)) rfl ?_
        refine w_c rfl rfl (t_kx_sign ?_)
        show wl_E f _ _ mm28.2.2.2.2.2.2.2.2 48 [some (.ref 52), some (.int y1), o2] [.int (kx_sign (F 1 2) (F 1 3) (A 2))] (hz F A L) _
        generalize hG476 : (kx_sign (F 1 2) (F 1 3) (A 2)) = G476 at hE ⊢
        replace hE := hE.trans (lt_e _ _)
        refine w_n 7 (pc1 := 59) (ls1 := [some (.ref 52), some (.int y1), some (.int G476)]) (st1 := [.int ((F 1 3) + 1), .ref 1]) (hp1 := (hz F A L)) rfl ?_
        refine w_pf (k := 1) (fs := hz_f1 F) (hp1 := (hz (uF F 1 3 ((F 1 3) + 1)) A L)) rfl rfl rfl (hz_p1_3 _) ?_
        refine w_n 1 (pc1 := 63) (ls1 := [some (.ref 52), some (.int y1), some (.int G476)]) (st1 := [.ref 52]) (hp1 := (hz (uF F 1 3 ((F 1 3) + 1)) A L)) rfl ?_
        refine w_c rfl rfl (t_kr_readFactor hr (by omega) (by omega) ?_)
        show wl_E f _ _ mm28.2.2.2.2.2.2.2.2 66 [some (.ref 52), some (.int y1), some (.int G476)] [] (hz (uF (uF (uF (uF (uF F 1 3 ((F 1 3) + 1)) 1 3 (kr_readFactor r (F 1 2) ((F 1 3) + 1) (F 1 4) (F 52 2) (F 53 1) (A 2) (A 58) (A 59)).1) 1 4 (kr_readFactor r (F 1 2) ((F 1 3) + 1) (F 1 4) (F 52 2) (F 53 1) (A 2) (A 58) (A 59)).2.1) 52 2 (kr_readFactor r (F 1 2) ((F 1 3) + 1) (F 1 4) (F 52 2) (F 53 1) (A 2) (A 58) (A 59)).2.2.1) 53 1 (kr_readFactor r (F 1 2) ((F 1 3) + 1) (F 1 4) (F 52 2) (F 53 1) (A 2) (A 58) (A 59)).2.2.2.1) (uA (uA A 58 (kr_readFactor r (F 1 2) ((F 1 3) + 1) (F 1 4) (F 52 2) (F 53 1) (A 2) (A 58) (A 59)).2.2.2.2.1) 59 (kr_readFactor r (F 1 2) ((F 1 3) + 1) (F 1 4) (F 52 2) (F 53 1) (A 2) (A 58) (A 59)).2.2.2.2.2) L) _
        generalize hG477 : (kr_readFactor r (F 1 2) ((F 1 3) + 1) (F 1 4) (F 52 2) (F 53 1) (A 2) (A 58) (A 59)) = G477 at hE ⊢
        replace hE := hE.trans (lt_e _ _)
        refine w_n 4 (pc1 := 72) (ls1 := [some (.ref 52), some (.int y1), some (.int G476)]) (st1 := [.int 0, .int G476, .ref 53]) (hp1 := (hz (uF (uF (uF (uF (uF F 1 3 ((F 1 3) + 1)) 1 3 G477.1) 1 4 G477.2.1) 52 2 G477.2.2.1) 53 1 G477.2.2.2.1) (uA (uA A 58 G477.2.2.2.2.1) 59 G477.2.2.2.2.2) L)) rfl ?_
        refine w_c rfl rfl (t_kl_add_53 ?_)
        show wl_E f _ _ mm28.2.2.2.2.2.2.2.2 75 [some (.ref 52), some (.int y1), some (.int G476)] [.int (kl_add_53 G477.2.2.2.1 G477.2.2.2.2.1 G477.2.2.2.2.2 G476 0).1] (hz (uF (uF (uF (uF (uF (uF F 1 3 ((F 1 3) + 1)) 1 3 G477.1) 1 4 G477.2.1) 52 2 G477.2.2.1) 53 1 G477.2.2.2.1) 53 1 (kl_add_53 G477.2.2.2.1 G477.2.2.2.2.1 G477.2.2.2.2.2 G476 0).2.1) (uA (uA (uA (uA A 58 G477.2.2.2.2.1) 59 G477.2.2.2.2.2) 58 (kl_add_53 G477.2.2.2.1 G477.2.2.2.2.1 G477.2.2.2.2.2 G476 0).2.2.1) 59 (kl_add_53 G477.2.2.2.1 G477.2.2.2.2.1 G477.2.2.2.2.2 G476 0).2.2.2) L) _
        generalize hG478 : (kl_add_53 G477.2.2.2.1 G477.2.2.2.2.1 G477.2.2.2.2.2 G476 0) = G478 at hE ⊢
        replace hE := hE.trans (lt_e _ _)
        refine w_n 3 (pc1 := 6) (ls1 := [some (.ref 52), some (.int (y1 + 1)), some (.int G476)]) (st1 := []) (hp1 := (hz (uF (uF (uF (uF (uF (uF F 1 3 ((F 1 3) + 1)) 1 3 G477.1) 1 4 G477.2.1) 52 2 G477.2.2.1) 53 1 G477.2.2.2.1) 53 1 G478.2.1) (uA (uA (uA (uA A 58 G477.2.2.2.2.1) 59 G477.2.2.2.2.2) 58 G478.2.2.1) 59 G478.2.2.2) L)) rfl ?_
        subst T
        have hb2 := i_up (B := (240 : Int32)) hb
        have hb3 : y1.toInt < 240 := hb
        exact ih (show m = (240 - (y1 + 1).toInt).toNat by rw [hb2]; omega) hn (fun q1 q2 => cvE (funext fun q => funext fun z => if k0 : q = 1 ∧ z = 3 then by obtain ⟨w1, w2⟩ := k0; subst w1; subst w2; exact Eq.trans (b := (kr_readProduct_6 r (F 1 2) (A 2) m (y1 + 1) G477.1 G477.2.1 G477.2.2.1 G478.2.1 G478.2.2.1 G478.2.2.2).1) rfl rfl else if k1 : q = 1 ∧ z = 4 then by obtain ⟨w1, w2⟩ := k1; subst w1; subst w2; exact Eq.trans (b := (kr_readProduct_6 r (F 1 2) (A 2) m (y1 + 1) G477.1 G477.2.1 G477.2.2.1 G478.2.1 G478.2.2.1 G478.2.2.2).2.1) rfl rfl else if k2 : q = 52 ∧ z = 2 then by obtain ⟨w1, w2⟩ := k2; subst w1; subst w2; exact Eq.trans (b := (kr_readProduct_6 r (F 1 2) (A 2) m (y1 + 1) G477.1 G477.2.1 G477.2.2.1 G478.2.1 G478.2.2.1 G478.2.2.2).2.2.1) rfl rfl else if k3 : q = 53 ∧ z = 1 then by obtain ⟨w1, w2⟩ := k3; subst w1; subst w2; exact Eq.trans (b := (kr_readProduct_6 r (F 1 2) (A 2) m (y1 + 1) G477.1 G477.2.1 G477.2.2.1 G478.2.1 G478.2.2.1 G478.2.2.2).2.2.2.1) rfl rfl else by unfold uF; simp only [nb2 k0, nb2 k1, nb2 k2, nb2 k3, cond_false]) (funext fun q => if k0 : q = 58 then by subst k0; exact Eq.trans (b := (kr_readProduct_6 r (F 1 2) (A 2) m (y1 + 1) G477.1 G477.2.1 G477.2.2.1 G478.2.1 G478.2.2.1 G478.2.2.2).2.2.2.2.1) rfl rfl else if k1 : q = 59 then by subst k1; exact Eq.trans (b := (kr_readProduct_6 r (F 1 2) (A 2) m (y1 + 1) G477.1 G477.2.1 G477.2.2.1 G478.2.1 G478.2.2.1 G478.2.2.2).2.2.2.2.2) rfl rfl else by unfold uA; simp only [nb1 k0, nb1 k1, cond_false]) rfl (K q1 q2))
noncomputable def kr_readProduct (r : Int32 → Int32 → Int32 → Int32 → Int32 → List Int32 → List Int32 → List Int32 → (Int32 × Int32 × Int32 × Int32 × List Int32 × List Int32)) (f1_2 : Int32) (f1_3 : Int32) (f1_4 : Int32) (f52_2 : Int32) (f53_1 : Int32) (a2 : List Int32) (a58 : List Int32) (a59 : List Int32) : Int32 × Int32 × Int32 × Int32 × List Int32 × List Int32 := (lt (kr_readFactor r f1_2 f1_3 f1_4 f52_2 f53_1 a2 a58 a59) (fun g470 => (lt (kr_readProduct_6 r f1_2 a2 240 0 g470.1 g470.2.1 g470.2.2.1 g470.2.2.2.1 g470.2.2.2.2.1 g470.2.2.2.2.2) (fun g479 => (g479.1, g479.2.1, g479.2.2.1, g479.2.2.2.1, g479.2.2.2.2.1, g479.2.2.2.2.2)))))
theorem t_kr_readProduct {f D : Nat} {n : Nat} {r : Int32 → Int32 → Int32 → Int32 → Int32 → List Int32 → List Int32 → List Int32 → (Int32 × Int32 × Int32 × Int32 × List Int32 × List Int32)} (hr : ∀ (D : Nat) {F : Nat → Nat → Int32} {A : Nat → List Int32} {L : Nat → List Int64} {Q : Option Value → sm_H → Prop}, D ≤ n → (Q none (hz (uF (uF (uF (uF F 1 3 ((r (F 1 2) (F 1 3) (F 1 4) (F 52 2) (F 53 1) (A 2) (A 58) (A 59)).1)) 1 4 ((r (F 1 2) (F 1 3) (F 1 4) (F 52 2) (F 53 1) (A 2) (A 58) (A 59)).2.1)) 52 2 ((r (F 1 2) (F 1 3) (F 1 4) (F 52 2) (F 53 1) (A 2) (A 58) (A 59)).2.2.1)) 53 1 ((r (F 1 2) (F 1 3) (F 1 4) (F 52 2) (F 53 1) (A 2) (A 58) (A 59)).2.2.2.1)) (uA (uA A 58 ((r (F 1 2) (F 1 3) (F 1 4) (F 52 2) (F 53 1) (A 2) (A 58) (A 59)).2.2.2.2.1)) 59 ((r (F 1 2) (F 1 3) (F 1 4) (F 52 2) (F 53 1) (A 2) (A 58) (A 59)).2.2.2.2.2)) L)) → wl_M f D 27 [.ref 52] (hz F A L) Q) (hnf : n ≤ f) {F : Nat → Nat → Int32} {A : Nat → List Int32} {L : Nat → List Int64} {Q : Option Value → sm_H → Prop} (hn : D ≤ n) (K : Q none (hz (uF (uF (uF (uF F 1 3 ((kr_readProduct r (F 1 2) (F 1 3) (F 1 4) (F 52 2) (F 53 1) (A 2) (A 58) (A 59)).1)) 1 4 ((kr_readProduct r (F 1 2) (F 1 3) (F 1 4) (F 52 2) (F 53 1) (A 2) (A 58) (A 59)).2.1)) 52 2 ((kr_readProduct r (F 1 2) (F 1 3) (F 1 4) (F 52 2) (F 53 1) (A 2) (A 58) (A 59)).2.2.1)) 53 1 ((kr_readProduct r (F 1 2) (F 1 3) (F 1 4) (F 52 2) (F 53 1) (A 2) (A 58) (A 59)).2.2.2.1)) (uA (uA A 58 ((kr_readProduct r (F 1 2) (F 1 3) (F 1 4) (F 52 2) (F 53 1) (A 2) (A 58) (A 59)).2.2.2.2.1)) 59 ((kr_readProduct r (F 1 2) (F 1 3) (F 1 4) (F 52 2) (F 53 1) (A 2) (A 58) (A 59)).2.2.2.2.2)) L)) : wl_M f D 28 [.ref 52] (hz F A L) Q := by
  generalize hT : (kr_readProduct r (F 1 2) (F 1 3) (F 1 4) (F 52 2) (F 53 1) (A 2) (A 58) (A 59)) = T at K
  have hE : T = (lt (kr_readFactor r (F 1 2) (F 1 3) (F 1 4) (F 52 2) (F 53 1) (A 2) (A 58) (A 59)) (fun g470 => (lt (kr_readProduct_6 r (F 1 2) (A 2) 240 0 g470.1 g470.2.1 g470.2.2.1 g470.2.2.2.1 g470.2.2.2.2.1 g470.2.2.2.2.2) (fun g479 => (g479.1, g479.2.1, g479.2.2.1, g479.2.2.2.1, g479.2.2.2.2.1, g479.2.2.2.2.2))))) := hT.symm
  clear hT
  refine w_m (E := mm28) rfl ?_
  show wl_E f f (D - 1) mm28.2.2.2.2.2.2.2.2 0 [some (.ref 52), none, none] [] (hz F A L) Q
  refine w_n 1 (pc1 := 1) (ls1 := [some (.ref 52), none, none]) (st1 := [.ref 52]) (hp1 := (hz F A L)) rfl ?_
  refine w_c rfl rfl (t_kr_readFactor hr (by omega) (by omega) ?_)
  show wl_E f _ _ mm28.2.2.2.2.2.2.2.2 4 [some (.ref 52), none, none] [] (hz (uF (uF (uF (uF F 1 3 (kr_readFactor r (F 1 2) (F 1 3) (F 1 4) (F 52 2) (F 53 1) (A 2) (A 58) (A 59)).1) 1 4 (kr_readFactor r (F 1 2) (F 1 3) (F 1 4) (F 52 2) (F 53 1) (A 2) (A 58) (A 59)).2.1) 52 2 (kr_readFactor r (F 1 2) (F 1 3) (F 1 4) (F 52 2) (F 53 1) (A 2) (A 58) (A 59)).2.2.1) 53 1 (kr_readFactor r (F 1 2) (F 1 3) (F 1 4) (F 52 2) (F 53 1) (A 2) (A 58) (A 59)).2.2.2.1) (uA (uA A 58 (kr_readFactor r (F 1 2) (F 1 3) (F 1 4) (F 52 2) (F 53 1) (A 2) (A 58) (A 59)).2.2.2.2.1) 59 (kr_readFactor r (F 1 2) (F 1 3) (F 1 4) (F 52 2) (F 53 1) (A 2) (A 58) (A 59)).2.2.2.2.2) L) _
  generalize hG470 : (kr_readFactor r (F 1 2) (F 1 3) (F 1 4) (F 52 2) (F 53 1) (A 2) (A 58) (A 59)) = G470 at hE ⊢
  replace hE := hE.trans (lt_e _ _)
  refine w_n 2 (pc1 := 6) (ls1 := [some (.ref 52), some (.int 0), none]) (st1 := []) (hp1 := (hz (uF (uF (uF (uF F 1 3 G470.1) 1 4 G470.2.1) 52 2 G470.2.2.1) 53 1 G470.2.2.2.1) (uA (uA A 58 G470.2.2.2.2.1) 59 G470.2.2.2.2.2) L)) rfl ?_
  refine t_kr_readProduct_6 hr (by omega) 240 (show (240 : Nat) = (240 - (0 : Int32).toInt).toNat by have e0 : (0 : Int32).toInt = 0 := rfl; first | rfl | omega) (by omega) ?_
  intro r1 r2
  show wl_E f _ _ mm28.2.2.2.2.2.2.2.2 82 [some (.ref 52), some (.int r1), r2] [] (hz (uF (uF (uF (uF (uF (uF (uF (uF F 1 3 G470.1) 1 4 G470.2.1) 52 2 G470.2.2.1) 53 1 G470.2.2.2.1) 1 3 (kr_readProduct_6 r (F 1 2) (A 2) 240 0 G470.1 G470.2.1 G470.2.2.1 G470.2.2.2.1 G470.2.2.2.2.1 G470.2.2.2.2.2).1) 1 4 (kr_readProduct_6 r (F 1 2) (A 2) 240 0 G470.1 G470.2.1 G470.2.2.1 G470.2.2.2.1 G470.2.2.2.2.1 G470.2.2.2.2.2).2.1) 52 2 (kr_readProduct_6 r (F 1 2) (A 2) 240 0 G470.1 G470.2.1 G470.2.2.1 G470.2.2.2.1 G470.2.2.2.2.1 G470.2.2.2.2.2).2.2.1) 53 1 (kr_readProduct_6 r (F 1 2) (A 2) 240 0 G470.1 G470.2.1 G470.2.2.1 G470.2.2.2.1 G470.2.2.2.2.1 G470.2.2.2.2.2).2.2.2.1) (uA (uA (uA (uA A 58 G470.2.2.2.2.1) 59 G470.2.2.2.2.2) 58 (kr_readProduct_6 r (F 1 2) (A 2) 240 0 G470.1 G470.2.1 G470.2.2.1 G470.2.2.2.1 G470.2.2.2.2.1 G470.2.2.2.2.2).2.2.2.2.1) 59 (kr_readProduct_6 r (F 1 2) (A 2) 240 0 G470.1 G470.2.1 G470.2.2.1 G470.2.2.2.1 G470.2.2.2.2.1 G470.2.2.2.2.2).2.2.2.2.2) L) _
  generalize hG479 : (kr_readProduct_6 r (F 1 2) (A 2) 240 0 G470.1 G470.2.1 G470.2.2.1 G470.2.2.2.1 G470.2.2.2.2.1 G470.2.2.2.2.2) = G479 at hE ⊢
  replace hE := hE.trans (lt_e _ _)
  subst T
  exact w_r rfl rfl (cvQ (funext fun q => funext fun z => if k0 : q = 1 ∧ z = 3 then by obtain ⟨w1, w2⟩ := k0; subst w1; subst w2; exact Eq.trans (b := G479.1) rfl rfl else if k1 : q = 1 ∧ z = 4 then by obtain ⟨w1, w2⟩ := k1; subst w1; subst w2; exact Eq.trans (b := G479.2.1) rfl rfl else if k2 : q = 52 ∧ z = 2 then by obtain ⟨w1, w2⟩ := k2; subst w1; subst w2; exact Eq.trans (b := G479.2.2.1) rfl rfl else if k3 : q = 53 ∧ z = 1 then by obtain ⟨w1, w2⟩ := k3; subst w1; subst w2; exact Eq.trans (b := G479.2.2.2.1) rfl rfl else by unfold uF; simp only [nb2 k0, nb2 k1, nb2 k2, nb2 k3, cond_false]) (funext fun q => if k0 : q = 58 then by subst k0; exact Eq.trans (b := G479.2.2.2.2.1) rfl rfl else if k1 : q = 59 then by subst k1; exact Eq.trans (b := G479.2.2.2.2.2) rfl rfl else by unfold uA; simp only [nb1 k0, nb1 k1, cond_false]) rfl K)
noncomputable def kr_readSum_6 (r : Int32 → Int32 → Int32 → Int32 → Int32 → List Int32 → List Int32 → List Int32 → (Int32 × Int32 × Int32 × Int32 × List Int32 × List Int32)) (f1_2 : Int32) (a2 : List Int32)  : Nat → Int32 → Int32 → Int32 → Int32 → Int32 → List Int32 → List Int32 → Int32 × Int32 × Int32 × Int32 × List Int32 × List Int32
  | 0, _, f1_3, f1_4, f52_2, f53_1, a58, a59 => (f1_3, f1_4, f52_2, f53_1, a58, a59)
  | m + 1, y1, f1_3, f1_4, f52_2, f53_1, a58, a59 => (lt (kx_stands f1_2 f1_3 f1_4 a2 43 45) (fun g481 => (if g481 = 0 then (f1_3, f1_4, f52_2, f53_1, a58, a59) else (lt (kx_sign f1_2 f1_3 a2) (fun g482 => (lt (kr_readProduct r f1_2 (f1_3 + 1) f1_4 f52_2 f53_1 a2 a58 a59) (fun g483 => (lt (kl_add_53 g483.2.2.2.1 g483.2.2.2.2.1 g483.2.2.2.2.2 g482 0) (fun g484 => (kr_readSum_6 r f1_2 a2 m (y1 + 1) g483.1 g483.2.1 g483.2.2.1 g484.2.1 g484.2.2.1 g484.2.2.2))))))))))
theorem t_kr_readSum_6 {f : Nat} {n : Nat} {r : Int32 → Int32 → Int32 → Int32 → Int32 → List Int32 → List Int32 → List Int32 → (Int32 × Int32 × Int32 × Int32 × List Int32 × List Int32)} (hr : ∀ (D : Nat) {F : Nat → Nat → Int32} {A : Nat → List Int32} {L : Nat → List Int64} {Q : Option Value → sm_H → Prop}, D ≤ n → (Q none (hz (uF (uF (uF (uF F 1 3 ((r (F 1 2) (F 1 3) (F 1 4) (F 52 2) (F 53 1) (A 2) (A 58) (A 59)).1)) 1 4 ((r (F 1 2) (F 1 3) (F 1 4) (F 52 2) (F 53 1) (A 2) (A 58) (A 59)).2.1)) 52 2 ((r (F 1 2) (F 1 3) (F 1 4) (F 52 2) (F 53 1) (A 2) (A 58) (A 59)).2.2.1)) 53 1 ((r (F 1 2) (F 1 3) (F 1 4) (F 52 2) (F 53 1) (A 2) (A 58) (A 59)).2.2.2.1)) (uA (uA A 58 ((r (F 1 2) (F 1 3) (F 1 4) (F 52 2) (F 53 1) (A 2) (A 58) (A 59)).2.2.2.2.1)) 59 ((r (F 1 2) (F 1 3) (F 1 4) (F 52 2) (F 53 1) (A 2) (A 58) (A 59)).2.2.2.2.2)) L)) → wl_M f D 27 [.ref 52] (hz F A L) Q) (hnf : n ≤ f) {Q : Option Value → sm_H → Prop} : ∀ (m : Nat) {B D : Nat} {F : Nat → Nat → Int32} {A : Nat → List Int32} {L : Nat → List Int64} {y1 : Int32} {o2 : Option Value}, m = (240 - y1.toInt).toNat → (_ : D ≤ n) → (∀ q1 : Int32, ∀ q2 : Option Value, wl_E f B D mm27.2.2.2.2.2.2.2.2 68 [some (.ref 52), some (.int q1), q2] [] (hz (uF (uF (uF (uF F 1 3 ((kr_readSum_6 r (F 1 2) (A 2) m y1 (F 1 3) (F 1 4) (F 52 2) (F 53 1) (A 58) (A 59)).1)) 1 4 ((kr_readSum_6 r (F 1 2) (A 2) m y1 (F 1 3) (F 1 4) (F 52 2) (F 53 1) (A 58) (A 59)).2.1)) 52 2 ((kr_readSum_6 r (F 1 2) (A 2) m y1 (F 1 3) (F 1 4) (F 52 2) (F 53 1) (A 58) (A 59)).2.2.1)) 53 1 ((kr_readSum_6 r (F 1 2) (A 2) m y1 (F 1 3) (F 1 4) (F 52 2) (F 53 1) (A 58) (A 59)).2.2.2.1)) (uA (uA A 58 ((kr_readSum_6 r (F 1 2) (A 2) m y1 (F 1 3) (F 1 4) (F 52 2) (F 53 1) (A 58) (A 59)).2.2.2.2.1)) 59 ((kr_readSum_6 r (F 1 2) (A 2) m y1 (F 1 3) (F 1 4) (F 52 2) (F 53 1) (A 58) (A 59)).2.2.2.2.2)) L) Q) → wl_E f B D mm27.2.2.2.2.2.2.2.2 6 [some (.ref 52), some (.int y1), o2] [] (hz F A L) Q := by
  intro m
  induction m with
  | zero =>
    intro B D F A L y1 o2 hm hn K
    generalize hT : (kr_readSum_6 r (F 1 2) (A 2) 0 y1 (F 1 3) (F 1 4) (F 52 2) (F 53 1) (A 58) (A 59)) = T at K
    have hE : T = ((F 1 3), (F 1 4), (F 52 2), (F 53 1), (A 58), (A 59)) := hT.symm
    clear hT
    refine w_n 2 (pc1 := 10) (ls1 := [some (.ref 52), some (.int y1), o2]) (st1 := [.int 240, .int y1]) (hp1 := (hz F A L)) rfl ?_
    refine w_ge (p3 := 13) rfl rfl (fun hb => ?_) (fun h => False.elim (by have h : y1.toInt < 240 := h; omega))
    subst T
    exact cvE (funext fun q => funext fun z => if k0 : q = 1 ∧ z = 3 then by obtain ⟨w1, w2⟩ := k0; subst w1; subst w2; exact Eq.trans (b := (F 1 3)) rfl rfl else if k1 : q = 1 ∧ z = 4 then by obtain ⟨w1, w2⟩ := k1; subst w1; subst w2; exact Eq.trans (b := (F 1 4)) rfl rfl else if k2 : q = 52 ∧ z = 2 then by obtain ⟨w1, w2⟩ := k2; subst w1; subst w2; exact Eq.trans (b := (F 52 2)) rfl rfl else if k3 : q = 53 ∧ z = 1 then by obtain ⟨w1, w2⟩ := k3; subst w1; subst w2; exact Eq.trans (b := (F 53 1)) rfl rfl else by unfold uF; simp only [nb2 k0, nb2 k1, nb2 k2, nb2 k3, cond_false]) (funext fun q => if k0 : q = 58 then by subst k0; exact Eq.trans (b := (A 58)) rfl rfl else if k1 : q = 59 then by subst k1; exact Eq.trans (b := (A 59)) rfl rfl else by unfold uA; simp only [nb1 k0, nb1 k1, cond_false]) rfl (K _ _)
  | succ m ih =>
    intro B D F A L y1 o2 hm hn K
    generalize hT : (kr_readSum_6 r (F 1 2) (A 2) (m + 1) y1 (F 1 3) (F 1 4) (F 52 2) (F 53 1) (A 58) (A 59)) = T at K
    have hE : T = (lt (kx_stands (F 1 2) (F 1 3) (F 1 4) (A 2) 43 45) (fun g481 => (if g481 = 0 then ((F 1 3), (F 1 4), (F 52 2), (F 53 1), (A 58), (A 59)) else (lt (kx_sign (F 1 2) (F 1 3) (A 2)) (fun g482 => (lt (kr_readProduct r (F 1 2) ((F 1 3) + 1) (F 1 4) (F 52 2) (F 53 1) (A 2) (A 58) (A 59)) (fun g483 => (lt (kl_add_53 g483.2.2.2.1 g483.2.2.2.2.1 g483.2.2.2.2.2 g482 0) (fun g484 => (kr_readSum_6 r (F 1 2) (A 2) m (y1 + 1) g483.1 g483.2.1 g483.2.2.1 g484.2.1 g484.2.2.1 g484.2.2.2)))))))))) := hT.symm
    clear hT
    refine w_n 2 (pc1 := 10) (ls1 := [some (.ref 52), some (.int y1), o2]) (st1 := [.int 240, .int y1]) (hp1 := (hz F A L)) rfl ?_
    refine w_ge (p3 := 13) rfl rfl (fun h => False.elim (by have h : 240 ≤ y1.toInt := h; omega)) (fun hb => ?_)
    refine w_n 4 (pc1 := 21) (ls1 := [some (.ref 52), some (.int y1), o2]) (st1 := [.int 45, .int 43, .ref 1]) (hp1 := (hz F A L)) rfl ?_
    refine w_c rfl rfl (t_kx_stands ?_)
    show wl_E f _ _ mm27.2.2.2.2.2.2.2.2 24 [some (.ref 52), some (.int y1), o2] [.int (kx_stands (F 1 2) (F 1 3) (F 1 4) (A 2) 43 45)] (hz F A L) _
    generalize hG481 : (kx_stands (F 1 2) (F 1 3) (F 1 4) (A 2) 43 45) = G481 at hE ⊢
    replace hE := hE.trans (lt_e _ _)
    refine w_zeq (p3 := 27) rfl rfl (fun h => ?_) (fun h => ?_)
    · have h1 : G481 = 0 := h
      rw [if_pos h1] at hE
      subst T
      exact cvE (funext fun q => funext fun z => if k0 : q = 1 ∧ z = 3 then by obtain ⟨w1, w2⟩ := k0; subst w1; subst w2; exact Eq.trans (b := (F 1 3)) rfl rfl else if k1 : q = 1 ∧ z = 4 then by obtain ⟨w1, w2⟩ := k1; subst w1; subst w2; exact Eq.trans (b := (F 1 4)) rfl rfl else if k2 : q = 52 ∧ z = 2 then by obtain ⟨w1, w2⟩ := k2; subst w1; subst w2; exact Eq.trans (b := (F 52 2)) rfl rfl else if k3 : q = 53 ∧ z = 1 then by obtain ⟨w1, w2⟩ := k3; subst w1; subst w2; exact Eq.trans (b := (F 53 1)) rfl rfl else by unfold uF; simp only [nb2 k0, nb2 k1, nb2 k2, nb2 k3, cond_false]) (funext fun q => if k0 : q = 58 then by subst k0; exact Eq.trans (b := (A 58)) rfl rfl else if k1 : q = 59 then by subst k1; exact Eq.trans (b := (A 59)) rfl rfl else by unfold uA; simp only [nb1 k0, nb1 k1, cond_false]) rfl (K _ _)
    · have h1 : ¬ G481 = 0 := h
      rw [if_neg h1] at hE
      refine w_n 2 (pc1 := 31) (ls1 := [some (.ref 52), some (.int y1), o2]) (st1 := [.ref 1]) (hp1 := (hz F A L)) rfl ?_
      refine w_c rfl rfl (t_kx_sign ?_)
      show wl_E f _ _ mm27.2.2.2.2.2.2.2.2 34 [some (.ref 52), some (.int y1), o2] [.int (kx_sign (F 1 2) (F 1 3) (A 2))] (hz F A L) _
      generalize hG482 : (kx_sign (F 1 2) (F 1 3) (A 2)) = G482 at hE ⊢
      replace hE := hE.trans (lt_e _ _)
      refine w_n 7 (pc1 := 45) (ls1 := [some (.ref 52), some (.int y1), some (.int G482)]) (st1 := [.int ((F 1 3) + 1), .ref 1]) (hp1 := (hz F A L)) rfl ?_
      refine w_pf (k := 1) (fs := hz_f1 F) (hp1 := (hz (uF F 1 3 ((F 1 3) + 1)) A L)) rfl rfl rfl (hz_p1_3 _) ?_
      refine w_n 1 (pc1 := 49) (ls1 := [some (.ref 52), some (.int y1), some (.int G482)]) (st1 := [.ref 52]) (hp1 := (hz (uF F 1 3 ((F 1 3) + 1)) A L)) rfl ?_
      refine w_c rfl rfl (t_kr_readProduct hr (by omega) (by omega) ?_)
      show wl_E f _ _ mm27.2.2.2.2.2.2.2.2 52 [some (.ref 52), some (.int y1), some (.int G482)] [] (hz (uF (uF (uF (uF (uF F 1 3 ((F 1 3) + 1)) 1 3 (kr_readProduct r (F 1 2) ((F 1 3) + 1) (F 1 4) (F 52 2) (F 53 1) (A 2) (A 58) (A 59)).1) 1 4 (kr_readProduct r (F 1 2) ((F 1 3) + 1) (F 1 4) (F 52 2) (F 53 1) (A 2) (A 58) (A 59)).2.1) 52 2 (kr_readProduct r (F 1 2) ((F 1 3) + 1) (F 1 4) (F 52 2) (F 53 1) (A 2) (A 58) (A 59)).2.2.1) 53 1 (kr_readProduct r (F 1 2) ((F 1 3) + 1) (F 1 4) (F 52 2) (F 53 1) (A 2) (A 58) (A 59)).2.2.2.1) (uA (uA A 58 (kr_readProduct r (F 1 2) ((F 1 3) + 1) (F 1 4) (F 52 2) (F 53 1) (A 2) (A 58) (A 59)).2.2.2.2.1) 59 (kr_readProduct r (F 1 2) ((F 1 3) + 1) (F 1 4) (F 52 2) (F 53 1) (A 2) (A 58) (A 59)).2.2.2.2.2) L) _
      generalize hG483 : (kr_readProduct r (F 1 2) ((F 1 3) + 1) (F 1 4) (F 52 2) (F 53 1) (A 2) (A 58) (A 59)) = G483 at hE ⊢
      replace hE := hE.trans (lt_e _ _)
      refine w_n 4 (pc1 := 58) (ls1 := [some (.ref 52), some (.int y1), some (.int G482)]) (st1 := [.int 0, .int G482, .ref 53]) (hp1 := (hz (uF (uF (uF (uF (uF F 1 3 ((F 1 3) + 1)) 1 3 G483.1) 1 4 G483.2.1) 52 2 G483.2.2.1) 53 1 G483.2.2.2.1) (uA (uA A 58 G483.2.2.2.2.1) 59 G483.2.2.2.2.2) L)) rfl ?_
      refine w_c rfl rfl (t_kl_add_53 ?_)
      show wl_E f _ _ mm27.2.2.2.2.2.2.2.2 61 [some (.ref 52), some (.int y1), some (.int G482)] [.int (kl_add_53 G483.2.2.2.1 G483.2.2.2.2.1 G483.2.2.2.2.2 G482 0).1] (hz (uF (uF (uF (uF (uF (uF F 1 3 ((F 1 3) + 1)) 1 3 G483.1) 1 4 G483.2.1) 52 2 G483.2.2.1) 53 1 G483.2.2.2.1) 53 1 (kl_add_53 G483.2.2.2.1 G483.2.2.2.2.1 G483.2.2.2.2.2 G482 0).2.1) (uA (uA (uA (uA A 58 G483.2.2.2.2.1) 59 G483.2.2.2.2.2) 58 (kl_add_53 G483.2.2.2.1 G483.2.2.2.2.1 G483.2.2.2.2.2 G482 0).2.2.1) 59 (kl_add_53 G483.2.2.2.1 G483.2.2.2.2.1 G483.2.2.2.2.2 G482 0).2.2.2) L) _
      generalize hG484 : (kl_add_53 G483.2.2.2.1 G483.2.2.2.2.1 G483.2.2.2.2.2 G482 0) = G484 at hE ⊢
      replace hE := hE.trans (lt_e _ _)
      refine w_n 3 (pc1 := 6) (ls1 := [some (.ref 52), some (.int (y1 + 1)), some (.int G482)]) (st1 := []) (hp1 := (hz (uF (uF (uF (uF (uF (uF F 1 3 ((F 1 3) + 1)) 1 3 G483.1) 1 4 G483.2.1) 52 2 G483.2.2.1) 53 1 G483.2.2.2.1) 53 1 G484.2.1) (uA (uA (uA (uA A 58 G483.2.2.2.2.1) 59 G483.2.2.2.2.2) 58 G484.2.2.1) 59 G484.2.2.2) L)) rfl ?_
      subst T
      have hb2 := i_up (B := (240 : Int32)) hb
      have hb3 : y1.toInt < 240 := hb
      exact ih (show m = (240 - (y1 + 1).toInt).toNat by rw [hb2]; omega) hn (fun q1 q2 => cvE (funext fun q => funext fun z => if k0 : q = 1 ∧ z = 3 then by obtain ⟨w1, w2⟩ := k0; subst w1; subst w2; exact Eq.trans (b := (kr_readSum_6 r (F 1 2) (A 2) m (y1 + 1) G483.1 G483.2.1 G483.2.2.1 G484.2.1 G484.2.2.1 G484.2.2.2).1) rfl rfl else if k1 : q = 1 ∧ z = 4 then by obtain ⟨w1, w2⟩ := k1; subst w1; subst w2; exact Eq.trans (b := (kr_readSum_6 r (F 1 2) (A 2) m (y1 + 1) G483.1 G483.2.1 G483.2.2.1 G484.2.1 G484.2.2.1 G484.2.2.2).2.1) rfl rfl else if k2 : q = 52 ∧ z = 2 then by obtain ⟨w1, w2⟩ := k2; subst w1; subst w2; exact Eq.trans (b := (kr_readSum_6 r (F 1 2) (A 2) m (y1 + 1) G483.1 G483.2.1 G483.2.2.1 G484.2.1 G484.2.2.1 G484.2.2.2).2.2.1) rfl rfl else if k3 : q = 53 ∧ z = 1 then by obtain ⟨w1, w2⟩ := k3; subst w1; subst w2; exact Eq.trans (b := (kr_readSum_6 r (F 1 2) (A 2) m (y1 + 1) G483.1 G483.2.1 G483.2.2.1 G484.2.1 G484.2.2.1 G484.2.2.2).2.2.2.1) rfl rfl else by unfold uF; simp only [nb2 k0, nb2 k1, nb2 k2, nb2 k3, cond_false]) (funext fun q => if k0 : q = 58 then by subst k0; exact Eq.trans (b := (kr_readSum_6 r (F 1 2) (A 2) m (y1 + 1) G483.1 G483.2.1 G483.2.2.1 G484.2.1 G484.2.2.1 G484.2.2.2).2.2.2.2.1) rfl rfl else if k1 : q = 59 then by subst k1; exact Eq.trans (b := (kr_readSum_6 r (F 1 2) (A 2) m (y1 + 1) G483.1 G483.2.1 G483.2.2.1 G484.2.1 G484.2.2.1 G484.2.2.2).2.2.2.2.2) rfl rfl else by unfold uA; simp only [nb1 k0, nb1 k1, cond_false]) rfl (K q1 q2))
noncomputable def kr_readSum_b (r : Int32 → Int32 → Int32 → Int32 → Int32 → List Int32 → List Int32 → List Int32 → (Int32 × Int32 × Int32 × Int32 × List Int32 × List Int32)) (f1_2 : Int32) (f1_3 : Int32) (f1_4 : Int32) (f52_2 : Int32) (f53_1 : Int32) (a2 : List Int32) (a58 : List Int32) (a59 : List Int32) : Int32 × Int32 × Int32 × Int32 × List Int32 × List Int32 := (lt (kr_readProduct r f1_2 f1_3 f1_4 f52_2 f53_1 a2 a58 a59) (fun g480 => (lt (kr_readSum_6 r f1_2 a2 240 0 g480.1 g480.2.1 g480.2.2.1 g480.2.2.2.1 g480.2.2.2.2.1 g480.2.2.2.2.2) (fun g485 => (g485.1, g485.2.1, g485.2.2.1, g485.2.2.2.1, g485.2.2.2.2.1, g485.2.2.2.2.2)))))
theorem t_kr_readSum_b {f D : Nat} {n : Nat} {r : Int32 → Int32 → Int32 → Int32 → Int32 → List Int32 → List Int32 → List Int32 → (Int32 × Int32 × Int32 × Int32 × List Int32 × List Int32)} (hr : ∀ (D : Nat) {F : Nat → Nat → Int32} {A : Nat → List Int32} {L : Nat → List Int64} {Q : Option Value → sm_H → Prop}, D ≤ n → (Q none (hz (uF (uF (uF (uF F 1 3 ((r (F 1 2) (F 1 3) (F 1 4) (F 52 2) (F 53 1) (A 2) (A 58) (A 59)).1)) 1 4 ((r (F 1 2) (F 1 3) (F 1 4) (F 52 2) (F 53 1) (A 2) (A 58) (A 59)).2.1)) 52 2 ((r (F 1 2) (F 1 3) (F 1 4) (F 52 2) (F 53 1) (A 2) (A 58) (A 59)).2.2.1)) 53 1 ((r (F 1 2) (F 1 3) (F 1 4) (F 52 2) (F 53 1) (A 2) (A 58) (A 59)).2.2.2.1)) (uA (uA A 58 ((r (F 1 2) (F 1 3) (F 1 4) (F 52 2) (F 53 1) (A 2) (A 58) (A 59)).2.2.2.2.1)) 59 ((r (F 1 2) (F 1 3) (F 1 4) (F 52 2) (F 53 1) (A 2) (A 58) (A 59)).2.2.2.2.2)) L)) → wl_M f D 27 [.ref 52] (hz F A L) Q) (hnf : n + 1 ≤ f) {F : Nat → Nat → Int32} {A : Nat → List Int32} {L : Nat → List Int64} {Q : Option Value → sm_H → Prop} (hn : D ≤ n + 1) (K : Q none (hz (uF (uF (uF (uF F 1 3 ((kr_readSum_b r (F 1 2) (F 1 3) (F 1 4) (F 52 2) (F 53 1) (A 2) (A 58) (A 59)).1)) 1 4 ((kr_readSum_b r (F 1 2) (F 1 3) (F 1 4) (F 52 2) (F 53 1) (A 2) (A 58) (A 59)).2.1)) 52 2 ((kr_readSum_b r (F 1 2) (F 1 3) (F 1 4) (F 52 2) (F 53 1) (A 2) (A 58) (A 59)).2.2.1)) 53 1 ((kr_readSum_b r (F 1 2) (F 1 3) (F 1 4) (F 52 2) (F 53 1) (A 2) (A 58) (A 59)).2.2.2.1)) (uA (uA A 58 ((kr_readSum_b r (F 1 2) (F 1 3) (F 1 4) (F 52 2) (F 53 1) (A 2) (A 58) (A 59)).2.2.2.2.1)) 59 ((kr_readSum_b r (F 1 2) (F 1 3) (F 1 4) (F 52 2) (F 53 1) (A 2) (A 58) (A 59)).2.2.2.2.2)) L)) : wl_M f D 27 [.ref 52] (hz F A L) Q := by
  generalize hT : (kr_readSum_b r (F 1 2) (F 1 3) (F 1 4) (F 52 2) (F 53 1) (A 2) (A 58) (A 59)) = T at K
  have hE : T = (lt (kr_readProduct r (F 1 2) (F 1 3) (F 1 4) (F 52 2) (F 53 1) (A 2) (A 58) (A 59)) (fun g480 => (lt (kr_readSum_6 r (F 1 2) (A 2) 240 0 g480.1 g480.2.1 g480.2.2.1 g480.2.2.2.1 g480.2.2.2.2.1 g480.2.2.2.2.2) (fun g485 => (g485.1, g485.2.1, g485.2.2.1, g485.2.2.2.1, g485.2.2.2.2.1, g485.2.2.2.2.2))))) := hT.symm
  clear hT
  refine w_m (E := mm27) rfl ?_
  show wl_E f f (D - 1) mm27.2.2.2.2.2.2.2.2 0 [some (.ref 52), none, none] [] (hz F A L) Q
  refine w_n 1 (pc1 := 1) (ls1 := [some (.ref 52), none, none]) (st1 := [.ref 52]) (hp1 := (hz F A L)) rfl ?_
  refine w_c rfl rfl (t_kr_readProduct hr (by omega) (by omega) ?_)
  show wl_E f _ _ mm27.2.2.2.2.2.2.2.2 4 [some (.ref 52), none, none] [] (hz (uF (uF (uF (uF F 1 3 (kr_readProduct r (F 1 2) (F 1 3) (F 1 4) (F 52 2) (F 53 1) (A 2) (A 58) (A 59)).1) 1 4 (kr_readProduct r (F 1 2) (F 1 3) (F 1 4) (F 52 2) (F 53 1) (A 2) (A 58) (A 59)).2.1) 52 2 (kr_readProduct r (F 1 2) (F 1 3) (F 1 4) (F 52 2) (F 53 1) (A 2) (A 58) (A 59)).2.2.1) 53 1 (kr_readProduct r (F 1 2) (F 1 3) (F 1 4) (F 52 2) (F 53 1) (A 2) (A 58) (A 59)).2.2.2.1) (uA (uA A 58 (kr_readProduct r (F 1 2) (F 1 3) (F 1 4) (F 52 2) (F 53 1) (A 2) (A 58) (A 59)).2.2.2.2.1) 59 (kr_readProduct r (F 1 2) (F 1 3) (F 1 4) (F 52 2) (F 53 1) (A 2) (A 58) (A 59)).2.2.2.2.2) L) _
  generalize hG480 : (kr_readProduct r (F 1 2) (F 1 3) (F 1 4) (F 52 2) (F 53 1) (A 2) (A 58) (A 59)) = G480 at hE ⊢
  replace hE := hE.trans (lt_e _ _)
  refine w_n 2 (pc1 := 6) (ls1 := [some (.ref 52), some (.int 0), none]) (st1 := []) (hp1 := (hz (uF (uF (uF (uF F 1 3 G480.1) 1 4 G480.2.1) 52 2 G480.2.2.1) 53 1 G480.2.2.2.1) (uA (uA A 58 G480.2.2.2.2.1) 59 G480.2.2.2.2.2) L)) rfl ?_
  refine t_kr_readSum_6 hr (by omega) 240 (show (240 : Nat) = (240 - (0 : Int32).toInt).toNat by have e0 : (0 : Int32).toInt = 0 := rfl; first | rfl | omega) (by omega) ?_
  intro r1 r2
  show wl_E f _ _ mm27.2.2.2.2.2.2.2.2 68 [some (.ref 52), some (.int r1), r2] [] (hz (uF (uF (uF (uF (uF (uF (uF (uF F 1 3 G480.1) 1 4 G480.2.1) 52 2 G480.2.2.1) 53 1 G480.2.2.2.1) 1 3 (kr_readSum_6 r (F 1 2) (A 2) 240 0 G480.1 G480.2.1 G480.2.2.1 G480.2.2.2.1 G480.2.2.2.2.1 G480.2.2.2.2.2).1) 1 4 (kr_readSum_6 r (F 1 2) (A 2) 240 0 G480.1 G480.2.1 G480.2.2.1 G480.2.2.2.1 G480.2.2.2.2.1 G480.2.2.2.2.2).2.1) 52 2 (kr_readSum_6 r (F 1 2) (A 2) 240 0 G480.1 G480.2.1 G480.2.2.1 G480.2.2.2.1 G480.2.2.2.2.1 G480.2.2.2.2.2).2.2.1) 53 1 (kr_readSum_6 r (F 1 2) (A 2) 240 0 G480.1 G480.2.1 G480.2.2.1 G480.2.2.2.1 G480.2.2.2.2.1 G480.2.2.2.2.2).2.2.2.1) (uA (uA (uA (uA A 58 G480.2.2.2.2.1) 59 G480.2.2.2.2.2) 58 (kr_readSum_6 r (F 1 2) (A 2) 240 0 G480.1 G480.2.1 G480.2.2.1 G480.2.2.2.1 G480.2.2.2.2.1 G480.2.2.2.2.2).2.2.2.2.1) 59 (kr_readSum_6 r (F 1 2) (A 2) 240 0 G480.1 G480.2.1 G480.2.2.1 G480.2.2.2.1 G480.2.2.2.2.1 G480.2.2.2.2.2).2.2.2.2.2) L) _
  generalize hG485 : (kr_readSum_6 r (F 1 2) (A 2) 240 0 G480.1 G480.2.1 G480.2.2.1 G480.2.2.2.1 G480.2.2.2.2.1 G480.2.2.2.2.2) = G485 at hE ⊢
  replace hE := hE.trans (lt_e _ _)
  subst T
  exact w_r rfl rfl (cvQ (funext fun q => funext fun z => if k0 : q = 1 ∧ z = 3 then by obtain ⟨w1, w2⟩ := k0; subst w1; subst w2; exact Eq.trans (b := G485.1) rfl rfl else if k1 : q = 1 ∧ z = 4 then by obtain ⟨w1, w2⟩ := k1; subst w1; subst w2; exact Eq.trans (b := G485.2.1) rfl rfl else if k2 : q = 52 ∧ z = 2 then by obtain ⟨w1, w2⟩ := k2; subst w1; subst w2; exact Eq.trans (b := G485.2.2.1) rfl rfl else if k3 : q = 53 ∧ z = 1 then by obtain ⟨w1, w2⟩ := k3; subst w1; subst w2; exact Eq.trans (b := G485.2.2.2.1) rfl rfl else by unfold uF; simp only [nb2 k0, nb2 k1, nb2 k2, nb2 k3, cond_false]) (funext fun q => if k0 : q = 58 then by subst k0; exact Eq.trans (b := G485.2.2.2.2.1) rfl rfl else if k1 : q = 59 then by subst k1; exact Eq.trans (b := G485.2.2.2.2.2) rfl rfl else by unfold uA; simp only [nb1 k0, nb1 k1, cond_false]) rfl K)
noncomputable def kr_readSum : Nat → Int32 → Int32 → Int32 → Int32 → Int32 → List Int32 → List Int32 → List Int32 → (Int32 × Int32 × Int32 × Int32 × List Int32 × List Int32)
  | 0, _, f1_3, f1_4, f52_2, f53_1, _, a58, a59 => (f1_3, f1_4, f52_2, f53_1, a58, a59)
  | n + 1, f1_2, f1_3, f1_4, f52_2, f53_1, a2, a58, a59 => kr_readSum_b (kr_readSum n) f1_2 f1_3 f1_4 f52_2 f53_1 a2 a58 a59
theorem t_kr_readSum {f : Nat} : ∀ (n : Nat), n ≤ f → ∀ {D : Nat} {F : Nat → Nat → Int32} {A : Nat → List Int32} {L : Nat → List Int64} {Q : Option Value → sm_H → Prop}, D ≤ n → (Q none (hz (uF (uF (uF (uF F 1 3 ((kr_readSum n (F 1 2) (F 1 3) (F 1 4) (F 52 2) (F 53 1) (A 2) (A 58) (A 59)).1)) 1 4 ((kr_readSum n (F 1 2) (F 1 3) (F 1 4) (F 52 2) (F 53 1) (A 2) (A 58) (A 59)).2.1)) 52 2 ((kr_readSum n (F 1 2) (F 1 3) (F 1 4) (F 52 2) (F 53 1) (A 2) (A 58) (A 59)).2.2.1)) 53 1 ((kr_readSum n (F 1 2) (F 1 3) (F 1 4) (F 52 2) (F 53 1) (A 2) (A 58) (A 59)).2.2.2.1)) (uA (uA A 58 ((kr_readSum n (F 1 2) (F 1 3) (F 1 4) (F 52 2) (F 53 1) (A 2) (A 58) (A 59)).2.2.2.2.1)) 59 ((kr_readSum n (F 1 2) (F 1 3) (F 1 4) (F 52 2) (F 53 1) (A 2) (A 58) (A 59)).2.2.2.2.2)) L)) → wl_M f D 27 [.ref 52] (hz F A L) Q := by
  intro n
  induction n with
  | zero =>
    intro hf D F A L Q  hD K
    obtain rfl : D = 0 := by omega
    exact w_m0
  | succ n ih =>
    intro hf D F A L Q  hD K
    exact t_kr_readSum_b (n := n) (r := kr_readSum n) (fun _ => ih (by omega)) hf hD K
noncomputable def kr_goOnHere (f53_1 : Int32) (a59 : List Int32) (x1 : Int32) : List Int32 := (if x1 = (-1) then a59 else (a59.set x1.toInt.toNat f53_1))
theorem t_kr_goOnHere {f D : Nat} {F : Nat → Nat → Int32} {A : Nat → List Int32} {L : Nat → List Int64} {Q : Option Value → sm_H → Prop} {x1 : Int32} (K : Q none (hz F (uA A 59 (kr_goOnHere (F 53 1) (A 59) x1)) L)) : wl_M f D 40 [.ref 52, .int x1] (hz F A L) Q := by
  generalize hT : (kr_goOnHere (F 53 1) (A 59) x1) = T at K
  have hE : T = (if x1 = (-1) then (A 59) else ((A 59).set x1.toInt.toNat (F 53 1))) := hT.symm
  clear hT
  refine w_m (E := mm40) rfl ?_
  show wl_E f f (D - 1) mm40.2.2.2.2.2.2.2.2 0 [some (.ref 52), some (.int x1)] [] (hz F A L) Q
  refine w_n 2 (pc1 := 2) (ls1 := [some (.ref 52), some (.int x1)]) (st1 := [.int (-1), .int x1]) (hp1 := (hz F A L)) rfl ?_
  refine w_eq (p3 := 5) rfl rfl (fun h => ?_) (fun h => ?_)
  · have h1 : x1 = (-1) := h
    rw [if_pos h1] at hE
    subst T
    exact w_r rfl rfl (cvQ rfl (funext fun q => if k0 : q = 59 then by subst k0; exact Eq.trans (b := (A 59)) rfl rfl else by unfold uA; simp only [nb1 k0, cond_false]) rfl K)
  · have h1 : ¬ x1 = (-1) := h
    rw [if_neg h1] at hE
    refine w_n 7 (pc1 := 20) (ls1 := [some (.ref 52), some (.int x1)]) (st1 := [.int (F 53 1), .int x1, .ref 59]) (hp1 := (hz F A L)) rfl ?_
    refine w_as (k := 59) (l := (A 59)) (hp1 := (hz F (uA A 59 ((A 59).set x1.toInt.toNat (F 53 1))) L)) rfl rfl rfl (hz_s59 _) (fun _ => ?_)
    subst T
    exact w_r rfl rfl (cvQ rfl rfl rfl K)
noncomputable def kr_readPart_6 (r : Int32 → Int32 → Int32 → Int32 → Int32 → List Int32 → List Int32 → List Int32 → (Int32 × Int32 × Int32 × Int32 × List Int32 × List Int32)) (f1_2 : Int32) (a2 : List Int32)  : Nat → Int32 → Int32 → Int32 → Int32 → Int32 → List Int32 → List Int32 → Int32 × Int32 × Int32 × Int32 × List Int32 × List Int32
  | 0, _, f1_3, f1_4, f52_2, f53_1, a58, a59 => (f1_3, f1_4, f52_2, f53_1, a58, a59)
  | m + 1, y1, f1_3, f1_4, f52_2, f53_1, a58, a59 => (lt (kx_stands f1_2 f1_3 f1_4 a2 38 38) (fun g499 => (if g499 = 0 then (f1_3, f1_4, f52_2, f53_1, a58, a59) else (lt (kl_add_53 f53_1 a58 a59 38 0) (fun g500 => (lt (r f1_2 (f1_3 + 1) f1_4 f52_2 g500.2.1 a2 g500.2.2.1 g500.2.2.2) (fun g501 => (lt (kr_goOnHere g501.2.2.2.1 g501.2.2.2.2.2 g500.1) (fun g502 => (kr_readPart_6 r f1_2 a2 m (y1 + 1) g501.1 g501.2.1 g501.2.2.1 g501.2.2.2.1 g501.2.2.2.2.1 g502))))))))))
theorem t_kr_readPart_6 {f : Nat} {n : Nat} {r : Int32 → Int32 → Int32 → Int32 → Int32 → List Int32 → List Int32 → List Int32 → (Int32 × Int32 × Int32 × Int32 × List Int32 × List Int32)} (hr : ∀ (D : Nat) {F : Nat → Nat → Int32} {A : Nat → List Int32} {L : Nat → List Int64} {Q : Option Value → sm_H → Prop}, D ≤ n → (Q none (hz (uF (uF (uF (uF F 1 3 ((r (F 1 2) (F 1 3) (F 1 4) (F 52 2) (F 53 1) (A 2) (A 58) (A 59)).1)) 1 4 ((r (F 1 2) (F 1 3) (F 1 4) (F 52 2) (F 53 1) (A 2) (A 58) (A 59)).2.1)) 52 2 ((r (F 1 2) (F 1 3) (F 1 4) (F 52 2) (F 53 1) (A 2) (A 58) (A 59)).2.2.1)) 53 1 ((r (F 1 2) (F 1 3) (F 1 4) (F 52 2) (F 53 1) (A 2) (A 58) (A 59)).2.2.2.1)) (uA (uA A 58 ((r (F 1 2) (F 1 3) (F 1 4) (F 52 2) (F 53 1) (A 2) (A 58) (A 59)).2.2.2.2.1)) 59 ((r (F 1 2) (F 1 3) (F 1 4) (F 52 2) (F 53 1) (A 2) (A 58) (A 59)).2.2.2.2.2)) L)) → wl_M f D 39 [.ref 52] (hz F A L) Q) (hnf : n ≤ f) {Q : Option Value → sm_H → Prop} : ∀ (m : Nat) {B D : Nat} {F : Nat → Nat → Int32} {A : Nat → List Int32} {L : Nat → List Int64} {y1 : Int32} {o2 : Option Value}, m = (240 - y1.toInt).toNat → (_ : D ≤ n) → (∀ q1 : Int32, ∀ q2 : Option Value, wl_E f B D mm38.2.2.2.2.2.2.2.2 66 [some (.ref 52), some (.int q1), q2] [] (hz (uF (uF (uF (uF F 1 3 ((kr_readPart_6 r (F 1 2) (A 2) m y1 (F 1 3) (F 1 4) (F 52 2) (F 53 1) (A 58) (A 59)).1)) 1 4 ((kr_readPart_6 r (F 1 2) (A 2) m y1 (F 1 3) (F 1 4) (F 52 2) (F 53 1) (A 58) (A 59)).2.1)) 52 2 ((kr_readPart_6 r (F 1 2) (A 2) m y1 (F 1 3) (F 1 4) (F 52 2) (F 53 1) (A 58) (A 59)).2.2.1)) 53 1 ((kr_readPart_6 r (F 1 2) (A 2) m y1 (F 1 3) (F 1 4) (F 52 2) (F 53 1) (A 58) (A 59)).2.2.2.1)) (uA (uA A 58 ((kr_readPart_6 r (F 1 2) (A 2) m y1 (F 1 3) (F 1 4) (F 52 2) (F 53 1) (A 58) (A 59)).2.2.2.2.1)) 59 ((kr_readPart_6 r (F 1 2) (A 2) m y1 (F 1 3) (F 1 4) (F 52 2) (F 53 1) (A 58) (A 59)).2.2.2.2.2)) L) Q) → wl_E f B D mm38.2.2.2.2.2.2.2.2 6 [some (.ref 52), some (.int y1), o2] [] (hz F A L) Q := by
  intro m
  induction m with
  | zero =>
    intro B D F A L y1 o2 hm hn K
    generalize hT : (kr_readPart_6 r (F 1 2) (A 2) 0 y1 (F 1 3) (F 1 4) (F 52 2) (F 53 1) (A 58) (A 59)) = T at K
    have hE : T = ((F 1 3), (F 1 4), (F 52 2), (F 53 1), (A 58), (A 59)) := hT.symm
    clear hT
    refine w_n 2 (pc1 := 10) (ls1 := [some (.ref 52), some (.int y1), o2]) (st1 := [.int 240, .int y1]) (hp1 := (hz F A L)) rfl ?_
    refine w_ge (p3 := 13) rfl rfl (fun hb => ?_) (fun h => False.elim (by have h : y1.toInt < 240 := h; omega))
    subst T
    exact cvE (funext fun q => funext fun z => if k0 : q = 1 ∧ z = 3 then by obtain ⟨w1, w2⟩ := k0; subst w1; subst w2; exact Eq.trans (b := (F 1 3)) rfl rfl else if k1 : q = 1 ∧ z = 4 then by obtain ⟨w1, w2⟩ := k1; subst w1; subst w2; exact Eq.trans (b := (F 1 4)) rfl rfl else if k2 : q = 52 ∧ z = 2 then by obtain ⟨w1, w2⟩ := k2; subst w1; subst w2; exact Eq.trans (b := (F 52 2)) rfl rfl else if k3 : q = 53 ∧ z = 1 then by obtain ⟨w1, w2⟩ := k3; subst w1; subst w2; exact Eq.trans (b := (F 53 1)) rfl rfl else by unfold uF; simp only [nb2 k0, nb2 k1, nb2 k2, nb2 k3, cond_false]) (funext fun q => if k0 : q = 58 then by subst k0; exact Eq.trans (b := (A 58)) rfl rfl else if k1 : q = 59 then by subst k1; exact Eq.trans (b := (A 59)) rfl rfl else by unfold uA; simp only [nb1 k0, nb1 k1, cond_false]) rfl (K _ _)
  | succ m ih =>
    intro B D F A L y1 o2 hm hn K
    generalize hT : (kr_readPart_6 r (F 1 2) (A 2) (m + 1) y1 (F 1 3) (F 1 4) (F 52 2) (F 53 1) (A 58) (A 59)) = T at K
    have hE : T = (lt (kx_stands (F 1 2) (F 1 3) (F 1 4) (A 2) 38 38) (fun g499 => (if g499 = 0 then ((F 1 3), (F 1 4), (F 52 2), (F 53 1), (A 58), (A 59)) else (lt (kl_add_53 (F 53 1) (A 58) (A 59) 38 0) (fun g500 => (lt (r (F 1 2) ((F 1 3) + 1) (F 1 4) (F 52 2) g500.2.1 (A 2) g500.2.2.1 g500.2.2.2) (fun g501 => (lt (kr_goOnHere g501.2.2.2.1 g501.2.2.2.2.2 g500.1) (fun g502 => (kr_readPart_6 r (F 1 2) (A 2) m (y1 + 1) g501.1 g501.2.1 g501.2.2.1 g501.2.2.2.1 g501.2.2.2.2.1 g502)))))))))) := hT.symm
    clear hT
    refine w_n 2 (pc1 := 10) (ls1 := [some (.ref 52), some (.int y1), o2]) (st1 := [.int 240, .int y1]) (hp1 := (hz F A L)) rfl ?_
    refine w_ge (p3 := 13) rfl rfl (fun h => False.elim (by have h : 240 ≤ y1.toInt := h; omega)) (fun hb => ?_)
    refine w_n 4 (pc1 := 21) (ls1 := [some (.ref 52), some (.int y1), o2]) (st1 := [.int 38, .int 38, .ref 1]) (hp1 := (hz F A L)) rfl ?_
    refine w_c rfl rfl (t_kx_stands ?_)
    show wl_E f _ _ mm38.2.2.2.2.2.2.2.2 24 [some (.ref 52), some (.int y1), o2] [.int (kx_stands (F 1 2) (F 1 3) (F 1 4) (A 2) 38 38)] (hz F A L) _
    generalize hG499 : (kx_stands (F 1 2) (F 1 3) (F 1 4) (A 2) 38 38) = G499 at hE ⊢
    replace hE := hE.trans (lt_e _ _)
    refine w_zeq (p3 := 27) rfl rfl (fun h => ?_) (fun h => ?_)
    · have h1 : G499 = 0 := h
      rw [if_pos h1] at hE
      subst T
      exact cvE (funext fun q => funext fun z => if k0 : q = 1 ∧ z = 3 then by obtain ⟨w1, w2⟩ := k0; subst w1; subst w2; exact Eq.trans (b := (F 1 3)) rfl rfl else if k1 : q = 1 ∧ z = 4 then by obtain ⟨w1, w2⟩ := k1; subst w1; subst w2; exact Eq.trans (b := (F 1 4)) rfl rfl else if k2 : q = 52 ∧ z = 2 then by obtain ⟨w1, w2⟩ := k2; subst w1; subst w2; exact Eq.trans (b := (F 52 2)) rfl rfl else if k3 : q = 53 ∧ z = 1 then by obtain ⟨w1, w2⟩ := k3; subst w1; subst w2; exact Eq.trans (b := (F 53 1)) rfl rfl else by unfold uF; simp only [nb2 k0, nb2 k1, nb2 k2, nb2 k3, cond_false]) (funext fun q => if k0 : q = 58 then by subst k0; exact Eq.trans (b := (A 58)) rfl rfl else if k1 : q = 59 then by subst k1; exact Eq.trans (b := (A 59)) rfl rfl else by unfold uA; simp only [nb1 k0, nb1 k1, cond_false]) rfl (K _ _)
    · have h1 : ¬ G499 = 0 := h
      rw [if_neg h1] at hE
      refine w_n 6 (pc1 := 37) (ls1 := [some (.ref 52), some (.int y1), o2]) (st1 := [.int ((F 1 3) + 1), .ref 1]) (hp1 := (hz F A L)) rfl ?_
      refine w_pf (k := 1) (fs := hz_f1 F) (hp1 := (hz (uF F 1 3 ((F 1 3) + 1)) A L)) rfl rfl rfl (hz_p1_3 _) ?_
      refine w_n 4 (pc1 := 47) (ls1 := [some (.ref 52), some (.int y1), o2]) (st1 := [.int 0, .int 38, .ref 53]) (hp1 := (hz (uF F 1 3 ((F 1 3) + 1)) A L)) rfl ?_
      refine w_c rfl rfl (t_kl_add_53 ?_)
      show wl_E f _ _ mm38.2.2.2.2.2.2.2.2 50 [some (.ref 52), some (.int y1), o2] [.int (kl_add_53 (F 53 1) (A 58) (A 59) 38 0).1] (hz (uF (uF F 1 3 ((F 1 3) + 1)) 53 1 (kl_add_53 (F 53 1) (A 58) (A 59) 38 0).2.1) (uA (uA A 58 (kl_add_53 (F 53 1) (A 58) (A 59) 38 0).2.2.1) 59 (kl_add_53 (F 53 1) (A 58) (A 59) 38 0).2.2.2) L) _
      generalize hG500 : (kl_add_53 (F 53 1) (A 58) (A 59) 38 0) = G500 at hE ⊢
      replace hE := hE.trans (lt_e _ _)
      refine w_n 2 (pc1 := 52) (ls1 := [some (.ref 52), some (.int y1), some (.int G500.1)]) (st1 := [.ref 52]) (hp1 := (hz (uF (uF F 1 3 ((F 1 3) + 1)) 53 1 G500.2.1) (uA (uA A 58 G500.2.2.1) 59 G500.2.2.2) L)) rfl ?_
      refine w_c rfl rfl (hr _ (by omega) ?_)
      show wl_E f _ _ mm38.2.2.2.2.2.2.2.2 55 [some (.ref 52), some (.int y1), some (.int G500.1)] [] (hz (uF (uF (uF (uF (uF (uF F 1 3 ((F 1 3) + 1)) 53 1 G500.2.1) 1 3 (r (F 1 2) ((F 1 3) + 1) (F 1 4) (F 52 2) G500.2.1 (A 2) G500.2.2.1 G500.2.2.2).1) 1 4 (r (F 1 2) ((F 1 3) + 1) (F 1 4) (F 52 2) G500.2.1 (A 2) G500.2.2.1 G500.2.2.2).2.1) 52 2 (r (F 1 2) ((F 1 3) + 1) (F 1 4) (F 52 2) G500.2.1 (A 2) G500.2.2.1 G500.2.2.2).2.2.1) 53 1 (r (F 1 2) ((F 1 3) + 1) (F 1 4) (F 52 2) G500.2.1 (A 2) G500.2.2.1 G500.2.2.2).2.2.2.1) (uA (uA (uA (uA A 58 G500.2.2.1) 59 G500.2.2.2) 58 (r (F 1 2) ((F 1 3) + 1) (F 1 4) (F 52 2) G500.2.1 (A 2) G500.2.2.1 G500.2.2.2).2.2.2.2.1) 59 (r (F 1 2) ((F 1 3) + 1) (F 1 4) (F 52 2) G500.2.1 (A 2) G500.2.2.1 G500.2.2.2).2.2.2.2.2) L) _
      generalize hG501 : (r (F 1 2) ((F 1 3) + 1) (F 1 4) (F 52 2) G500.2.1 (A 2) G500.2.2.1 G500.2.2.2) = G501 at hE ⊢
      replace hE := hE.trans (lt_e _ _)
      refine w_n 2 (pc1 := 57) (ls1 := [some (.ref 52), some (.int y1), some (.int G500.1)]) (st1 := [.int G500.1, .ref 52]) (hp1 := (hz (uF (uF (uF (uF (uF (uF F 1 3 ((F 1 3) + 1)) 53 1 G500.2.1) 1 3 G501.1) 1 4 G501.2.1) 52 2 G501.2.2.1) 53 1 G501.2.2.2.1) (uA (uA (uA (uA A 58 G500.2.2.1) 59 G500.2.2.2) 58 G501.2.2.2.2.1) 59 G501.2.2.2.2.2) L)) rfl ?_
      refine w_c rfl rfl (t_kr_goOnHere ?_)
      show wl_E f _ _ mm38.2.2.2.2.2.2.2.2 60 [some (.ref 52), some (.int y1), some (.int G500.1)] [] (hz (uF (uF (uF (uF (uF (uF F 1 3 ((F 1 3) + 1)) 53 1 G500.2.1) 1 3 G501.1) 1 4 G501.2.1) 52 2 G501.2.2.1) 53 1 G501.2.2.2.1) (uA (uA (uA (uA (uA A 58 G500.2.2.1) 59 G500.2.2.2) 58 G501.2.2.2.2.1) 59 G501.2.2.2.2.2) 59 (kr_goOnHere G501.2.2.2.1 G501.2.2.2.2.2 G500.1)) L) _
      generalize hG502 : (kr_goOnHere G501.2.2.2.1 G501.2.2.2.2.2 G500.1) = G502 at hE ⊢
      replace hE := hE.trans (lt_e _ _)
      refine w_n 2 (pc1 := 6) (ls1 := [some (.ref 52), some (.int (y1 + 1)), some (.int G500.1)]) (st1 := []) (hp1 := (hz (uF (uF (uF (uF (uF (uF F 1 3 ((F 1 3) + 1)) 53 1 G500.2.1) 1 3 G501.1) 1 4 G501.2.1) 52 2 G501.2.2.1) 53 1 G501.2.2.2.1) (uA (uA (uA (uA (uA A 58 G500.2.2.1) 59 G500.2.2.2) 58 G501.2.2.2.2.1) 59 G501.2.2.2.2.2) 59 G502) L)) rfl ?_
      subst T
      have hb2 := i_up (B := (240 : Int32)) hb
      have hb3 : y1.toInt < 240 := hb
      exact ih (show m = (240 - (y1 + 1).toInt).toNat by rw [hb2]; omega) hn (fun q1 q2 => cvE (funext fun q => funext fun z => if k0 : q = 1 ∧ z = 3 then by obtain ⟨w1, w2⟩ := k0; subst w1; subst w2; exact Eq.trans (b := (kr_readPart_6 r (F 1 2) (A 2) m (y1 + 1) G501.1 G501.2.1 G501.2.2.1 G501.2.2.2.1 G501.2.2.2.2.1 G502).1) rfl rfl else if k1 : q = 1 ∧ z = 4 then by obtain ⟨w1, w2⟩ := k1; subst w1; subst w2; exact Eq.trans (b := (kr_readPart_6 r (F 1 2) (A 2) m (y1 + 1) G501.1 G501.2.1 G501.2.2.1 G501.2.2.2.1 G501.2.2.2.2.1 G502).2.1) rfl rfl else if k2 : q = 52 ∧ z = 2 then by obtain ⟨w1, w2⟩ := k2; subst w1; subst w2; exact Eq.trans (b := (kr_readPart_6 r (F 1 2) (A 2) m (y1 + 1) G501.1 G501.2.1 G501.2.2.1 G501.2.2.2.1 G501.2.2.2.2.1 G502).2.2.1) rfl rfl else if k3 : q = 53 ∧ z = 1 then by obtain ⟨w1, w2⟩ := k3; subst w1; subst w2; exact Eq.trans (b := (kr_readPart_6 r (F 1 2) (A 2) m (y1 + 1) G501.1 G501.2.1 G501.2.2.1 G501.2.2.2.1 G501.2.2.2.2.1 G502).2.2.2.1) rfl rfl else by unfold uF; simp only [nb2 k0, nb2 k1, nb2 k2, nb2 k3, cond_false]) (funext fun q => if k0 : q = 58 then by subst k0; exact Eq.trans (b := (kr_readPart_6 r (F 1 2) (A 2) m (y1 + 1) G501.1 G501.2.1 G501.2.2.1 G501.2.2.2.1 G501.2.2.2.2.1 G502).2.2.2.2.1) rfl rfl else if k1 : q = 59 then by subst k1; exact Eq.trans (b := (kr_readPart_6 r (F 1 2) (A 2) m (y1 + 1) G501.1 G501.2.1 G501.2.2.1 G501.2.2.2.1 G501.2.2.2.2.1 G502).2.2.2.2.2) rfl rfl else by unfold uA; simp only [nb1 k0, nb1 k1, cond_false]) rfl (K q1 q2))
