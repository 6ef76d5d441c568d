/-! lifts, printed by genlift.py: 13 -/
theorem t_kr_opens {f D : Nat} {F : Nat → Nat → Int32} {A : Nat → List Int32} {L : Nat → List Int64} {Q : Option Value → sm_H → Prop} {x1 : Int32} (K : Q (some (.int ((kr_opens (F 1 2) (F 1 3) (F 1 4) (F 52 2) (A 2) x1).1))) (hz (uF (uF (uF F 1 3 ((kr_opens (F 1 2) (F 1 3) (F 1 4) (F 52 2) (A 2) x1).2.1)) 1 4 ((kr_opens (F 1 2) (F 1 3) (F 1 4) (F 52 2) (A 2) x1).2.2.1)) 52 2 ((kr_opens (F 1 2) (F 1 3) (F 1 4) (F 52 2) (A 2) x1).2.2.2)) A L)) : wl_M f D 30 [.ref 52, .int x1] (hz F A L) Q := by
  generalize hT : (kr_opens (F 1 2) (F 1 3) (F 1 4) (F 52 2) (A 2) x1) = T at K
  have hE : T = (if (F 1 4) = 0 then (lt (kx_sign (F 1 2) (F 1 3) (A 2)) (fun g337 => (if g337 = x1 then (if (F 52 2).toInt < 6 then (lt (kx_pass (F 1 2) (F 1 3) (F 1 4) (A 2) x1) (fun g339 => (if g339.2 = 0 then (1, g339.1, g339.2, ((F 52 2) + 1)) else (0, g339.1, g339.2, (F 52 2))))) else (lt (kx_fail (F 1 3) (F 1 4) 5) (fun g340 => (lt (kx_pass (F 1 2) (F 1 3) g340.2 (A 2) x1) (fun g341 => (if g341.2 = 0 then (1, g341.1, g341.2, ((F 52 2) + 1)) else (0, g341.1, g341.2, (F 52 2)))))))) else (lt (kx_pass (F 1 2) (F 1 3) (F 1 4) (A 2) x1) (fun g338 => (if g338.2 = 0 then (1, g338.1, g338.2, ((F 52 2) + 1)) else (0, g338.1, g338.2, (F 52 2)))))))) else (lt (kx_pass (F 1 2) (F 1 3) (F 1 4) (A 2) x1) (fun g336 => (if g336.2 = 0 then (1, g336.1, g336.2, ((F 52 2) + 1)) else (0, g336.1, g336.2, (F 52 2)))))) := hT.symm
  clear hT
  refine w_m (E := mm30) rfl ?_
  show wl_E f f (D - 1) mm30.2.2.2.2.2.2.2.2 0 [some (.ref 52), some (.int x1)] [] (hz F A L) Q
  refine w_n 3 (pc1 := 7) (ls1 := [some (.ref 52), some (.int x1)]) (st1 := [.int (F 1 4)]) (hp1 := (hz F A L)) rfl ?_
  refine w_zne (p3 := 10) rfl rfl (fun h => ?_) (fun h => ?_)
  · have h1 : ¬ (F 1 4) = 0 := h
    rw [if_neg h1] at hE
    refine w_n 3 (pc1 := 44) (ls1 := [some (.ref 52), some (.int x1)]) (st1 := [.int x1, .ref 1]) (hp1 := (hz F A L)) rfl ?_
    refine w_c rfl rfl (t_kx_pass ?_)
    show wl_E f _ _ mm30.2.2.2.2.2.2.2.2 47 [some (.ref 52), some (.int x1)] [] (hz (uF (uF F 1 3 (kx_pass (F 1 2) (F 1 3) (F 1 4) (A 2) x1).1) 1 4 (kx_pass (F 1 2) (F 1 3) (F 1 4) (A 2) x1).2) A L) _
    generalize hG336 : (kx_pass (F 1 2) (F 1 3) (F 1 4) (A 2) x1) = G336 at hE ⊢
    replace hE := hE.trans (lt_e _ _)
    refine w_n 3 (pc1 := 54) (ls1 := [some (.ref 52), some (.int x1)]) (st1 := [.int G336.2]) (hp1 := (hz (uF (uF F 1 3 G336.1) 1 4 G336.2) A L)) rfl ?_
    refine w_zeq (p3 := 57) rfl rfl (fun h => ?_) (fun h => ?_)
    · have h2 : G336.2 = 0 := h
      rw [if_pos h2] at hE
      refine w_n 5 (pc1 := 66) (ls1 := [some (.ref 52), some (.int x1)]) (st1 := [.int ((F 52 2) + 1), .ref 52]) (hp1 := (hz (uF (uF F 1 3 G336.1) 1 4 G336.2) A L)) rfl ?_
      refine w_pf (k := 52) (fs := hz_f52 (uF (uF F 1 3 G336.1) 1 4 G336.2)) (hp1 := (hz (uF (uF (uF F 1 3 G336.1) 1 4 G336.2) 52 2 ((F 52 2) + 1)) A L)) rfl rfl rfl (hz_p52_2 _) ?_
      refine w_n 1 (pc1 := 70) (ls1 := [some (.ref 52), some (.int x1)]) (st1 := [.int 1]) (hp1 := (hz (uF (uF (uF F 1 3 G336.1) 1 4 G336.2) 52 2 ((F 52 2) + 1)) A L)) rfl ?_
      subst T
      exact w_ri rfl (cvQ rfl rfl rfl K)
    · have h2 : ¬ G336.2 = 0 := h
      rw [if_neg h2] at hE
      refine w_n 1 (pc1 := 58) (ls1 := [some (.ref 52), some (.int x1)]) (st1 := [.int 0]) (hp1 := (hz (uF (uF F 1 3 G336.1) 1 4 G336.2) A L)) rfl ?_
      subst T
      exact w_ri rfl (cvQ (funext fun q => funext fun z => if k0 : q = 1 ∧ z = 3 then by obtain ⟨w1, w2⟩ := k0; subst w1; subst w2; exact Eq.trans (b := G336.1) rfl rfl else if k1 : q = 1 ∧ z = 4 then by obtain ⟨w1, w2⟩ := k1; subst w1; subst w2; exact Eq.trans (b := G336.2) rfl rfl else if k2 : q = 52 ∧ z = 2 then by obtain ⟨w1, w2⟩ := k2; subst w1; subst w2; exact Eq.trans (b := (F 52 2)) rfl rfl else by unfold uF; simp only [nb2 k0, nb2 k1, nb2 k2, cond_false]) rfl rfl K)
  · have h1 : (F 1 4) = 0 := h
    rw [if_pos h1] at hE
    refine w_n 2 (pc1 := 14) (ls1 := [some (.ref 52), some (.int x1)]) (st1 := [.ref 1]) (hp1 := (hz F A L)) rfl ?_
    refine w_c rfl rfl (t_kx_sign ?_)
    show wl_E f _ _ mm30.2.2.2.2.2.2.2.2 17 [some (.ref 52), some (.int x1)] [.int (kx_sign (F 1 2) (F 1 3) (A 2))] (hz F A L) _
    generalize hG337 : (kx_sign (F 1 2) (F 1 3) (A 2)) = G337 at hE ⊢
    replace hE := hE.trans (lt_e _ _)
    refine w_n 1 (pc1 := 18) (ls1 := [some (.ref 52), some (.int x1)]) (st1 := [.int x1, .int G337]) (hp1 := (hz F A L)) rfl ?_
    refine w_ne (p3 := 21) rfl rfl (fun h => ?_) (fun h => ?_)
    · have h3 : ¬ G337 = x1 := h
      rw [if_neg h3] at hE
      refine w_n 3 (pc1 := 44) (ls1 := [some (.ref 52), some (.int x1)]) (st1 := [.int x1, .ref 1]) (hp1 := (hz F A L)) rfl ?_
      refine w_c rfl rfl (t_kx_pass ?_)
      show wl_E f _ _ mm30.2.2.2.2.2.2.2.2 47 [some (.ref 52), some (.int x1)] [] (hz (uF (uF F 1 3 (kx_pass (F 1 2) (F 1 3) (F 1 4) (A 2) x1).1) 1 4 (kx_pass (F 1 2) (F 1 3) (F 1 4) (A 2) x1).2) A L) _
      generalize hG338 : (kx_pass (F 1 2) (F 1 3) (F 1 4) (A 2) x1) = G338 at hE ⊢
      replace hE := hE.trans (lt_e _ _)
      refine w_n 3 (pc1 := 54) (ls1 := [some (.ref 52), some (.int x1)]) (st1 := [.int G338.2]) (hp1 := (hz (uF (uF F 1 3 G338.1) 1 4 G338.2) A L)) rfl ?_
      refine w_zeq (p3 := 57) rfl rfl (fun h => ?_) (fun h => ?_)
      · have h4 : G338.2 = 0 := h
        rw [if_pos h4] at hE
        refine w_n 5 (pc1 := 66) (ls1 := [some (.ref 52), some (.int x1)]) (st1 := [.int ((F 52 2) + 1), .ref 52]) (hp1 := (hz (uF (uF F 1 3 G338.1) 1 4 G338.2) A L)) rfl ?_
        refine w_pf (k := 52) (fs := hz_f52 (uF (uF F 1 3 G338.1) 1 4 G338.2)) (hp1 := (hz (uF (uF (uF F 1 3 G338.1) 1 4 G338.2) 52 2 ((F 52 2) + 1)) A L)) rfl rfl rfl (hz_p52_2 _) ?_
        refine w_n 1 (pc1 := 70) (ls1 := [some (.ref 52), some (.int x1)]) (st1 := [.int 1]) (hp1 := (hz (uF (uF (uF F 1 3 G338.1) 1 4 G338.2) 52 2 ((F 52 2) + 1)) A L)) rfl ?_
        subst T
        exact w_ri rfl (cvQ rfl rfl rfl K)
      · have h4 : ¬ G338.2 = 0 := h
        rw [if_neg h4] at hE
        refine w_n 1 (pc1 := 58) (ls1 := [some (.ref 52), some (.int x1)]) (st1 := [.int 0]) (hp1 := (hz (uF (uF F 1 3 G338.1) 1 4 G338.2) A L)) rfl ?_
        subst T
        exact w_ri rfl (cvQ (funext fun q => funext fun z => if k0 : q = 1 ∧ z = 3 then by obtain ⟨w1, w2⟩ := k0; subst w1; subst w2; exact Eq.trans (b := G338.1) rfl rfl else if k1 : q = 1 ∧ z = 4 then by obtain ⟨w1, w2⟩ := k1; subst w1; subst w2; exact Eq.trans (b := G338.2) rfl rfl else if k2 : q = 52 ∧ z = 2 then by obtain ⟨w1, w2⟩ := k2; subst w1; subst w2; exact Eq.trans (b := (F 52 2)) rfl rfl else by unfold uF; simp only [nb2 k0, nb2 k1, nb2 k2, cond_false]) rfl rfl K)
    · have h3 : G337 = x1 := h
      rw [if_pos h3] at hE
      refine w_n 3 (pc1 := 27) (ls1 := [some (.ref 52), some (.int x1)]) (st1 := [.int 6, .int (F 52 2)]) (hp1 := (hz F A L)) rfl ?_
      refine w_lt (p3 := 30) rfl rfl (fun h => ?_) (fun h => ?_)
      · have h5 : (F 52 2).toInt < 6 := h
        rw [if_pos h5] at hE
        refine w_n 3 (pc1 := 44) (ls1 := [some (.ref 52), some (.int x1)]) (st1 := [.int x1, .ref 1]) (hp1 := (hz F A L)) rfl ?_
        refine w_c rfl rfl (t_kx_pass ?_)
        show wl_E f _ _ mm30.2.2.2.2.2.2.2.2 47 [some (.ref 52), some (.int x1)] [] (hz (uF (uF F 1 3 (kx_pass (F 1 2) (F 1 3) (F 1 4) (A 2) x1).1) 1 4 (kx_pass (F 1 2) (F 1 3) (F 1 4) (A 2) x1).2) A L) _
        generalize hG339 : (kx_pass (F 1 2) (F 1 3) (F 1 4) (A 2) x1) = G339 at hE ⊢
        replace hE := hE.trans (lt_e _ _)
        refine w_n 3 (pc1 := 54) (ls1 := [some (.ref 52), some (.int x1)]) (st1 := [.int G339.2]) (hp1 := (hz (uF (uF F 1 3 G339.1) 1 4 G339.2) A L)) rfl ?_
        refine w_zeq (p3 := 57) rfl rfl (fun h => ?_) (fun h => ?_)
        · have h6 : G339.2 = 0 := h
          rw [if_pos h6] at hE
          refine w_n 5 (pc1 := 66) (ls1 := [some (.ref 52), some (.int x1)]) (st1 := [.int ((F 52 2) + 1), .ref 52]) (hp1 := (hz (uF (uF F 1 3 G339.1) 1 4 G339.2) A L)) rfl ?_
          refine w_pf (k := 52) (fs := hz_f52 (uF (uF F 1 3 G339.1) 1 4 G339.2)) (hp1 := (hz (uF (uF (uF F 1 3 G339.1) 1 4 G339.2) 52 2 ((F 52 2) + 1)) A L)) rfl rfl rfl (hz_p52_2 _) ?_
          refine w_n 1 (pc1 := 70) (ls1 := [some (.ref 52), some (.int x1)]) (st1 := [.int 1]) (hp1 := (hz (uF (uF (uF F 1 3 G339.1) 1 4 G339.2) 52 2 ((F 52 2) + 1)) A L)) rfl ?_
          subst T
          exact w_ri rfl (cvQ rfl rfl rfl K)
        · have h6 : ¬ G339.2 = 0 := h
          rw [if_neg h6] at hE
          refine w_n 1 (pc1 := 58) (ls1 := [some (.ref 52), some (.int x1)]) (st1 := [.int 0]) (hp1 := (hz (uF (uF F 1 3 G339.1) 1 4 G339.2) A L)) rfl ?_
          subst T
          exact w_ri rfl (cvQ (funext fun q => funext fun z => if k0 : q = 1 ∧ z = 3 then by obtain ⟨w1, w2⟩ := k0; subst w1; subst w2; exact Eq.trans (b := G339.1) rfl rfl else if k1 : q = 1 ∧ z = 4 then by obtain ⟨w1, w2⟩ := k1; subst w1; subst w2; exact Eq.trans (b := G339.2) rfl rfl else if k2 : q = 52 ∧ z = 2 then by obtain ⟨w1, w2⟩ := k2; subst w1; subst w2; exact Eq.trans (b := (F 52 2)) rfl rfl else by unfold uF; simp only [nb2 k0, nb2 k1, nb2 k2, cond_false]) rfl rfl K)
      · have h5 : 6 ≤ (F 52 2).toInt := h
        rw [if_neg (Int.not_lt.mpr h5)] at hE
        refine w_n 3 (pc1 := 35) (ls1 := [some (.ref 52), some (.int x1)]) (st1 := [.int 5, .ref 1]) (hp1 := (hz F A L)) rfl ?_
        refine w_c rfl rfl (t_kx_fail ?_)
        show wl_E f _ _ mm30.2.2.2.2.2.2.2.2 38 [some (.ref 52), some (.int x1)] [.int (kx_fail (F 1 3) (F 1 4) 5).1] (hz (uF F 1 4 (kx_fail (F 1 3) (F 1 4) 5).2) A L) _
        generalize hG340 : (kx_fail (F 1 3) (F 1 4) 5) = G340 at hE ⊢
        replace hE := hE.trans (lt_e _ _)
        refine w_n 4 (pc1 := 44) (ls1 := [some (.ref 52), some (.int x1)]) (st1 := [.int x1, .ref 1]) (hp1 := (hz (uF F 1 4 G340.2) A L)) rfl ?_
        refine w_c rfl rfl (t_kx_pass ?_)
        show wl_E f _ _ mm30.2.2.2.2.2.2.2.2 47 [some (.ref 52), some (.int x1)] [] (hz (uF (uF (uF F 1 4 G340.2) 1 3 (kx_pass (F 1 2) (F 1 3) G340.2 (A 2) x1).1) 1 4 (kx_pass (F 1 2) (F 1 3) G340.2 (A 2) x1).2) A L) _
        generalize hG341 : (kx_pass (F 1 2) (F 1 3) G340.2 (A 2) x1) = G341 at hE ⊢
        replace hE := hE.trans (lt_e _ _)
        refine w_n 3 (pc1 := 54) (ls1 := [some (.ref 52), some (.int x1)]) (st1 := [.int G341.2]) (hp1 := (hz (uF (uF (uF F 1 4 G340.2) 1 3 G341.1) 1 4 G341.2) A L)) rfl ?_
        refine w_zeq (p3 := 57) rfl rfl (fun h => ?_) (fun h => ?_)
        · have h7 : G341.2 = 0 := h
          rw [if_pos h7] at hE
          refine w_n 5 (pc1 := 66) (ls1 := [some (.ref 52), some (.int x1)]) (st1 := [.int ((F 52 2) + 1), .ref 52]) (hp1 := (hz (uF (uF (uF F 1 4 G340.2) 1 3 G341.1) 1 4 G341.2) A L)) rfl ?_
          refine w_pf (k := 52) (fs := hz_f52 (uF (uF (uF F 1 4 G340.2) 1 3 G341.1) 1 4 G341.2)) (hp1 := (hz (uF (uF (uF (uF F 1 4 G340.2) 1 3 G341.1) 1 4 G341.2) 52 2 ((F 52 2) + 1)) A L)) rfl rfl rfl (hz_p52_2 _) ?_
          refine w_n 1 (pc1 := 70) (ls1 := [some (.ref 52), some (.int x1)]) (st1 := [.int 1]) (hp1 := (hz (uF (uF (uF (uF F 1 4 G340.2) 1 3 G341.1) 1 4 G341.2) 52 2 ((F 52 2) + 1)) A L)) rfl ?_
          subst T
          exact w_ri rfl (cvQ (funext fun q => funext fun z => if k0 : q = 1 ∧ z = 3 then by obtain ⟨w1, w2⟩ := k0; subst w1; subst w2; exact Eq.trans (b := G341.1) rfl rfl else if k1 : q = 1 ∧ z = 4 then by obtain ⟨w1, w2⟩ := k1; subst w1; subst w2; exact Eq.trans (b := G341.2) rfl rfl else if k2 : q = 52 ∧ z = 2 then by obtain ⟨w1, w2⟩ := k2; subst w1; subst w2; exact Eq.trans (b := ((F 52 2) + 1)) rfl rfl else by unfold uF; simp only [nb2 k0, nb2 k1, nb2 k2, cond_false]) rfl rfl K)
        · have h7 : ¬ G341.2 = 0 := h
          rw [if_neg h7] at hE
          refine w_n 1 (pc1 := 58) (ls1 := [some (.ref 52), some (.int x1)]) (st1 := [.int 0]) (hp1 := (hz (uF (uF (uF F 1 4 G340.2) 1 3 G341.1) 1 4 G341.2) A L)) rfl ?_
          subst T
          exact w_ri rfl (cvQ (funext fun q => funext fun z => if k0 : q = 1 ∧ z = 3 then by obtain ⟨w1, w2⟩ := k0; subst w1; subst w2; exact Eq.trans (b := G341.1) rfl rfl else if k1 : q = 1 ∧ z = 4 then by obtain ⟨w1, w2⟩ := k1; subst w1; subst w2; exact Eq.trans (b := G341.2) rfl rfl else if k2 : q = 52 ∧ z = 2 then by obtain ⟨w1, w2⟩ := k2; subst w1; subst w2; exact Eq.trans (b := (F 52 2)) rfl rfl else by unfold uF; simp only [nb2 k0, nb2 k1, nb2 k2, cond_false]) rfl rfl K)
noncomputable def kr_readFactor (r : Int32 → Int32 → Int32 → Int32 → Int32 → List Int32 → List Int32 → List Int32 → (Int32 × Int32 × Int32 × Int32 × List Int32 × List Int32)) (f1_2 : Int32) (f1_3 : Int32) (f1_4 : Int32) (f52_2 : Int32) (f53_1 : Int32) (a2 : List Int32) (a58 : List Int32) (a59 : List Int32) : Int32 × Int32 × Int32 × Int32 × List Int32 × List Int32 := (if f1_4 = 0 then (lt (kx_sign f1_2 f1_3 a2) (fun g325 => (if g325 = 91 then (lt (kr_opens f1_2 f1_3 f1_4 f52_2 a2 91) (fun g342 => (if g342.1 = 0 then (g342.2.1, g342.2.2.1, g342.2.2.2, f53_1, a58, a59) else (lt (r f1_2 g342.2.1 g342.2.2.1 g342.2.2.2 f53_1 a2 a58 a59) (fun g343 => (lt (kx_pass f1_2 g343.1 g343.2.1 a2 93) (fun g344 => (g344.1, g344.2, (g343.2.2.1 - 1), g343.2.2.2.1, g343.2.2.2.2.1, g343.2.2.2.2.2)))))))) else (lt (kc_within g325 48 57) (fun g326 => (if g326 = 0 then (if g325 = (-1) then (lt (kx_fail f1_3 f1_4 1) (fun g329 => (f1_3, g329.2, f52_2, f53_1, a58, a59))) else (if (sx_ixF (g325.toUInt32 % 65536).toInt32 sx_b 0).toInt < 0 then (lt (kx_fail f1_3 f1_4 1) (fun g328 => (f1_3, g328.2, f52_2, f53_1, a58, a59))) else (lt (kl_add_53 f53_1 a58 a59 103 (sx_ixF (g325.toUInt32 % 65536).toInt32 sx_b 0)) (fun g327 => ((f1_3 + 1), f1_4, f52_2, g327.2.1, g327.2.2.1, g327.2.2.2))))) else (lt (kr_readNumber f1_2 f1_3 f1_4 f53_1 a2 a58 a59) (fun g335 => (g335.1, g335.2.1, f52_2, g335.2.2.1, g335.2.2.2.1, g335.2.2.2.2))))))))) else (f1_3, f1_4, f52_2, f53_1, a58, a59))
theorem t_kr_readFactor {f D : Nat} {n : Nat} {r : Int32 → Int32 → Int32 → Int32 → Int32 → List Int32 → List Int32 → List Int32 → (Int32 × Int32 × Int32 × Int32 × List Int32 × List Int32)} (hr : ∀ (D : Nat) {F : Nat → Nat → Int32} {A : Nat → List Int32} {L : Nat → List Int64} {Q : Option Value → sm_H → Prop}, D ≤ n → (Q none (hz (uF (uF (uF (uF F 1 3 ((r (F 1 2) (F 1 3) (F 1 4) (F 52 2) (F 53 1) (A 2) (A 58) (A 59)).1)) 1 4 ((r (F 1 2) (F 1 3) (F 1 4) (F 52 2) (F 53 1) (A 2) (A 58) (A 59)).2.1)) 52 2 ((r (F 1 2) (F 1 3) (F 1 4) (F 52 2) (F 53 1) (A 2) (A 58) (A 59)).2.2.1)) 53 1 ((r (F 1 2) (F 1 3) (F 1 4) (F 52 2) (F 53 1) (A 2) (A 58) (A 59)).2.2.2.1)) (uA (uA A 58 ((r (F 1 2) (F 1 3) (F 1 4) (F 52 2) (F 53 1) (A 2) (A 58) (A 59)).2.2.2.2.1)) 59 ((r (F 1 2) (F 1 3) (F 1 4) (F 52 2) (F 53 1) (A 2) (A 58) (A 59)).2.2.2.2.2)) L)) → wl_M f D 27 [.ref 52] (hz F A L) Q) (hnf : n ≤ f) {F : Nat → Nat → Int32} {A : Nat → List Int32} {L : Nat → List Int64} {Q : Option Value → sm_H → Prop} (hn : D ≤ n) (K : Q none (hz (uF (uF (uF (uF F 1 3 ((kr_readFactor r (F 1 2) (F 1 3) (F 1 4) (F 52 2) (F 53 1) (A 2) (A 58) (A 59)).1)) 1 4 ((kr_readFactor r (F 1 2) (F 1 3) (F 1 4) (F 52 2) (F 53 1) (A 2) (A 58) (A 59)).2.1)) 52 2 ((kr_readFactor r (F 1 2) (F 1 3) (F 1 4) (F 52 2) (F 53 1) (A 2) (A 58) (A 59)).2.2.1)) 53 1 ((kr_readFactor r (F 1 2) (F 1 3) (F 1 4) (F 52 2) (F 53 1) (A 2) (A 58) (A 59)).2.2.2.1)) (uA (uA A 58 ((kr_readFactor r (F 1 2) (F 1 3) (F 1 4) (F 52 2) (F 53 1) (A 2) (A 58) (A 59)).2.2.2.2.1)) 59 ((kr_readFactor r (F 1 2) (F 1 3) (F 1 4) (F 52 2) (F 53 1) (A 2) (A 58) (A 59)).2.2.2.2.2)) L)) : wl_M f D 29 [.ref 52] (hz F A L) Q := by
  generalize hT : (kr_readFactor r (F 1 2) (F 1 3) (F 1 4) (F 52 2) (F 53 1) (A 2) (A 58) (A 59)) = T at K
  have hE : T = (if (F 1 4) = 0 then (lt (kx_sign (F 1 2) (F 1 3) (A 2)) (fun g325 => (if g325 = 91 then (lt (kr_opens (F 1 2) (F 1 3) (F 1 4) (F 52 2) (A 2) 91) (fun g342 => (if g342.1 = 0 then (g342.2.1, g342.2.2.1, g342.2.2.2, (F 53 1), (A 58), (A 59)) else (lt (r (F 1 2) g342.2.1 g342.2.2.1 g342.2.2.2 (F 53 1) (A 2) (A 58) (A 59)) (fun g343 => (lt (kx_pass (F 1 2) g343.1 g343.2.1 (A 2) 93) (fun g344 => (g344.1, g344.2, (g343.2.2.1 - 1), g343.2.2.2.1, g343.2.2.2.2.1, g343.2.2.2.2.2)))))))) else (lt (kc_within g325 48 57) (fun g326 => (if g326 = 0 then (if g325 = (-1) then (lt (kx_fail (F 1 3) (F 1 4) 1) (fun g329 => ((F 1 3), g329.2, (F 52 2), (F 53 1), (A 58), (A 59)))) else (if (sx_ixF (g325.toUInt32 % 65536).toInt32 sx_b 0).toInt < 0 then (lt (kx_fail (F 1 3) (F 1 4) 1) (fun g328 => ((F 1 3), g328.2, (F 52 2), (F 53 1), (A 58), (A 59)))) else (lt (kl_add_53 (F 53 1) (A 58) (A 59) 103 (sx_ixF (g325.toUInt32 % 65536).toInt32 sx_b 0)) (fun g327 => (((F 1 3) + 1), (F 1 4), (F 52 2), g327.2.1, g327.2.2.1, g327.2.2.2))))) else (lt (kr_readNumber (F 1 2) (F 1 3) (F 1 4) (F 53 1) (A 2) (A 58) (A 59)) (fun g335 => (g335.1, g335.2.1, (F 52 2), g335.2.2.1, g335.2.2.2.1, g335.2.2.2.2))))))))) else ((F 1 3), (F 1 4), (F 52 2), (F 53 1), (A 58), (A 59))) := hT.symm
  clear hT
  refine w_m (E := mm29) rfl ?_
  show wl_E f f (D - 1) mm29.2.2.2.2.2.2.2.2 0 [some (.ref 52), none, none] [] (hz F A L) Q
  refine w_n 3 (pc1 := 7) (ls1 := [some (.ref 52), none, none]) (st1 := [.int (F 1 4)]) (hp1 := (hz F A L)) rfl ?_
  refine w_zeq (p3 := 10) rfl rfl (fun h => ?_) (fun h => ?_)
  · have h1 : (F 1 4) = 0 := h
    rw [if_pos h1] at hE
    refine w_n 2 (pc1 := 15) (ls1 := [some (.ref 52), none, none]) (st1 := [.ref 1]) (hp1 := (hz F A L)) rfl ?_
    refine w_c rfl rfl (t_kx_sign ?_)
    show wl_E f _ _ mm29.2.2.2.2.2.2.2.2 18 [some (.ref 52), none, none] [.int (kx_sign (F 1 2) (F 1 3) (A 2))] (hz F A L) _
    generalize hG325 : (kx_sign (F 1 2) (F 1 3) (A 2)) = G325 at hE ⊢
    replace hE := hE.trans (lt_e _ _)
    refine w_n 3 (pc1 := 22) (ls1 := [some (.ref 52), some (.int G325), none]) (st1 := [.int 91, .int G325]) (hp1 := (hz F A L)) rfl ?_
    refine w_ne (p3 := 25) rfl rfl (fun h => ?_) (fun h => ?_)
    · have h2 : ¬ G325 = 91 := h
      rw [if_neg h2] at hE
      refine w_n 3 (pc1 := 66) (ls1 := [some (.ref 52), some (.int G325), none]) (st1 := [.int 57, .int 48, .int G325]) (hp1 := (hz F A L)) rfl ?_
      refine w_c rfl rfl (t_kc_within ?_)
      show wl_E f _ _ mm29.2.2.2.2.2.2.2.2 69 [some (.ref 52), some (.int G325), none] [.int (kc_within G325 48 57)] (hz F A L) _
      generalize hG326 : (kc_within G325 48 57) = G326 at hE ⊢
      replace hE := hE.trans (lt_e _ _)
      refine w_zeq (p3 := 72) rfl rfl (fun h => ?_) (fun h => ?_)
      · have h3 : G326 = 0 := h
        rw [if_pos h3] at hE
        refine w_n 2 (pc1 := 81) (ls1 := [some (.ref 52), some (.int G325), none]) (st1 := [.int (-1), .int G325]) (hp1 := (hz F A L)) rfl ?_
        refine w_ne (p3 := 84) rfl rfl (fun h => ?_) (fun h => ?_)
        · have h4 : ¬ G325 = (-1) := h
          rw [if_neg h4] at hE
          refine w_io (x := G325) rfl rfl rfl ?_
          refine w_n 2 (pc1 := 97) (ls1 := [some (.ref 52), some (.int G325), some (.int (sx_ixF (G325.toUInt32 % 65536).toInt32 sx_b 0))]) (st1 := [.int (sx_ixF (G325.toUInt32 % 65536).toInt32 sx_b 0)]) (hp1 := (hz F A L)) rfl ?_
          refine w_zge (p3 := 100) rfl rfl (fun h => ?_) (fun h => ?_)
          · have h5 : 0 ≤ (sx_ixF (G325.toUInt32 % 65536).toInt32 sx_b 0).toInt := h
            rw [if_neg (Int.not_lt.mpr h5)] at hE
            refine w_n 6 (pc1 := 120) (ls1 := [some (.ref 52), some (.int G325), some (.int (sx_ixF (G325.toUInt32 % 65536).toInt32 sx_b 0))]) (st1 := [.int ((F 1 3) + 1), .ref 1]) (hp1 := (hz F A L)) rfl ?_
            refine w_pf (k := 1) (fs := hz_f1 F) (hp1 := (hz (uF F 1 3 ((F 1 3) + 1)) A L)) rfl rfl rfl (hz_p1_3 _) ?_
            refine w_n 4 (pc1 := 130) (ls1 := [some (.ref 52), some (.int G325), some (.int (sx_ixF (G325.toUInt32 % 65536).toInt32 sx_b 0))]) (st1 := [.int (sx_ixF (G325.toUInt32 % 65536).toInt32 sx_b 0), .int 103, .ref 53]) (hp1 := (hz (uF F 1 3 ((F 1 3) + 1)) A L)) rfl ?_
            refine w_c rfl rfl (t_kl_add_53 ?_)
            show wl_E f _ _ mm29.2.2.2.2.2.2.2.2 133 [some (.ref 52), some (.int G325), some (.int (sx_ixF (G325.toUInt32 % 65536).toInt32 sx_b 0))] [.int (kl_add_53 (F 53 1) (A 58) (A 59) 103 (sx_ixF (G325.toUInt32 % 65536).toInt32 sx_b 0)).1] (hz (uF (uF F 1 3 ((F 1 3) + 1)) 53 1 (kl_add_53 (F 53 1) (A 58) (A 59) 103 (sx_ixF (G325.toUInt32 % 65536).toInt32 sx_b 0)).2.1) (uA (uA A 58 (kl_add_53 (F 53 1) (A 58) (A 59) 103 (sx_ixF (G325.toUInt32 % 65536).toInt32 sx_b 0)).2.2.1) 59 (kl_add_53 (F 53 1) (A 58) (A 59) 103 (sx_ixF (G325.toUInt32 % 65536).toInt32 sx_b 0)).2.2.2) L) _
            generalize hG327 : (kl_add_53 (F 53 1) (A 58) (A 59) 103 (sx_ixF (G325.toUInt32 % 65536).toInt32 sx_b 0)) = G327 at hE ⊢
            replace hE := hE.trans (lt_e _ _)
            refine w_n 1 (pc1 := 134) (ls1 := [some (.ref 52), some (.int G325), some (.int (sx_ixF (G325.toUInt32 % 65536).toInt32 sx_b 0))]) (st1 := []) (hp1 := (hz (uF (uF F 1 3 ((F 1 3) + 1)) 53 1 G327.2.1) (uA (uA A 58 G327.2.2.1) 59 G327.2.2.2) L)) rfl ?_
            subst T
            exact w_r rfl rfl (cvQ (funext fun q => funext fun z => if k0 : q = 1 ∧ z = 3 then by obtain ⟨w1, w2⟩ := k0; subst w1; subst w2; exact Eq.trans (b := ((F 1 3) + 1)) rfl rfl else if k1 : q = 1 ∧ z = 4 then by obtain ⟨w1, w2⟩ := k1; subst w1; subst w2; exact Eq.trans (b := (F 1 4)) rfl rfl else if k2 : q = 52 ∧ z = 2 then by obtain ⟨w1, w2⟩ := k2; subst w1; subst w2; exact Eq.trans (b := (F 52 2)) rfl rfl else if k3 : q = 53 ∧ z = 1 then by obtain ⟨w1, w2⟩ := k3; subst w1; subst w2; exact Eq.trans (b := G327.2.1) rfl rfl else by unfold uF; simp only [nb2 k0, nb2 k1, nb2 k2, nb2 k3, cond_false]) rfl rfl K)
          · have h5 : (sx_ixF (G325.toUInt32 % 65536).toInt32 sx_b 0).toInt < 0 := h
            rw [if_pos h5] at hE
            refine w_n 3 (pc1 := 105) (ls1 := [some (.ref 52), some (.int G325), some (.int (sx_ixF (G325.toUInt32 % 65536).toInt32 sx_b 0))]) (st1 := [.int 1, .ref 1]) (hp1 := (hz F A L)) rfl ?_
            refine w_c rfl rfl (t_kx_fail ?_)
            show wl_E f _ _ mm29.2.2.2.2.2.2.2.2 108 [some (.ref 52), some (.int G325), some (.int (sx_ixF (G325.toUInt32 % 65536).toInt32 sx_b 0))] [.int (kx_fail (F 1 3) (F 1 4) 1).1] (hz (uF F 1 4 (kx_fail (F 1 3) (F 1 4) 1).2) A L) _
            generalize hG328 : (kx_fail (F 1 3) (F 1 4) 1) = G328 at hE ⊢
            replace hE := hE.trans (lt_e _ _)
            refine w_n 1 (pc1 := 109) (ls1 := [some (.ref 52), some (.int G325), some (.int (sx_ixF (G325.toUInt32 % 65536).toInt32 sx_b 0))]) (st1 := []) (hp1 := (hz (uF F 1 4 G328.2) A L)) rfl ?_
            subst T
            exact w_r rfl rfl (cvQ (funext fun q => funext fun z => if k0 : q = 1 ∧ z = 3 then by obtain ⟨w1, w2⟩ := k0; subst w1; subst w2; exact Eq.trans (b := (F 1 3)) rfl rfl else if k1 : q = 1 ∧ z = 4 then by obtain ⟨w1, w2⟩ := k1; subst w1; subst w2; exact Eq.trans (b := G328.2) rfl rfl else if k2 : q = 52 ∧ z = 2 then by obtain ⟨w1, w2⟩ := k2; subst w1; subst w2; exact Eq.trans (b := (F 52 2)) rfl rfl else if k3 : q = 53 ∧ z = 1 then by obtain ⟨w1, w2⟩ := k3; subst w1; subst w2; exact Eq.trans (b := (F 53 1)) rfl rfl else by unfold uF; simp only [nb2 k0, nb2 k1, nb2 k2, nb2 k3, cond_false]) (funext fun q => if k0 : q = 58 then by subst k0; exact Eq.trans (b := (A 58)) rfl rfl else if k1 : q = 59 then by subst k1; exact Eq.trans (b := (A 59)) rfl rfl else by unfold uA; simp only [nb1 k0, nb1 k1, cond_false]) rfl K)
        · have h4 : G325 = (-1) := h
          rw [if_pos h4] at hE
          refine w_n 4 (pc1 := 97) (ls1 := [some (.ref 52), some (.int G325), some (.int (-1))]) (st1 := [.int (-1)]) (hp1 := (hz F A L)) rfl ?_
          refine w_zge (p3 := 100) rfl rfl (fun h => absurd h (by decide)) (fun _ => ?_)
          refine w_n 3 (pc1 := 105) (ls1 := [some (.ref 52), some (.int G325), some (.int (-1))]) (st1 := [.int 1, .ref 1]) (hp1 := (hz F A L)) rfl ?_
          refine w_c rfl rfl (t_kx_fail ?_)
          show wl_E f _ _ mm29.2.2.2.2.2.2.2.2 108 [some (.ref 52), some (.int G325), some (.int (-1))] [.int (kx_fail (F 1 3) (F 1 4) 1).1] (hz (uF F 1 4 (kx_fail (F 1 3) (F 1 4) 1).2) A L) _
          generalize hG329 : (kx_fail (F 1 3) (F 1 4) 1) = G329 at hE ⊢
          replace hE := hE.trans (lt_e _ _)
          refine w_n 1 (pc1 := 109) (ls1 := [some (.ref 52), some (.int G325), some (.int (-1))]) (st1 := []) (hp1 := (hz (uF F 1 4 G329.2) A L)) rfl ?_
          subst T
          exact w_r rfl rfl (cvQ (funext fun q => funext fun z => if k0 : q = 1 ∧ z = 3 then by obtain ⟨w1, w2⟩ := k0; subst w1; subst w2; exact Eq.trans (b := (F 1 3)) rfl rfl else if k1 : q = 1 ∧ z = 4 then by obtain ⟨w1, w2⟩ := k1; subst w1; subst w2; exact Eq.trans (b := G329.2) rfl rfl else if k2 : q = 52 ∧ z = 2 then by obtain ⟨w1, w2⟩ := k2; subst w1; subst w2; exact Eq.trans (b := (F 52 2)) rfl rfl else if k3 : q = 53 ∧ z = 1 then by obtain ⟨w1, w2⟩ := k3; subst w1; subst w2; exact Eq.trans (b := (F 53 1)) rfl rfl else by unfold uF; simp only [nb2 k0, nb2 k1, nb2 k2, nb2 k3, cond_false]) (funext fun q => if k0 : q = 58 then by subst k0; exact Eq.trans (b := (A 58)) rfl rfl else if k1 : q = 59 then by subst k1; exact Eq.trans (b := (A 59)) rfl rfl else by unfold uA; simp only [nb1 k0, nb1 k1, cond_false]) rfl K)
      · have h3 : ¬ G326 = 0 := h
        rw [if_neg h3] at hE
        refine w_n 1 (pc1 := 73) (ls1 := [some (.ref 52), some (.int G325), none]) (st1 := [.ref 52]) (hp1 := (hz F A L)) rfl ?_
        refine w_c rfl rfl (t_kr_readNumber ?_)
        show wl_E f _ _ mm29.2.2.2.2.2.2.2.2 76 [some (.ref 52), some (.int G325), none] [] (hz (uF (uF (uF F 1 3 (kr_readNumber (F 1 2) (F 1 3) (F 1 4) (F 53 1) (A 2) (A 58) (A 59)).1) 1 4 (kr_readNumber (F 1 2) (F 1 3) (F 1 4) (F 53 1) (A 2) (A 58) (A 59)).2.1) 53 1 (kr_readNumber (F 1 2) (F 1 3) (F 1 4) (F 53 1) (A 2) (A 58) (A 59)).2.2.1) (uA (uA A 58 (kr_readNumber (F 1 2) (F 1 3) (F 1 4) (F 53 1) (A 2) (A 58) (A 59)).2.2.2.1) 59 (kr_readNumber (F 1 2) (F 1 3) (F 1 4) (F 53 1) (A 2) (A 58) (A 59)).2.2.2.2) L) _
        generalize hG335 : (kr_readNumber (F 1 2) (F 1 3) (F 1 4) (F 53 1) (A 2) (A 58) (A 59)) = G335 at hE ⊢
        replace hE := hE.trans (lt_e _ _)
        refine w_n 1 (pc1 := 134) (ls1 := [some (.ref 52), some (.int G325), none]) (st1 := []) (hp1 := (hz (uF (uF (uF F 1 3 G335.1) 1 4 G335.2.1) 53 1 G335.2.2.1) (uA (uA A 58 G335.2.2.2.1) 59 G335.2.2.2.2) L)) rfl ?_
        subst T
        exact w_r rfl rfl (cvQ (funext fun q => funext fun z => if k0 : q = 1 ∧ z = 3 then by obtain ⟨w1, w2⟩ := k0; subst w1; subst w2; exact Eq.trans (b := G335.1) rfl rfl else if k1 : q = 1 ∧ z = 4 then by obtain ⟨w1, w2⟩ := k1; subst w1; subst w2; exact Eq.trans (b := G335.2.1) rfl rfl else if k2 : q = 52 ∧ z = 2 then by obtain ⟨w1, w2⟩ := k2; subst w1; subst w2; exact Eq.trans (b := (F 52 2)) rfl rfl else if k3 : q = 53 ∧ z = 1 then by obtain ⟨w1, w2⟩ := k3; subst w1; subst w2; exact Eq.trans (b := G335.2.2.1) rfl rfl else by unfold uF; simp only [nb2 k0, nb2 k1, nb2 k2, nb2 k3, cond_false]) rfl rfl K)
    · have h2 : G325 = 91 := h
      rw [if_pos h2] at hE
      refine w_n 2 (pc1 := 28) (ls1 := [some (.ref 52), some (.int G325), none]) (st1 := [.int 91, .ref 52]) (hp1 := (hz F A L)) rfl ?_
      refine w_c rfl rfl (t_kr_opens ?_)
      show wl_E f _ _ mm29.2.2.2.2.2.2.2.2 31 [some (.ref 52), some (.int G325), none] [.int (kr_opens (F 1 2) (F 1 3) (F 1 4) (F 52 2) (A 2) 91).1] (hz (uF (uF (uF F 1 3 (kr_opens (F 1 2) (F 1 3) (F 1 4) (F 52 2) (A 2) 91).2.1) 1 4 (kr_opens (F 1 2) (F 1 3) (F 1 4) (F 52 2) (A 2) 91).2.2.1) 52 2 (kr_opens (F 1 2) (F 1 3) (F 1 4) (F 52 2) (A 2) 91).2.2.2) A L) _
      generalize hG342 : (kr_opens (F 1 2) (F 1 3) (F 1 4) (F 52 2) (A 2) 91) = G342 at hE ⊢
      replace hE := hE.trans (lt_e _ _)
      refine w_zne (p3 := 34) rfl rfl (fun h => ?_) (fun h => ?_)
      · have h6 : ¬ G342.1 = 0 := h
        rw [if_neg h6] at hE
        refine w_n 1 (pc1 := 36) (ls1 := [some (.ref 52), some (.int G325), none]) (st1 := [.ref 52]) (hp1 := (hz (uF (uF (uF F 1 3 G342.2.1) 1 4 G342.2.2.1) 52 2 G342.2.2.2) A L)) rfl ?_
        refine w_c rfl rfl (hr _ (by omega) ?_)
        show wl_E f _ _ mm29.2.2.2.2.2.2.2.2 39 [some (.ref 52), some (.int G325), none] [] (hz (uF (uF (uF (uF (uF (uF (uF F 1 3 G342.2.1) 1 4 G342.2.2.1) 52 2 G342.2.2.2) 1 3 (r (F 1 2) G342.2.1 G342.2.2.1 G342.2.2.2 (F 53 1) (A 2) (A 58) (A 59)).1) 1 4 (r (F 1 2) G342.2.1 G342.2.2.1 G342.2.2.2 (F 53 1) (A 2) (A 58) (A 59)).2.1) 52 2 (r (F 1 2) G342.2.1 G342.2.2.1 G342.2.2.2 (F 53 1) (A 2) (A 58) (A 59)).2.2.1) 53 1 (r (F 1 2) G342.2.1 G342.2.2.1 G342.2.2.2 (F 53 1) (A 2) (A 58) (A 59)).2.2.2.1) (uA (uA A 58 (r (F 1 2) G342.2.1 G342.2.2.1 G342.2.2.2 (F 53 1) (A 2) (A 58) (A 59)).2.2.2.2.1) 59 (r (F 1 2) G342.2.1 G342.2.2.1 G342.2.2.2 (F 53 1) (A 2) (A 58) (A 59)).2.2.2.2.2) L) _
        generalize hG343 : (r (F 1 2) G342.2.1 G342.2.2.1 G342.2.2.2 (F 53 1) (A 2) (A 58) (A 59)) = G343 at hE ⊢
        replace hE := hE.trans (lt_e _ _)
        refine w_n 3 (pc1 := 45) (ls1 := [some (.ref 52), some (.int G325), none]) (st1 := [.int 93, .ref 1]) (hp1 := (hz (uF (uF (uF (uF (uF (uF (uF F 1 3 G342.2.1) 1 4 G342.2.2.1) 52 2 G342.2.2.2) 1 3 G343.1) 1 4 G343.2.1) 52 2 G343.2.2.1) 53 1 G343.2.2.2.1) (uA (uA A 58 G343.2.2.2.2.1) 59 G343.2.2.2.2.2) L)) rfl ?_
        refine w_c rfl rfl (t_kx_pass ?_)
        show wl_E f _ _ mm29.2.2.2.2.2.2.2.2 48 [some (.ref 52), some (.int G325), none] [] (hz (uF (uF (uF (uF (uF (uF (uF (uF (uF F 1 3 G342.2.1) 1 4 G342.2.2.1) 52 2 G342.2.2.2) 1 3 G343.1) 1 4 G343.2.1) 52 2 G343.2.2.1) 53 1 G343.2.2.2.1) 1 3 (kx_pass (F 1 2) G343.1 G343.2.1 (A 2) 93).1) 1 4 (kx_pass (F 1 2) G343.1 G343.2.1 (A 2) 93).2) (uA (uA A 58 G343.2.2.2.2.1) 59 G343.2.2.2.2.2) L) _
        generalize hG344 : (kx_pass (F 1 2) G343.1 G343.2.1 (A 2) 93) = G344 at hE ⊢
        replace hE := hE.trans (lt_e _ _)
        refine w_n 5 (pc1 := 55) (ls1 := [some (.ref 52), some (.int G325), none]) (st1 := [.int (G343.2.2.1 - 1), .ref 52]) (hp1 := (hz (uF (uF (uF (uF (uF (uF (uF (uF (uF F 1 3 G342.2.1) 1 4 G342.2.2.1) 52 2 G342.2.2.2) 1 3 G343.1) 1 4 G343.2.1) 52 2 G343.2.2.1) 53 1 G343.2.2.2.1) 1 3 G344.1) 1 4 G344.2) (uA (uA A 58 G343.2.2.2.2.1) 59 G343.2.2.2.2.2) L)) rfl ?_
        refine w_pf (k := 52) (fs := hz_f52 (uF (uF (uF (uF (uF (uF (uF (uF (uF F 1 3 G342.2.1) 1 4 G342.2.2.1) 52 2 G342.2.2.2) 1 3 G343.1) 1 4 G343.2.1) 52 2 G343.2.2.1) 53 1 G343.2.2.2.1) 1 3 G344.1) 1 4 G344.2)) (hp1 := (hz (uF (uF (uF (uF (uF (uF (uF (uF (uF (uF F 1 3 G342.2.1) 1 4 G342.2.2.1) 52 2 G342.2.2.2) 1 3 G343.1) 1 4 G343.2.1) 52 2 G343.2.2.1) 53 1 G343.2.2.2.1) 1 3 G344.1) 1 4 G344.2) 52 2 (G343.2.2.1 - 1)) (uA (uA A 58 G343.2.2.2.2.1) 59 G343.2.2.2.2.2) L)) rfl rfl rfl (hz_p52_2 _) ?_
        refine w_n 1 (pc1 := 134) (ls1 := [some (.ref 52), some (.int G325), none]) (st1 := []) (hp1 := (hz (uF (uF (uF (uF (uF (uF (uF (uF (uF (uF F 1 3 G342.2.1) 1 4 G342.2.2.1) 52 2 G342.2.2.2) 1 3 G343.1) 1 4 G343.2.1) 52 2 G343.2.2.1) 53 1 G343.2.2.2.1) 1 3 G344.1) 1 4 G344.2) 52 2 (G343.2.2.1 - 1)) (uA (uA A 58 G343.2.2.2.2.1) 59 G343.2.2.2.2.2) L)) rfl ?_
        subst T
        exact w_r rfl rfl (cvQ (funext fun q => funext fun z => if k0 : q = 1 ∧ z = 3 then by obtain ⟨w1, w2⟩ := k0; subst w1; subst w2; exact Eq.trans (b := G344.1) rfl rfl else if k1 : q = 1 ∧ z = 4 then by obtain ⟨w1, w2⟩ := k1; subst w1; subst w2; exact Eq.trans (b := G344.2) rfl rfl else if k2 : q = 52 ∧ z = 2 then by obtain ⟨w1, w2⟩ := k2; subst w1; subst w2; exact Eq.trans (b := (G343.2.2.1 - 1)) rfl rfl else if k3 : q = 53 ∧ z = 1 then by obtain ⟨w1, w2⟩ := k3; subst w1; subst w2; exact Eq.trans (b := G343.2.2.2.1) rfl rfl else by unfold uF; simp only [nb2 k0, nb2 k1, nb2 k2, nb2 k3, cond_false]) rfl rfl K)
      · have h6 : G342.1 = 0 := h
        rw [if_pos h6] at hE
        subst T
        exact w_r rfl rfl (cvQ (funext fun q => funext fun z => if k0 : q = 1 ∧ z = 3 then by obtain ⟨w1, w2⟩ := k0; subst w1; subst w2; exact Eq.trans (b := G342.2.1) rfl rfl else if k1 : q = 1 ∧ z = 4 then by obtain ⟨w1, w2⟩ := k1; subst w1; subst w2; exact Eq.trans (b := G342.2.2.1) rfl rfl else if k2 : q = 52 ∧ z = 2 then by obtain ⟨w1, w2⟩ := k2; subst w1; subst w2; exact Eq.trans (b := G342.2.2.2) rfl rfl else if k3 : q = 53 ∧ z = 1 then by obtain ⟨w1, w2⟩ := k3; subst w1; subst w2; exact Eq.trans (b := (F 53 1)) rfl rfl else by unfold uF; simp only [nb2 k0, nb2 k1, nb2 k2, nb2 k3, cond_false]) (funext fun q => if k0 : q = 58 then by subst k0; exact Eq.trans (b := (A 58)) rfl rfl else if k1 : q = 59 then by subst k1; exact Eq.trans (b := (A 59)) rfl rfl else by unfold uA; simp only [nb1 k0, nb1 k1, cond_false]) rfl K)
  · have h1 : ¬ (F 1 4) = 0 := h
    rw [if_neg h1] at hE
    subst T
    exact w_r rfl rfl (cvQ (funext fun q => funext fun z => if k0 : q = 1 ∧ z = 3 then by obtain ⟨w1, w2⟩ := k0; subst w1; subst w2; exact Eq.trans (b := (F 1 3)) rfl rfl else if k1 : q = 1 ∧ z = 4 then by obtain ⟨w1, w2⟩ := k1; subst w1; subst w2; exact Eq.trans (b := (F 1 4)) rfl rfl else if k2 : q = 52 ∧ z = 2 then by obtain ⟨w1, w2⟩ := k2; subst w1; subst w2; exact Eq.trans (b := (F 52 2)) rfl rfl else if k3 : q = 53 ∧ z = 1 then by obtain ⟨w1, w2⟩ := k3; subst w1; subst w2; exact Eq.trans (b := (F 53 1)) rfl rfl else by unfold uF; simp only [nb2 k0, nb2 k1, nb2 k2, nb2 k3, cond_false]) (funext fun q => if k0 : q = 58 then by subst k0; exact Eq.trans (b := (A 58)) rfl rfl else if k1 : q = 59 then by subst k1; exact Eq.trans (b := (A 59)) rfl rfl else by unfold uA; simp only [nb1 k0, nb1 k1, cond_false]) rfl K)
noncomputable def kr_readProduct_6 (r : Int32 → Int32 → Int32 → Int32 → Int32 → List Int32 → List Int32 → List Int32 → (Int32 × Int32 × Int32 × Int32 × List Int32 × List Int32)) (f1_2 : Int32) (a2 : List Int32)  : Nat → Int32 → Int32 → Int32 → Int32 → Int32 → List Int32 → List Int32 → Int32 × Int32 × Int32 × Int32 × List Int32 × List Int32
  | 0, _, f1_3, f1_4, f52_2, f53_1, a58, a59 => (f1_3, f1_4, f52_2, f53_1, a58, a59)
  | m + 1, y1, f1_3, f1_4, f52_2, f53_1, a58, a59 => (lt (kx_stands f1_2 f1_3 f1_4 a2 42 47) (fun g346 => (if g346 = 0 then (lt (kx_stands f1_2 f1_3 f1_4 a2 37 37) (fun g350 => (if g350 = 0 then (f1_3, f1_4, f52_2, f53_1, a58, a59) else (lt (kx_sign f1_2 f1_3 a2) (fun g351 => (lt (kr_readFactor r f1_2 (f1_3 + 1) f1_4 f52_2 f53_1 a2 a58 a59) (fun g352 => (lt (kl_add_53 g352.2.2.2.1 g352.2.2.2.2.1 g352.2.2.2.2.2 g351 0) (fun g353 => (kr_readProduct_6 r f1_2 a2 m (y1 + 1) g352.1 g352.2.1 g352.2.2.1 g353.2.1 g353.2.2.1 g353.2.2.2)))))))))) else (lt (kx_sign f1_2 f1_3 a2) (fun g347 => (lt (kr_readFactor r f1_2 (f1_3 + 1) f1_4 f52_2 f53_1 a2 a58 a59) (fun g348 => (lt (kl_add_53 g348.2.2.2.1 g348.2.2.2.2.1 g348.2.2.2.2.2 g347 0) (fun g349 => (kr_readProduct_6 r f1_2 a2 m (y1 + 1) g348.1 g348.2.1 g348.2.2.1 g349.2.1 g349.2.2.1 g349.2.2.2))))))))))
theorem t_kr_readProduct_6 {f : Nat} {n : Nat} {r : Int32 → Int32 → Int32 → Int32 → Int32 → List Int32 → List Int32 → List Int32 → (Int32 × Int32 × Int32 × Int32 × List Int32 × List Int32)} (hr : ∀ (D : Nat) {F : Nat → Nat → Int32} {A : Nat → List Int32} {L : Nat → List Int64} {Q : Option Value → sm_H → Prop}, D ≤ n → (Q none (hz (uF (uF (uF (uF F 1 3 ((r (F 1 2) (F 1 3) (F 1 4) (F 52 2) (F 53 1) (A 2) (A 58) (A 59)).1)) 1 4 ((r (F 1 2) (F 1 3) (F 1 4) (F 52 2) (F 53 1) (A 2) (A 58) (A 59)).2.1)) 52 2 ((r (F 1 2) (F 1 3) (F 1 4) (F 52 2) (F 53 1) (A 2) (A 58) (A 59)).2.2.1)) 53 1 ((r (F 1 2) (F 1 3) (F 1 4) (F 52 2) (F 53 1) (A 2) (A 58) (A 59)).2.2.2.1)) (uA (uA A 58 ((r (F 1 2) (F 1 3) (F 1 4) (F 52 2) (F 53 1) (A 2) (A 58) (A 59)).2.2.2.2.1)) 59 ((r (F 1 2) (F 1 3) (F 1 4) (F 52 2) (F 53 1) (A 2) (A 58) (A 59)).2.2.2.2.2)) L)) → wl_M f D 27 [.ref 52] (hz F A L) Q) (hnf : n ≤ f) {Q : Option Value → sm_H → Prop} : ∀ (m : Nat) {B D : Nat} {F : Nat → Nat → Int32} {A : Nat → List Int32} {L : Nat → List Int64} {y1 : Int32} {o2 : Option Value}, m = (240 - y1.toInt).toNat → (_ : D ≤ n) → (∀ q1 : Int32, ∀ q2 : Option Value, wl_E f B D mm28.2.2.2.2.2.2.2.2 82 [some (.ref 52), some (.int q1), q2] [] (hz (uF (uF (uF (uF F 1 3 ((kr_readProduct_6 r (F 1 2) (A 2) m y1 (F 1 3) (F 1 4) (F 52 2) (F 53 1) (A 58) (A 59)).1)) 1 4 ((kr_readProduct_6 r (F 1 2) (A 2) m y1 (F 1 3) (F 1 4) (F 52 2) (F 53 1) (A 58) (A 59)).2.1)) 52 2 ((kr_readProduct_6 r (F 1 2) (A 2) m y1 (F 1 3) (F 1 4) (F 52 2) (F 53 1) (A 58) (A 59)).2.2.1)) 53 1 ((kr_readProduct_6 r (F 1 2) (A 2) m y1 (F 1 3) (F 1 4) (F 52 2) (F 53 1) (A 58) (A 59)).2.2.2.1)) (uA (uA A 58 ((kr_readProduct_6 r (F 1 2) (A 2) m y1 (F 1 3) (F 1 4) (F 52 2) (F 53 1) (A 58) (A 59)).2.2.2.2.1)) 59 ((kr_readProduct_6 r (F 1 2) (A 2) m y1 (F 1 3) (F 1 4) (F 52 2) (F 53 1) (A 58) (A 59)).2.2.2.2.2)) L) Q) → wl_E f B D mm28.2.2.2.2.2.2.2.2 6 [some (.ref 52), some (.int y1), o2] [] (hz F A L) Q := by
  intro m
  induction m with
  | zero =>
    intro B D F A L y1 o2 hm hn K
    generalize hT : (kr_readProduct_6 r (F 1 2) (A 2) 0 y1 (F 1 3) (F 1 4) (F 52 2) (F 53 1) (A 58) (A 59)) = T at K
    have hE : T = ((F 1 3), (F 1 4), (F 52 2), (F 53 1), (A 58), (A 59)) := hT.symm
    clear hT
    refine w_n 2 (pc1 := 10) (ls1 := [some (.ref 52), some (.int y1), o2]) (st1 := [.int 240, .int y1]) (hp1 := (hz F A L)) rfl ?_
    refine w_ge (p3 := 13) rfl rfl (fun hb => ?_) (fun h => False.elim (by have h : y1.toInt < 240 := h; omega))
    subst T
    exact cvE (funext fun q => funext fun z => if k0 : q = 1 ∧ z = 3 then by obtain ⟨w1, w2⟩ := k0; subst w1; subst w2; exact Eq.trans (b := (F 1 3)) rfl rfl else if k1 : q = 1 ∧ z = 4 then by obtain ⟨w1, w2⟩ := k1; subst w1; subst w2; exact Eq.trans (b := (F 1 4)) rfl rfl else if k2 : q = 52 ∧ z = 2 then by obtain ⟨w1, w2⟩ := k2; subst w1; subst w2; exact Eq.trans (b := (F 52 2)) rfl rfl else if k3 : q = 53 ∧ z = 1 then by obtain ⟨w1, w2⟩ := k3; subst w1; subst w2; exact Eq.trans (b := (F 53 1)) rfl rfl else by unfold uF; simp only [nb2 k0, nb2 k1, nb2 k2, nb2 k3, cond_false]) (funext fun q => if k0 : q = 58 then by subst k0; exact Eq.trans (b := (A 58)) rfl rfl else if k1 : q = 59 then by subst k1; exact Eq.trans (b := (A 59)) rfl rfl else by unfold uA; simp only [nb1 k0, nb1 k1, cond_false]) rfl (K _ _)
  | succ m ih =>
    intro B D F A L y1 o2 hm hn K
    generalize hT : (kr_readProduct_6 r (F 1 2) (A 2) (m + 1) y1 (F 1 3) (F 1 4) (F 52 2) (F 53 1) (A 58) (A 59)) = T at K
    have hE : T = (lt (kx_stands (F 1 2) (F 1 3) (F 1 4) (A 2) 42 47) (fun g346 => (if g346 = 0 then (lt (kx_stands (F 1 2) (F 1 3) (F 1 4) (A 2) 37 37) (fun g350 => (if g350 = 0 then ((F 1 3), (F 1 4), (F 52 2), (F 53 1), (A 58), (A 59)) else (lt (kx_sign (F 1 2) (F 1 3) (A 2)) (fun g351 => (lt (kr_readFactor r (F 1 2) ((F 1 3) + 1) (F 1 4) (F 52 2) (F 53 1) (A 2) (A 58) (A 59)) (fun g352 => (lt (kl_add_53 g352.2.2.2.1 g352.2.2.2.2.1 g352.2.2.2.2.2 g351 0) (fun g353 => (kr_readProduct_6 r (F 1 2) (A 2) m (y1 + 1) g352.1 g352.2.1 g352.2.2.1 g353.2.1 g353.2.2.1 g353.2.2.2)))))))))) else (lt (kx_sign (F 1 2) (F 1 3) (A 2)) (fun g347 => (lt (kr_readFactor r (F 1 2) ((F 1 3) + 1) (F 1 4) (F 52 2) (F 53 1) (A 2) (A 58) (A 59)) (fun g348 => (lt (kl_add_53 g348.2.2.2.1 g348.2.2.2.2.1 g348.2.2.2.2.2 g347 0) (fun g349 => (kr_readProduct_6 r (F 1 2) (A 2) m (y1 + 1) g348.1 g348.2.1 g348.2.2.1 g349.2.1 g349.2.2.1 g349.2.2.2)))))))))) := hT.symm
    clear hT
    refine w_n 2 (pc1 := 10) (ls1 := [some (.ref 52), some (.int y1), o2]) (st1 := [.int 240, .int y1]) (hp1 := (hz F A L)) rfl ?_
    refine w_ge (p3 := 13) rfl rfl (fun h => False.elim (by have h : 240 ≤ y1.toInt := h; omega)) (fun hb => ?_)
    refine w_n 4 (pc1 := 21) (ls1 := [some (.ref 52), some (.int y1), o2]) (st1 := [.int 47, .int 42, .ref 1]) (hp1 := (hz F A L)) rfl ?_
    refine w_c rfl rfl (t_kx_stands ?_)
    show wl_E f _ _ mm28.2.2.2.2.2.2.2.2 24 [some (.ref 52), some (.int y1), o2] [.int (kx_stands (F 1 2) (F 1 3) (F 1 4) (A 2) 42 47)] (hz F A L) _
    generalize hG346 : (kx_stands (F 1 2) (F 1 3) (F 1 4) (A 2) 42 47) = G346 at hE ⊢
    replace hE := hE.trans (lt_e _ _)
    refine w_zne (p3 := 27) rfl rfl (fun h => ?_) (fun h => ?_)
    · have h1 : ¬ G346 = 0 := h
      rw [if_neg h1] at hE
      refine w_n 2 (pc1 := 45) (ls1 := [some (.ref 52), some (.int y1), o2]) (st1 := [.ref 1]) (hp1 := (hz F A L)) rfl ?_
      refine w_c rfl rfl (t_kx_sign ?_)
      show wl_E f _ _ mm28.2.2.2.2.2.2.2.2 48 [some (.ref 52), some (.int y1), o2] [.int (kx_sign (F 1 2) (F 1 3) (A 2))] (hz F A L) _
      generalize hG347 : (kx_sign (F 1 2) (F 1 3) (A 2)) = G347 at hE ⊢
      replace hE := hE.trans (lt_e _ _)
      refine w_n 7 (pc1 := 59) (ls1 := [some (.ref 52), some (.int y1), some (.int G347)]) (st1 := [.int ((F 1 3) + 1), .ref 1]) (hp1 := (hz F A L)) rfl ?_
      refine w_pf (k := 1) (fs := hz_f1 F) (hp1 := (hz (uF F 1 3 ((F 1 3) + 1)) A L)) rfl rfl rfl (hz_p1_3 _) ?_
      refine w_n 1 (pc1 := 63) (ls1 := [some (.ref 52), some (.int y1), some (.int G347)]) (st1 := [.ref 52]) (hp1 := (hz (uF F 1 3 ((F 1 3) + 1)) A L)) rfl ?_
      refine w_c rfl rfl (t_kr_readFactor hr (by omega) (by omega) ?_)
      show wl_E f _ _ mm28.2.2.2.2.2.2.2.2 66 [some (.ref 52), some (.int y1), some (.int G347)] [] (hz (uF (uF (uF (uF (uF F 1 3 ((F 1 3) + 1)) 1 3 (kr_readFactor r (F 1 2) ((F 1 3) + 1) (F 1 4) (F 52 2) (F 53 1) (A 2) (A 58) (A 59)).1) 1 4 (kr_readFactor r (F 1 2) ((F 1 3) + 1) (F 1 4) (F 52 2) (F 53 1) (A 2) (A 58) (A 59)).2.1) 52 2 (kr_readFactor r (F 1 2) ((F 1 3) + 1) (F 1 4) (F 52 2) (F 53 1) (A 2) (A 58) (A 59)).2.2.1) 53 1 (kr_readFactor r (F 1 2) ((F 1 3) + 1) (F 1 4) (F 52 2) (F 53 1) (A 2) (A 58) (A 59)).2.2.2.1) (uA (uA A 58 (kr_readFactor r (F 1 2) ((F 1 3) + 1) (F 1 4) (F 52 2) (F 53 1) (A 2) (A 58) (A 59)).2.2.2.2.1) 59 (kr_readFactor r (F 1 2) ((F 1 3) + 1) (F 1 4) (F 52 2) (F 53 1) (A 2) (A 58) (A 59)).2.2.2.2.2) L) _
      generalize hG348 : (kr_readFactor r (F 1 2) ((F 1 3) + 1) (F 1 4) (F 52 2) (F 53 1) (A 2) (A 58) (A 59)) = G348 at hE ⊢
      replace hE := hE.trans (lt_e _ _)
      refine w_n 4 (pc1 := 72) (ls1 := [some (.ref 52), some (.int y1), some (.int G347)]) (st1 := [.int 0, .int G347, .ref 53]) (hp1 := (hz (uF (uF (uF (uF (uF F 1 3 ((F 1 3) + 1)) 1 3 G348.1) 1 4 G348.2.1) 52 2 G348.2.2.1) 53 1 G348.2.2.2.1) (uA (uA A 58 G348.2.2.2.2.1) 59 G348.2.2.2.2.2) L)) rfl ?_
      refine w_c rfl rfl (t_kl_add_53 ?_)
      show wl_E f _ _ mm28.2.2.2.2.2.2.2.2 75 [some (.ref 52), some (.int y1), some (.int G347)] [.int (kl_add_53 G348.2.2.2.1 G348.2.2.2.2.1 G348.2.2.2.2.2 G347 0).1] (hz (uF (uF (uF (uF (uF (uF F 1 3 ((F 1 3) + 1)) 1 3 G348.1) 1 4 G348.2.1) 52 2 G348.2.2.1) 53 1 G348.2.2.2.1) 53 1 (kl_add_53 G348.2.2.2.1 G348.2.2.2.2.1 G348.2.2.2.2.2 G347 0).2.1) (uA (uA (uA (uA A 58 G348.2.2.2.2.1) 59 G348.2.2.2.2.2) 58 (kl_add_53 G348.2.2.2.1 G348.2.2.2.2.1 G348.2.2.2.2.2 G347 0).2.2.1) 59 (kl_add_53 G348.2.2.2.1 G348.2.2.2.2.1 G348.2.2.2.2.2 G347 0).2.2.2) L) _
      generalize hG349 : (kl_add_53 G348.2.2.2.1 G348.2.2.2.2.1 G348.2.2.2.2.2 G347 0) = G349 at hE ⊢
      replace hE := hE.trans (lt_e _ _)
      refine w_n 3 (pc1 := 6) (ls1 := [some (.ref 52), some (.int (y1 + 1)), some (.int G347)]) (st1 := []) (hp1 := (hz (uF (uF (uF (uF (uF (uF F 1 3 ((F 1 3) + 1)) 1 3 G348.1) 1 4 G348.2.1) 52 2 G348.2.2.1) 53 1 G348.2.2.2.1) 53 1 G349.2.1) (uA (uA (uA (uA A 58 G348.2.2.2.2.1) 59 G348.2.2.2.2.2) 58 G349.2.2.1) 59 G349.2.2.2) L)) rfl ?_
      subst T
      have hb2 := i_up (B := (240 : Int32)) hb
      have hb3 : y1.toInt < 240 := hb
      exact ih (show m = (240 - (y1 + 1).toInt).toNat by rw [hb2]; omega) hn (fun q1 q2 => cvE (funext fun q => funext fun z => if k0 : q = 1 ∧ z = 3 then by obtain ⟨w1, w2⟩ := k0; subst w1; subst w2; exact Eq.trans (b := (kr_readProduct_6 r (F 1 2) (A 2) m (y1 + 1) G348.1 G348.2.1 G348.2.2.1 G349.2.1 G349.2.2.1 G349.2.2.2).1) rfl rfl else if k1 : q = 1 ∧ z = 4 then by obtain ⟨w1, w2⟩ := k1; subst w1; subst w2; exact Eq.trans (b := (kr_readProduct_6 r (F 1 2) (A 2) m (y1 + 1) G348.1 G348.2.1 G348.2.2.1 G349.2.1 G349.2.2.1 G349.2.2.2).2.1) rfl rfl else if k2 : q = 52 ∧ z = 2 then by obtain ⟨w1, w2⟩ := k2; subst w1; subst w2; exact Eq.trans (b := (kr_readProduct_6 r (F 1 2) (A 2) m (y1 + 1) G348.1 G348.2.1 G348.2.2.1 G349.2.1 G349.2.2.1 G349.2.2.2).2.2.1) rfl rfl else if k3 : q = 53 ∧ z = 1 then by obtain ⟨w1, w2⟩ := k3; subst w1; subst w2; exact Eq.trans (b := (kr_readProduct_6 r (F 1 2) (A 2) m (y1 + 1) G348.1 G348.2.1 G348.2.2.1 G349.2.1 G349.2.2.1 G349.2.2.2).2.2.2.1) rfl rfl else by unfold uF; simp only [nb2 k0, nb2 k1, nb2 k2, nb2 k3, cond_false]) (funext fun q => if k0 : q = 58 then by subst k0; exact Eq.trans (b := (kr_readProduct_6 r (F 1 2) (A 2) m (y1 + 1) G348.1 G348.2.1 G348.2.2.1 G349.2.1 G349.2.2.1 G349.2.2.2).2.2.2.2.1) rfl rfl else if k1 : q = 59 then by subst k1; exact Eq.trans (b := (kr_readProduct_6 r (F 1 2) (A 2) m (y1 + 1) G348.1 G348.2.1 G348.2.2.1 G349.2.1 G349.2.2.1 G349.2.2.2).2.2.2.2.2) rfl rfl else by unfold uA; simp only [nb1 k0, nb1 k1, cond_false]) rfl (K q1 q2))
    · have h1 : G346 = 0 := h
      rw [if_pos h1] at hE
      refine w_n 4 (pc1 := 35) (ls1 := [some (.ref 52), some (.int y1), o2]) (st1 := [.int 37, .int 37, .ref 1]) (hp1 := (hz F A L)) rfl ?_
      refine w_c rfl rfl (t_kx_stands ?_)
      show wl_E f _ _ mm28.2.2.2.2.2.2.2.2 38 [some (.ref 52), some (.int y1), o2] [.int (kx_stands (F 1 2) (F 1 3) (F 1 4) (A 2) 37 37)] (hz F A L) _
      generalize hG350 : (kx_stands (F 1 2) (F 1 3) (F 1 4) (A 2) 37 37) = G350 at hE ⊢
      replace hE := hE.trans (lt_e _ _)
      refine w_zeq (p3 := 41) rfl rfl (fun h => ?_) (fun h => ?_)
      · have h2 : G350 = 0 := h
        rw [if_pos h2] at hE
        subst T
        exact cvE (funext fun q => funext fun z => if k0 : q = 1 ∧ z = 3 then by obtain ⟨w1, w2⟩ := k0; subst w1; subst w2; exact Eq.trans (b := (F 1 3)) rfl rfl else if k1 : q = 1 ∧ z = 4 then by obtain ⟨w1, w2⟩ := k1; subst w1; subst w2; exact Eq.trans (b := (F 1 4)) rfl rfl else if k2 : q = 52 ∧ z = 2 then by obtain ⟨w1, w2⟩ := k2; subst w1; subst w2; exact Eq.trans (b := (F 52 2)) rfl rfl else if k3 : q = 53 ∧ z = 1 then by obtain ⟨w1, w2⟩ := k3; subst w1; subst w2; exact Eq.trans (b := (F 53 1)) rfl rfl else by unfold uF; simp only [nb2 k0, nb2 k1, nb2 k2, nb2 k3, cond_false]) (funext fun q => if k0 : q = 58 then by subst k0; exact Eq.trans (b := (A 58)) rfl rfl else if k1 : q = 59 then by subst k1; exact Eq.trans (b := (A 59)) rfl rfl else by unfold uA; simp only [nb1 k0, nb1 k1, cond_false]) rfl (K _ _)
      · have h2 : ¬ G350 = 0 := h
        rw [if_neg h2] at hE
        refine w_n 2 (pc1 := 45) (ls1 := [some (.ref 52), some (.int y1), o2]) (st1 := [.ref 1]) (hp1 := (hz F A L)) rfl ?_
        refine w_c rfl rfl (t_kx_sign ?_)
        show wl_E f _ _ mm28.2.2.2.2.2.2.2.2 48 [some (.ref 52), some (.int y1), o2] [.int (kx_sign (F 1 2) (F 1 3) (A 2))] (hz F A L) _
        generalize hG351 : (kx_sign (F 1 2) (F 1 3) (A 2)) = G351 at hE ⊢
        replace hE := hE.trans (lt_e _ _)
        refine w_n 7 (pc1 := 59) (ls1 := [some (.ref 52), some (.int y1), some (.int G351)]) (st1 := [.int ((F 1 3) + 1), .ref 1]) (hp1 := (hz F A L)) rfl ?_
        refine w_pf (k := 1) (fs := hz_f1 F) (hp1 := (hz (uF F 1 3 ((F 1 3) + 1)) A L)) rfl rfl rfl (hz_p1_3 _) ?_
        refine w_n 1 (pc1 := 63) (ls1 := [some (.ref 52), some (.int y1), some (.int G351)]) (st1 := [.ref 52]) (hp1 := (hz (uF F 1 3 ((F 1 3) + 1)) A L)) rfl ?_
        refine w_c rfl rfl (t_kr_readFactor hr (by omega) (by omega) ?_)
        show wl_E f _ _ mm28.2.2.2.2.2.2.2.2 66 [some (.ref 52), some (.int y1), some (.int G351)] [] (hz (uF (uF (uF (uF (uF F 1 3 ((F 1 3) + 1)) 1 3 (kr_readFactor r (F 1 2) ((F 1 3) + 1) (F 1 4) (F 52 2) (F 53 1) (A 2) (A 58) (A 59)).1) 1 4 (kr_readFactor r (F 1 2) ((F 1 3) + 1) (F 1 4) (F 52 2) (F 53 1) (A 2) (A 58) (A 59)).2.1) 52 2 (kr_readFactor r (F 1 2) ((F 1 3) + 1) (F 1 4) (F 52 2) (F 53 1) (A 2) (A 58) (A 59)).2.2.1) 53 1 (kr_readFactor r (F 1 2) ((F 1 3) + 1) (F 1 4) (F 52 2) (F 53 1) (A 2) (A 58) (A 59)).2.2.2.1) (uA (uA A 58 (kr_readFactor r (F 1 2) ((F 1 3) + 1) (F 1 4) (F 52 2) (F 53 1) (A 2) (A 58) (A 59)).2.2.2.2.1) 59 (kr_readFactor r (F 1 2) ((F 1 3) + 1) (F 1 4) (F 52 2) (F 53 1) (A 2) (A 58) (A 59)).2.2.2.2.2) L) _
        generalize hG352 : (kr_readFactor r (F 1 2) ((F 1 3) + 1) (F 1 4) (F 52 2) (F 53 1) (A 2) (A 58) (A 59)) = G352 at hE ⊢
        replace hE := hE.trans (lt_e _ _)
        refine w_n 4 (pc1 := 72) (ls1 := [some (.ref 52), some (.int y1), some (.int G351)]) (st1 := [.int 0, .int G351, .ref 53]) (hp1 := (hz (uF (uF (uF (uF (uF F 1 3 ((F 1 3) + 1)) 1 3 G352.1) 1 4 G352.2.1) 52 2 G352.2.2.1) 53 1 G352.2.2.2.1) (uA (uA A 58 G352.2.2.2.2.1) 59 G352.2.2.2.2.2) L)) rfl ?_
        refine w_c rfl rfl (t_kl_add_53 ?_)
        show wl_E f _ _ mm28.2.2.2.2.2.2.2.2 75 [some (.ref 52), some (.int y1), some (.int G351)] [.int (kl_add_53 G352.2.2.2.1 G352.2.2.2.2.1 G352.2.2.2.2.2 G351 0).1] (hz (uF (uF (uF (uF (uF (uF F 1 3 ((F 1 3) + 1)) 1 3 G352.1) 1 4 G352.2.1) 52 2 G352.2.2.1) 53 1 G352.2.2.2.1) 53 1 (kl_add_53 G352.2.2.2.1 G352.2.2.2.2.1 G352.2.2.2.2.2 G351 0).2.1) (uA (uA (uA (uA A 58 G352.2.2.2.2.1) 59 G352.2.2.2.2.2) 58 (kl_add_53 G352.2.2.2.1 G352.2.2.2.2.1 G352.2.2.2.2.2 G351 0).2.2.1) 59 (kl_add_53 G352.2.2.2.1 G352.2.2.2.2.1 G352.2.2.2.2.2 G351 0).2.2.2) L) _
        generalize hG353 : (kl_add_53 G352.2.2.2.1 G352.2.2.2.2.1 G352.2.2.2.2.2 G351 0) = G353 at hE ⊢
        replace hE := hE.trans (lt_e _ _)
        refine w_n 3 (pc1 := 6) (ls1 := [some (.ref 52), some (.int (y1 + 1)), some (.int G351)]) (st1 := []) (hp1 := (hz (uF (uF (uF (uF (uF (uF F 1 3 ((F 1 3) + 1)) 1 3 G352.1) 1 4 G352.2.1) 52 2 G352.2.2.1) 53 1 G352.2.2.2.1) 53 1 G353.2.1) (uA (uA (uA (uA A 58 G352.2.2.2.2.1) 59 G352.2.2.2.2.2) 58 G353.2.2.1) 59 G353.2.2.2) L)) rfl ?_
        subst T
        have hb2 := i_up (B := (240 : Int32)) hb
        have hb3 : y1.toInt < 240 := hb
        exact ih (show m = (240 - (y1 + 1).toInt).toNat by rw [hb2]; omega) hn (fun q1 q2 => cvE (funext fun q => funext fun z => if k0 : q = 1 ∧ z = 3 then by obtain ⟨w1, w2⟩ := k0; subst w1; subst w2; exact Eq.trans (b := (kr_readProduct_6 r (F 1 2) (A 2) m (y1 + 1) G352.1 G352.2.1 G352.2.2.1 G353.2.1 G353.2.2.1 G353.2.2.2).1) rfl rfl else if k1 : q = 1 ∧ z = 4 then by obtain ⟨w1, w2⟩ := k1; subst w1; subst w2; exact Eq.trans (b := (kr_readProduct_6 r (F 1 2) (A 2) m (y1 + 1) G352.1 G352.2.1 G352.2.2.1 G353.2.1 G353.2.2.1 G353.2.2.2).2.1) rfl rfl else if k2 : q = 52 ∧ z = 2 then by obtain ⟨w1, w2⟩ := k2; subst w1; subst w2; exact Eq.trans (b := (kr_readProduct_6 r (F 1 2) (A 2) m (y1 + 1) G352.1 G352.2.1 G352.2.2.1 G353.2.1 G353.2.2.1 G353.2.2.2).2.2.1) rfl rfl else if k3 : q = 53 ∧ z = 1 then by obtain ⟨w1, w2⟩ := k3; subst w1; subst w2; exact Eq.trans (b := (kr_readProduct_6 r (F 1 2) (A 2) m (y1 + 1) G352.1 G352.2.1 G352.2.2.1 G353.2.1 G353.2.2.1 G353.2.2.2).2.2.2.1) rfl rfl else by unfold uF; simp only [nb2 k0, nb2 k1, nb2 k2, nb2 k3, cond_false]) (funext fun q => if k0 : q = 58 then by subst k0; exact Eq.trans (b := (kr_readProduct_6 r (F 1 2) (A 2) m (y1 + 1) G352.1 G352.2.1 G352.2.2.1 G353.2.1 G353.2.2.1 G353.2.2.2).2.2.2.2.1) rfl rfl else if k1 : q = 59 then by subst k1; exact Eq.trans (b := (kr_readProduct_6 r (F 1 2) (A 2) m (y1 + 1) G352.1 G352.2.1 G352.2.2.1 G353.2.1 G353.2.2.1 G353.2.2.2).2.2.2.2.2) rfl rfl else by unfold uA; simp only [nb1 k0, nb1 k1, cond_false]) rfl (K q1 q2))
noncomputable def kr_readProduct (r : Int32 → Int32 → Int32 → Int32 → Int32 → List Int32 → List Int32 → List Int32 → (Int32 × Int32 × Int32 × Int32 × List Int32 × List Int32)) (f1_2 : Int32) (f1_3 : Int32) (f1_4 : Int32) (f52_2 : Int32) (f53_1 : Int32) (a2 : List Int32) (a58 : List Int32) (a59 : List Int32) : Int32 × Int32 × Int32 × Int32 × List Int32 × List Int32 := (lt (kr_readFactor r f1_2 f1_3 f1_4 f52_2 f53_1 a2 a58 a59) (fun g345 => (lt (kr_readProduct_6 r f1_2 a2 240 0 g345.1 g345.2.1 g345.2.2.1 g345.2.2.2.1 g345.2.2.2.2.1 g345.2.2.2.2.2) (fun g354 => (g354.1, g354.2.1, g354.2.2.1, g354.2.2.2.1, g354.2.2.2.2.1, g354.2.2.2.2.2)))))
theorem t_kr_readProduct {f D : Nat} {n : Nat} {r : Int32 → Int32 → Int32 → Int32 → Int32 → List Int32 → List Int32 → List Int32 → (Int32 × Int32 × Int32 × Int32 × List Int32 × List Int32)} (hr : ∀ (D : Nat) {F : Nat → Nat → Int32} {A : Nat → List Int32} {L : Nat → List Int64} {Q : Option Value → sm_H → Prop}, D ≤ n → (Q none (hz (uF (uF (uF (uF F 1 3 ((r (F 1 2) (F 1 3) (F 1 4) (F 52 2) (F 53 1) (A 2) (A 58) (A 59)).1)) 1 4 ((r (F 1 2) (F 1 3) (F 1 4) (F 52 2) (F 53 1) (A 2) (A 58) (A 59)).2.1)) 52 2 ((r (F 1 2) (F 1 3) (F 1 4) (F 52 2) (F 53 1) (A 2) (A 58) (A 59)).2.2.1)) 53 1 ((r (F 1 2) (F 1 3) (F 1 4) (F 52 2) (F 53 1) (A 2) (A 58) (A 59)).2.2.2.1)) (uA (uA A 58 ((r (F 1 2) (F 1 3) (F 1 4) (F 52 2) (F 53 1) (A 2) (A 58) (A 59)).2.2.2.2.1)) 59 ((r (F 1 2) (F 1 3) (F 1 4) (F 52 2) (F 53 1) (A 2) (A 58) (A 59)).2.2.2.2.2)) L)) → wl_M f D 27 [.ref 52] (hz F A L) Q) (hnf : n ≤ f) {F : Nat → Nat → Int32} {A : Nat → List Int32} {L : Nat → List Int64} {Q : Option Value → sm_H → Prop} (hn : D ≤ n) (K : Q none (hz (uF (uF (uF (uF F 1 3 ((kr_readProduct r (F 1 2) (F 1 3) (F 1 4) (F 52 2) (F 53 1) (A 2) (A 58) (A 59)).1)) 1 4 ((kr_readProduct r (F 1 2) (F 1 3) (F 1 4) (F 52 2) (F 53 1) (A 2) (A 58) (A 59)).2.1)) 52 2 ((kr_readProduct r (F 1 2) (F 1 3) (F 1 4) (F 52 2) (F 53 1) (A 2) (A 58) (A 59)).2.2.1)) 53 1 ((kr_readProduct r (F 1 2) (F 1 3) (F 1 4) (F 52 2) (F 53 1) (A 2) (A 58) (A 59)).2.2.2.1)) (uA (uA A 58 ((kr_readProduct r (F 1 2) (F 1 3) (F 1 4) (F 52 2) (F 53 1) (A 2) (A 58) (A 59)).2.2.2.2.1)) 59 ((kr_readProduct r (F 1 2) (F 1 3) (F 1 4) (F 52 2) (F 53 1) (A 2) (A 58) (A 59)).2.2.2.2.2)) L)) : wl_M f D 28 [.ref 52] (hz F A L) Q := by
  generalize hT : (kr_readProduct r (F 1 2) (F 1 3) (F 1 4) (F 52 2) (F 53 1) (A 2) (A 58) (A 59)) = T at K
  have hE : T = (lt (kr_readFactor r (F 1 2) (F 1 3) (F 1 4) (F 52 2) (F 53 1) (A 2) (A 58) (A 59)) (fun g345 => (lt (kr_readProduct_6 r (F 1 2) (A 2) 240 0 g345.1 g345.2.1 g345.2.2.1 g345.2.2.2.1 g345.2.2.2.2.1 g345.2.2.2.2.2) (fun g354 => (g354.1, g354.2.1, g354.2.2.1, g354.2.2.2.1, g354.2.2.2.2.1, g354.2.2.2.2.2))))) := hT.symm
  clear hT
  refine w_m (E := mm28) rfl ?_
  show wl_E f f (D - 1) mm28.2.2.2.2.2.2.2.2 0 [some (.ref 52), none, none] [] (hz F A L) Q
  refine w_n 1 (pc1 := 1) (ls1 := [some (.ref 52), none, none]) (st1 := [.ref 52]) (hp1 := (hz F A L)) rfl ?_
  refine w_c rfl rfl (t_kr_readFactor hr (by omega) (by omega) ?_)
  show wl_E f _ _ mm28.2.2.2.2.2.2.2.2 4 [some (.ref 52), none, none] [] (hz (uF (uF (uF (uF F 1 3 (kr_readFactor r (F 1 2) (F 1 3) (F 1 4) (F 52 2) (F 53 1) (A 2) (A 58) (A 59)).1) 1 4 (kr_readFactor r (F 1 2) (F 1 3) (F 1 4) (F 52 2) (F 53 1) (A 2) (A 58) (A 59)).2.1) 52 2 (kr_readFactor r (F 1 2) (F 1 3) (F 1 4) (F 52 2) (F 53 1) (A 2) (A 58) (A 59)).2.2.1) 53 1 (kr_readFactor r (F 1 2) (F 1 3) (F 1 4) (F 52 2) (F 53 1) (A 2) (A 58) (A 59)).2.2.2.1) (uA (uA A 58 (kr_readFactor r (F 1 2) (F 1 3) (F 1 4) (F 52 2) (F 53 1) (A 2) (A 58) (A 59)).2.2.2.2.1) 59 (kr_readFactor r (F 1 2) (F 1 3) (F 1 4) (F 52 2) (F 53 1) (A 2) (A 58) (A 59)).2.2.2.2.2) L) _
  generalize hG345 : (kr_readFactor r (F 1 2) (F 1 3) (F 1 4) (F 52 2) (F 53 1) (A 2) (A 58) (A 59)) = G345 at hE ⊢
  replace hE := hE.trans (lt_e _ _)
  refine w_n 2 (pc1 := 6) (ls1 := [some (.ref 52), some (.int 0), none]) (st1 := []) (hp1 := (hz (uF (uF (uF (uF F 1 3 G345.1) 1 4 G345.2.1) 52 2 G345.2.2.1) 53 1 G345.2.2.2.1) (uA (uA A 58 G345.2.2.2.2.1) 59 G345.2.2.2.2.2) L)) rfl ?_
  refine t_kr_readProduct_6 hr (by omega) 240 (show (240 : Nat) = (240 - (0 : Int32).toInt).toNat by have e0 : (0 : Int32).toInt = 0 := rfl; first | rfl | omega) (by omega) ?_
  intro r1 r2
  show wl_E f _ _ mm28.2.2.2.2.2.2.2.2 82 [some (.ref 52), some (.int r1), r2] [] (hz (uF (uF (uF (uF (uF (uF (uF (uF F 1 3 G345.1) 1 4 G345.2.1) 52 2 G345.2.2.1) 53 1 G345.2.2.2.1) 1 3 (kr_readProduct_6 r (F 1 2) (A 2) 240 0 G345.1 G345.2.1 G345.2.2.1 G345.2.2.2.1 G345.2.2.2.2.1 G345.2.2.2.2.2).1) 1 4 (kr_readProduct_6 r (F 1 2) (A 2) 240 0 G345.1 G345.2.1 G345.2.2.1 G345.2.2.2.1 G345.2.2.2.2.1 G345.2.2.2.2.2).2.1) 52 2 (kr_readProduct_6 r (F 1 2) (A 2) 240 0 G345.1 G345.2.1 G345.2.2.1 G345.2.2.2.1 G345.2.2.2.2.1 G345.2.2.2.2.2).2.2.1) 53 1 (kr_readProduct_6 r (F 1 2) (A 2) 240 0 G345.1 G345.2.1 G345.2.2.1 G345.2.2.2.1 G345.2.2.2.2.1 G345.2.2.2.2.2).2.2.2.1) (uA (uA (uA (uA A 58 G345.2.2.2.2.1) 59 G345.2.2.2.2.2) 58 (kr_readProduct_6 r (F 1 2) (A 2) 240 0 G345.1 G345.2.1 G345.2.2.1 G345.2.2.2.1 G345.2.2.2.2.1 G345.2.2.2.2.2).2.2.2.2.1) 59 (kr_readProduct_6 r (F 1 2) (A 2) 240 0 G345.1 G345.2.1 G345.2.2.1 G345.2.2.2.1 G345.2.2.2.2.1 G345.2.2.2.2.2).2.2.2.2.2) L) _
  generalize hG354 : (kr_readProduct_6 r (F 1 2) (A 2) 240 0 G345.1 G345.2.1 G345.2.2.1 G345.2.2.2.1 G345.2.2.2.2.1 G345.2.2.2.2.2) = G354 at hE ⊢
  replace hE := hE.trans (lt_e _ _)
  subst T
  exact w_r rfl rfl (cvQ (funext fun q => funext fun z => if k0 : q = 1 ∧ z = 3 then by obtain ⟨w1, w2⟩ := k0; subst w1; subst w2; exact Eq.trans (b := G354.1) rfl rfl else if k1 : q = 1 ∧ z = 4 then by obtain ⟨w1, w2⟩ := k1; subst w1; subst w2; exact Eq.trans (b := G354.2.1) rfl rfl else if k2 : q = 52 ∧ z = 2 then by obtain ⟨w1, w2⟩ := k2; subst w1; subst w2; exact Eq.trans (b := G354.2.2.1) rfl rfl else if k3 : q = 53 ∧ z = 1 then by obtain ⟨w1, w2⟩ := k3; subst w1; subst w2; exact Eq.trans (b := G354.2.2.2.1) rfl rfl else by unfold uF; simp only [nb2 k0, nb2 k1, nb2 k2, nb2 k3, cond_false]) (funext fun q => if k0 : q = 58 then by subst k0; exact Eq.trans (b := G354.2.2.2.2.1) rfl rfl else if k1 : q = 59 then by subst k1; exact Eq.trans (b := G354.2.2.2.2.2) rfl rfl else by unfold uA; simp only [nb1 k0, nb1 k1, cond_false]) rfl K)
noncomputable def kr_readSum_6 (r : Int32 → Int32 → Int32 → Int32 → Int32 → List Int32 → List Int32 → List Int32 → (Int32 × Int32 × Int32 × Int32 × List Int32 × List Int32)) (f1_2 : Int32) (a2 : List Int32)  : Nat → Int32 → Int32 → Int32 → Int32 → Int32 → List Int32 → List Int32 → Int32 × Int32 × Int32 × Int32 × List Int32 × List Int32
  | 0, _, f1_3, f1_4, f52_2, f53_1, a58, a59 => (f1_3, f1_4, f52_2, f53_1, a58, a59)
  | m + 1, y1, f1_3, f1_4, f52_2, f53_1, a58, a59 => (lt (kx_stands f1_2 f1_3 f1_4 a2 43 45) (fun g356 => (if g356 = 0 then (f1_3, f1_4, f52_2, f53_1, a58, a59) else (lt (kx_sign f1_2 f1_3 a2) (fun g357 => (lt (kr_readProduct r f1_2 (f1_3 + 1) f1_4 f52_2 f53_1 a2 a58 a59) (fun g358 => (lt (kl_add_53 g358.2.2.2.1 g358.2.2.2.2.1 g358.2.2.2.2.2 g357 0) (fun g359 => (kr_readSum_6 r f1_2 a2 m (y1 + 1) g358.1 g358.2.1 g358.2.2.1 g359.2.1 g359.2.2.1 g359.2.2.2))))))))))
theorem t_kr_readSum_6 {f : Nat} {n : Nat} {r : Int32 → Int32 → Int32 → Int32 → Int32 → List Int32 → List Int32 → List Int32 → (Int32 × Int32 × Int32 × Int32 × List Int32 × List Int32)} (hr : ∀ (D : Nat) {F : Nat → Nat → Int32} {A : Nat → List Int32} {L : Nat → List Int64} {Q : Option Value → sm_H → Prop}, D ≤ n → (Q none (hz (uF (uF (uF (uF F 1 3 ((r (F 1 2) (F 1 3) (F 1 4) (F 52 2) (F 53 1) (A 2) (A 58) (A 59)).1)) 1 4 ((r (F 1 2) (F 1 3) (F 1 4) (F 52 2) (F 53 1) (A 2) (A 58) (A 59)).2.1)) 52 2 ((r (F 1 2) (F 1 3) (F 1 4) (F 52 2) (F 53 1) (A 2) (A 58) (A 59)).2.2.1)) 53 1 ((r (F 1 2) (F 1 3) (F 1 4) (F 52 2) (F 53 1) (A 2) (A 58) (A 59)).2.2.2.1)) (uA (uA A 58 ((r (F 1 2) (F 1 3) (F 1 4) (F 52 2) (F 53 1) (A 2) (A 58) (A 59)).2.2.2.2.1)) 59 ((r (F 1 2) (F 1 3) (F 1 4) (F 52 2) (F 53 1) (A 2) (A 58) (A 59)).2.2.2.2.2)) L)) → wl_M f D 27 [.ref 52] (hz F A L) Q) (hnf : n ≤ f) {Q : Option Value → sm_H → Prop} : ∀ (m : Nat) {B D : Nat} {F : Nat → Nat → Int32} {A : Nat → List Int32} {L : Nat → List Int64} {y1 : Int32} {o2 : Option Value}, m = (240 - y1.toInt).toNat → (_ : D ≤ n) → (∀ q1 : Int32, ∀ q2 : Option Value, wl_E f B D mm27.2.2.2.2.2.2.2.2 68 [some (.ref 52), some (.int q1), q2] [] (hz (uF (uF (uF (uF F 1 3 ((kr_readSum_6 r (F 1 2) (A 2) m y1 (F 1 3) (F 1 4) (F 52 2) (F 53 1) (A 58) (A 59)).1)) 1 4 ((kr_readSum_6 r (F 1 2) (A 2) m y1 (F 1 3) (F 1 4) (F 52 2) (F 53 1) (A 58) (A 59)).2.1)) 52 2 ((kr_readSum_6 r (F 1 2) (A 2) m y1 (F 1 3) (F 1 4) (F 52 2) (F 53 1) (A 58) (A 59)).2.2.1)) 53 1 ((kr_readSum_6 r (F 1 2) (A 2) m y1 (F 1 3) (F 1 4) (F 52 2) (F 53 1) (A 58) (A 59)).2.2.2.1)) (uA (uA A 58 ((kr_readSum_6 r (F 1 2) (A 2) m y1 (F 1 3) (F 1 4) (F 52 2) (F 53 1) (A 58) (A 59)).2.2.2.2.1)) 59 ((kr_readSum_6 r (F 1 2) (A 2) m y1 (F 1 3) (F 1 4) (F 52 2) (F 53 1) (A 58) (A 59)).2.2.2.2.2)) L) Q) → wl_E f B D mm27.2.2.2.2.2.2.2.2 6 [some (.ref 52), some (.int y1), o2] [] (hz F A L) Q := by
  intro m
  induction m with
  | zero =>
    intro B D F A L y1 o2 hm hn K
    generalize hT : (kr_readSum_6 r (F 1 2) (A 2) 0 y1 (F 1 3) (F 1 4) (F 52 2) (F 53 1) (A 58) (A 59)) = T at K
    have hE : T = ((F 1 3), (F 1 4), (F 52 2), (F 53 1), (A 58), (A 59)) := hT.symm
    clear hT
    refine w_n 2 (pc1 := 10) (ls1 := [some (.ref 52), some (.int y1), o2]) (st1 := [.int 240, .int y1]) (hp1 := (hz F A L)) rfl ?_
    refine w_ge (p3 := 13) rfl rfl (fun hb => ?_) (fun h => False.elim (by have h : y1.toInt < 240 := h; omega))
    subst T
    exact cvE (funext fun q => funext fun z => if k0 : q = 1 ∧ z = 3 then by obtain ⟨w1, w2⟩ := k0; subst w1; subst w2; exact Eq.trans (b := (F 1 3)) rfl rfl else if k1 : q = 1 ∧ z = 4 then by obtain ⟨w1, w2⟩ := k1; subst w1; subst w2; exact Eq.trans (b := (F 1 4)) rfl rfl else if k2 : q = 52 ∧ z = 2 then by obtain ⟨w1, w2⟩ := k2; subst w1; subst w2; exact Eq.trans (b := (F 52 2)) rfl rfl else if k3 : q = 53 ∧ z = 1 then by obtain ⟨w1, w2⟩ := k3; subst w1; subst w2; exact Eq.trans (b := (F 53 1)) rfl rfl else by unfold uF; simp only [nb2 k0, nb2 k1, nb2 k2, nb2 k3, cond_false]) (funext fun q => if k0 : q = 58 then by subst k0; exact Eq.trans (b := (A 58)) rfl rfl else if k1 : q = 59 then by subst k1; exact Eq.trans (b := (A 59)) rfl rfl else by unfold uA; simp only [nb1 k0, nb1 k1, cond_false]) rfl (K _ _)
  | succ m ih =>
    intro B D F A L y1 o2 hm hn K
    generalize hT : (kr_readSum_6 r (F 1 2) (A 2) (m + 1) y1 (F 1 3) (F 1 4) (F 52 2) (F 53 1) (A 58) (A 59)) = T at K
    have hE : T = (lt (kx_stands (F 1 2) (F 1 3) (F 1 4) (A 2) 43 45) (fun g356 => (if g356 = 0 then ((F 1 3), (F 1 4), (F 52 2), (F 53 1), (A 58), (A 59)) else (lt (kx_sign (F 1 2) (F 1 3) (A 2)) (fun g357 => (lt (kr_readProduct r (F 1 2) ((F 1 3) + 1) (F 1 4) (F 52 2) (F 53 1) (A 2) (A 58) (A 59)) (fun g358 => (lt (kl_add_53 g358.2.2.2.1 g358.2.2.2.2.1 g358.2.2.2.2.2 g357 0) (fun g359 => (kr_readSum_6 r (F 1 2) (A 2) m (y1 + 1) g358.1 g358.2.1 g358.2.2.1 g359.2.1 g359.2.2.1 g359.2.2.2)))))))))) := hT.symm
    clear hT
    refine w_n 2 (pc1 := 10) (ls1 := [some (.ref 52), some (.int y1), o2]) (st1 := [.int 240, .int y1]) (hp1 := (hz F A L)) rfl ?_
    refine w_ge (p3 := 13) rfl rfl (fun h => False.elim (by have h : 240 ≤ y1.toInt := h; omega)) (fun hb => ?_)
    refine w_n 4 (pc1 := 21) (ls1 := [some (.ref 52), some (.int y1), o2]) (st1 := [.int 45, .int 43, .ref 1]) (hp1 := (hz F A L)) rfl ?_
    refine w_c rfl rfl (t_kx_stands ?_)
    show wl_E f _ _ mm27.2.2.2.2.2.2.2.2 24 [some (.ref 52), some (.int y1), o2] [.int (kx_stands (F 1 2) (F 1 3) (F 1 4) (A 2) 43 45)] (hz F A L) _
    generalize hG356 : (kx_stands (F 1 2) (F 1 3) (F 1 4) (A 2) 43 45) = G356 at hE ⊢
    replace hE := hE.trans (lt_e _ _)
    refine w_zeq (p3 := 27) rfl rfl (fun h => ?_) (fun h => ?_)
    · have h1 : G356 = 0 := h
      rw [if_pos h1] at hE
      subst T
      exact cvE (funext fun q => funext fun z => if k0 : q = 1 ∧ z = 3 then by obtain ⟨w1, w2⟩ := k0; subst w1; subst w2; exact Eq.trans (b := (F 1 3)) rfl rfl else if k1 : q = 1 ∧ z = 4 then by obtain ⟨w1, w2⟩ := k1; subst w1; subst w2; exact Eq.trans (b := (F 1 4)) rfl rfl else if k2 : q = 52 ∧ z = 2 then by obtain ⟨w1, w2⟩ := k2; subst w1; subst w2; exact Eq.trans (b := (F 52 2)) rfl rfl else if k3 : q = 53 ∧ z = 1 then by obtain ⟨w1, w2⟩ := k3; subst w1; subst w2; exact Eq.trans (b := (F 53 1)) rfl rfl else by unfold uF; simp only [nb2 k0, nb2 k1, nb2 k2, nb2 k3, cond_false]) (funext fun q => if k0 : q = 58 then by subst k0; exact Eq.trans (b := (A 58)) rfl rfl else if k1 : q = 59 then by subst k1; exact Eq.trans (b := (A 59)) rfl rfl else by unfold uA; simp only [nb1 k0, nb1 k1, cond_false]) rfl (K _ _)
    · have h1 : ¬ G356 = 0 := h
      rw [if_neg h1] at hE
      refine w_n 2 (pc1 := 31) (ls1 := [some (.ref 52), some (.int y1), o2]) (st1 := [.ref 1]) (hp1 := (hz F A L)) rfl ?_
      refine w_c rfl rfl (t_kx_sign ?_)
      show wl_E f _ _ mm27.2.2.2.2.2.2.2.2 34 [some (.ref 52), some (.int y1), o2] [.int (kx_sign (F 1 2) (F 1 3) (A 2))] (hz F A L) _
      generalize hG357 : (kx_sign (F 1 2) (F 1 3) (A 2)) = G357 at hE ⊢
      replace hE := hE.trans (lt_e _ _)
      refine w_n 7 (pc1 := 45) (ls1 := [some (.ref 52), some (.int y1), some (.int G357)]) (st1 := [.int ((F 1 3) + 1), .ref 1]) (hp1 := (hz F A L)) rfl ?_
      refine w_pf (k := 1) (fs := hz_f1 F) (hp1 := (hz (uF F 1 3 ((F 1 3) + 1)) A L)) rfl rfl rfl (hz_p1_3 _) ?_
      refine w_n 1 (pc1 := 49) (ls1 := [some (.ref 52), some (.int y1), some (.int G357)]) (st1 := [.ref 52]) (hp1 := (hz (uF F 1 3 ((F 1 3) + 1)) A L)) rfl ?_
      refine w_c rfl rfl (t_kr_readProduct hr (by omega) (by omega) ?_)
      show wl_E f _ _ mm27.2.2.2.2.2.2.2.2 52 [some (.ref 52), some (.int y1), some (.int G357)] [] (hz (uF (uF (uF (uF (uF F 1 3 ((F 1 3) + 1)) 1 3 (kr_readProduct r (F 1 2) ((F 1 3) + 1) (F 1 4) (F 52 2) (F 53 1) (A 2) (A 58) (A 59)).1) 1 4 (kr_readProduct r (F 1 2) ((F 1 3) + 1) (F 1 4) (F 52 2) (F 53 1) (A 2) (A 58) (A 59)).2.1) 52 2 (kr_readProduct r (F 1 2) ((F 1 3) + 1) (F 1 4) (F 52 2) (F 53 1) (A 2) (A 58) (A 59)).2.2.1) 53 1 (kr_readProduct r (F 1 2) ((F 1 3) + 1) (F 1 4) (F 52 2) (F 53 1) (A 2) (A 58) (A 59)).2.2.2.1) (uA (uA A 58 (kr_readProduct r (F 1 2) ((F 1 3) + 1) (F 1 4) (F 52 2) (F 53 1) (A 2) (A 58) (A 59)).2.2.2.2.1) 59 (kr_readProduct r (F 1 2) ((F 1 3) + 1) (F 1 4) (F 52 2) (F 53 1) (A 2) (A 58) (A 59)).2.2.2.2.2) L) _
      generalize hG358 : (kr_readProduct r (F 1 2) ((F 1 3) + 1) (F 1 4) (F 52 2) (F 53 1) (A 2) (A 58) (A 59)) = G358 at hE ⊢
      replace hE := hE.trans (lt_e _ _)
      refine w_n 4 (pc1 := 58) (ls1 := [some (.ref 52), some (.int y1), some (.int G357)]) (st1 := [.int 0, .int G357, .ref 53]) (hp1 := (hz (uF (uF (uF (uF (uF F 1 3 ((F 1 3) + 1)) 1 3 G358.1) 1 4 G358.2.1) 52 2 G358.2.2.1) 53 1 G358.2.2.2.1) (uA (uA A 58 G358.2.2.2.2.1) 59 G358.2.2.2.2.2) L)) rfl ?_
      refine w_c rfl rfl (t_kl_add_53 ?_)
      show wl_E f _ _ mm27.2.2.2.2.2.2.2.2 61 [some (.ref 52), some (.int y1), some (.int G357)] [.int (kl_add_53 G358.2.2.2.1 G358.2.2.2.2.1 G358.2.2.2.2.2 G357 0).1] (hz (uF (uF (uF (uF (uF (uF F 1 3 ((F 1 3) + 1)) 1 3 G358.1) 1 4 G358.2.1) 52 2 G358.2.2.1) 53 1 G358.2.2.2.1) 53 1 (kl_add_53 G358.2.2.2.1 G358.2.2.2.2.1 G358.2.2.2.2.2 G357 0).2.1) (uA (uA (uA (uA A 58 G358.2.2.2.2.1) 59 G358.2.2.2.2.2) 58 (kl_add_53 G358.2.2.2.1 G358.2.2.2.2.1 G358.2.2.2.2.2 G357 0).2.2.1) 59 (kl_add_53 G358.2.2.2.1 G358.2.2.2.2.1 G358.2.2.2.2.2 G357 0).2.2.2) L) _
      generalize hG359 : (kl_add_53 G358.2.2.2.1 G358.2.2.2.2.1 G358.2.2.2.2.2 G357 0) = G359 at hE ⊢
      replace hE := hE.trans (lt_e _ _)
      refine w_n 3 (pc1 := 6) (ls1 := [some (.ref 52), some (.int (y1 + 1)), some (.int G357)]) (st1 := []) (hp1 := (hz (uF (uF (uF (uF (uF (uF F 1 3 ((F 1 3) + 1)) 1 3 G358.1) 1 4 G358.2.1) 52 2 G358.2.2.1) 53 1 G358.2.2.2.1) 53 1 G359.2.1) (uA (uA (uA (uA A 58 G358.2.2.2.2.1) 59 G358.2.2.2.2.2) 58 G359.2.2.1) 59 G359.2.2.2) L)) rfl ?_
      subst T
      have hb2 := i_up (B := (240 : Int32)) hb
      have hb3 : y1.toInt < 240 := hb
      exact ih (show m = (240 - (y1 + 1).toInt).toNat by rw [hb2]; omega) hn (fun q1 q2 => cvE (funext fun q => funext fun z => if k0 : q = 1 ∧ z = 3 then by obtain ⟨w1, w2⟩ := k0; subst w1; subst w2; exact Eq.trans (b := (kr_readSum_6 r (F 1 2) (A 2) m (y1 + 1) G358.1 G358.2.1 G358.2.2.1 G359.2.1 G359.2.2.1 G359.2.2.2).1) rfl rfl else if k1 : q = 1 ∧ z = 4 then by obtain ⟨w1, w2⟩ := k1; subst w1; subst w2; exact Eq.trans (b := (kr_readSum_6 r (F 1 2) (A 2) m (y1 + 1) G358.1 G358.2.1 G358.2.2.1 G359.2.1 G359.2.2.1 G359.2.2.2).2.1) rfl rfl else if k2 : q = 52 ∧ z = 2 then by obtain ⟨w1, w2⟩ := k2; subst w1; subst w2; exact Eq.trans (b := (kr_readSum_6 r (F 1 2) (A 2) m (y1 + 1) G358.1 G358.2.1 G358.2.2.1 G359.2.1 G359.2.2.1 G359.2.2.2).2.2.1) rfl rfl else if k3 : q = 53 ∧ z = 1 then by obtain ⟨w1, w2⟩ := k3; subst w1; subst w2; exact Eq.trans (b := (kr_readSum_6 r (F 1 2) (A 2) m (y1 + 1) G358.1 G358.2.1 G358.2.2.1 G359.2.1 G359.2.2.1 G359.2.2.2).2.2.2.1) rfl rfl else by unfold uF; simp only [nb2 k0, nb2 k1, nb2 k2, nb2 k3, cond_false]) (funext fun q => if k0 : q = 58 then by subst k0; exact Eq.trans (b := (kr_readSum_6 r (F 1 2) (A 2) m (y1 + 1) G358.1 G358.2.1 G358.2.2.1 G359.2.1 G359.2.2.1 G359.2.2.2).2.2.2.2.1) rfl rfl else if k1 : q = 59 then by subst k1; exact Eq.trans (b := (kr_readSum_6 r (F 1 2) (A 2) m (y1 + 1) G358.1 G358.2.1 G358.2.2.1 G359.2.1 G359.2.2.1 G359.2.2.2).2.2.2.2.2) rfl rfl else by unfold uA; simp only [nb1 k0, nb1 k1, cond_false]) rfl (K q1 q2))
noncomputable def kr_readSum_b (r : Int32 → Int32 → Int32 → Int32 → Int32 → List Int32 → List Int32 → List Int32 → (Int32 × Int32 × Int32 × Int32 × List Int32 × List Int32)) (f1_2 : Int32) (f1_3 : Int32) (f1_4 : Int32) (f52_2 : Int32) (f53_1 : Int32) (a2 : List Int32) (a58 : List Int32) (a59 : List Int32) : Int32 × Int32 × Int32 × Int32 × List Int32 × List Int32 := (lt (kr_readProduct r f1_2 f1_3 f1_4 f52_2 f53_1 a2 a58 a59) (fun g355 => (lt (kr_readSum_6 r f1_2 a2 240 0 g355.1 g355.2.1 g355.2.2.1 g355.2.2.2.1 g355.2.2.2.2.1 g355.2.2.2.2.2) (fun g360 => (g360.1, g360.2.1, g360.2.2.1, g360.2.2.2.1, g360.2.2.2.2.1, g360.2.2.2.2.2)))))
theorem t_kr_readSum_b {f D : Nat} {n : Nat} {r : Int32 → Int32 → Int32 → Int32 → Int32 → List Int32 → List Int32 → List Int32 → (Int32 × Int32 × Int32 × Int32 × List Int32 × List Int32)} (hr : ∀ (D : Nat) {F : Nat → Nat → Int32} {A : Nat → List Int32} {L : Nat → List Int64} {Q : Option Value → sm_H → Prop}, D ≤ n → (Q none (hz (uF (uF (uF (uF F 1 3 ((r (F 1 2) (F 1 3) (F 1 4) (F 52 2) (F 53 1) (A 2) (A 58) (A 59)).1)) 1 4 ((r (F 1 2) (F 1 3) (F 1 4) (F 52 2) (F 53 1) (A 2) (A 58) (A 59)).2.1)) 52 2 ((r (F 1 2) (F 1 3) (F 1 4) (F 52 2) (F 53 1) (A 2) (A 58) (A 59)).2.2.1)) 53 1 ((r (F 1 2) (F 1 3) (F 1 4) (F 52 2) (F 53 1) (A 2) (A 58) (A 59)).2.2.2.1)) (uA (uA A 58 ((r (F 1 2) (F 1 3) (F 1 4) (F 52 2) (F 53 1) (A 2) (A 58) (A 59)).2.2.2.2.1)) 59 ((r (F 1 2) (F 1 3) (F 1 4) (F 52 2) (F 53 1) (A 2) (A 58) (A 59)).2.2.2.2.2)) L)) → wl_M f D 27 [.ref 52] (hz F A L) Q) (hnf : n + 1 ≤ f) {F : Nat → Nat → Int32} {A : Nat → List Int32} {L : Nat → List Int64} {Q : Option Value → sm_H → Prop} (hn : D ≤ n + 1) (K : Q none (hz (uF (uF (uF (uF F 1 3 ((kr_readSum_b r (F 1 2) (F 1 3) (F 1 4) (F 52 2) (F 53 1) (A 2) (A 58) (A 59)).1)) 1 4 ((kr_readSum_b r (F 1 2) (F 1 3) (F 1 4) (F 52 2) (F 53 1) (A 2) (A 58) (A 59)).2.1)) 52 2 ((kr_readSum_b r (F 1 2) (F 1 3) (F 1 4) (F 52 2) (F 53 1) (A 2) (A 58) (A 59)).2.2.1)) 53 1 ((kr_readSum_b r (F 1 2) (F 1 3) (F 1 4) (F 52 2) (F 53 1) (A 2) (A 58) (A 59)).2.2.2.1)) (uA (uA A 58 ((kr_readSum_b r (F 1 2) (F 1 3) (F 1 4) (F 52 2) (F 53 1) (A 2) (A 58) (A 59)).2.2.2.2.1)) 59 ((kr_readSum_b r (F 1 2) (F 1 3) (F 1 4) (F 52 2) (F 53 1) (A 2) (A 58) (A 59)).2.2.2.2.2)) L)) : wl_M f D 27 [.ref 52] (hz F A L) Q := by
  generalize hT : (kr_readSum_b r (F 1 2) (F 1 3) (F 1 4) (F 52 2) (F 53 1) (A 2) (A 58) (A 59)) = T at K
  have hE : T = (lt (kr_readProduct r (F 1 2) (F 1 3) (F 1 4) (F 52 2) (F 53 1) (A 2) (A 58) (A 59)) (fun g355 => (lt (kr_readSum_6 r (F 1 2) (A 2) 240 0 g355.1 g355.2.1 g355.2.2.1 g355.2.2.2.1 g355.2.2.2.2.1 g355.2.2.2.2.2) (fun g360 => (g360.1, g360.2.1, g360.2.2.1, g360.2.2.2.1, g360.2.2.2.2.1, g360.2.2.2.2.2))))) := hT.symm
  clear hT
  refine w_m (E := mm27) rfl ?_
  show wl_E f f (D - 1) mm27.2.2.2.2.2.2.2.2 0 [some (.ref 52), none, none] [] (hz F A L) Q
  refine w_n 1 (pc1 := 1) (ls1 := [some (.ref 52), none, none]) (st1 := [.ref 52]) (hp1 := (hz F A L)) rfl ?_
  refine w_c rfl rfl (t_kr_readProduct hr (by omega) (by omega) ?_)
  show wl_E f _ _ mm27.2.2.2.2.2.2.2.2 4 [some (.ref 52), none, none] [] (hz (uF (uF (uF (uF F 1 3 (kr_readProduct r (F 1 2) (F 1 3) (F 1 4) (F 52 2) (F 53 1) (A 2) (A 58) (A 59)).1) 1 4 (kr_readProduct r (F 1 2) (F 1 3) (F 1 4) (F 52 2) (F 53 1) (A 2) (A 58) (A 59)).2.1) 52 2 (kr_readProduct r (F 1 2) (F 1 3) (F 1 4) (F 52 2) (F 53 1) (A 2) (A 58) (A 59)).2.2.1) 53 1 (kr_readProduct r (F 1 2) (F 1 3) (F 1 4) (F 52 2) (F 53 1) (A 2) (A 58) (A 59)).2.2.2.1) (uA (uA A 58 (kr_readProduct r (F 1 2) (F 1 3) (F 1 4) (F 52 2) (F 53 1) (A 2) (A 58) (A 59)).2.2.2.2.1) 59 (kr_readProduct r (F 1 2) (F 1 3) (F 1 4) (F 52 2) (F 53 1) (A 2) (A 58) (A 59)).2.2.2.2.2) L) _
  generalize hG355 : (kr_readProduct r (F 1 2) (F 1 3) (F 1 4) (F 52 2) (F 53 1) (A 2) (A 58) (A 59)) = G355 at hE ⊢
  replace hE := hE.trans (lt_e _ _)
  refine w_n 2 (pc1 := 6) (ls1 := [some (.ref 52), some (.int 0), none]) (st1 := []) (hp1 := (hz (uF (uF (uF (uF F 1 3 G355.1) 1 4 G355.2.1) 52 2 G355.2.2.1) 53 1 G355.2.2.2.1) (uA (uA A 58 G355.2.2.2.2.1) 59 G355.2.2.2.2.2) L)) rfl ?_
  refine t_kr_readSum_6 hr (by omega) 240 (show (240 : Nat) = (240 - (0 : Int32).toInt).toNat by have e0 : (0 : Int32).toInt = 0 := rfl; first | rfl | omega) (by omega) ?_
  intro r1 r2
  show wl_E f _ _ mm27.2.2.2.2.2.2.2.2 68 [some (.ref 52), some (.int r1), r2] [] (hz (uF (uF (uF (uF (uF (uF (uF (uF F 1 3 G355.1) 1 4 G355.2.1) 52 2 G355.2.2.1) 53 1 G355.2.2.2.1) 1 3 (kr_readSum_6 r (F 1 2) (A 2) 240 0 G355.1 G355.2.1 G355.2.2.1 G355.2.2.2.1 G355.2.2.2.2.1 G355.2.2.2.2.2).1) 1 4 (kr_readSum_6 r (F 1 2) (A 2) 240 0 G355.1 G355.2.1 G355.2.2.1 G355.2.2.2.1 G355.2.2.2.2.1 G355.2.2.2.2.2).2.1) 52 2 (kr_readSum_6 r (F 1 2) (A 2) 240 0 G355.1 G355.2.1 G355.2.2.1 G355.2.2.2.1 G355.2.2.2.2.1 G355.2.2.2.2.2).2.2.1) 53 1 (kr_readSum_6 r (F 1 2) (A 2) 240 0 G355.1 G355.2.1 G355.2.2.1 G355.2.2.2.1 G355.2.2.2.2.1 G355.2.2.2.2.2).2.2.2.1) (uA (uA (uA (uA A 58 G355.2.2.2.2.1) 59 G355.2.2.2.2.2) 58 (kr_readSum_6 r (F 1 2) (A 2) 240 0 G355.1 G355.2.1 G355.2.2.1 G355.2.2.2.1 G355.2.2.2.2.1 G355.2.2.2.2.2).2.2.2.2.1) 59 (kr_readSum_6 r (F 1 2) (A 2) 240 0 G355.1 G355.2.1 G355.2.2.1 G355.2.2.2.1 G355.2.2.2.2.1 G355.2.2.2.2.2).2.2.2.2.2) L) _
  generalize hG360 : (kr_readSum_6 r (F 1 2) (A 2) 240 0 G355.1 G355.2.1 G355.2.2.1 G355.2.2.2.1 G355.2.2.2.2.1 G355.2.2.2.2.2) = G360 at hE ⊢
  replace hE := hE.trans (lt_e _ _)
  subst T
  exact w_r rfl rfl (cvQ (funext fun q => funext fun z => if k0 : q = 1 ∧ z = 3 then by obtain ⟨w1, w2⟩ := k0; subst w1; subst w2; exact Eq.trans (b := G360.1) rfl rfl else if k1 : q = 1 ∧ z = 4 then by obtain ⟨w1, w2⟩ := k1; subst w1; subst w2; exact Eq.trans (b := G360.2.1) rfl rfl else if k2 : q = 52 ∧ z = 2 then by obtain ⟨w1, w2⟩ := k2; subst w1; subst w2; exact Eq.trans (b := G360.2.2.1) rfl rfl else if k3 : q = 53 ∧ z = 1 then by obtain ⟨w1, w2⟩ := k3; subst w1; subst w2; exact Eq.trans (b := G360.2.2.2.1) rfl rfl else by unfold uF; simp only [nb2 k0, nb2 k1, nb2 k2, nb2 k3, cond_false]) (funext fun q => if k0 : q = 58 then by subst k0; exact Eq.trans (b := G360.2.2.2.2.1) rfl rfl else if k1 : q = 59 then by subst k1; exact Eq.trans (b := G360.2.2.2.2.2) rfl rfl else by unfold uA; simp only [nb1 k0, nb1 k1, cond_false]) rfl K)
noncomputable def kr_readSum : Nat → Int32 → Int32 → Int32 → Int32 → Int32 → List Int32 → List Int32 → List Int32 → (Int32 × Int32 × Int32 × Int32 × List Int32 × List Int32)
  | 0, _, f1_3, f1_4, f52_2, f53_1, _, a58, a59 => (f1_3, f1_4, f52_2, f53_1, a58, a59)
  | n + 1, f1_2, f1_3, f1_4, f52_2, f53_1, a2, a58, a59 => kr_readSum_b (kr_readSum n) f1_2 f1_3 f1_4 f52_2 f53_1 a2 a58 a59
theorem t_kr_readSum {f : Nat} : ∀ (n : Nat), n ≤ f → ∀ {D : Nat} {F : Nat → Nat → Int32} {A : Nat → List Int32} {L : Nat → List Int64} {Q : Option Value → sm_H → Prop}, D ≤ n → (Q none (hz (uF (uF (uF (uF F 1 3 ((kr_readSum n (F 1 2) (F 1 3) (F 1 4) (F 52 2) (F 53 1) (A 2) (A 58) (A 59)).1)) 1 4 ((kr_readSum n (F 1 2) (F 1 3) (F 1 4) (F 52 2) (F 53 1) (A 2) (A 58) (A 59)).2.1)) 52 2 ((kr_readSum n (F 1 2) (F 1 3) (F 1 4) (F 52 2) (F 53 1) (A 2) (A 58) (A 59)).2.2.1)) 53 1 ((kr_readSum n (F 1 2) (F 1 3) (F 1 4) (F 52 2) (F 53 1) (A 2) (A 58) (A 59)).2.2.2.1)) (uA (uA A 58 ((kr_readSum n (F 1 2) (F 1 3) (F 1 4) (F 52 2) (F 53 1) (A 2) (A 58) (A 59)).2.2.2.2.1)) 59 ((kr_readSum n (F 1 2) (F 1 3) (F 1 4) (F 52 2) (F 53 1) (A 2) (A 58) (A 59)).2.2.2.2.2)) L)) → wl_M f D 27 [.ref 52] (hz F A L) Q := by
  intro n
  induction n with
  | zero =>
    intro hf D F A L Q  hD K
    obtain rfl : D = 0 := by omega
    exact w_m0
  | succ n ih =>
    intro hf D F A L Q  hD K
    exact t_kr_readSum_b (n := n) (r := kr_readSum n) (fun _ => ih (by omega)) hf hD K
noncomputable def kr_goOnHere (f53_1 : Int32) (a59 : List Int32) (x1 : Int32) : List Int32 := (if x1 = (-1) then a59 else (a59.set x1.toInt.toNat f53_1))
theorem t_kr_goOnHere {f D : Nat} {F : Nat → Nat → Int32} {A : Nat → List Int32} {L : Nat → List Int64} {Q : Option Value → sm_H → Prop} {x1 : Int32} (K : Q none (hz F (uA A 59 (kr_goOnHere (F 53 1) (A 59) x1)) L)) : wl_M f D 40 [.ref 52, .int x1] (hz F A L) Q := by
  generalize hT : (kr_goOnHere (F 53 1) (A 59) x1) = T at K
  have hE : T = (if x1 = (-1) then (A 59) else ((A 59).set x1.toInt.toNat (F 53 1))) := hT.symm
  clear hT
  refine w_m (E := mm40) rfl ?_
  show wl_E f f (D - 1) mm40.2.2.2.2.2.2.2.2 0 [some (.ref 52), some (.int x1)] [] (hz F A L) Q
  refine w_n 2 (pc1 := 2) (ls1 := [some (.ref 52), some (.int x1)]) (st1 := [.int (-1), .int x1]) (hp1 := (hz F A L)) rfl ?_
  refine w_eq (p3 := 5) rfl rfl (fun h => ?_) (fun h => ?_)
  · have h1 : x1 = (-1) := h
    rw [if_pos h1] at hE
    subst T
    exact w_r rfl rfl (cvQ rfl (funext fun q => if k0 : q = 59 then by subst k0; exact Eq.trans (b := (A 59)) rfl rfl else by unfold uA; simp only [nb1 k0, cond_false]) rfl K)
  · have h1 : ¬ x1 = (-1) := h
    rw [if_neg h1] at hE
    refine w_n 7 (pc1 := 20) (ls1 := [some (.ref 52), some (.int x1)]) (st1 := [.int (F 53 1), .int x1, .ref 59]) (hp1 := (hz F A L)) rfl ?_
    refine w_as (k := 59) (l := (A 59)) (hp1 := (hz F (uA A 59 ((A 59).set x1.toInt.toNat (F 53 1))) L)) rfl rfl rfl (hz_s59 _) (fun _ => ?_)
    subst T
    exact w_r rfl rfl (cvQ rfl rfl rfl K)
noncomputable def kr_readPart_6 (r : Int32 → Int32 → Int32 → Int32 → Int32 → List Int32 → List Int32 → List Int32 → (Int32 × Int32 × Int32 × Int32 × List Int32 × List Int32)) (f1_2 : Int32) (a2 : List Int32)  : Nat → Int32 → Int32 → Int32 → Int32 → Int32 → List Int32 → List Int32 → Int32 × Int32 × Int32 × Int32 × List Int32 × List Int32
  | 0, _, f1_3, f1_4, f52_2, f53_1, a58, a59 => (f1_3, f1_4, f52_2, f53_1, a58, a59)
  | m + 1, y1, f1_3, f1_4, f52_2, f53_1, a58, a59 => (lt (kx_stands f1_2 f1_3 f1_4 a2 38 38) (fun g374 => (if g374 = 0 then (f1_3, f1_4, f52_2, f53_1, a58, a59) else (lt (kl_add_53 f53_1 a58 a59 38 0) (fun g375 => (lt (r f1_2 (f1_3 + 1) f1_4 f52_2 g375.2.1 a2 g375.2.2.1 g375.2.2.2) (fun g376 => (lt (kr_goOnHere g376.2.2.2.1 g376.2.2.2.2.2 g375.1) (fun g377 => (kr_readPart_6 r f1_2 a2 m (y1 + 1) g376.1 g376.2.1 g376.2.2.1 g376.2.2.2.1 g376.2.2.2.2.1 g377))))))))))
theorem t_kr_readPart_6 {f : Nat} {n : Nat} {r : Int32 → Int32 → Int32 → Int32 → Int32 → List Int32 → List Int32 → List Int32 → (Int32 × Int32 × Int32 × Int32 × List Int32 × List Int32)} (hr : ∀ (D : Nat) {F : Nat → Nat → Int32} {A : Nat → List Int32} {L : Nat → List Int64} {Q : Option Value → sm_H → Prop}, D ≤ n → (Q none (hz (uF (uF (uF (uF F 1 3 ((r (F 1 2) (F 1 3) (F 1 4) (F 52 2) (F 53 1) (A 2) (A 58) (A 59)).1)) 1 4 ((r (F 1 2) (F 1 3) (F 1 4) (F 52 2) (F 53 1) (A 2) (A 58) (A 59)).2.1)) 52 2 ((r (F 1 2) (F 1 3) (F 1 4) (F 52 2) (F 53 1) (A 2) (A 58) (A 59)).2.2.1)) 53 1 ((r (F 1 2) (F 1 3) (F 1 4) (F 52 2) (F 53 1) (A 2) (A 58) (A 59)).2.2.2.1)) (uA (uA A 58 ((r (F 1 2) (F 1 3) (F 1 4) (F 52 2) (F 53 1) (A 2) (A 58) (A 59)).2.2.2.2.1)) 59 ((r (F 1 2) (F 1 3) (F 1 4) (F 52 2) (F 53 1) (A 2) (A 58) (A 59)).2.2.2.2.2)) L)) → wl_M f D 39 [.ref 52] (hz F A L) Q) (hnf : n ≤ f) {Q : Option Value → sm_H → Prop} : ∀ (m : Nat) {B D : Nat} {F : Nat → Nat → Int32} {A : Nat → List Int32} {L : Nat → List Int64} {y1 : Int32} {o2 : Option Value}, m = (240 - y1.toInt).toNat → (_ : D ≤ n) → (∀ q1 : Int32, ∀ q2 : Option Value, wl_E f B D mm38.2.2.2.2.2.2.2.2 66 [some (.ref 52), some (.int q1), q2] [] (hz (uF (uF (uF (uF F 1 3 ((kr_readPart_6 r (F 1 2) (A 2) m y1 (F 1 3) (F 1 4) (F 52 2) (F 53 1) (A 58) (A 59)).1)) 1 4 ((kr_readPart_6 r (F 1 2) (A 2) m y1 (F 1 3) (F 1 4) (F 52 2) (F 53 1) (A 58) (A 59)).2.1)) 52 2 ((kr_readPart_6 r (F 1 2) (A 2) m y1 (F 1 3) (F 1 4) (F 52 2) (F 53 1) (A 58) (A 59)).2.2.1)) 53 1 ((kr_readPart_6 r (F 1 2) (A 2) m y1 (F 1 3) (F 1 4) (F 52 2) (F 53 1) (A 58) (A 59)).2.2.2.1)) (uA (uA A 58 ((kr_readPart_6 r (F 1 2) (A 2) m y1 (F 1 3) (F 1 4) (F 52 2) (F 53 1) (A 58) (A 59)).2.2.2.2.1)) 59 ((kr_readPart_6 r (F 1 2) (A 2) m y1 (F 1 3) (F 1 4) (F 52 2) (F 53 1) (A 58) (A 59)).2.2.2.2.2)) L) Q) → wl_E f B D mm38.2.2.2.2.2.2.2.2 6 [some (.ref 52), some (.int y1), o2] [] (hz F A L) Q := by
  intro m
  induction m with
  | zero =>
    intro B D F A L y1 o2 hm hn K
    generalize hT : (kr_readPart_6 r (F 1 2) (A 2) 0 y1 (F 1 3) (F 1 4) (F 52 2) (F 53 1) (A 58) (A 59)) = T at K
    have hE : T = ((F 1 3), (F 1 4), (F 52 2), (F 53 1), (A 58), (A 59)) := hT.symm
    clear hT
    refine w_n 2 (pc1 := 10) (ls1 := [some (.ref 52), some (.int y1), o2]) (st1 := [.int 240, .int y1]) (hp1 := (hz F A L)) rfl ?_
    refine w_ge (p3 := 13) rfl rfl (fun hb => ?_) (fun h => False.elim (by have h : y1.toInt < 240 := h; omega))
    subst T
    exact cvE (funext fun q => funext fun z => if k0 : q = 1 ∧ z = 3 then by obtain ⟨w1, w2⟩ := k0; subst w1; subst w2; exact Eq.trans (b := (F 1 3)) rfl rfl else if k1 : q = 1 ∧ z = 4 then by obtain ⟨w1, w2⟩ := k1; subst w1; subst w2; exact Eq.trans (b := (F 1 4)) rfl rfl else if k2 : q = 52 ∧ z = 2 then by obtain ⟨w1, w2⟩ := k2; subst w1; subst w2; exact Eq.trans (b := (F 52 2)) rfl rfl else if k3 : q = 53 ∧ z = 1 then by obtain ⟨w1, w2⟩ := k3; subst w1; subst w2; exact Eq.trans (b := (F 53 1)) rfl rfl else by unfold uF; simp only [nb2 k0, nb2 k1, nb2 k2, nb2 k3, cond_false]) (funext fun q => if k0 : q = 58 then by subst k0; exact Eq.trans (b := (A 58)) rfl rfl else if k1 : q = 59 then by subst k1; exact Eq.trans (b := (A 59)) rfl rfl else by unfold uA; simp only [nb1 k0, nb1 k1, cond_false]) rfl (K _ _)
  | succ m ih =>
    intro B D F A L y1 o2 hm hn K
    generalize hT : (kr_readPart_6 r (F 1 2) (A 2) (m + 1) y1 (F 1 3) (F 1 4) (F 52 2) (F 53 1) (A 58) (A 59)) = T at K
    have hE : T = (lt (kx_stands (F 1 2) (F 1 3) (F 1 4) (A 2) 38 38) (fun g374 => (if g374 = 0 then ((F 1 3), (F 1 4), (F 52 2), (F 53 1), (A 58), (A 59)) else (lt (kl_add_53 (F 53 1) (A 58) (A 59) 38 0) (fun g375 => (lt (r (F 1 2) ((F 1 3) + 1) (F 1 4) (F 52 2) g375.2.1 (A 2) g375.2.2.1 g375.2.2.2) (fun g376 => (lt (kr_goOnHere g376.2.2.2.1 g376.2.2.2.2.2 g375.1) (fun g377 => (kr_readPart_6 r (F 1 2) (A 2) m (y1 + 1) g376.1 g376.2.1 g376.2.2.1 g376.2.2.2.1 g376.2.2.2.2.1 g377)))))))))) := hT.symm
    clear hT
    refine w_n 2 (pc1 := 10) (ls1 := [some (.ref 52), some (.int y1), o2]) (st1 := [.int 240, .int y1]) (hp1 := (hz F A L)) rfl ?_
    refine w_ge (p3 := 13) rfl rfl (fun h => False.elim (by have h : 240 ≤ y1.toInt := h; omega)) (fun hb => ?_)
    refine w_n 4 (pc1 := 21) (ls1 := [some (.ref 52), some (.int y1), o2]) (st1 := [.int 38, .int 38, .ref 1]) (hp1 := (hz F A L)) rfl ?_
    refine w_c rfl rfl (t_kx_stands ?_)
    show wl_E f _ _ mm38.2.2.2.2.2.2.2.2 24 [some (.ref 52), some (.int y1), o2] [.int (kx_stands (F 1 2) (F 1 3) (F 1 4) (A 2) 38 38)] (hz F A L) _
    generalize hG374 : (kx_stands (F 1 2) (F 1 3) (F 1 4) (A 2) 38 38) = G374 at hE ⊢
    replace hE := hE.trans (lt_e _ _)
    refine w_zeq (p3 := 27) rfl rfl (fun h => ?_) (fun h => ?_)
    · have h1 : G374 = 0 := h
      rw [if_pos h1] at hE
      subst T
      exact cvE (funext fun q => funext fun z => if k0 : q = 1 ∧ z = 3 then by obtain ⟨w1, w2⟩ := k0; subst w1; subst w2; exact Eq.trans (b := (F 1 3)) rfl rfl else if k1 : q = 1 ∧ z = 4 then by obtain ⟨w1, w2⟩ := k1; subst w1; subst w2; exact Eq.trans (b := (F 1 4)) rfl rfl else if k2 : q = 52 ∧ z = 2 then by obtain ⟨w1, w2⟩ := k2; subst w1; subst w2; exact Eq.trans (b := (F 52 2)) rfl rfl else if k3 : q = 53 ∧ z = 1 then by obtain ⟨w1, w2⟩ := k3; subst w1; subst w2; exact Eq.trans (b := (F 53 1)) rfl rfl else by unfold uF; simp only [nb2 k0, nb2 k1, nb2 k2, nb2 k3, cond_false]) (funext fun q => if k0 : q = 58 then by subst k0; exact Eq.trans (b := (A 58)) rfl rfl else if k1 : q = 59 then by subst k1; exact Eq.trans (b := (A 59)) rfl rfl else by unfold uA; simp only [nb1 k0, nb1 k1, cond_false]) rfl (K _ _)
    · have h1 : ¬ G374 = 0 := h
      rw [if_neg h1] at hE
      refine w_n 6 (pc1 := 37) (ls1 := [some (.ref 52), some (.int y1), o2]) (st1 := [.int ((F 1 3) + 1), .ref 1]) (hp1 := (hz F A L)) rfl ?_
      refine w_pf (k := 1) (fs := hz_f1 F) (hp1 := (hz (uF F 1 3 ((F 1 3) + 1)) A L)) rfl rfl rfl (hz_p1_3 _) ?_
      refine w_n 4 (pc1 := 47) (ls1 := [some (.ref 52), some (.int y1), o2]) (st1 := [.int 0, .int 38, .ref 53]) (hp1 := (hz (uF F 1 3 ((F 1 3) + 1)) A L)) rfl ?_
      refine w_c rfl rfl (t_kl_add_53 ?_)
      show wl_E f _ _ mm38.2.2.2.2.2.2.2.2 50 [some (.ref 52), some (.int y1), o2] [.int (kl_add_53 (F 53 1) (A 58) (A 59) 38 0).1] (hz (uF (uF F 1 3 ((F 1 3) + 1)) 53 1 (kl_add_53 (F 53 1) (A 58) (A 59) 38 0).2.1) (uA (uA A 58 (kl_add_53 (F 53 1) (A 58) (A 59) 38 0).2.2.1) 59 (kl_add_53 (F 53 1) (A 58) (A 59) 38 0).2.2.2) L) _
      generalize hG375 : (kl_add_53 (F 53 1) (A 58) (A 59) 38 0) = G375 at hE ⊢
      replace hE := hE.trans (lt_e _ _)
      refine w_n 2 (pc1 := 52) (ls1 := [some (.ref 52), some (.int y1), some (.int G375.1)]) (st1 := [.ref 52]) (hp1 := (hz (uF (uF F 1 3 ((F 1 3) + 1)) 53 1 G375.2.1) (uA (uA A 58 G375.2.2.1) 59 G375.2.2.2) L)) rfl ?_
      refine w_c rfl rfl (hr _ (by omega) ?_)
      show wl_E f _ _ mm38.2.2.2.2.2.2.2.2 55 [some (.ref 52), some (.int y1), some (.int G375.1)] [] (hz (uF (uF (uF (uF (uF (uF F 1 3 ((F 1 3) + 1)) 53 1 G375.2.1) 1 3 (r (F 1 2) ((F 1 3) + 1) (F 1 4) (F 52 2) G375.2.1 (A 2) G375.2.2.1 G375.2.2.2).1) 1 4 (r (F 1 2) ((F 1 3) + 1) (F 1 4) (F 52 2) G375.2.1 (A 2) G375.2.2.1 G375.2.2.2).2.1) 52 2 (r (F 1 2) ((F 1 3) + 1) (F 1 4) (F 52 2) G375.2.1 (A 2) G375.2.2.1 G375.2.2.2).2.2.1) 53 1 (r (F 1 2) ((F 1 3) + 1) (F 1 4) (F 52 2) G375.2.1 (A 2) G375.2.2.1 G375.2.2.2).2.2.2.1) (uA (uA (uA (uA A 58 G375.2.2.1) 59 G375.2.2.2) 58 (r (F 1 2) ((F 1 3) + 1) (F 1 4) (F 52 2) G375.2.1 (A 2) G375.2.2.1 G375.2.2.2).2.2.2.2.1) 59 (r (F 1 2) ((F 1 3) + 1) (F 1 4) (F 52 2) G375.2.1 (A 2) G375.2.2.1 G375.2.2.2).2.2.2.2.2) L) _
      generalize hG376 : (r (F 1 2) ((F 1 3) + 1) (F 1 4) (F 52 2) G375.2.1 (A 2) G375.2.2.1 G375.2.2.2) = G376 at hE ⊢
      replace hE := hE.trans (lt_e _ _)
      refine w_n 2 (pc1 := 57) (ls1 := [some (.ref 52), some (.int y1), some (.int G375.1)]) (st1 := [.int G375.1, .ref 52]) (hp1 := (hz (uF (uF (uF (uF (uF (uF F 1 3 ((F 1 3) + 1)) 53 1 G375.2.1) 1 3 G376.1) 1 4 G376.2.1) 52 2 G376.2.2.1) 53 1 G376.2.2.2.1) (uA (uA (uA (uA A 58 G375.2.2.1) 59 G375.2.2.2) 58 G376.2.2.2.2.1) 59 G376.2.2.2.2.2) L)) rfl ?_
      refine w_c rfl rfl (t_kr_goOnHere ?_)
      show wl_E f _ _ mm38.2.2.2.2.2.2.2.2 60 [some (.ref 52), some (.int y1), some (.int G375.1)] [] (hz (uF (uF (uF (uF (uF (uF F 1 3 ((F 1 3) + 1)) 53 1 G375.2.1) 1 3 G376.1) 1 4 G376.2.1) 52 2 G376.2.2.1) 53 1 G376.2.2.2.1) (uA (uA (uA (uA (uA A 58 G375.2.2.1) 59 G375.2.2.2) 58 G376.2.2.2.2.1) 59 G376.2.2.2.2.2) 59 (kr_goOnHere G376.2.2.2.1 G376.2.2.2.2.2 G375.1)) L) _
      generalize hG377 : (kr_goOnHere G376.2.2.2.1 G376.2.2.2.2.2 G375.1) = G377 at hE ⊢
      replace hE := hE.trans (lt_e _ _)
      refine w_n 2 (pc1 := 6) (ls1 := [some (.ref 52), some (.int (y1 + 1)), some (.int G375.1)]) (st1 := []) (hp1 := (hz (uF (uF (uF (uF (uF (uF F 1 3 ((F 1 3) + 1)) 53 1 G375.2.1) 1 3 G376.1) 1 4 G376.2.1) 52 2 G376.2.2.1) 53 1 G376.2.2.2.1) (uA (uA (uA (uA (uA A 58 G375.2.2.1) 59 G375.2.2.2) 58 G376.2.2.2.2.1) 59 G376.2.2.2.2.2) 59 G377) L)) rfl ?_
      subst T
      have hb2 := i_up (B := (240 : Int32)) hb
      have hb3 : y1.toInt < 240 := hb
      exact ih (show m = (240 - (y1 + 1).toInt).toNat by rw [hb2]; omega) hn (fun q1 q2 => cvE (funext fun q => funext fun z => if k0 : q = 1 ∧ z = 3 then by obtain ⟨w1, w2⟩ := k0; subst w1; subst w2; exact Eq.trans (b := (kr_readPart_6 r (F 1 2) (A 2) m (y1 + 1) G376.1 G376.2.1 G376.2.2.1 G376.2.2.2.1 G376.2.2.2.2.1 G377).1) rfl rfl else if k1 : q = 1 ∧ z = 4 then by obtain ⟨w1, w2⟩ := k1; subst w1; subst w2; exact Eq.trans (b := (kr_readPart_6 r (F 1 2) (A 2) m (y1 + 1) G376.1 G376.2.1 G376.2.2.1 G376.2.2.2.1 G376.2.2.2.2.1 G377).2.1) rfl rfl else if k2 : q = 52 ∧ z = 2 then by obtain ⟨w1, w2⟩ := k2; subst w1; subst w2; exact Eq.trans (b := (kr_readPart_6 r (F 1 2) (A 2) m (y1 + 1) G376.1 G376.2.1 G376.2.2.1 G376.2.2.2.1 G376.2.2.2.2.1 G377).2.2.1) rfl rfl else if k3 : q = 53 ∧ z = 1 then by obtain ⟨w1, w2⟩ := k3; subst w1; subst w2; exact Eq.trans (b := (kr_readPart_6 r (F 1 2) (A 2) m (y1 + 1) G376.1 G376.2.1 G376.2.2.1 G376.2.2.2.1 G376.2.2.2.2.1 G377).2.2.2.1) rfl rfl else by unfold uF; simp only [nb2 k0, nb2 k1, nb2 k2, nb2 k3, cond_false]) (funext fun q => if k0 : q = 58 then by subst k0; exact Eq.trans (b := (kr_readPart_6 r (F 1 2) (A 2) m (y1 + 1) G376.1 G376.2.1 G376.2.2.1 G376.2.2.2.1 G376.2.2.2.2.1 G377).2.2.2.2.1) rfl rfl else if k1 : q = 59 then by subst k1; exact Eq.trans (b := (kr_readPart_6 r (F 1 2) (A 2) m (y1 + 1) G376.1 G376.2.1 G376.2.2.1 G376.2.2.2.1 G376.2.2.2.2.1 G377).2.2.2.2.2) rfl rfl else by unfold uA; simp only [nb1 k0, nb1 k1, cond_false]) rfl (K q1 q2))
noncomputable def kr_readPart (r : Int32 → Int32 → Int32 → Int32 → Int32 → List Int32 → List Int32 → List Int32 → (Int32 × Int32 × Int32 × Int32 × List Int32 × List Int32)) (f1_2 : Int32) (f1_3 : Int32) (f1_4 : Int32) (f52_2 : Int32) (f53_1 : Int32) (a2 : List Int32) (a58 : List Int32) (a59 : List Int32) : Int32 × Int32 × Int32 × Int32 × List Int32 × List Int32 := (lt (r f1_2 f1_3 f1_4 f52_2 f53_1 a2 a58 a59) (fun g373 => (lt (kr_readPart_6 r f1_2 a2 240 0 g373.1 g373.2.1 g373.2.2.1 g373.2.2.2.1 g373.2.2.2.2.1 g373.2.2.2.2.2) (fun g378 => (g378.1, g378.2.1, g378.2.2.1, g378.2.2.2.1, g378.2.2.2.2.1, g378.2.2.2.2.2)))))
