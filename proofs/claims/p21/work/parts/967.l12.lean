/-! lifts, printed by genlift.py: 12 -/
theorem t_kr_opens {f D : Nat} {F : Nat → Nat → Int32} {A : Nat → List Int32} {L : Nat → List Int64} {Q : Option Value → sm_H → Prop} {x1 : Int32} (K : Q (some (.int ((kr_opens (F 1 2) (F 1 3) (F 1 4) (F 52 2) (A 2) x1).1))) (hz (uF (uF (uF F 1 3 ((kr_opens (F 1 2) (F 1 3) (F 1 4) (F 52 2) (A 2) x1).2.1)) 1 4 ((kr_opens (F 1 2) (F 1 3) (F 1 4) (F 52 2) (A 2) x1).2.2.1)) 52 2 ((kr_opens (F 1 2) (F 1 3) (F 1 4) (F 52 2) (A 2) x1).2.2.2)) A L)) : wl_M f D 30 [.ref 52, .int x1] (hz F A L) Q := by
  generalize hT : (kr_opens (F 1 2) (F 1 3) (F 1 4) (F 52 2) (A 2) x1) = T at K
  have hE : T = (if (F 1 4) = 0 then (lt (kx_sign (F 1 2) (F 1 3) (A 2)) (fun g306 => (if g306 = x1 then (if (F 52 2).toInt < 6 then (lt (kx_pass (F 1 2) (F 1 3) (F 1 4) (A 2) x1) (fun g308 => (if g308.2 = 0 then (1, g308.1, g308.2, ((F 52 2) + 1)) else (0, g308.1, g308.2, (F 52 2))))) else (lt (kx_fail (F 1 3) (F 1 4) 5) (fun g309 => (lt (kx_pass (F 1 2) (F 1 3) g309.2 (A 2) x1) (fun g310 => (if g310.2 = 0 then (1, g310.1, g310.2, ((F 52 2) + 1)) else (0, g310.1, g310.2, (F 52 2)))))))) else (lt (kx_pass (F 1 2) (F 1 3) (F 1 4) (A 2) x1) (fun g307 => (if g307.2 = 0 then (1, g307.1, g307.2, ((F 52 2) + 1)) else (0, g307.1, g307.2, (F 52 2)))))))) else (lt (kx_pass (F 1 2) (F 1 3) (F 1 4) (A 2) x1) (fun g305 => (if g305.2 = 0 then (1, g305.1, g305.2, ((F 52 2) + 1)) else (0, g305.1, g305.2, (F 52 2)))))) := hT.symm
  clear hT
  refine w_m (E := mm30) rfl ?_
  show wl_E f f (D - 1) mm30.2.2.2.2.2.2.2.2 0 [some (.ref 52), some (.int x1)] [] (hz F A L) Q
  refine w_n 3 (pc1 := 7) (ls1 := [some (.ref 52), some (.int x1)]) (st1 := [.int (F 1 4)]) (hp1 := (hz F A L)) rfl ?_
  refine w_zne (p3 := 10) rfl rfl (fun h => ?_) (fun h => ?_)
  · have h1 : ¬ (F 1 4) = 0 := h
    rw [if_neg h1] at hE
    refine w_n 3 (pc1 := 44) (ls1 := [some (.ref 52), some (.int x1)]) (st1 := [.int x1, .ref 1]) (hp1 := (hz F A L)) rfl ?_
    refine w_c rfl rfl (t_kx_pass ?_)
    show wl_E f _ _ mm30.2.2.2.2.2.2.2.2 47 [some (.ref 52), some (.int x1)] [] (hz (uF (uF F 1 3 (kx_pass (F 1 2) (F 1 3) (F 1 4) (A 2) x1).1) 1 4 (kx_pass (F 1 2) (F 1 3) (F 1 4) (A 2) x1).2) A L) _
    generalize hG305 : (kx_pass (F 1 2) (F 1 3) (F 1 4) (A 2) x1) = G305 at hE ⊢
    replace hE := hE.trans (lt_e _ _)
    refine w_n 3 (pc1 := 54) (ls1 := [some (.ref 52), some (.int x1)]) (st1 := [.int G305.2]) (hp1 := (hz (uF (uF F 1 3 G305.1) 1 4 G305.2) A L)) rfl ?_
    refine w_zeq (p3 := 57) rfl rfl (fun h => ?_) (fun h => ?_)
    · have h2 : G305.2 = 0 := h
      rw [if_pos h2] at hE
      refine w_n 5 (pc1 := 66) (ls1 := [some (.ref 52), some (.int x1)]) (st1 := [.int ((F 52 2) + 1), .ref 52]) (hp1 := (hz (uF (uF F 1 3 G305.1) 1 4 G305.2) A L)) rfl ?_
      refine w_pf (k := 52) (fs := hz_f52 (uF (uF F 1 3 G305.1) 1 4 G305.2)) (hp1 := (hz (uF (uF (uF F 1 3 G305.1) 1 4 G305.2) 52 2 ((F 52 2) + 1)) A L)) rfl rfl rfl (hz_p52_2 _) ?_
      refine w_n 1 (pc1 := 70) (ls1 := [some (.ref 52), some (.int x1)]) (st1 := [.int 1]) (hp1 := (hz (uF (uF (uF F 1 3 G305.1) 1 4 G305.2) 52 2 ((F 52 2) + 1)) A L)) rfl ?_
      subst T
      exact w_ri rfl (cvQ rfl rfl rfl K)
    · have h2 : ¬ G305.2 = 0 := h
      rw [if_neg h2] at hE
      refine w_n 1 (pc1 := 58) (ls1 := [some (.ref 52), some (.int x1)]) (st1 := [.int 0]) (hp1 := (hz (uF (uF F 1 3 G305.1) 1 4 G305.2) A L)) rfl ?_
      subst T
      exact w_ri rfl (cvQ (funext fun q => funext fun z => if k0 : q = 1 ∧ z = 3 then by obtain ⟨w1, w2⟩ := k0; subst w1; subst w2; exact Eq.trans (b := G305.1) rfl rfl else if k1 : q = 1 ∧ z = 4 then by obtain ⟨w1, w2⟩ := k1; subst w1; subst w2; exact Eq.trans (b := G305.2) rfl rfl else if k2 : q = 52 ∧ z = 2 then by obtain ⟨w1, w2⟩ := k2; subst w1; subst w2; exact Eq.trans (b := (F 52 2)) rfl rfl else by unfold uF; simp only [nb2 k0, nb2 k1, nb2 k2, cond_false]) rfl rfl K)
  · have h1 : (F 1 4) = 0 := h
    rw [if_pos h1] at hE
    refine w_n 2 (pc1 := 14) (ls1 := [some (.ref 52), some (.int x1)]) (st1 := [.ref 1]) (hp1 := (hz F A L)) rfl ?_
    refine w_c rfl rfl (t_kx_sign ?_)
    show wl_E f _ _ mm30.2.2.2.2.2.2.2.2 17 [some (.ref 52), some (.int x1)] [.int (kx_sign (F 1 2) (F 1 3) (A 2))] (hz F A L) _
    generalize hG306 : (kx_sign (F 1 2) (F 1 3) (A 2)) = G306 at hE ⊢
    replace hE := hE.trans (lt_e _ _)
    refine w_n 1 (pc1 := 18) (ls1 := [some (.ref 52), some (.int x1)]) (st1 := [.int x1, .int G306]) (hp1 := (hz F A L)) rfl ?_
    refine w_ne (p3 := 21) rfl rfl (fun h => ?_) (fun h => ?_)
    · have h3 : ¬ G306 = x1 := h
      rw [if_neg h3] at hE
      refine w_n 3 (pc1 := 44) (ls1 := [some (.ref 52), some (.int x1)]) (st1 := [.int x1, .ref 1]) (hp1 := (hz F A L)) rfl ?_
      refine w_c rfl rfl (t_kx_pass ?_)
      show wl_E f _ _ mm30.2.2.2.2.2.2.2.2 47 [some (.ref 52), some (.int x1)] [] (hz (uF (uF F 1 3 (kx_pass (F 1 2) (F 1 3) (F 1 4) (A 2) x1).1) 1 4 (kx_pass (F 1 2) (F 1 3) (F 1 4) (A 2) x1).2) A L) _
      generalize hG307 : (kx_pass (F 1 2) (F 1 3) (F 1 4) (A 2) x1) = G307 at hE ⊢
      replace hE := hE.trans (lt_e _ _)
      refine w_n 3 (pc1 := 54) (ls1 := [some (.ref 52), some (.int x1)]) (st1 := [.int G307.2]) (hp1 := (hz (uF (uF F 1 3 G307.1) 1 4 G307.2) A L)) rfl ?_
      refine w_zeq (p3 := 57) rfl rfl (fun h => ?_) (fun h => ?_)
      · have h4 : G307.2 = 0 := h
        rw [if_pos h4] at hE
        refine w_n 5 (pc1 := 66) (ls1 := [some (.ref 52), some (.int x1)]) (st1 := [.int ((F 52 2) + 1), .ref 52]) (hp1 := (hz (uF (uF F 1 3 G307.1) 1 4 G307.2) A L)) rfl ?_
        refine w_pf (k := 52) (fs := hz_f52 (uF (uF F 1 3 G307.1) 1 4 G307.2)) (hp1 := (hz (uF (uF (uF F 1 3 G307.1) 1 4 G307.2) 52 2 ((F 52 2) + 1)) A L)) rfl rfl rfl (hz_p52_2 _) ?_
        refine w_n 1 (pc1 := 70) (ls1 := [some (.ref 52), some (.int x1)]) (st1 := [.int 1]) (hp1 := (hz (uF (uF (uF F 1 3 G307.1) 1 4 G307.2) 52 2 ((F 52 2) + 1)) A L)) rfl ?_
        subst T
        exact w_ri rfl (cvQ rfl rfl rfl K)
      · have h4 : ¬ G307.2 = 0 := h
        rw [if_neg h4] at hE
        refine w_n 1 (pc1 := 58) (ls1 := [some (.ref 52), some (.int x1)]) (st1 := [.int 0]) (hp1 := (hz (uF (uF F 1 3 G307.1) 1 4 G307.2) A L)) rfl ?_
        subst T
        exact w_ri rfl (cvQ (funext fun q => funext fun z => if k0 : q = 1 ∧ z = 3 then by obtain ⟨w1, w2⟩ := k0; subst w1; subst w2; exact Eq.trans (b := G307.1) rfl rfl else if k1 : q = 1 ∧ z = 4 then by obtain ⟨w1, w2⟩ := k1; subst w1; subst w2; exact Eq.trans (b := G307.2) rfl rfl else if k2 : q = 52 ∧ z = 2 then by obtain ⟨w1, w2⟩ := k2; subst w1; subst w2; exact Eq.trans (b := (F 52 2)) rfl rfl else by unfold uF; simp only [nb2 k0, nb2 k1, nb2 k2, cond_false]) rfl rfl K)
    · have h3 : G306 = x1 := h
      rw [if_pos h3] at hE
      refine w_n 3 (pc1 := 27) (ls1 := [some (.ref 52), some (.int x1)]) (st1 := [.int 6, .int (F 52 2)]) (hp1 := (hz F A L)) rfl ?_
      refine w_lt (p3 := 30) rfl rfl (fun h => ?_) (fun h => ?_)
      · have h5 : (F 52 2).toInt < 6 := h
        rw [if_pos h5] at hE
        refine w_n 3 (pc1 := 44) (ls1 := [some (.ref 52), some (.int x1)]) (st1 := [.int x1, .ref 1]) (hp1 := (hz F A L)) rfl ?_
        refine w_c rfl rfl (t_kx_pass ?_)
        show wl_E f _ _ mm30.2.2.2.2.2.2.2.2 47 [some (.ref 52), some (.int x1)] [] (hz (uF (uF F 1 3 (kx_pass (F 1 2) (F 1 3) (F 1 4) (A 2) x1).1) 1 4 (kx_pass (F 1 2) (F 1 3) (F 1 4) (A 2) x1).2) A L) _
        generalize hG308 : (kx_pass (F 1 2) (F 1 3) (F 1 4) (A 2) x1) = G308 at hE ⊢
        replace hE := hE.trans (lt_e _ _)
        refine w_n 3 (pc1 := 54) (ls1 := [some (.ref 52), some (.int x1)]) (st1 := [.int G308.2]) (hp1 := (hz (uF (uF F 1 3 G308.1) 1 4 G308.2) A L)) rfl ?_
        refine w_zeq (p3 := 57) rfl rfl (fun h => ?_) (fun h => ?_)
        · have h6 : G308.2 = 0 := h
          rw [if_pos h6] at hE
          refine w_n 5 (pc1 := 66) (ls1 := [some (.ref 52), some (.int x1)]) (st1 := [.int ((F 52 2) + 1), .ref 52]) (hp1 := (hz (uF (uF F 1 3 G308.1) 1 4 G308.2) A L)) rfl ?_
          refine w_pf (k := 52) (fs := hz_f52 (uF (uF F 1 3 G308.1) 1 4 G308.2)) (hp1 := (hz (uF (uF (uF F 1 3 G308.1) 1 4 G308.2) 52 2 ((F 52 2) + 1)) A L)) rfl rfl rfl (hz_p52_2 _) ?_
          refine w_n 1 (pc1 := 70) (ls1 := [some (.ref 52), some (.int x1)]) (st1 := [.int 1]) (hp1 := (hz (uF (uF (uF F 1 3 G308.1) 1 4 G308.2) 52 2 ((F 52 2) + 1)) A L)) rfl ?_
          subst T
          exact w_ri rfl (cvQ rfl rfl rfl K)
        · have h6 : ¬ G308.2 = 0 := h
          rw [if_neg h6] at hE
          refine w_n 1 (pc1 := 58) (ls1 := [some (.ref 52), some (.int x1)]) (st1 := [.int 0]) (hp1 := (hz (uF (uF F 1 3 G308.1) 1 4 G308.2) A L)) rfl ?_
          subst T
          exact w_ri rfl (cvQ (funext fun q => funext fun z => if k0 : q = 1 ∧ z = 3 then by obtain ⟨w1, w2⟩ := k0; subst w1; subst w2; exact Eq.trans (b := G308.1) rfl rfl else if k1 : q = 1 ∧ z = 4 then by obtain ⟨w1, w2⟩ := k1; subst w1; subst w2; exact Eq.trans (b := G308.2) rfl rfl else if k2 : q = 52 ∧ z = 2 then by obtain ⟨w1, w2⟩ := k2; subst w1; subst w2; exact Eq.trans (b := (F 52 2)) rfl rfl else by unfold uF; simp only [nb2 k0, nb2 k1, nb2 k2, cond_false]) rfl rfl K)
      · have h5 : 6 ≤ (F 52 2).toInt := h
        rw [if_neg (Int.not_lt.mpr h5)] at hE
        refine w_n 3 (pc1 := 35) (ls1 := [some (.ref 52), some (.int x1)]) (st1 := [.int 5, .ref 1]) (hp1 := (hz F A L)) rfl ?_
        refine w_c rfl rfl (t_kx_fail ?_)
        show wl_E f _ _ mm30.2.2.2.2.2.2.2.2 38 [some (.ref 52), some (.int x1)] [.int (kx_fail (F 1 3) (F 1 4) 5).1] (hz (uF F 1 4 (kx_fail (F 1 3) (F 1 4) 5).2) A L) _
        generalize hG309 : (kx_fail (F 1 3) (F 1 4) 5) = G309 at hE ⊢
        replace hE := hE.trans (lt_e _ _)
        refine w_n 4 (pc1 := 44) (ls1 := [some (.ref 52), some (.int x1)]) (st1 := [.int x1, .ref 1]) (hp1 := (hz (uF F 1 4 G309.2) A L)) rfl ?_
        refine w_c rfl rfl (t_kx_pass ?_)
        show wl_E f _ _ mm30.2.2.2.2.2.2.2.2 47 [some (.ref 52), some (.int x1)] [] (hz (uF (uF (uF F 1 4 G309.2) 1 3 (kx_pass (F 1 2) (F 1 3) G309.2 (A 2) x1).1) 1 4 (kx_pass (F 1 2) (F 1 3) G309.2 (A 2) x1).2) A L) _
        generalize hG310 : (kx_pass (F 1 2) (F 1 3) G309.2 (A 2) x1) = G310 at hE ⊢
        replace hE := hE.trans (lt_e _ _)
        refine w_n 3 (pc1 := 54) (ls1 := [some (.ref 52), some (.int x1)]) (st1 := [.int G310.2]) (hp1 := (hz (uF (uF (uF F 1 4 G309.2) 1 3 G310.1) 1 4 G310.2) A L)) rfl ?_
        refine w_zeq (p3 := 57) rfl rfl (fun h => ?_) (fun h => ?_)
        · have h7 : G310.2 = 0 := h
          rw [if_pos h7] at hE
          refine w_n 5 (pc1 := 66) (ls1 := [some (.ref 52), some (.int x1)]) (st1 := [.int ((F 52 2) + 1), .ref 52]) (hp1 := (hz (uF (uF (uF F 1 4 G309.2) 1 3 G310.1) 1 4 G310.2) A L)) rfl ?_
          refine w_pf (k := 52) (fs := hz_f52 (uF (uF (uF F 1 4 G309.2) 1 3 G310.1) 1 4 G310.2)) (hp1 := (hz (uF (uF (uF (uF F 1 4 G309.2) 1 3 G310.1) 1 4 G310.2) 52 2 ((F 52 2) + 1)) A L)) rfl rfl rfl (hz_p52_2 _) ?_
          refine w_n 1 (pc1 := 70) (ls1 := [some (.ref 52), some (.int x1)]) (st1 := [.int 1]) (hp1 := (hz (uF (uF (uF (uF F 1 4 G309.2) 1 3 G310.1) 1 4 G310.2) 52 2 ((F 52 2) + 1)) A L)) rfl ?_
          subst T
          exact w_ri rfl (cvQ (funext fun q => funext fun z => if k0 : q = 1 ∧ z = 3 then by obtain ⟨w1, w2⟩ := k0; subst w1; subst w2; exact Eq.trans (b := G310.1) rfl rfl else if k1 : q = 1 ∧ z = 4 then by obtain ⟨w1, w2⟩ := k1; subst w1; subst w2; exact Eq.trans (b := G310.2) rfl rfl else if k2 : q = 52 ∧ z = 2 then by obtain ⟨w1, w2⟩ := k2; subst w1; subst w2; exact Eq.trans (b := ((F 52 2) + 1)) rfl rfl else by unfold uF; simp only [nb2 k0, nb2 k1, nb2 k2, cond_false]) rfl rfl K)
        · have h7 : ¬ G310.2 = 0 := h
          rw [if_neg h7] at hE
          refine w_n 1 (pc1 := 58) (ls1 := [some (.ref 52), some (.int x1)]) (st1 := [.int 0]) (hp1 := (hz (uF (uF (uF F 1 4 G309.2) 1 3 G310.1) 1 4 G310.2) A L)) rfl ?_
          subst T
          exact w_ri rfl (cvQ (funext fun q => funext fun z => if k0 : q = 1 ∧ z = 3 then by obtain ⟨w1, w2⟩ := k0; subst w1; subst w2; exact Eq.trans (b := G310.1) rfl rfl else if k1 : q = 1 ∧ z = 4 then by obtain ⟨w1, w2⟩ := k1; subst w1; subst w2; exact Eq.trans (b := G310.2) rfl rfl else if k2 : q = 52 ∧ z = 2 then by obtain ⟨w1, w2⟩ := k2; subst w1; subst w2; exact Eq.trans (b := (F 52 2)) rfl rfl else by unfold uF; simp only [nb2 k0, nb2 k1, nb2 k2, cond_false]) rfl rfl K)
noncomputable def kr_readFactor (r : Int32 → Int32 → Int32 → Int32 → Int32 → List Int32 → List Int32 → List Int32 → (Int32 × Int32 × Int32 × Int32 × List Int32 × List Int32)) (f1_2 : Int32) (f1_3 : Int32) (f1_4 : Int32) (f52_2 : Int32) (f53_1 : Int32) (a2 : List Int32) (a58 : List Int32) (a59 : List Int32) : Int32 × Int32 × Int32 × Int32 × List Int32 × List Int32 := (if f1_4 = 0 then (lt (kx_sign f1_2 f1_3 a2) (fun g294 => (if g294 = 91 then (lt (kr_opens f1_2 f1_3 f1_4 f52_2 a2 91) (fun g311 => (if g311.1 = 0 then (g311.2.1, g311.2.2.1, g311.2.2.2, f53_1, a58, a59) else (lt (r f1_2 g311.2.1 g311.2.2.1 g311.2.2.2 f53_1 a2 a58 a59) (fun g312 => (lt (kx_pass f1_2 g312.1 g312.2.1 a2 93) (fun g313 => (g313.1, g313.2, (g312.2.2.1 - 1), g312.2.2.2.1, g312.2.2.2.2.1, g312.2.2.2.2.2)))))))) else (lt (kc_within g294 48 57) (fun g295 => (if g295 = 0 then (if g294 = (-1) then (lt (kx_fail f1_3 f1_4 1) (fun g298 => (f1_3, g298.2, f52_2, f53_1, a58, a59))) else (if (sx_ixF (g294.toUInt32 % 65536).toInt32 sx_b 0).toInt < 0 then (lt (kx_fail f1_3 f1_4 1) (fun g297 => (f1_3, g297.2, f52_2, f53_1, a58, a59))) else (lt (kl_add_53 f53_1 a58 a59 103 (sx_ixF (g294.toUInt32 % 65536).toInt32 sx_b 0)) (fun g296 => ((f1_3 + 1), f1_4, f52_2, g296.2.1, g296.2.2.1, g296.2.2.2))))) else (lt (kr_readNumber f1_2 f1_3 f1_4 f53_1 a2 a58 a59) (fun g304 => (g304.1, g304.2.1, f52_2, g304.2.2.1, g304.2.2.2.1, g304.2.2.2.2))))))))) else (f1_3, f1_4, f52_2, f53_1, a58, a59))
theorem t_kr_readFactor {f D : Nat} {n : Nat} {r : Int32 → Int32 → Int32 → Int32 → Int32 → List Int32 → List Int32 → List Int32 → (Int32 × Int32 × Int32 × Int32 × List Int32 × List Int32)} (hr : ∀ (D : Nat) {F : Nat → Nat → Int32} {A : Nat → List Int32} {L : Nat → List Int64} {Q : Option Value → sm_H → Prop}, D ≤ n → (Q none (hz (uF (uF (uF (uF F 1 3 ((r (F 1 2) (F 1 3) (F 1 4) (F 52 2) (F 53 1) (A 2) (A 58) (A 59)).1)) 1 4 ((r (F 1 2) (F 1 3) (F 1 4) (F 52 2) (F 53 1) (A 2) (A 58) (A 59)).2.1)) 52 2 ((r (F 1 2) (F 1 3) (F 1 4) (F 52 2) (F 53 1) (A 2) (A 58) (A 59)).2.2.1)) 53 1 ((r (F 1 2) (F 1 3) (F 1 4) (F 52 2) (F 53 1) (A 2) (A 58) (A 59)).2.2.2.1)) (uA (uA A 58 ((r (F 1 2) (F 1 3) (F 1 4) (F 52 2) (F 53 1) (A 2) (A 58) (A 59)).2.2.2.2.1)) 59 ((r (F 1 2) (F 1 3) (F 1 4) (F 52 2) (F 53 1) (A 2) (A 58) (A 59)).2.2.2.2.2)) L)) → wl_M f D 27 [.ref 52] (hz F A L) Q) (hnf : n ≤ f) {F : Nat → Nat → Int32} {A : Nat → List Int32} {L : Nat → List Int64} {Q : Option Value → sm_H → Prop} (hn : D ≤ n) (K : Q none (hz (uF (uF (uF (uF F 1 3 ((kr_readFactor r (F 1 2) (F 1 3) (F 1 4) (F 52 2) (F 53 1) (A 2) (A 58) (A 59)).1)) 1 4 ((kr_readFactor r (F 1 2) (F 1 3) (F 1 4) (F 52 2) (F 53 1) (A 2) (A 58) (A 59)).2.1)) 52 2 ((kr_readFactor r (F 1 2) (F 1 3) (F 1 4) (F 52 2) (F 53 1) (A 2) (A 58) (A 59)).2.2.1)) 53 1 ((kr_readFactor r (F 1 2) (F 1 3) (F 1 4) (F 52 2) (F 53 1) (A 2) (A 58) (A 59)).2.2.2.1)) (uA (uA A 58 ((kr_readFactor r (F 1 2) (F 1 3) (F 1 4) (F 52 2) (F 53 1) (A 2) (A 58) (A 59)).2.2.2.2.1)) 59 ((kr_readFactor r (F 1 2) (F 1 3) (F 1 4) (F 52 2) (F 53 1) (A 2) (A 58) (A 59)).2.2.2.2.2)) L)) : wl_M f D 29 [.ref 52] (hz F A L) Q := by
  generalize hT : (kr_readFactor r (F 1 2) (F 1 3) (F 1 4) (F 52 2) (F 53 1) (A 2) (A 58) (A 59)) = T at K
  have hE : T = (if (F 1 4) = 0 then (lt (kx_sign (F 1 2) (F 1 3) (A 2)) (fun g294 => (if g294 = 91 then (lt (kr_opens (F 1 2) (F 1 3) (F 1 4) (F 52 2) (A 2) 91) (fun g311 => (if g311.1 = 0 then (g311.2.1, g311.2.2.1, g311.2.2.2, (F 53 1), (A 58), (A 59)) else (lt (r (F 1 2) g311.2.1 g311.2.2.1 g311.2.2.2 (F 53 1) (A 2) (A 58) (A 59)) (fun g312 => (lt (kx_pass (F 1 2) g312.1 g312.2.1 (A 2) 93) (fun g313 => (g313.1, g313.2, (g312.2.2.1 - 1), g312.2.2.2.1, g312.2.2.2.2.1, g312.2.2.2.2.2)))))))) else (lt (kc_within g294 48 57) (fun g295 => (if g295 = 0 then (if g294 = (-1) then (lt (kx_fail (F 1 3) (F 1 4) 1) (fun g298 => ((F 1 3), g298.2, (F 52 2), (F 53 1), (A 58), (A 59)))) else (if (sx_ixF (g294.toUInt32 % 65536).toInt32 sx_b 0).toInt < 0 then (lt (kx_fail (F 1 3) (F 1 4) 1) (fun g297 => ((F 1 3), g297.2, (F 52 2), (F 53 1), (A 58), (A 59)))) else (lt (kl_add_53 (F 53 1) (A 58) (A 59) 103 (sx_ixF (g294.toUInt32 % 65536).toInt32 sx_b 0)) (fun g296 => (((F 1 3) + 1), (F 1 4), (F 52 2), g296.2.1, g296.2.2.1, g296.2.2.2))))) else (lt (kr_readNumber (F 1 2) (F 1 3) (F 1 4) (F 53 1) (A 2) (A 58) (A 59)) (fun g304 => (g304.1, g304.2.1, (F 52 2), g304.2.2.1, g304.2.2.2.1, g304.2.2.2.2))))))))) else ((F 1 3), (F 1 4), (F 52 2), (F 53 1), (A 58), (A 59))) := hT.symm
  clear hT
  refine w_m (E := mm29) rfl ?_
  show wl_E f f (D - 1) mm29.2.2.2.2.2.2.2.2 0 [some (.ref 52), none, none] [] (hz F A L) Q
  refine w_n 3 (pc1 := 7) (ls1 := [some (.ref 52), none, none]) (st1 := [.int (F 1 4)]) (hp1 := (hz F A L)) rfl ?_
  refine w_zeq (p3 := 10) rfl rfl (fun h => ?_) (fun h => ?_)
  · have h1 : (F 1 4) = 0 := h
    rw [if_pos h1] at hE
    refine w_n 2 (pc1 := 15) (ls1 := [some (.ref 52), none, none]) (st1 := [.ref 1]) (hp1 := (hz F A L)) rfl ?_
    refine w_c rfl rfl (t_kx_sign ?_)
    show wl_E f _ _ mm29.2.2.2.2.2.2.2.2 18 [some (.ref 52), none, none] [.int (kx_sign (F 1 2) (F 1 3) (A 2))] (hz F A L) _
    generalize hG294 : (kx_sign (F 1 2) (F 1 3) (A 2)) = G294 at hE ⊢
    replace hE := hE.trans (lt_e _ _)
    refine w_n 3 (pc1 := 22) (ls1 := [some (.ref 52), some (.int G294), none]) (st1 := [.int 91, .int G294]) (hp1 := (hz F A L)) rfl ?_
    refine w_ne (p3 := 25) rfl rfl (fun h => ?_) (fun h => ?_)
    · have h2 : ¬ G294 = 91 := h
      rw [if_neg h2] at hE
      refine w_n 3 (pc1 := 66) (ls1 := [some (.ref 52), some (.int G294), none]) (st1 := [.int 57, .int 48, .int G294]) (hp1 := (hz F A L)) rfl ?_
      refine w_c rfl rfl (t_kc_within ?_)
      show wl_E f _ _ mm29.2.2.2.2.2.2.2.2 69 [some (.ref 52), some (.int G294), none] [.int (kc_within G294 48 57)] (hz F A L) _
      generalize hG295 : (kc_within G294 48 57) = G295 at hE ⊢
      replace hE := hE.trans (lt_e _ _)
      refine w_zeq (p3 := 72) rfl rfl (fun h => ?_) (fun h => ?_)
      · have h3 : G295 = 0 := h
        rw [if_pos h3] at hE
        refine w_n 2 (pc1 := 81) (ls1 := [some (.ref 52), some (.int G294), none]) (st1 := [.int (-1), .int G294]) (hp1 := (hz F A L)) rfl ?_
        refine w_ne (p3 := 84) rfl rfl (fun h => ?_) (fun h => ?_)
        · have h4 : ¬ G294 = (-1) := h
          rw [if_neg h4] at hE
          refine w_io (x := G294) rfl rfl rfl ?_
          refine w_n 2 (pc1 := 97) (ls1 := [some (.ref 52), some (.int G294), some (.int (sx_ixF (G294.toUInt32 % 65536).toInt32 sx_b 0))]) (st1 := [.int (sx_ixF (G294.toUInt32 % 65536).toInt32 sx_b 0)]) (hp1 := (hz F A L)) rfl ?_
          refine w_zge (p3 := 100) rfl rfl (fun h => ?_) (fun h => ?_)
          · have h5 : 0 ≤ (sx_ixF (G294.toUInt32 % 65536).toInt32 sx_b 0).toInt := h
            rw [if_neg (Int.not_lt.mpr h5)] at hE
            refine w_n 6 (pc1 := 120) (ls1 := [some (.ref 52), some (.int G294), some (.int (sx_ixF (G294.toUInt32 % 65536).toInt32 sx_b 0))]) (st1 := [.int ((F 1 3) + 1), .ref 1]) (hp1 := (hz F A L)) rfl ?_
            refine w_pf (k := 1) (fs := hz_f1 F) (hp1 := (hz (uF F 1 3 ((F 1 3) + 1)) A L)) rfl rfl rfl (hz_p1_3 _) ?_
            refine w_n 4 (pc1 := 130) (ls1 := [some (.ref 52), some (.int G294), some (.int (sx_ixF (G294.toUInt32 % 65536).toInt32 sx_b 0))]) (st1 := [.int (sx_ixF (G294.toUInt32 % 65536).toInt32 sx_b 0), .int 103, .ref 53]) (hp1 := (hz (uF F 1 3 ((F 1 3) + 1)) A L)) rfl ?_
            refine w_c rfl rfl (t_kl_add_53 ?_)
            show wl_E f _ _ mm29.2.2.2.2.2.2.2.2 133 [some (.ref 52), some (.int G294), some (.int (sx_ixF (G294.toUInt32 % 65536).toInt32 sx_b 0))] [.int (kl_add_53 (F 53 1) (A 58) (A 59) 103 (sx_ixF (G294.toUInt32 % 65536).toInt32 sx_b 0)).1] (hz (uF (uF F 1 3 ((F 1 3) + 1)) 53 1 (kl_add_53 (F 53 1) (A 58) (A 59) 103 (sx_ixF (G294.toUInt32 % 65536).toInt32 sx_b 0)).2.1) (uA (uA A 58 (kl_add_53 (F 53 1) (A 58) (A 59) 103 (sx_ixF (G294.toUInt32 % 65536).toInt32 sx_b 0)).2.2.1) 59 (kl_add_53 (F 53 1) (A 58) (A 59) 103 (sx_ixF (G294.toUInt32 % 65536).toInt32 sx_b 0)).2.2.2) L) _
            generalize hG296 : (kl_add_53 (F 53 1) (A 58) (A 59) 103 (sx_ixF (G294.toUInt32 % 65536).toInt32 sx_b 0)) = G296 at hE ⊢
            replace hE := hE.trans (lt_e _ _)
            refine w_n 1 (pc1 := 134) (ls1 := [some (.ref 52), some (.int G294), some (.int (sx_ixF (G294.toUInt32 % 65536).toInt32 sx_b 0))]) (st1 := []) (hp1 := (hz (uF (uF F 1 3 ((F 1 3) + 1)) 53 1 G296.2.1) (uA (uA A 58 G296.2.2.1) 59 G296.2.2.2) L)) rfl ?_
            subst T
            exact w_r rfl rfl (cvQ (funext fun q => funext fun z => if k0 : q = 1 ∧ z = 3 then by obtain ⟨w1, w2⟩ := k0; subst w1; subst w2; exact Eq.trans (b := ((F 1 3) + 1)) rfl rfl else if k1 : q = 1 ∧ z = 4 then by obtain ⟨w1, w2⟩ := k1; subst w1; subst w2; exact Eq.trans (b := (F 1 4)) rfl rfl else if k2 : q = 52 ∧ z = 2 then by obtain ⟨w1, w2⟩ := k2; subst w1; subst w2; exact Eq.trans (b := (F 52 2)) rfl rfl else if k3 : q = 53 ∧ z = 1 then by obtain ⟨w1, w2⟩ := k3; subst w1; subst w2; exact Eq.trans (b := G296.2.1) rfl rfl else by unfold uF; simp only [nb2 k0, nb2 k1, nb2 k2, nb2 k3, cond_false]) rfl rfl K)
          · have h5 : (sx_ixF (G294.toUInt32 % 65536).toInt32 sx_b 0).toInt < 0 := h
            rw [if_pos h5] at hE
            refine w_n 3 (pc1 := 105) (ls1 := [some (.ref 52), some (.int G294), some (.int (sx_ixF (G294.toUInt32 % 65536).toInt32 sx_b 0))]) (st1 := [.int 1, .ref 1]) (hp1 := (hz F A L)) rfl ?_
            refine w_c rfl rfl (t_kx_fail ?_)
            show wl_E f _ _ mm29.2.2.2.2.2.2.2.2 108 [some (.ref 52), some (.int G294), some (.int (sx_ixF (G294.toUInt32 % 65536).toInt32 sx_b 0))] [.int (kx_fail (F 1 3) (F 1 4) 1).1] (hz (uF F 1 4 (kx_fail (F 1 3) (F 1 4) 1).2) A L) _
            generalize hG297 : (kx_fail (F 1 3) (F 1 4) 1) = G297 at hE ⊢
            replace hE := hE.trans (lt_e _ _)
            refine w_n 1 (pc1 := 109) (ls1 := [some (.ref 52), some (.int G294), some (.int (sx_ixF (G294.toUInt32 % 65536).toInt32 sx_b 0))]) (st1 := []) (hp1 := (hz (uF F 1 4 G297.2) A L)) rfl ?_
            subst T
            exact w_r rfl rfl (cvQ (funext fun q => funext fun z => if k0 : q = 1 ∧ z = 3 then by obtain ⟨w1, w2⟩ := k0; subst w1; subst w2; exact Eq.trans (b := (F 1 3)) rfl rfl else if k1 : q = 1 ∧ z = 4 then by obtain ⟨w1, w2⟩ := k1; subst w1; subst w2; exact Eq.trans (b := G297.2) rfl rfl else if k2 : q = 52 ∧ z = 2 then by obtain ⟨w1, w2⟩ := k2; subst w1; subst w2; exact Eq.trans (b := (F 52 2)) rfl rfl else if k3 : q = 53 ∧ z = 1 then by obtain ⟨w1, w2⟩ := k3; subst w1; subst w2; exact Eq.trans (b := (F 53 1)) rfl rfl else by unfold uF; simp only [nb2 k0, nb2 k1, nb2 k2, nb2 k3, cond_false]) (funext fun q => if k0 : q = 58 then by subst k0; exact Eq.trans (b := (A 58)) rfl rfl else if k1 : q = 59 then by subst k1; exact Eq.trans (b := (A 59)) rfl rfl else by unfold uA; simp only [nb1 k0, nb1 k1, cond_false]) rfl K)
        · have h4 : G294 = (-1) := h
          rw [if_pos h4] at hE
          refine w_n 4 (pc1 := 97) (ls1 := [some (.ref 52), some (.int G294), some (.int (-1))]) (st1 := [.int (-1)]) (hp1 := (hz F A L)) rfl ?_
          refine w_zge (p3 := 100) rfl rfl (fun h => absurd h (by decide)) (fun _ => ?_)
          refine w_n 3 (pc1 := 105) (ls1 := [some (.ref 52), some (.int G294), some (.int (-1))]) (st1 := [.int 1, .ref 1]) (hp1 := (hz F A L)) rfl ?_
          refine w_c rfl rfl (t_kx_fail ?_)
          show wl_E f _ _ mm29.2.2.2.2.2.2.2.2 108 [some (.ref 52), some (.int G294), some (.int (-1))] [.int (kx_fail (F 1 3) (F 1 4) 1).1] (hz (uF F 1 4 (kx_fail (F 1 3) (F 1 4) 1).2) A L) _
          generalize hG298 : (kx_fail (F 1 3) (F 1 4) 1) = G298 at hE ⊢
          replace hE := hE.trans (lt_e _ _)
          refine w_n 1 (pc1 := 109) (ls1 := [some (.ref 52), some (.int G294), some (.int (-1))]) (st1 := []) (hp1 := (hz (uF F 1 4 G298.2) A L)) rfl ?_
          subst T
          exact w_r rfl rfl (cvQ (funext fun q => funext fun z => if k0 : q = 1 ∧ z = 3 then by obtain ⟨w1, w2⟩ := k0; subst w1; subst w2; exact Eq.trans (b := (F 1 3)) rfl rfl else if k1 : q = 1 ∧ z = 4 then by obtain ⟨w1, w2⟩ := k1; subst w1; subst w2; exact Eq.trans (b := G298.2) rfl rfl else if k2 : q = 52 ∧ z = 2 then by obtain ⟨w1, w2⟩ := k2; subst w1; subst w2; exact Eq.trans (b := (F 52 2)) rfl rfl else if k3 : q = 53 ∧ z = 1 then by obtain ⟨w1, w2⟩ := k3; subst w1; subst w2; exact Eq.trans (b := (F 53 1)) rfl rfl else by unfold uF; simp only [nb2 k0, nb2 k1, nb2 k2, nb2 k3, cond_false]) (funext fun q => if k0 : q = 58 then by subst k0; exact Eq.trans (b := (A 58)) rfl rfl else if k1 : q = 59 then by subst k1; exact Eq.trans (b := (A 59)) rfl rfl else by unfold uA; simp only [nb1 k0, nb1 k1, cond_false]) rfl K)
      · have h3 : ¬ G295 = 0 := h
        rw [if_neg h3] at hE
        refine w_n 1 (pc1 := 73) (ls1 := [some (.ref 52), some (.int G294), none]) (st1 := [.ref 52]) (hp1 := (hz F A L)) rfl ?_
        refine w_c rfl rfl (t_kr_readNumber ?_)
        show wl_E f _ _ mm29.2.2.2.2.2.2.2.2 76 [some (.ref 52), some (.int G294), none] [] (hz (uF (uF (uF F 1 3 (kr_readNumber (F 1 2) (F 1 3) (F 1 4) (F 53 1) (A 2) (A 58) (A 59)).1) 1 4 (kr_readNumber (F 1 2) (F 1 3) (F 1 4) (F 53 1) (A 2) (A 58) (A 59)).2.1) 53 1 (kr_readNumber (F 1 2) (F 1 3) (F 1 4) (F 53 1) (A 2) (A 58) (A 59)).2.2.1) (uA (uA A 58 (kr_readNumber (F 1 2) (F 1 3) (F 1 4) (F 53 1) (A 2) (A 58) (A 59)).2.2.2.1) 59 (kr_readNumber (F 1 2) (F 1 3) (F 1 4) (F 53 1) (A 2) (A 58) (A 59)).2.2.2.2) L) _
        generalize hG304 : (kr_readNumber (F 1 2) (F 1 3) (F 1 4) (F 53 1) (A 2) (A 58) (A 59)) = G304 at hE ⊢
        replace hE := hE.trans (lt_e _ _)
        refine w_n 1 (pc1 := 134) (ls1 := [some (.ref 52), some (.int G294), none]) (st1 := []) (hp1 := (hz (uF (uF (uF F 1 3 G304.1) 1 4 G304.2.1) 53 1 G304.2.2.1) (uA (uA A 58 G304.2.2.2.1) 59 G304.2.2.2.2) L)) rfl ?_
        subst T
        exact w_r rfl rfl (cvQ (funext fun q => funext fun z => if k0 : q = 1 ∧ z = 3 then by obtain ⟨w1, w2⟩ := k0; subst w1; subst w2; exact Eq.trans (b := G304.1) rfl rfl else if k1 : q = 1 ∧ z = 4 then by obtain ⟨w1, w2⟩ := k1; subst w1; subst w2; exact Eq.trans (b := G304.2.1) rfl rfl else if k2 : q = 52 ∧ z = 2 then by obtain ⟨w1, w2⟩ := k2; subst w1; subst w2; exact Eq.trans (b := (F 52 2)) rfl rfl else if k3 : q = 53 ∧ z = 1 then by obtain ⟨w1, w2⟩ := k3; subst w1; subst w2; exact Eq.trans (b := G304.2.2.1) rfl rfl else by unfold uF; simp only [nb2 k0, nb2 k1, nb2 k2, nb2 k3, cond_false]) rfl rfl K)
    · have h2 : G294 = 91 := h
      rw [if_pos h2] at hE
      refine w_n 2 (pc1 := 28) (ls1 := [some (.ref 52), some (.int G294), none]) (st1 := [.int 91, .ref 52]) (hp1 := (hz F A L)) rfl ?_
      refine w_c rfl rfl (t_kr_opens ?_)
      show wl_E f _ _ mm29.2.2.2.2.2.2.2.2 31 [some (.ref 52), some (.int G294), none] [.int (kr_opens (F 1 2) (F 1 3) (F 1 4) (F 52 2) (A 2) 91).1] (hz (uF (uF (uF F 1 3 (kr_opens (F 1 2) (F 1 3) (F 1 4) (F 52 2) (A 2) 91).2.1) 1 4 (kr_opens (F 1 2) (F 1 3) (F 1 4) (F 52 2) (A 2) 91).2.2.1) 52 2 (kr_opens (F 1 2) (F 1 3) (F 1 4) (F 52 2) (A 2) 91).2.2.2) A L) _
      generalize hG311 : (kr_opens (F 1 2) (F 1 3) (F 1 4) (F 52 2) (A 2) 91) = G311 at hE ⊢
      replace hE := hE.trans (lt_e _ _)
      refine w_zne (p3 := 34) rfl rfl (fun h => ?_) (fun h => ?_)
      · have h6 : ¬ G311.1 = 0 := h
        rw [if_neg h6] at hE
        refine w_n 1 (pc1 := 36) (ls1 := [some (.ref 52), some (.int G294), none]) (st1 := [.ref 52]) (hp1 := (hz (uF (uF (uF F 1 3 G311.2.1) 1 4 G311.2.2.1) 52 2 G311.2.2.2) A L)) rfl ?_
        refine w_c rfl rfl (hr _ (by omega) ?_)
        show wl_E f _ _ mm29.2.2.2.2.2.2.2.2 39 [some (.ref 52), some (.int G294), none] [] (hz (uF (uF (uF (uF (uF (uF (uF F 1 3 G311.2.1) 1 4 G311.2.2.1) 52 2 G311.2.2.2) 1 3 (r (F 1 2) G311.2.1 G311.2.2.1 G311.2.2.2 (F 53 1) (A 2) (A 58) (A 59)).1) 1 4 (r (F 1 2) G311.2.1 G311.2.2.1 G311.2.2.2 (F 53 1) (A 2) (A 58) (A 59)).2.1) 52 2 (r (F 1 2) G311.2.1 G311.2.2.1 G311.2.2.2 (F 53 1) (A 2) (A 58) (A 59)).2.2.1) 53 1 (r (F 1 2) G311.2.1 G311.2.2.1 G311.2.2.2 (F 53 1) (A 2) (A 58) (A 59)).2.2.2.1) (uA (uA A 58 (r (F 1 2) G311.2.1 G311.2.2.1 G311.2.2.2 (F 53 1) (A 2) (A 58) (A 59)).2.2.2.2.1) 59 (r (F 1 2) G311.2.1 G311.2.2.1 G311.2.2.2 (F 53 1) (A 2) (A 58) (A 59)).2.2.2.2.2) L) _
        generalize hG312 : (r (F 1 2) G311.2.1 G311.2.2.1 G311.2.2.2 (F 53 1) (A 2) (A 58) (A 59)) = G312 at hE ⊢
        replace hE := hE.trans (lt_e _ _)
        refine w_n 3 (pc1 := 45) (ls1 := [some (.ref 52), some (.int G294), none]) (st1 := [.int 93, .ref 1]) (hp1 := (hz (uF (uF (uF (uF (uF (uF (uF F 1 3 G311.2.1) 1 4 G311.2.2.1) 52 2 G311.2.2.2) 1 3 G312.1) 1 4 G312.2.1) 52 2 G312.2.2.1) 53 1 G312.2.2.2.1) (uA (uA A 58 G312.2.2.2.2.1) 59 G312.2.2.2.2.2) L)) rfl ?_
        refine w_c rfl rfl (t_kx_pass ?_)
        show wl_E f _ _ mm29.2.2.2.2.2.2.2.2 48 [some (.ref 52), some (.int G294), none] [] (hz (uF (uF (uF (uF (uF (uF (uF (uF (uF F 1 3 G311.2.1) 1 4 G311.2.2.1) 52 2 G311.2.2.2) 1 3 G312.1) 1 4 G312.2.1) 52 2 G312.2.2.1) 53 1 G312.2.2.2.1) 1 3 (kx_pass (F 1 2) G312.1 G312.2.1 (A 2) 93).1) 1 4 (kx_pass (F 1 2) G312.1 G312.2.1 (A 2) 93).2) (uA (uA A 58 G312.2.2.2.2.1) 59 G312.2.2.2.2.2) L) _
        generalize hG313 : (kx_pass (F 1 2) G312.1 G312.2.1 (A 2) 93) = G313 at hE ⊢
        replace hE := hE.trans (lt_e _ _)
        refine w_n 5 (pc1 := 55) (ls1 := [some (.ref 52), some (.int G294), none]) (st1 := [.int (G312.2.2.1 - 1), .ref 52]) (hp1 := (hz (uF (uF (uF (uF (uF (uF (uF (uF (uF F 1 3 G311.2.1) 1 4 G311.2.2.1) 52 2 G311.2.2.2) 1 3 G312.1) 1 4 G312.2.1) 52 2 G312.2.2.1) 53 1 G312.2.2.2.1) 1 3 G313.1) 1 4 G313.2) (uA (uA A 58 G312.2.2.2.2.1) 59 G312.2.2.2.2.2) L)) rfl ?_
        refine w_pf (k := 52) (fs := hz_f52 (uF (uF (uF (uF (uF (uF (uF (uF (uF F 1 3 G311.2.1) 1 4 G311.2.2.1) 52 2 G311.2.2.2) 1 3 G312.1) 1 4 G312.2.1) 52 2 G312.2.2.1) 53 1 G312.2.2.2.1) 1 3 G313.1) 1 4 G313.2)) (hp1 := (hz (uF (uF (uF (uF (uF (uF (uF (uF (uF (uF F 1 3 G311.2.1) 1 4 G311.2.2.1) 52 2 G311.2.2.2) 1 3 G312.1) 1 4 G312.2.1) 52 2 G312.2.2.1) 53 1 G312.2.2.2.1) 1 3 G313.1) 1 4 G313.2) 52 2 (G312.2.2.1 - 1)) (uA (uA A 58 G312.2.2.2.2.1) 59 G312.2.2.2.2.2) L)) rfl rfl rfl (hz_p52_2 _) ?_
        refine w_n 1 (pc1 := 134) (ls1 := [some (.ref 52), some (.int G294), none]) (st1 := []) (hp1 := (hz (uF (uF (uF (uF (uF (uF (uF (uF (uF (uF F 1 3 G311.2.1) 1 4 G311.2.2.1) 52 2 G311.2.2.2) 1 3 G312.1) 1 4 G312.2.1) 52 2 G312.2.2.1) 53 1 G312.2.2.2.1) 1 3 G313.1) 1 4 G313.2) 52 2 (G312.2.2.1 - 1)) (uA (uA A 58 G312.2.2.2.2.1) 59 G312.2.2.2.2.2) L)) rfl ?_
        subst T
        exact w_r rfl rfl (cvQ (funext fun q => funext fun z => if k0 : q = 1 ∧ z = 3 then by obtain ⟨w1, w2⟩ := k0; subst w1; subst w2; exact Eq.trans (b := G313.1) rfl rfl else if k1 : q = 1 ∧ z = 4 then by obtain ⟨w1, w2⟩ := k1; subst w1; subst w2; exact Eq.trans (b := G313.2) rfl rfl else if k2 : q = 52 ∧ z = 2 then by obtain ⟨w1, w2⟩ := k2; subst w1; subst w2; exact Eq.trans (b := (G312.2.2.1 - 1)) rfl rfl else if k3 : q = 53 ∧ z = 1 then by obtain ⟨w1, w2⟩ := k3; subst w1; subst w2; exact Eq.trans (b := G312.2.2.2.1) rfl rfl else by unfold uF; simp only [nb2 k0, nb2 k1, nb2 k2, nb2 k3, cond_false]) rfl rfl K)
      · have h6 : G311.1 = 0 := h
        rw [if_pos h6] at hE
        subst T
        exact w_r rfl rfl (cvQ (funext fun q => funext fun z => if k0 : q = 1 ∧ z = 3 then by obtain ⟨w1, w2⟩ := k0; subst w1; subst w2; exact Eq.trans (b := G311.2.1) rfl rfl else if k1 : q = 1 ∧ z = 4 then by obtain ⟨w1, w2⟩ := k1; subst w1; subst w2; exact Eq.trans (b := G311.2.2.1) rfl rfl else if k2 : q = 52 ∧ z = 2 then by obtain ⟨w1, w2⟩ := k2; subst w1; subst w2; exact Eq.trans (b := G311.2.2.2) rfl rfl else if k3 : q = 53 ∧ z = 1 then by obtain ⟨w1, w2⟩ := k3; subst w1; subst w2; exact Eq.trans (b := (F 53 1)) rfl rfl else by unfold uF; simp only [nb2 k0, nb2 k1, nb2 k2, nb2 k3, cond_false]) (funext fun q => if k0 : q = 58 then by subst k0; exact Eq.trans (b := (A 58)) rfl rfl else if k1 : q = 59 then by subst k1; exact Eq.trans (b := (A 59)) rfl rfl else by unfold uA; simp only [nb1 k0, nb1 k1, cond_false]) rfl K)
  · have h1 : ¬ (F 1 4) = 0 := h
    rw [if_neg h1] at hE
    subst T
    exact w_r rfl rfl (cvQ (funext fun q => funext fun z => if k0 : q = 1 ∧ z = 3 then by obtain ⟨w1, w2⟩ := k0; subst w1; subst w2; exact Eq.trans (b := (F 1 3)) rfl rfl else if k1 : q = 1 ∧ z = 4 then by obtain ⟨w1, w2⟩ := k1; subst w1; subst w2; exact Eq.trans (b := (F 1 4)) rfl rfl else if k2 : q = 52 ∧ z = 2 then by obtain ⟨w1, w2⟩ := k2; subst w1; subst w2; exact Eq.trans (b := (F 52 2)) rfl rfl else if k3 : q = 53 ∧ z = 1 then by obtain ⟨w1, w2⟩ := k3; subst w1; subst w2; exact Eq.trans (b := (F 53 1)) rfl rfl else by unfold uF; simp only [nb2 k0, nb2 k1, nb2 k2, nb2 k3, cond_false]) (funext fun q => if k0 : q = 58 then by subst k0; exact Eq.trans (b := (A 58)) rfl rfl else if k1 : q = 59 then by subst k1; exact Eq.trans (b := (A 59)) rfl rfl else by unfold uA; simp only [nb1 k0, nb1 k1, cond_false]) rfl K)
noncomputable def kr_readProduct_6 (r : Int32 → Int32 → Int32 → Int32 → Int32 → List Int32 → List Int32 → List Int32 → (Int32 × Int32 × Int32 × Int32 × List Int32 × List Int32)) (f1_2 : Int32) (a2 : List Int32)  : Nat → Int32 → Int32 → Int32 → Int32 → Int32 → List Int32 → List Int32 → Int32 × Int32 × Int32 × Int32 × List Int32 × List Int32
  | 0, _, f1_3, f1_4, f52_2, f53_1, a58, a59 => (f1_3, f1_4, f52_2, f53_1, a58, a59)
  | m + 1, y1, f1_3, f1_4, f52_2, f53_1, a58, a59 => (lt (kx_stands f1_2 f1_3 f1_4 a2 42 47) (fun g315 => (if g315 = 0 then (lt (kx_stands f1_2 f1_3 f1_4 a2 37 37) (fun g319 => (if g319 = 0 then (f1_3, f1_4, f52_2, f53_1, a58, a59) else (lt (kx_sign f1_2 f1_3 a2) (fun g320 => (lt (kr_readFactor r f1_2 (f1_3 + 1) f1_4 f52_2 f53_1 a2 a58 a59) (fun g321 => (lt (kl_add_53 g321.2.2.2.1 g321.2.2.2.2.1 g321.2.2.2.2.2 g320 0) (fun g322 => (kr_readProduct_6 r f1_2 a2 m (y1 + 1) g321.1 g321.2.1 g321.2.2.1 g322.2.1 g322.2.2.1 g322.2.2.2)))))))))) else (lt (kx_sign f1_2 f1_3 a2) (fun g316 => (lt (kr_readFactor r f1_2 (f1_3 + 1) f1_4 f52_2 f53_1 a2 a58 a59) (fun g317 => (lt (kl_add_53 g317.2.2.2.1 g317.2.2.2.2.1 g317.2.2.2.2.2 g316 0) (fun g318 => (kr_readProduct_6 r f1_2 a2 m (y1 + 1) g317.1 g317.2.1 g317.2.2.1 g318.2.1 g318.2.2.1 g318.2.2.2))))))))))
theorem t_kr_readProduct_6 {f : Nat} {n : Nat} {r : Int32 → Int32 → Int32 → Int32 → Int32 → List Int32 → List Int32 → List Int32 → (Int32 × Int32 × Int32 × Int32 × List Int32 × List Int32)} (hr : ∀ (D : Nat) {F : Nat → Nat → Int32} {A : Nat → List Int32} {L : Nat → List Int64} {Q : Option Value → sm_H → Prop}, D ≤ n → (Q none (hz (uF (uF (uF (uF F 1 3 ((r (F 1 2) (F 1 3) (F 1 4) (F 52 2) (F 53 1) (A 2) (A 58) (A 59)).1)) 1 4 ((r (F 1 2) (F 1 3) (F 1 4) (F 52 2) (F 53 1) (A 2) (A 58) (A 59)).2.1)) 52 2 ((r (F 1 2) (F 1 3) (F 1 4) (F 52 2) (F 53 1) (A 2) (A 58) (A 59)).2.2.1)) 53 1 ((r (F 1 2) (F 1 3) (F 1 4) (F 52 2) (F 53 1) (A 2) (A 58) (A 59)).2.2.2.1)) (uA (uA A 58 ((r (F 1 2) (F 1 3) (F 1 4) (F 52 2) (F 53 1) (A 2) (A 58) (A 59)).2.2.2.2.1)) 59 ((r (F 1 2) (F 1 3) (F 1 4) (F 52 2) (F 53 1) (A 2) (A 58) (A 59)).2.2.2.2.2)) L)) → wl_M f D 27 [.ref 52] (hz F A L) Q) (hnf : n ≤ f) {Q : Option Value → sm_H → Prop} : ∀ (m : Nat) {B D : Nat} {F : Nat → Nat → Int32} {A : Nat → List Int32} {L : Nat → List Int64} {y1 : Int32} {o2 : Option Value}, m = (240 - y1.toInt).toNat → (_ : D ≤ n) → (∀ q1 : Int32, ∀ q2 : Option Value, wl_E f B D mm28.2.2.2.2.2.2.2.2 82 [some (.ref 52), some (.int q1), q2] [] (hz (uF (uF (uF (uF F 1 3 ((kr_readProduct_6 r (F 1 2) (A 2) m y1 (F 1 3) (F 1 4) (F 52 2) (F 53 1) (A 58) (A 59)).1)) 1 4 ((kr_readProduct_6 r (F 1 2) (A 2) m y1 (F 1 3) (F 1 4) (F 52 2) (F 53 1) (A 58) (A 59)).2.1)) 52 2 ((kr_readProduct_6 r (F 1 2) (A 2) m y1 (F 1 3) (F 1 4) (F 52 2) (F 53 1) (A 58) (A 59)).2.2.1)) 53 1 ((kr_readProduct_6 r (F 1 2) (A 2) m y1 (F 1 3) (F 1 4) (F 52 2) (F 53 1) (A 58) (A 59)).2.2.2.1)) (uA (uA A 58 ((kr_readProduct_6 r (F 1 2) (A 2) m y1 (F 1 3) (F 1 4) (F 52 2) (F 53 1) (A 58) (A 59)).2.2.2.2.1)) 59 ((kr_readProduct_6 r (F 1 2) (A 2) m y1 (F 1 3) (F 1 4) (F 52 2) (F 53 1) (A 58) (A 59)).2.2.2.2.2)) L) Q) → wl_E f B D mm28.2.2.2.2.2.2.2.2 6 [some (.ref 52), some (.int y1), o2] [] (hz F A L) Q := by
  intro m
  induction m with
  | zero =>
    intro B D F A L y1 o2 hm hn K
    generalize hT : (kr_readProduct_6 r (F 1 2) (A 2) 0 y1 (F 1 3) (F 1 4) (F 52 2) (F 53 1) (A 58) (A 59)) = T at K
    have hE : T = ((F 1 3), (F 1 4), (F 52 2), (F 53 1), (A 58), (A 59)) := hT.symm
    clear hT
    refine w_n 2 (pc1 := 10) (ls1 := [some (.ref 52), some (.int y1), o2]) (st1 := [.int 240, .int y1]) (hp1 := (hz F A L)) rfl ?_
    refine w_ge (p3 := 13) rfl rfl (fun hb => ?_) (fun h => False.elim (by have h : y1.toInt < 240 := h; omega))
    subst T
    exact cvE (funext fun q => funext fun z => if k0 : q = 1 ∧ z = 3 then by obtain ⟨w1, w2⟩ := k0; subst w1; subst w2; exact Eq.trans (b := (F 1 3)) rfl rfl else if k1 : q = 1 ∧ z = 4 then by obtain ⟨w1, w2⟩ := k1; subst w1; subst w2; exact Eq.trans (b := (F 1 4)) rfl rfl else if k2 : q = 52 ∧ z = 2 then by obtain ⟨w1, w2⟩ := k2; subst w1; subst w2; exact Eq.trans (b := (F 52 2)) rfl rfl else if k3 : q = 53 ∧ z = 1 then by obtain ⟨w1, w2⟩ := k3; subst w1; subst w2; exact Eq.trans (b := (F 53 1)) rfl rfl else by unfold uF; simp only [nb2 k0, nb2 k1, nb2 k2, nb2 k3, cond_false]) (funext fun q => if k0 : q = 58 then by subst k0; exact Eq.trans (b := (A 58)) rfl rfl else if k1 : q = 59 then by subst k1; exact Eq.trans (b := (A 59)) rfl rfl else by unfold uA; simp only [nb1 k0, nb1 k1, cond_false]) rfl (K _ _)
  | succ m ih =>
    intro B D F A L y1 o2 hm hn K
    generalize hT : (kr_readProduct_6 r (F 1 2) (A 2) (m + 1) y1 (F 1 3) (F 1 4) (F 52 2) (F 53 1) (A 58) (A 59)) = T at K
    have hE : T = (lt (kx_stands (F 1 2) (F 1 3) (F 1 4) (A 2) 42 47) (fun g315 => (if g315 = 0 then (lt (kx_stands (F 1 2) (F 1 3) (F 1 4) (A 2) 37 37) (fun g319 => (if g319 = 0 then ((F 1 3), (F 1 4), (F 52 2), (F 53 1), (A 58), (A 59)) else (lt (kx_sign (F 1 2) (F 1 3) (A 2)) (fun g320 => (lt (kr_readFactor r (F 1 2) ((F 1 3) + 1) (F 1 4) (F 52 2) (F 53 1) (A 2) (A 58) (A 59)) (fun g321 => (lt (kl_add_53 g321.2.2.2.1 g321.2.2.2.2.1 g321.2.2.2.2.2 g320 0) (fun g322 => (kr_readProduct_6 r (F 1 2) (A 2) m (y1 + 1) g321.1 g321.2.1 g321.2.2.1 g322.2.1 g322.2.2.1 g322.2.2.2)))))))))) else (lt (kx_sign (F 1 2) (F 1 3) (A 2)) (fun g316 => (lt (kr_readFactor r (F 1 2) ((F 1 3) + 1) (F 1 4) (F 52 2) (F 53 1) (A 2) (A 58) (A 59)) (fun g317 => (lt (kl_add_53 g317.2.2.2.1 g317.2.2.2.2.1 g317.2.2.2.2.2 g316 0) (fun g318 => (kr_readProduct_6 r (F 1 2) (A 2) m (y1 + 1) g317.1 g317.2.1 g317.2.2.1 g318.2.1 g318.2.2.1 g318.2.2.2)))))))))) := hT.symm
    clear hT
    refine w_n 2 (pc1 := 10) (ls1 := [some (.ref 52), some (.int y1), o2]) (st1 := [.int 240, .int y1]) (hp1 := (hz F A L)) rfl ?_
    refine w_ge (p3 := 13) rfl rfl (fun h => False.elim (by have h : 240 ≤ y1.toInt := h; omega)) (fun hb => ?_)
    refine w_n 4 (pc1 := 21) (ls1 := [some (.ref 52), some (.int y1), o2]) (st1 := [.int 47, .int 42, .ref 1]) (hp1 := (hz F A L)) rfl ?_
    refine w_c rfl rfl (t_kx_stands ?_)
    show wl_E f _ _ mm28.2.2.2.2.2.2.2.2 24 [some (.ref 52), some (.int y1), o2] [.int (kx_stands (F 1 2) (F 1 3) (F 1 4) (A 2) 42 47)] (hz F A L) _
    generalize hG315 : (kx_stands (F 1 2) (F 1 3) (F 1 4) (A 2) 42 47) = G315 at hE ⊢
    replace hE := hE.trans (lt_e _ _)
    refine w_zne (p3 := 27) rfl rfl (fun h => ?_) (fun h => ?_)
    · have h1 : ¬ G315 = 0 := h
      rw [if_neg h1] at hE
      refine w_n 2 (pc1 := 45) (ls1 := [some (.ref 52), some (.int y1), o2]) (st1 := [.ref 1]) (hp1 := (hz F A L)) rfl ?_
      refine w_c rfl rfl (t_kx_sign ?_)
      show wl_E f _ _ mm28.2.2.2.2.2.2.2.2 48 [some (.ref 52), some (.int y1), o2] [.int (kx_sign (F 1 2) (F 1 3) (A 2))] (hz F A L) _
      generalize hG316 : (kx_sign (F 1 2) (F 1 3) (A 2)) = G316 at hE ⊢
      replace hE := hE.trans (lt_e _ _)
      refine w_n 7 (pc1 := 59) (ls1 := [some (.ref 52), some (.int y1), some (.int G316)]) (st1 := [.int ((F 1 3) + 1), .ref 1]) (hp1 := (hz F A L)) rfl ?_
      refine w_pf (k := 1) (fs := hz_f1 F) (hp1 := (hz (uF F 1 3 ((F 1 3) + 1)) A L)) rfl rfl rfl (hz_p1_3 _) ?_
      refine w_n 1 (pc1 := 63) (ls1 := [some (.ref 52), some (.int y1), some (.int G316)]) (st1 := [.ref 52]) (hp1 := (hz (uF F 1 3 ((F 1 3) + 1)) A L)) rfl ?_
      refine w_c rfl rfl (t_kr_readFactor hr (by omega) (by omega) ?_)
      show wl_E f _ _ mm28.2.2.2.2.2.2.2.2 66 [some (.ref 52), some (.int y1), some (.int G316)] [] (hz (uF (uF (uF (uF (uF F 1 3 ((F 1 3) + 1)) 1 3 (kr_readFactor r (F 1 2) ((F 1 3) + 1) (F 1 4) (F 52 2) (F 53 1) (A 2) (A 58) (A 59)).1) 1 4 (kr_readFactor r (F 1 2) ((F 1 3) + 1) (F 1 4) (F 52 2) (F 53 1) (A 2) (A 58) (A 59)).2.1) 52 2 (kr_readFactor r (F 1 2) ((F 1 3) + 1) (F 1 4) (F 52 2) (F 53 1) (A 2) (A 58) (A 59)).2.2.1) 53 1 (kr_readFactor r (F 1 2) ((F 1 3) + 1) (F 1 4) (F 52 2) (F 53 1) (A 2) (A 58) (A 59)).2.2.2.1) (uA (uA A 58 (kr_readFactor r (F 1 2) ((F 1 3) + 1) (F 1 4) (F 52 2) (F 53 1) (A 2) (A 58) (A 59)).2.2.2.2.1) 59 (kr_readFactor r (F 1 2) ((F 1 3) + 1) (F 1 4) (F 52 2) (F 53 1) (A 2) (A 58) (A 59)).2.2.2.2.2) L) _
      generalize hG317 : (kr_readFactor r (F 1 2) ((F 1 3) + 1) (F 1 4) (F 52 2) (F 53 1) (A 2) (A 58) (A 59)) = G317 at hE ⊢
      replace hE := hE.trans (lt_e _ _)
      refine w_n 4 (pc1 := 72) (ls1 := [some (.ref 52), some (.int y1), some (.int G316)]) (st1 := [.int 0, .int G316, .ref 53]) (hp1 := (hz (uF (uF (uF (uF (uF F 1 3 ((F 1 3) + 1)) 1 3 G317.1) 1 4 G317.2.1) 52 2 G317.2.2.1) 53 1 G317.2.2.2.1) (uA (uA A 58 G317.2.2.2.2.1) 59 G317.2.2.2.2.2) L)) rfl ?_
      refine w_c rfl rfl (t_kl_add_53 ?_)
      show wl_E f _ _ mm28.2.2.2.2.2.2.2.2 75 [some (.ref 52), some (.int y1), some (.int G316)] [.int (kl_add_53 G317.2.2.2.1 G317.2.2.2.2.1 G317.2.2.2.2.2 G316 0).1] (hz (uF (uF (uF (uF (uF (uF F 1 3 ((F 1 3) + 1)) 1 3 G317.1) 1 4 G317.2.1) 52 2 G317.2.2.1) 53 1 G317.2.2.2.1) 53 1 (kl_add_53 G317.2.2.2.1 G317.2.2.2.2.1 G317.2.2.2.2.2 G316 0).2.1) (uA (uA (uA (uA A 58 G317.2.2.2.2.1) 59 G317.2.2.2.2.2) 58 (kl_add_53 G317.2.2.2.1 G317.2.2.2.2.1 G317.2.2.2.2.2 G316 0).2.2.1) 59 (kl_add_53 G317.2.2.2.1 G317.2.2.2.2.1 G317.2.2.2.2.2 G316 0).2.2.2) L) _
      generalize hG318 : (kl_add_53 G317.2.2.2.1 G317.2.2.2.2.1 G317.2.2.2.2.2 G316 0) = G318 at hE ⊢
      replace hE := hE.trans (lt_e _ _)
      refine w_n 3 (pc1 := 6) (ls1 := [some (.ref 52), some (.int (y1 + 1)), some (.int G316)]) (st1 := []) (hp1 := (hz (uF (uF (uF (uF (uF (uF F 1 3 ((F 1 3) + 1)) 1 3 G317.1) 1 4 G317.2.1) 52 2 G317.2.2.1) 53 1 G317.2.2.2.1) 53 1 G318.2.1) (uA (uA (uA (uA A 58 G317.2.2.2.2.1) 59 G317.2.2.2.2.2) 58 G318.2.2.1) 59 G318.2.2.2) L)) rfl ?_
      subst T
      have hb2 := i_up (B := (240 : Int32)) hb
      have hb3 : y1.toInt < 240 := hb
      exact ih (show m = (240 - (y1 + 1).toInt).toNat by rw [hb2]; omega) hn (fun q1 q2 => cvE (funext fun q => funext fun z => if k0 : q = 1 ∧ z = 3 then by obtain ⟨w1, w2⟩ := k0; subst w1; subst w2; exact Eq.trans (b := (kr_readProduct_6 r (F 1 2) (A 2) m (y1 + 1) G317.1 G317.2.1 G317.2.2.1 G318.2.1 G318.2.2.1 G318.2.2.2).1) rfl rfl else if k1 : q = 1 ∧ z = 4 then by obtain ⟨w1, w2⟩ := k1; subst w1; subst w2; exact Eq.trans (b := (kr_readProduct_6 r (F 1 2) (A 2) m (y1 + 1) G317.1 G317.2.1 G317.2.2.1 G318.2.1 G318.2.2.1 G318.2.2.2).2.1) rfl rfl else if k2 : q = 52 ∧ z = 2 then by obtain ⟨w1, w2⟩ := k2; subst w1; subst w2; exact Eq.trans (b := (kr_readProduct_6 r (F 1 2) (A 2) m (y1 + 1) G317.1 G317.2.1 G317.2.2.1 G318.2.1 G318.2.2.1 G318.2.2.2).2.2.1) rfl rfl else if k3 : q = 53 ∧ z = 1 then by obtain ⟨w1, w2⟩ := k3; subst w1; subst w2; exact Eq.trans (b := (kr_readProduct_6 r (F 1 2) (A 2) m (y1 + 1) G317.1 G317.2.1 G317.2.2.1 G318.2.1 G318.2.2.1 G318.2.2.2).2.2.2.1) rfl rfl else by unfold uF; simp only [nb2 k0, nb2 k1, nb2 k2, nb2 k3, cond_false]) (funext fun q => if k0 : q = 58 then by subst k0; exact Eq.trans (b := (kr_readProduct_6 r (F 1 2) (A 2) m (y1 + 1) G317.1 G317.2.1 G317.2.2.1 G318.2.1 G318.2.2.1 G318.2.2.2).2.2.2.2.1) rfl rfl else if k1 : q = 59 then by subst k1; exact Eq.trans (b := (kr_readProduct_6 r (F 1 2) (A 2) m (y1 + 1) G317.1 G317.2.1 G317.2.2.1 G318.2.1 G318.2.2.1 G318.2.2.2).2.2.2.2.2) rfl rfl else by unfold uA; simp only [nb1 k0, nb1 k1, cond_false]) rfl (K q1 q2))
    · have h1 : G315 = 0 := h
      rw [if_pos h1] at hE
      refine w_n 4 (pc1 := 35) (ls1 := [some (.ref 52), some (.int y1), o2]) (st1 := [.int 37, .int 37, .ref 1]) (hp1 := (hz F A L)) rfl ?_
      refine w_c rfl rfl (t_kx_stands ?_)
      show wl_E f _ _ mm28.2.2.2.2.2.2.2.2 38 [some (.ref 52), some (.int y1), o2] [.int (kx_stands (F 1 2) (F 1 3) (F 1 4) (A 2) 37 37)] (hz F A L) _
      generalize hG319 : (kx_stands (F 1 2) (F 1 3) (F 1 4) (A 2) 37 37) = G319 at hE ⊢
      replace hE := hE.trans (lt_e _ _)
      refine w_zeq (p3 := 41) rfl rfl (fun h => ?_) (fun h => ?_)
      · have h2 : G319 = 0 := h
        rw [if_pos h2] at hE
        subst T
        exact cvE (funext fun q => funext fun z => if k0 : q = 1 ∧ z = 3 then by obtain ⟨w1, w2⟩ := k0; subst w1; subst w2; exact Eq.trans (b := (F 1 3)) rfl rfl else if k1 : q = 1 ∧ z = 4 then by obtain ⟨w1, w2⟩ := k1; subst w1; subst w2; exact Eq.trans (b := (F 1 4)) rfl rfl else if k2 : q = 52 ∧ z = 2 then by obtain ⟨w1, w2⟩ := k2; subst w1; subst w2; exact Eq.trans (b := (F 52 2)) rfl rfl else if k3 : q = 53 ∧ z = 1 then by obtain ⟨w1, w2⟩ := k3; subst w1; subst w2; exact Eq.trans (b := (F 53 1)) rfl rfl else by unfold uF; simp only [nb2 k0, nb2 k1, nb2 k2, nb2 k3, cond_false]) (funext fun q => if k0 : q = 58 then by subst k0; exact Eq.trans (b := (A 58)) rfl rfl else if k1 : q = 59 then by subst k1; exact Eq.trans (b := (A 59)) rfl rfl else by unfold uA; simp only [nb1 k0, nb1 k1, cond_false]) rfl (K _ _)
      · have h2 : ¬ G319 = 0 := h
        rw [if_neg h2] at hE
        refine w_n 2 (pc1 := 45) (ls1 := [some (.ref 52), some (.int y1), o2]) (st1 := [.ref 1]) (hp1 := (hz F A L)) rfl ?_
        refine w_c rfl rfl (t_kx_sign ?_)
        show wl_E f _ _ mm28.2.2.2.2.2.2.2.2 48 [some (.ref 52), some (.int y1), o2] [.int (kx_sign (F 1 2) (F 1 3) (A 2))] (hz F A L) _
        generalize hG320 : (kx_sign (F 1 2) (F 1 3) (A 2)) = G320 at hE ⊢
        replace hE := hE.trans (lt_e _ _)
        refine w_n 7 (pc1 := 59) (ls1 := [some (.ref 52), some (.int y1), some (.int G320)]) (st1 := [.int ((F 1 3) + 1), .ref 1]) (hp1 := (hz F A L)) rfl ?_
        refine w_pf (k := 1) (fs := hz_f1 F) (hp1 := (hz (uF F 1 3 ((F 1 3) + 1)) A L)) rfl rfl rfl (hz_p1_3 _) ?_
        refine w_n 1 (pc1 := 63) (ls1 := [some (.ref 52), some (.int y1), some (.int G320)]) (st1 := [.ref 52]) (hp1 := (hz (uF F 1 3 ((F 1 3) + 1)) A L)) rfl ?_
        refine w_c rfl rfl (t_kr_readFactor hr (by omega) (by omega) ?_)
        show wl_E f _ _ mm28.2.2.2.2.2.2.2.2 66 [some (.ref 52), some (.int y1), some (.int G320)] [] (hz (uF (uF (uF (uF (uF F 1 3 ((F 1 3) + 1)) 1 3 (kr_readFactor r (F 1 2) ((F 1 3) + 1) (F 1 4) (F 52 2) (F 53 1) (A 2) (A 58) (A 59)).1) 1 4 (kr_readFactor r (F 1 2) ((F 1 3) + 1) (F 1 4) (F 52 2) (F 53 1) (A 2) (A 58) (A 59)).2.1) 52 2 (kr_readFactor r (F 1 2) ((F 1 3) + 1) (F 1 4) (F 52 2) (F 53 1) (A 2) (A 58) (A 59)).2.2.1) 53 1 (kr_readFactor r (F 1 2) ((F 1 3) + 1) (F 1 4) (F 52 2) (F 53 1) (A 2) (A 58) (A 59)).2.2.2.1) (uA (uA A 58 (kr_readFactor r (F 1 2) ((F 1 3) + 1) (F 1 4) (F 52 2) (F 53 1) (A 2) (A 58) (A 59)).2.2.2.2.1) 59 (kr_readFactor r (F 1 2) ((F 1 3) + 1) (F 1 4) (F 52 2) (F 53 1) (A 2) (A 58) (A 59)).2.2.2.2.2) L) _
        generalize hG321 : (kr_readFactor r (F 1 2) ((F 1 3) + 1) (F 1 4) (F 52 2) (F 53 1) (A 2) (A 58) (A 59)) = G321 at hE ⊢
        replace hE := hE.trans (lt_e _ _)
        refine w_n 4 (pc1 := 72) (ls1 := [some (.ref 52), some (.int y1), some (.int G320)]) (st1 := [.int 0, .int G320, .ref 53]) (hp1 := (hz (uF (uF (uF (uF (uF F 1 3 ((F 1 3) + 1)) 1 3 G321.1) 1 4 G321.2.1) 52 2 G321.2.2.1) 53 1 G321.2.2.2.1) (uA (uA A 58 G321.2.2.2.2.1) 59 G321.2.2.2.2.2) L)) rfl ?_
        refine w_c rfl rfl (t_kl_add_53 ?_)
        show wl_E f _ _ mm28.2.2.2.2.2.2.2.2 75 [some (.ref 52), some (.int y1), some (.int G320)] [.int (kl_add_53 G321.2.2.2.1 G321.2.2.2.2.1 G321.2.2.2.2.2 G320 0).1] (hz (uF (uF (uF (uF (uF (uF F 1 3 ((F 1 3) + 1)) 1 3 G321.1) 1 4 G321.2.1) 52 2 G321.2.2.1) 53 1 G321.2.2.2.1) 53 1 (kl_add_53 G321.2.2.2.1 G321.2.2.2.2.1 G321.2.2.2.2.2 G320 0).2.1) (uA (uA (uA (uA A 58 G321.2.2.2.2.1) 59 G321.2.2.2.2.2) 58 (kl_add_53 G321.2.2.2.1 G321.2.2.2.2.1 G321.2.2.2.2.2 G320 0).2.2.1) 59 (kl_add_53 G321.2.2.2.1 G321.2.2.2.2.1 G321.2.2.2.2.2 G320 0).2.2.2) L) _
        generalize hG322 : (kl_add_53 G321.2.2.2.1 G321.2.2.2.2.1 G321.2.2.2.2.2 G320 0) = G322 at hE ⊢
        replace hE := hE.trans (lt_e _ _)
        refine w_n 3 (pc1 := 6) (ls1 := [some (.ref 52), some (.int (y1 + 1)), some (.int G320)]) (st1 := []) (hp1 := (hz (uF (uF (uF (uF (uF (uF F 1 3 ((F 1 3) + 1)) 1 3 G321.1) 1 4 G321.2.1) 52 2 G321.2.2.1) 53 1 G321.2.2.2.1) 53 1 G322.2.1) (uA (uA (uA (uA A 58 G321.2.2.2.2.1) 59 G321.2.2.2.2.2) 58 G322.2.2.1) 59 G322.2.2.2) L)) rfl ?_
        subst T
        have hb2 := i_up (B := (240 : Int32)) hb
        have hb3 : y1.toInt < 240 := hb
        exact ih (show m = (240 - (y1 + 1).toInt).toNat by rw [hb2]; omega) hn (fun q1 q2 => cvE (funext fun q => funext fun z => if k0 : q = 1 ∧ z = 3 then by obtain ⟨w1, w2⟩ := k0; subst w1; subst w2; exact Eq.trans (b := (kr_readProduct_6 r (F 1 2) (A 2) m (y1 + 1) G321.1 G321.2.1 G321.2.2.1 G322.2.1 G322.2.2.1 G322.2.2.2).1) rfl rfl else if k1 : q = 1 ∧ z = 4 then by obtain ⟨w1, w2⟩ := k1; subst w1; subst w2; exact Eq.trans (b := (kr_readProduct_6 r (F 1 2) (A 2) m (y1 + 1) G321.1 G321.2.1 G321.2.2.1 G322.2.1 G322.2.2.1 G322.2.2.2).2.1) rfl rfl else if k2 : q = 52 ∧ z = 2 then by obtain ⟨w1, w2⟩ := k2; subst w1; subst w2; exact Eq.trans (b := (kr_readProduct_6 r (F 1 2) (A 2) m (y1 + 1) G321.1 G321.2.1 G321.2.2.1 G322.2.1 G322.2.2.1 G322.2.2.2).2.2.1) rfl rfl else if k3 : q = 53 ∧ z = 1 then by obtain ⟨w1, w2⟩ := k3; subst w1; subst w2; exact Eq.trans (b := (kr_readProduct_6 r (F 1 2) (A 2) m (y1 + 1) G321.1 G321.2.1 G321.2.2.1 G322.2.1 G322.2.2.1 G322.2.2.2).2.2.2.1) rfl rfl else by unfold uF; simp only [nb2 k0, nb2 k1, nb2 k2, nb2 k3, cond_false]) (funext fun q => if k0 : q = 58 then by subst k0; exact Eq.trans (b := (kr_readProduct_6 r (F 1 2) (A 2) m (y1 + 1) G321.1 G321.2.1 G321.2.2.1 G322.2.1 G322.2.2.1 G322.2.2.2).2.2.2.2.1) rfl rfl else if k1 : q = 59 then by subst k1; exact Eq.trans (b := (kr_readProduct_6 r (F 1 2) (A 2) m (y1 + 1) G321.1 G321.2.1 G321.2.2.1 G322.2.1 G322.2.2.1 G322.2.2.2).2.2.2.2.2) rfl rfl else by unfold uA; simp only [nb1 k0, nb1 k1, cond_false]) rfl (K q1 q2))
noncomputable def kr_readProduct (r : Int32 → Int32 → Int32 → Int32 → Int32 → List Int32 → List Int32 → List Int32 → (Int32 × Int32 × Int32 × Int32 × List Int32 × List Int32)) (f1_2 : Int32) (f1_3 : Int32) (f1_4 : Int32) (f52_2 : Int32) (f53_1 : Int32) (a2 : List Int32) (a58 : List Int32) (a59 : List Int32) : Int32 × Int32 × Int32 × Int32 × List Int32 × List Int32 := (lt (kr_readFactor r f1_2 f1_3 f1_4 f52_2 f53_1 a2 a58 a59) (fun g314 => (lt (kr_readProduct_6 r f1_2 a2 240 0 g314.1 g314.2.1 g314.2.2.1 g314.2.2.2.1 g314.2.2.2.2.1 g314.2.2.2.2.2) (fun g323 => (g323.1, g323.2.1, g323.2.2.1, g323.2.2.2.1, g323.2.2.2.2.1, g323.2.2.2.2.2)))))
theorem t_kr_readProduct {f D : Nat} {n : Nat} {r : Int32 → Int32 → Int32 → Int32 → Int32 → List Int32 → List Int32 → List Int32 → (Int32 × Int32 × Int32 × Int32 × List Int32 × List Int32)} (hr : ∀ (D : Nat) {F : Nat → Nat → Int32} {A : Nat → List Int32} {L : Nat → List Int64} {Q : Option Value → sm_H → Prop}, D ≤ n → (Q none (hz (uF (uF (uF (uF F 1 3 ((r (F 1 2) (F 1 3) (F 1 4) (F 52 2) (F 53 1) (A 2) (A 58) (A 59)).1)) 1 4 ((r (F 1 2) (F 1 3) (F 1 4) (F 52 2) (F 53 1) (A 2) (A 58) (A 59)).2.1)) 52 2 ((r (F 1 2) (F 1 3) (F 1 4) (F 52 2) (F 53 1) (A 2) (A 58) (A 59)).2.2.1)) 53 1 ((r (F 1 2) (F 1 3) (F 1 4) (F 52 2) (F 53 1) (A 2) (A 58) (A 59)).2.2.2.1)) (uA (uA A 58 ((r (F 1 2) (F 1 3) (F 1 4) (F 52 2) (F 53 1) (A 2) (A 58) (A 59)).2.2.2.2.1)) 59 ((r (F 1 2) (F 1 3) (F 1 4) (F 52 2) (F 53 1) (A 2) (A 58) (A 59)).2.2.2.2.2)) L)) → wl_M f D 27 [.ref 52] (hz F A L) Q) (hnf : n ≤ f) {F : Nat → Nat → Int32} {A : Nat → List Int32} {L : Nat → List Int64} {Q : Option Value → sm_H → Prop} (hn : D ≤ n) (K : Q none (hz (uF (uF (uF (uF F 1 3 ((kr_readProduct r (F 1 2) (F 1 3) (F 1 4) (F 52 2) (F 53 1) (A 2) (A 58) (A 59)).1)) 1 4 ((kr_readProduct r (F 1 2) (F 1 3) (F 1 4) (F 52 2) (F 53 1) (A 2) (A 58) (A 59)).2.1)) 52 2 ((kr_readProduct r (F 1 2) (F 1 3) (F 1 4) (F 52 2) (F 53 1) (A 2) (A 58) (A 59)).2.2.1)) 53 1 ((kr_readProduct r (F 1 2) (F 1 3) (F 1 4) (F 52 2) (F 53 1) (A 2) (A 58) (A 59)).2.2.2.1)) (uA (uA A 58 ((kr_readProduct r (F 1 2) (F 1 3) (F 1 4) (F 52 2) (F 53 1) (A 2) (A 58) (A 59)).2.2.2.2.1)) 59 ((kr_readProduct r (F 1 2) (F 1 3) (F 1 4) (F 52 2) (F 53 1) (A 2) (A 58) (A 59)).2.2.2.2.2)) L)) : wl_M f D 28 [.ref 52] (hz F A L) Q := by
  generalize hT : (kr_readProduct r (F 1 2) (F 1 3) (F 1 4) (F 52 2) (F 53 1) (A 2) (A 58) (A 59)) = T at K
  have hE : T = (lt (kr_readFactor r (F 1 2) (F 1 3) (F 1 4) (F 52 2) (F 53 1) (A 2) (A 58) (A 59)) (fun g314 => (lt (kr_readProduct_6 r (F 1 2) (A 2) 240 0 g314.1 g314.2.1 g314.2.2.1 g314.2.2.2.1 g314.2.2.2.2.1 g314.2.2.2.2.2) (fun g323 => (g323.1, g323.2.1, g323.2.2.1, g323.2.2.2.1, g323.2.2.2.2.1, g323.2.2.2.2.2))))) := hT.symm
  clear hT
  refine w_m (E := mm28) rfl ?_
  show wl_E f f (D - 1) mm28.2.2.2.2.2.2.2.2 0 [some (.ref 52), none, none] [] (hz F A L) Q
  refine w_n 1 (pc1 := 1) (ls1 := [some (.ref 52), none, none]) (st1 := [.ref 52]) (hp1 := (hz F A L)) rfl ?_
  refine w_c rfl rfl (t_kr_readFactor hr (by omega) (by omega) ?_)
  show wl_E f _ _ mm28.2.2.2.2.2.2.2.2 4 [some (.ref 52), none, none] [] (hz (uF (uF (uF (uF F 1 3 (kr_readFactor r (F 1 2) (F 1 3) (F 1 4) (F 52 2) (F 53 1) (A 2) (A 58) (A 59)).1) 1 4 (kr_readFactor r (F 1 2) (F 1 3) (F 1 4) (F 52 2) (F 53 1) (A 2) (A 58) (A 59)).2.1) 52 2 (kr_readFactor r (F 1 2) (F 1 3) (F 1 4) (F 52 2) (F 53 1) (A 2) (A 58) (A 59)).2.2.1) 53 1 (kr_readFactor r (F 1 2) (F 1 3) (F 1 4) (F 52 2) (F 53 1) (A 2) (A 58) (A 59)).2.2.2.1) (uA (uA A 58 (kr_readFactor r (F 1 2) (F 1 3) (F 1 4) (F 52 2) (F 53 1) (A 2) (A 58) (A 59)).2.2.2.2.1) 59 (kr_readFactor r (F 1 2) (F 1 3) (F 1 4) (F 52 2) (F 53 1) (A 2) (A 58) (A 59)).2.2.2.2.2) L) _
  generalize hG314 : (kr_readFactor r (F 1 2) (F 1 3) (F 1 4) (F 52 2) (F 53 1) (A 2) (A 58) (A 59)) = G314 at hE ⊢
  replace hE := hE.trans (lt_e _ _)
  refine w_n 2 (pc1 := 6) (ls1 := [some (.ref 52), some (.int 0), none]) (st1 := []) (hp1 := (hz (uF (uF (uF (uF F 1 3 G314.1) 1 4 G314.2.1) 52 2 G314.2.2.1) 53 1 G314.2.2.2.1) (uA (uA A 58 G314.2.2.2.2.1) 59 G314.2.2.2.2.2) L)) rfl ?_
  refine t_kr_readProduct_6 hr (by omega) 240 (show (240 : Nat) = (240 - (0 : Int32).toInt).toNat by have e0 : (0 : Int32).toInt = 0 := rfl; first | rfl | omega) (by omega) ?_
  intro r1 r2
  show wl_E f _ _ mm28.2.2.2.2.2.2.2.2 82 [some (.ref 52), some (.int r1), r2] [] (hz (uF (uF (uF (uF (uF (uF (uF (uF F 1 3 G314.1) 1 4 G314.2.1) 52 2 G314.2.2.1) 53 1 G314.2.2.2.1) 1 3 (kr_readProduct_6 r (F 1 2) (A 2) 240 0 G314.1 G314.2.1 G314.2.2.1 G314.2.2.2.1 G314.2.2.2.2.1 G314.2.2.2.2.2).1) 1 4 (kr_readProduct_6 r (F 1 2) (A 2) 240 0 G314.1 G314.2.1 G314.2.2.1 G314.2.2.2.1 G314.2.2.2.2.1 G314.2.2.2.2.2).2.1) 52 2 (kr_readProduct_6 r (F 1 2) (A 2) 240 0 G314.1 G314.2.1 G314.2.2.1 G314.2.2.2.1 G314.2.2.2.2.1 G314.2.2.2.2.2).2.2.1) 53 1 (kr_readProduct_6 r (F 1 2) (A 2) 240 0 G314.1 G314.2.1 G314.2.2.1 G314.2.2.2.1 G314.2.2.2.2.1 G314.2.2.2.2.2).2.2.2.1) (uA (uA (uA (uA A 58 G314.2.2.2.2.1) 59 G314.2.2.2.2.2) 58 (kr_readProduct_6 r (F 1 2) (A 2) 240 0 G314.1 G314.2.1 G314.2.2.1 G314.2.2.2.1 G314.2.2.2.2.1 G314.2.2.2.2.2).2.2.2.2.1) 59 (kr_readProduct_6 r (F 1 2) (A 2) 240 0 G314.1 G314.2.1 G314.2.2.1 G314.2.2.2.1 G314.2.2.2.2.1 G314.2.2.2.2.2).2.2.2.2.2) L) _
  generalize hG323 : (kr_readProduct_6 r (F 1 2) (A 2) 240 0 G314.1 G314.2.1 G314.2.2.1 G314.2.2.2.1 G314.2.2.2.2.1 G314.2.2.2.2.2) = G323 at hE ⊢
  replace hE := hE.trans (lt_e _ _)
  subst T
  exact w_r rfl rfl (cvQ (funext fun q => funext fun z => if k0 : q = 1 ∧ z = 3 then by obtain ⟨w1, w2⟩ := k0; subst w1; subst w2; exact Eq.trans (b := G323.1) rfl rfl else if k1 : q = 1 ∧ z = 4 then by obtain ⟨w1, w2⟩ := k1; subst w1; subst w2; exact Eq.trans (b := G323.2.1) rfl rfl else if k2 : q = 52 ∧ z = 2 then by obtain ⟨w1, w2⟩ := k2; subst w1; subst w2; exact Eq.trans (b := G323.2.2.1) rfl rfl else if k3 : q = 53 ∧ z = 1 then by obtain ⟨w1, w2⟩ := k3; subst w1; subst w2; exact Eq.trans (b := G323.2.2.2.1) rfl rfl else by unfold uF; simp only [nb2 k0, nb2 k1, nb2 k2, nb2 k3, cond_false]) (funext fun q => if k0 : q = 58 then by subst k0; exact Eq.trans (b := G323.2.2.2.2.1) rfl rfl else if k1 : q = 59 then by subst k1; exact Eq.trans (b := G323.2.2.2.2.2) rfl rfl else by unfold uA; simp only [nb1 k0, nb1 k1, cond_false]) rfl K)
noncomputable def kr_readSum_6 (r : Int32 → Int32 → Int32 → Int32 → Int32 → List Int32 → List Int32 → List Int32 → (Int32 × Int32 × Int32 × Int32 × List Int32 × List Int32)) (f1_2 : Int32) (a2 : List Int32)  : Nat → Int32 → Int32 → Int32 → Int32 → Int32 → List Int32 → List Int32 → Int32 × Int32 × Int32 × Int32 × List Int32 × List Int32
  | 0, _, f1_3, f1_4, f52_2, f53_1, a58, a59 => (f1_3, f1_4, f52_2, f53_1, a58, a59)
  | m + 1, y1, f1_3, f1_4, f52_2, f53_1, a58, a59 => (lt (kx_stands f1_2 f1_3 f1_4 a2 43 45) (fun g325 => (if g325 = 0 then (f1_3, f1_4, f52_2, f53_1, a58, a59) else (lt (kx_sign f1_2 f1_3 a2) (fun g326 => (lt (kr_readProduct r f1_2 (f1_3 + 1) f1_4 f52_2 f53_1 a2 a58 a59) (fun g327 => (lt (kl_add_53 g327.2.2.2.1 g327.2.2.2.2.1 g327.2.2.2.2.2 g326 0) (fun g328 => (kr_readSum_6 r f1_2 a2 m (y1 + 1) g327.1 g327.2.1 g327.2.2.1 g328.2.1 g328.2.2.1 g328.2.2.2))))))))))
theorem t_kr_readSum_6 {f : Nat} {n : Nat} {r : Int32 → Int32 → Int32 → Int32 → Int32 → List Int32 → List Int32 → List Int32 → (Int32 × Int32 × Int32 × Int32 × List Int32 × List Int32)} (hr : ∀ (D : Nat) {F : Nat → Nat → Int32} {A : Nat → List Int32} {L : Nat → List Int64} {Q : Option Value → sm_H → Prop}, D ≤ n → (Q none (hz (uF (uF (uF (uF F 1 3 ((r (F 1 2) (F 1 3) (F 1 4) (F 52 2) (F 53 1) (A 2) (A 58) (A 59)).1)) 1 4 ((r (F 1 2) (F 1 3) (F 1 4) (F 52 2) (F 53 1) (A 2) (A 58) (A 59)).2.1)) 52 2 ((r (F 1 2) (F 1 3) (F 1 4) (F 52 2) (F 53 1) (A 2) (A 58) (A 59)).2.2.1)) 53 1 ((r (F 1 2) (F 1 3) (F 1 4) (F 52 2) (F 53 1) (A 2) (A 58) (A 59)).2.2.2.1)) (uA (uA A 58 ((r (F 1 2) (F 1 3) (F 1 4) (F 52 2) (F 53 1) (A 2) (A 58) (A 59)).2.2.2.2.1)) 59 ((r (F 1 2) (F 1 3) (F 1 4) (F 52 2) (F 53 1) (A 2) (A 58) (A 59)).2.2.2.2.2)) L)) → wl_M f D 27 [.ref 52] (hz F A L) Q) (hnf : n ≤ f) {Q : Option Value → sm_H → Prop} : ∀ (m : Nat) {B D : Nat} {F : Nat → Nat → Int32} {A : Nat → List Int32} {L : Nat → List Int64} {y1 : Int32} {o2 : Option Value}, m = (240 - y1.toInt).toNat → (_ : D ≤ n) → (∀ q1 : Int32, ∀ q2 : Option Value, wl_E f B D mm27.2.2.2.2.2.2.2.2 68 [some (.ref 52), some (.int q1), q2] [] (hz (uF (uF (uF (uF F 1 3 ((kr_readSum_6 r (F 1 2) (A 2) m y1 (F 1 3) (F 1 4) (F 52 2) (F 53 1) (A 58) (A 59)).1)) 1 4 ((kr_readSum_6 r (F 1 2) (A 2) m y1 (F 1 3) (F 1 4) (F 52 2) (F 53 1) (A 58) (A 59)).2.1)) 52 2 ((kr_readSum_6 r (F 1 2) (A 2) m y1 (F 1 3) (F 1 4) (F 52 2) (F 53 1) (A 58) (A 59)).2.2.1)) 53 1 ((kr_readSum_6 r (F 1 2) (A 2) m y1 (F 1 3) (F 1 4) (F 52 2) (F 53 1) (A 58) (A 59)).2.2.2.1)) (uA (uA A 58 ((kr_readSum_6 r (F 1 2) (A 2) m y1 (F 1 3) (F 1 4) (F 52 2) (F 53 1) (A 58) (A 59)).2.2.2.2.1)) 59 ((kr_readSum_6 r (F 1 2) (A 2) m y1 (F 1 3) (F 1 4) (F 52 2) (F 53 1) (A 58) (A 59)).2.2.2.2.2)) L) Q) → wl_E f B D mm27.2.2.2.2.2.2.2.2 6 [some (.ref 52), some (.int y1), o2] [] (hz F A L) Q := by
  intro m
  induction m with
  | zero =>
    intro B D F A L y1 o2 hm hn K
    generalize hT : (kr_readSum_6 r (F 1 2) (A 2) 0 y1 (F 1 3) (F 1 4) (F 52 2) (F 53 1) (A 58) (A 59)) = T at K
    have hE : T = ((F 1 3), (F 1 4), (F 52 2), (F 53 1), (A 58), (A 59)) := hT.symm
    clear hT
    refine w_n 2 (pc1 := 10) (ls1 := [some (.ref 52), some (.int y1), o2]) (st1 := [.int 240, .int y1]) (hp1 := (hz F A L)) rfl ?_
    refine w_ge (p3 := 13) rfl rfl (fun hb => ?_) (fun h => False.elim (by have h : y1.toInt < 240 := h; omega))
    subst T
    exact cvE (funext fun q => funext fun z => if k0 : q = 1 ∧ z = 3 then by obtain ⟨w1, w2⟩ := k0; subst w1; subst w2; exact Eq.trans (b := (F 1 3)) rfl rfl else if k1 : q = 1 ∧ z = 4 then by obtain ⟨w1, w2⟩ := k1; subst w1; subst w2; exact Eq.trans (b := (F 1 4)) rfl rfl else if k2 : q = 52 ∧ z = 2 then by obtain ⟨w1, w2⟩ := k2; subst w1; subst w2; exact Eq.trans (b := (F 52 2)) rfl rfl else if k3 : q = 53 ∧ z = 1 then by obtain ⟨w1, w2⟩ := k3; subst w1; subst w2; exact Eq.trans (b := (F 53 1)) rfl rfl else by unfold uF; simp only [nb2 k0, nb2 k1, nb2 k2, nb2 k3, cond_false]) (funext fun q => if k0 : q = 58 then by subst k0; exact Eq.trans (b := (A 58)) rfl rfl else if k1 : q = 59 then by subst k1; exact Eq.trans (b := (A 59)) rfl rfl else by unfold uA; simp only [nb1 k0, nb1 k1, cond_false]) rfl (K _ _)
  | succ m ih =>
    intro B D F A L y1 o2 hm hn K
    generalize hT : (kr_readSum_6 r (F 1 2) (A 2) (m + 1) y1 (F 1 3) (F 1 4) (F 52 2) (F 53 1) (A 58) (A 59)) = T at K
    have hE : T = (lt (kx_stands (F 1 2) (F 1 3) (F 1 4) (A 2) 43 45) (fun g325 => (if g325 = 0 then ((F 1 3), (F 1 4), (F 52 2), (F 53 1), (A 58), (A 59)) else (lt (kx_sign (F 1 2) (F 1 3) (A 2)) (fun g326 => (lt (kr_readProduct r (F 1 2) ((F 1 3) + 1) (F 1 4) (F 52 2) (F 53 1) (A 2) (A 58) (A 59)) (fun g327 => (lt (kl_add_53 g327.2.2.2.1 g327.2.2.2.2.1 g327.2.2.2.2.2 g326 0) (fun g328 => (kr_readSum_6 r (F 1 2) (A 2) m (y1 + 1) g327.1 g327.2.1 g327.2.2.1 g328.2.1 g328.2.2.1 g328.2.2.2)))))))))) := hT.symm
    clear hT
    refine w_n 2 (pc1 := 10) (ls1 := [some (.ref 52), some (.int y1), o2]) (st1 := [.int 240, .int y1]) (hp1 := (hz F A L)) rfl ?_
    refine w_ge (p3 := 13) rfl rfl (fun h => False.elim (by have h : 240 ≤ y1.toInt := h; omega)) (fun hb => ?_)
    refine w_n 4 (pc1 := 21) (ls1 := [some (.ref 52), some (.int y1), o2]) (st1 := [.int 45, .int 43, .ref 1]) (hp1 := (hz F A L)) rfl ?_
    refine w_c rfl rfl (t_kx_stands ?_)
    show wl_E f _ _ mm27.2.2.2.2.2.2.2.2 24 [some (.ref 52), some (.int y1), o2] [.int (kx_stands (F 1 2) (F 1 3) (F 1 4) (A 2) 43 45)] (hz F A L) _
    generalize hG325 : (kx_stands (F 1 2) (F 1 3) (F 1 4) (A 2) 43 45) = G325 at hE ⊢
    replace hE := hE.trans (lt_e _ _)
    refine w_zeq (p3 := 27) rfl rfl (fun h => ?_) (fun h => ?_)
    · have h1 : G325 = 0 := h
      rw [if_pos h1] at hE
      subst T
      exact cvE (funext fun q => funext fun z => if k0 : q = 1 ∧ z = 3 then by obtain ⟨w1, w2⟩ := k0; subst w1; subst w2; exact Eq.trans (b := (F 1 3)) rfl rfl else if k1 : q = 1 ∧ z = 4 then by obtain ⟨w1, w2⟩ := k1; subst w1; subst w2; exact Eq.trans (b := (F 1 4)) rfl rfl else if k2 : q = 52 ∧ z = 2 then by obtain ⟨w1, w2⟩ := k2; subst w1; subst w2; exact Eq.trans (b := (F 52 2)) rfl rfl else if k3 : q = 53 ∧ z = 1 then by obtain ⟨w1, w2⟩ := k3; subst w1; subst w2; exact Eq.trans (b := (F 53 1)) rfl rfl else by unfold uF; simp only [nb2 k0, nb2 k1, nb2 k2, nb2 k3, cond_false]) (funext fun q => if k0 : q = 58 then by subst k0; exact Eq.trans (b := (A 58)) rfl rfl else if k1 : q = 59 then by subst k1; exact Eq.trans (b := (A 59)) rfl rfl else by unfold uA; simp only [nb1 k0, nb1 k1, cond_false]) rfl (K _ _)
    · have h1 : ¬ G325 = 0 := h
      rw [if_neg h1] at hE
      refine w_n 2 (pc1 := 31) (ls1 := [some (.ref 52), some (.int y1), o2]) (st1 := [.ref 1]) (hp1 := (hz F A L)) rfl ?_
      refine w_c rfl rfl (t_kx_sign ?_)
      show wl_E f _ _ mm27.2.2.2.2.2.2.2.2 34 [some (.ref 52), some (.int y1), o2] [.int (kx_sign (F 1 2) (F 1 3) (A 2))] (hz F A L) _
      generalize hG326 : (kx_sign (F 1 2) (F 1 3) (A 2)) = G326 at hE ⊢
      replace hE := hE.trans (lt_e _ _)
      refine w_n 7 (pc1 := 45) (ls1 := [some (.ref 52), some (.int y1), some (.int G326)]) (st1 := [.int ((F 1 3) + 1), .ref 1]) (hp1 := (hz F A L)) rfl ?_
      refine w_pf (k := 1) (fs := hz_f1 F) (hp1 := (hz (uF F 1 3 ((F 1 3) + 1)) A L)) rfl rfl rfl (hz_p1_3 _) ?_
      refine w_n 1 (pc1 := 49) (ls1 := [some (.ref 52), some (.int y1), some (.int G326)]) (st1 := [.ref 52]) (hp1 := (hz (uF F 1 3 ((F 1 3) + 1)) A L)) rfl ?_
      refine w_c rfl rfl (t_kr_readProduct hr (by omega) (by omega) ?_)
      show wl_E f _ _ mm27.2.2.2.2.2.2.2.2 52 [some (.ref 52), some (.int y1), some (.int G326)] [] (hz (uF (uF (uF (uF (uF F 1 3 ((F 1 3) + 1)) 1 3 (kr_readProduct r (F 1 2) ((F 1 3) + 1) (F 1 4) (F 52 2) (F 53 1) (A 2) (A 58) (A 59)).1) 1 4 (kr_readProduct r (F 1 2) ((F 1 3) + 1) (F 1 4) (F 52 2) (F 53 1) (A 2) (A 58) (A 59)).2.1) 52 2 (kr_readProduct r (F 1 2) ((F 1 3) + 1) (F 1 4) (F 52 2) (F 53 1) (A 2) (A 58) (A 59)).2.2.1) 53 1 (kr_readProduct r (F 1 2) ((F 1 3) + 1) (F 1 4) (F 52 2) (F 53 1) (A 2) (A 58) (A 59)).2.2.2.1) (uA (uA A 58 (kr_readProduct r (F 1 2) ((F 1 3) + 1) (F 1 4) (F 52 2) (F 53 1) (A 2) (A 58) (A 59)).2.2.2.2.1) 59 (kr_readProduct r (F 1 2) ((F 1 3) + 1) (F 1 4) (F 52 2) (F 53 1) (A 2) (A 58) (A 59)).2.2.2.2.2) L) _
      generalize hG327 : (kr_readProduct r (F 1 2) ((F 1 3) + 1) (F 1 4) (F 52 2) (F 53 1) (A 2) (A 58) (A 59)) = G327 at hE ⊢
      replace hE := hE.trans (lt_e _ _)
      refine w_n 4 (pc1 := 58) (ls1 := [some (.ref 52), some (.int y1), some (.int G326)]) (st1 := [.int 0, .int G326, .ref 53]) (hp1 := (hz (uF (uF (uF (uF (uF F 1 3 ((F 1 3) + 1)) 1 3 G327.1) 1 4 G327.2.1) 52 2 G327.2.2.1) 53 1 G327.2.2.2.1) (uA (uA A 58 G327.2.2.2.2.1) 59 G327.2.2.2.2.2) L)) rfl ?_
      refine w_c rfl rfl (t_kl_add_53 ?_)
      show wl_E f _ _ mm27.2.2.2.2.2.2.2.2 61 [some (.ref 52), some (.int y1), some (.int G326)] [.int (kl_add_53 G327.2.2.2.1 G327.2.2.2.2.1 G327.2.2.2.2.2 G326 0).1] (hz (uF (uF (uF (uF (uF (uF F 1 3 ((F 1 3) + 1)) 1 3 G327.1) 1 4 G327.2.1) 52 2 G327.2.2.1) 53 1 G327.2.2.2.1) 53 1 (kl_add_53 G327.2.2.2.1 G327.2.2.2.2.1 G327.2.2.2.2.2 G326 0).2.1) (uA (uA (uA (uA A 58 G327.2.2.2.2.1) 59 G327.2.2.2.2.2) 58 (kl_add_53 G327.2.2.2.1 G327.2.2.2.2.1 G327.2.2.2.2.2 G326 0).2.2.1) 59 (kl_add_53 G327.2.2.2.1 G327.2.2.2.2.1 G327.2.2.2.2.2 G326 0).2.2.2) L) _
      generalize hG328 : (kl_add_53 G327.2.2.2.1 G327.2.2.2.2.1 G327.2.2.2.2.2 G326 0) = G328 at hE ⊢
      replace hE := hE.trans (lt_e _ _)
      refine w_n 3 (pc1 := 6) (ls1 := [some (.ref 52), some (.int (y1 + 1)), some (.int G326)]) (st1 := []) (hp1 := (hz (uF (uF (uF (uF (uF (uF F 1 3 ((F 1 3) + 1)) 1 3 G327.1) 1 4 G327.2.1) 52 2 G327.2.2.1) 53 1 G327.2.2.2.1) 53 1 G328.2.1) (uA (uA (uA (uA A 58 G327.2.2.2.2.1) 59 G327.2.2.2.2.2) 58 G328.2.2.1) 59 G328.2.2.2) L)) rfl ?_
      subst T
      have hb2 := i_up (B := (240 : Int32)) hb
      have hb3 : y1.toInt < 240 := hb
      exact ih (show m = (240 - (y1 + 1).toInt).toNat by rw [hb2]; omega) hn (fun q1 q2 => cvE (funext fun q => funext fun z => if k0 : q = 1 ∧ z = 3 then by obtain ⟨w1, w2⟩ := k0; subst w1; subst w2; exact Eq.trans (b := (kr_readSum_6 r (F 1 2) (A 2) m (y1 + 1) G327.1 G327.2.1 G327.2.2.1 G328.2.1 G328.2.2.1 G328.2.2.2).1) rfl rfl else if k1 : q = 1 ∧ z = 4 then by obtain ⟨w1, w2⟩ := k1; subst w1; subst w2; exact Eq.trans (b := (kr_readSum_6 r (F 1 2) (A 2) m (y1 + 1) G327.1 G327.2.1 G327.2.2.1 G328.2.1 G328.2.2.1 G328.2.2.2).2.1) rfl rfl else if k2 : q = 52 ∧ z = 2 then by obtain ⟨w1, w2⟩ := k2; subst w1; subst w2; exact Eq.trans (b := (kr_readSum_6 r (F 1 2) (A 2) m (y1 + 1) G327.1 G327.2.1 G327.2.2.1 G328.2.1 G328.2.2.1 G328.2.2.2).2.2.1) rfl rfl else if k3 : q = 53 ∧ z = 1 then by obtain ⟨w1, w2⟩ := k3; subst w1; subst w2; exact Eq.trans (b := (kr_readSum_6 r (F 1 2) (A 2) m (y1 + 1) G327.1 G327.2.1 G327.2.2.1 G328.2.1 G328.2.2.1 G328.2.2.2).2.2.2.1) rfl rfl else by unfold uF; simp only [nb2 k0, nb2 k1, nb2 k2, nb2 k3, cond_false]) (funext fun q => if k0 : q = 58 then by subst k0; exact Eq.trans (b := (kr_readSum_6 r (F 1 2) (A 2) m (y1 + 1) G327.1 G327.2.1 G327.2.2.1 G328.2.1 G328.2.2.1 G328.2.2.2).2.2.2.2.1) rfl rfl else if k1 : q = 59 then by subst k1; exact Eq.trans (b := (kr_readSum_6 r (F 1 2) (A 2) m (y1 + 1) G327.1 G327.2.1 G327.2.2.1 G328.2.1 G328.2.2.1 G328.2.2.2).2.2.2.2.2) rfl rfl else by unfold uA; simp only [nb1 k0, nb1 k1, cond_false]) rfl (K q1 q2))
noncomputable def kr_readSum_b (r : Int32 → Int32 → Int32 → Int32 → Int32 → List Int32 → List Int32 → List Int32 → (Int32 × Int32 × Int32 × Int32 × List Int32 × List Int32)) (f1_2 : Int32) (f1_3 : Int32) (f1_4 : Int32) (f52_2 : Int32) (f53_1 : Int32) (a2 : List Int32) (a58 : List Int32) (a59 : List Int32) : Int32 × Int32 × Int32 × Int32 × List Int32 × List Int32 := (lt (kr_readProduct r f1_2 f1_3 f1_4 f52_2 f53_1 a2 a58 a59) (fun g324 => (lt (kr_readSum_6 r f1_2 a2 240 0 g324.1 g324.2.1 g324.2.2.1 g324.2.2.2.1 g324.2.2.2.2.1 g324.2.2.2.2.2) (fun g329 => (g329.1, g329.2.1, g329.2.2.1, g329.2.2.2.1, g329.2.2.2.2.1, g329.2.2.2.2.2)))))
theorem t_kr_readSum_b {f D : Nat} {n : Nat} {r : Int32 → Int32 → Int32 → Int32 → Int32 → List Int32 → List Int32 → List Int32 → (Int32 × Int32 × Int32 × Int32 × List Int32 × List Int32)} (hr : ∀ (D : Nat) {F : Nat → Nat → Int32} {A : Nat → List Int32} {L : Nat → List Int64} {Q : Option Value → sm_H → Prop}, D ≤ n → (Q none (hz (uF (uF (uF (uF F 1 3 ((r (F 1 2) (F 1 3) (F 1 4) (F 52 2) (F 53 1) (A 2) (A 58) (A 59)).1)) 1 4 ((r (F 1 2) (F 1 3) (F 1 4) (F 52 2) (F 53 1) (A 2) (A 58) (A 59)).2.1)) 52 2 ((r (F 1 2) (F 1 3) (F 1 4) (F 52 2) (F 53 1) (A 2) (A 58) (A 59)).2.2.1)) 53 1 ((r (F 1 2) (F 1 3) (F 1 4) (F 52 2) (F 53 1) (A 2) (A 58) (A 59)).2.2.2.1)) (uA (uA A 58 ((r (F 1 2) (F 1 3) (F 1 4) (F 52 2) (F 53 1) (A 2) (A 58) (A 59)).2.2.2.2.1)) 59 ((r (F 1 2) (F 1 3) (F 1 4) (F 52 2) (F 53 1) (A 2) (A 58) (A 59)).2.2.2.2.2)) L)) → wl_M f D 27 [.ref 52] (hz F A L) Q) (hnf : n + 1 ≤ f) {F : Nat → Nat → Int32} {A : Nat → List Int32} {L : Nat → List Int64} {Q : Option Value → sm_H → Prop} (hn : D ≤ n + 1) (K : Q none (hz (uF (uF (uF (uF F 1 3 ((kr_readSum_b r (F 1 2) (F 1 3) (F 1 4) (F 52 2) (F 53 1) (A 2) (A 58) (A 59)).1)) 1 4 ((kr_readSum_b r (F 1 2) (F 1 3) (F 1 4) (F 52 2) (F 53 1) (A 2) (A 58) (A 59)).2.1)) 52 2 ((kr_readSum_b r (F 1 2) (F 1 3) (F 1 4) (F 52 2) (F 53 1) (A 2) (A 58) (A 59)).2.2.1)) 53 1 ((kr_readSum_b r (F 1 2) (F 1 3) (F 1 4) (F 52 2) (F 53 1) (A 2) (A 58) (A 59)).2.2.2.1)) (uA (uA A 58 ((kr_readSum_b r (F 1 2) (F 1 3) (F 1 4) (F 52 2) (F 53 1) (A 2) (A 58) (A 59)).2.2.2.2.1)) 59 ((kr_readSum_b r (F 1 2) (F 1 3) (F 1 4) (F 52 2) (F 53 1) (A 2) (A 58) (A 59)).2.2.2.2.2)) L)) : wl_M f D 27 [.ref 52] (hz F A L) Q := by
  generalize hT : (kr_readSum_b r (F 1 2) (F 1 3) (F 1 4) (F 52 2) (F 53 1) (A 2) (A 58) (A 59)) = T at K
  have hE : T = (lt (kr_readProduct r (F 1 2) (F 1 3) (F 1 4) (F 52 2) (F 53 1) (A 2) (A 58) (A 59)) (fun g324 => (lt (kr_readSum_6 r (F 1 2) (A 2) 240 0 g324.1 g324.2.1 g324.2.2.1 g324.2.2.2.1 g324.2.2.2.2.1 g324.2.2.2.2.2) (fun g329 => (g329.1, g329.2.1, g329.2.2.1, g329.2.2.2.1, g329.2.2.2.2.1, g329.2.2.2.2.2))))) := hT.symm
  clear hT
  refine w_m (E := mm27) rfl ?_
  show wl_E f f (D - 1) mm27.2.2.2.2.2.2.2.2 0 [some (.ref 52), none, none] [] (hz F A L) Q
  refine w_n 1 (pc1 := 1) (ls1 := [some (.ref 52), none, none]) (st1 := [.ref 52]) (hp1 := (hz F A L)) rfl ?_
  refine w_c rfl rfl (t_kr_readProduct hr (by omega) (by omega) ?_)
  show wl_E f _ _ mm27.2.2.2.2.2.2.2.2 4 [some (.ref 52), none, none] [] (hz (uF (uF (uF (uF F 1 3 (kr_readProduct r (F 1 2) (F 1 3) (F 1 4) (F 52 2) (F 53 1) (A 2) (A 58) (A 59)).1) 1 4 (kr_readProduct r (F 1 2) (F 1 3) (F 1 4) (F 52 2) (F 53 1) (A 2) (A 58) (A 59)).2.1) 52 2 (kr_readProduct r (F 1 2) (F 1 3) (F 1 4) (F 52 2) (F 53 1) (A 2) (A 58) (A 59)).2.2.1) 53 1 (kr_readProduct r (F 1 2) (F 1 3) (F 1 4) (F 52 2) (F 53 1) (A 2) (A 58) (A 59)).2.2.2.1) (uA (uA A 58 (kr_readProduct r (F 1 2) (F 1 3) (F 1 4) (F 52 2) (F 53 1) (A 2) (A 58) (A 59)).2.2.2.2.1) 59 (kr_readProduct r (F 1 2) (F 1 3) (F 1 4) (F 52 2) (F 53 1) (A 2) (A 58) (A 59)).2.2.2.2.2) L) _
  generalize hG324 : (kr_readProduct r (F 1 2) (F 1 3) (F 1 4) (F 52 2) (F 53 1) (A 2) (A 58) (A 59)) = G324 at hE ⊢
  replace hE := hE.trans (lt_e _ _)
  refine w_n 2 (pc1 := 6) (ls1 := [some (.ref 52), some (.int 0), none]) (st1 := []) (hp1 := (hz (uF (uF (uF (uF F 1 3 G324.1) 1 4 G324.2.1) 52 2 G324.2.2.1) 53 1 G324.2.2.2.1) (uA (uA A 58 G324.2.2.2.2.1) 59 G324.2.2.2.2.2) L)) rfl ?_
  refine t_kr_readSum_6 hr (by omega) 240 (show (240 : Nat) = (240 - (0 : Int32).toInt).toNat by have e0 : (0 : Int32).toInt = 0 := rfl; first | rfl | omega) (by omega) ?_
  intro r1 r2
  show wl_E f _ _ mm27.2.2.2.2.2.2.2.2 68 [some (.ref 52), some (.int r1), r2] [] (hz (uF (uF (uF (uF (uF (uF (uF (uF F 1 3 G324.1) 1 4 G324.2.1) 52 2 G324.2.2.1) 53 1 G324.2.2.2.1) 1 3 (kr_readSum_6 r (F 1 2) (A 2) 240 0 G324.1 G324.2.1 G324.2.2.1 G324.2.2.2.1 G324.2.2.2.2.1 G324.2.2.2.2.2).1) 1 4 (kr_readSum_6 r (F 1 2) (A 2) 240 0 G324.1 G324.2.1 G324.2.2.1 G324.2.2.2.1 G324.2.2.2.2.1 G324.2.2.2.2.2).2.1) 52 2 (kr_readSum_6 r (F 1 2) (A 2) 240 0 G324.1 G324.2.1 G324.2.2.1 G324.2.2.2.1 G324.2.2.2.2.1 G324.2.2.2.2.2).2.2.1) 53 1 (kr_readSum_6 r (F 1 2) (A 2) 240 0 G324.1 G324.2.1 G324.2.2.1 G324.2.2.2.1 G324.2.2.2.2.1 G324.2.2.2.2.2).2.2.2.1) (uA (uA (uA (uA A 58 G324.2.2.2.2.1) 59 G324.2.2.2.2.2) 58 (kr_readSum_6 r (F 1 2) (A 2) 240 0 G324.1 G324.2.1 G324.2.2.1 G324.2.2.2.1 G324.2.2.2.2.1 G324.2.2.2.2.2).2.2.2.2.1) 59 (kr_readSum_6 r (F 1 2) (A 2) 240 0 G324.1 G324.2.1 G324.2.2.1 G324.2.2.2.1 G324.2.2.2.2.1 G324.2.2.2.2.2).2.2.2.2.2) L) _
  generalize hG329 : (kr_readSum_6 r (F 1 2) (A 2) 240 0 G324.1 G324.2.1 G324.2.2.1 G324.2.2.2.1 G324.2.2.2.2.1 G324.2.2.2.2.2) = G329 at hE ⊢
  replace hE := hE.trans (lt_e _ _)
  subst T
  exact w_r rfl rfl (cvQ (funext fun q => funext fun z => if k0 : q = 1 ∧ z = 3 then by obtain ⟨w1, w2⟩ := k0; subst w1; subst w2; exact Eq.trans (b := G329.1) rfl rfl else if k1 : q = 1 ∧ z = 4 then by obtain ⟨w1, w2⟩ := k1; subst w1; subst w2; exact Eq.trans (b := G329.2.1) rfl rfl else if k2 : q = 52 ∧ z = 2 then by obtain ⟨w1, w2⟩ := k2; subst w1; subst w2; exact Eq.trans (b := G329.2.2.1) rfl rfl else if k3 : q = 53 ∧ z = 1 then by obtain ⟨w1, w2⟩ := k3; subst w1; subst w2; exact Eq.trans (b := G329.2.2.2.1) rfl rfl else by unfold uF; simp only [nb2 k0, nb2 k1, nb2 k2, nb2 k3, cond_false]) (funext fun q => if k0 : q = 58 then by subst k0; exact Eq.trans (b := G329.2.2.2.2.1) rfl rfl else if k1 : q = 59 then by subst k1; exact Eq.trans (b := G329.2.2.2.2.2) rfl rfl else by unfold uA; simp only [nb1 k0, nb1 k1, cond_false]) rfl K)
noncomputable def kr_readSum : Nat → Int32 → Int32 → Int32 → Int32 → Int32 → List Int32 → List Int32 → List Int32 → (Int32 × Int32 × Int32 × Int32 × List Int32 × List Int32)
  | 0, _, f1_3, f1_4, f52_2, f53_1, _, a58, a59 => (f1_3, f1_4, f52_2, f53_1, a58, a59)
  | n + 1, f1_2, f1_3, f1_4, f52_2, f53_1, a2, a58, a59 => kr_readSum_b (kr_readSum n) f1_2 f1_3 f1_4 f52_2 f53_1 a2 a58 a59
theorem t_kr_readSum {f : Nat} : ∀ (n : Nat), n ≤ f → ∀ {D : Nat} {F : Nat → Nat → Int32} {A : Nat → List Int32} {L : Nat → List Int64} {Q : Option Value → sm_H → Prop}, D ≤ n → (Q none (hz (uF (uF (uF (uF F 1 3 ((kr_readSum n (F 1 2) (F 1 3) (F 1 4) (F 52 2) (F 53 1) (A 2) (A 58) (A 59)).1)) 1 4 ((kr_readSum n (F 1 2) (F 1 3) (F 1 4) (F 52 2) (F 53 1) (A 2) (A 58) (A 59)).2.1)) 52 2 ((kr_readSum n (F 1 2) (F 1 3) (F 1 4) (F 52 2) (F 53 1) (A 2) (A 58) (A 59)).2.2.1)) 53 1 ((kr_readSum n (F 1 2) (F 1 3) (F 1 4) (F 52 2) (F 53 1) (A 2) (A 58) (A 59)).2.2.2.1)) (uA (uA A 58 ((kr_readSum n (F 1 2) (F 1 3) (F 1 4) (F 52 2) (F 53 1) (A 2) (A 58) (A 59)).2.2.2.2.1)) 59 ((kr_readSum n (F 1 2) (F 1 3) (F 1 4) (F 52 2) (F 53 1) (A 2) (A 58) (A 59)).2.2.2.2.2)) L)) → wl_M f D 27 [.ref 52] (hz F A L) Q := by
  intro n
  induction n with
  | zero =>
    intro hf D F A L Q  hD K
    obtain rfl : D = 0 := by omega
    exact w_m0
  | succ n ih =>
    intro hf D F A L Q  hD K
    exact t_kr_readSum_b (n := n) (r := kr_readSum n) (fun _ => ih (by omega)) hf hD K
noncomputable def kr_goOnHere (f53_1 : Int32) (a59 : List Int32) (x1 : Int32) : List Int32 := (if x1 = (-1) then a59 else (a59.set x1.toInt.toNat f53_1))
theorem t_kr_goOnHere {f D : Nat} {F : Nat → Nat → Int32} {A : Nat → List Int32} {L : Nat → List Int64} {Q : Option Value → sm_H → Prop} {x1 : Int32} (K : Q none (hz F (uA A 59 (kr_goOnHere (F 53 1) (A 59) x1)) L)) : wl_M f D 40 [.ref 52, .int x1] (hz F A L) Q := by
  generalize hT : (kr_goOnHere (F 53 1) (A 59) x1) = T at K
  have hE : T = (if x1 = (-1) then (A 59) else ((A 59).set x1.toInt.toNat (F 53 1))) := hT.symm
  clear hT
  refine w_m (E := mm40) rfl ?_
  show wl_E f f (D - 1) mm40.2.2.2.2.2.2.2.2 0 [some (.ref 52), some (.int x1)] [] (hz F A L) Q
  refine w_n 2 (pc1 := 2) (ls1 := [some (.ref 52), some (.int x1)]) (st1 := [.int (-1), .int x1]) (hp1 := (hz F A L)) rfl ?_
  refine w_eq (p3 := 5) rfl rfl (fun h => ?_) (fun h => ?_)
  · have h1 : x1 = (-1) := h
    rw [if_pos h1] at hE
    subst T
    exact w_r rfl rfl (cvQ rfl (funext fun q => if k0 : q = 59 then by subst k0; exact Eq.trans (b := (A 59)) rfl rfl else by unfold uA; simp only [nb1 k0, cond_false]) rfl K)
  · have h1 : ¬ x1 = (-1) := h
    rw [if_neg h1] at hE
    refine w_n 7 (pc1 := 20) (ls1 := [some (.ref 52), some (.int x1)]) (st1 := [.int (F 53 1), .int x1, .ref 59]) (hp1 := (hz F A L)) rfl ?_
    refine w_as (k := 59) (l := (A 59)) (hp1 := (hz F (uA A 59 ((A 59).set x1.toInt.toNat (F 53 1))) L)) rfl rfl rfl (hz_s59 _) (fun _ => ?_)
    subst T
    exact w_r rfl rfl (cvQ rfl rfl rfl K)
noncomputable def kr_readPart_6 (r : Int32 → Int32 → Int32 → Int32 → Int32 → List Int32 → List Int32 → List Int32 → (Int32 × Int32 × Int32 × Int32 × List Int32 × List Int32)) (f1_2 : Int32) (a2 : List Int32)  : Nat → Int32 → Int32 → Int32 → Int32 → Int32 → List Int32 → List Int32 → Int32 × Int32 × Int32 × Int32 × List Int32 × List Int32
  | 0, _, f1_3, f1_4, f52_2, f53_1, a58, a59 => (f1_3, f1_4, f52_2, f53_1, a58, a59)
  | m + 1, y1, f1_3, f1_4, f52_2, f53_1, a58, a59 => (lt (kx_stands f1_2 f1_3 f1_4 a2 38 38) (fun g343 => (if g343 = 0 then (f1_3, f1_4, f52_2, f53_1, a58, a59) else (lt (kl_add_53 f53_1 a58 a59 38 0) (fun g344 => (lt (r f1_2 (f1_3 + 1) f1_4 f52_2 g344.2.1 a2 g344.2.2.1 g344.2.2.2) (fun g345 => (lt (kr_goOnHere g345.2.2.2.1 g345.2.2.2.2.2 g344.1) (fun g346 => (kr_readPart_6 r f1_2 a2 m (y1 + 1) g345.1 g345.2.1 g345.2.2.1 g345.2.2.2.1 g345.2.2.2.2.1 g346))))))))))
theorem t_kr_readPart_6 {f : Nat} {n : Nat} {r : Int32 → Int32 → Int32 → Int32 → Int32 → List Int32 → List Int32 → List Int32 → (Int32 × Int32 × Int32 × Int32 × List Int32 × List Int32)} (hr : ∀ (D : Nat) {F : Nat → Nat → Int32} {A : Nat → List Int32} {L : Nat → List Int64} {Q : Option Value → sm_H → Prop}, D ≤ n → (Q none (hz (uF (uF (uF (uF F 1 3 ((r (F 1 2) (F 1 3) (F 1 4) (F 52 2) (F 53 1) (A 2) (A 58) (A 59)).1)) 1 4 ((r (F 1 2) (F 1 3) (F 1 4) (F 52 2) (F 53 1) (A 2) (A 58) (A 59)).2.1)) 52 2 ((r (F 1 2) (F 1 3) (F 1 4) (F 52 2) (F 53 1) (A 2) (A 58) (A 59)).2.2.1)) 53 1 ((r (F 1 2) (F 1 3) (F 1 4) (F 52 2) (F 53 1) (A 2) (A 58) (A 59)).2.2.2.1)) (uA (uA A 58 ((r (F 1 2) (F 1 3) (F 1 4) (F 52 2) (F 53 1) (A 2) (A 58) (A 59)).2.2.2.2.1)) 59 ((r (F 1 2) (F 1 3) (F 1 4) (F 52 2) (F 53 1) (A 2) (A 58) (A 59)).2.2.2.2.2)) L)) → wl_M f D 39 [.ref 52] (hz F A L) Q) (hnf : n ≤ f) {Q : Option Value → sm_H → Prop} : ∀ (m : Nat) {B D : Nat} {F : Nat → Nat → Int32} {A : Nat → List Int32} {L : Nat → List Int64} {y1 : Int32} {o2 : Option Value}, m = (240 - y1.toInt).toNat → (_ : D ≤ n) → (∀ q1 : Int32, ∀ q2 : Option Value, wl_E f B D mm38.2.2.2.2.2.2.2.2 66 [some (.ref 52), some (.int q1), q2] [] (hz (uF (uF (uF (uF F 1 3 ((kr_readPart_6 r (F 1 2) (A 2) m y1 (F 1 3) (F 1 4) (F 52 2) (F 53 1) (A 58) (A 59)).1)) 1 4 ((kr_readPart_6 r (F 1 2) (A 2) m y1 (F 1 3) (F 1 4) (F 52 2) (F 53 1) (A 58) (A 59)).2.1)) 52 2 ((kr_readPart_6 r (F 1 2) (A 2) m y1 (F 1 3) (F 1 4) (F 52 2) (F 53 1) (A 58) (A 59)).2.2.1)) 53 1 ((kr_readPart_6 r (F 1 2) (A 2) m y1 (F 1 3) (F 1 4) (F 52 2) (F 53 1) (A 58) (A 59)).2.2.2.1)) (uA (uA A 58 ((kr_readPart_6 r (F 1 2) (A 2) m y1 (F 1 3) (F 1 4) (F 52 2) (F 53 1) (A 58) (A 59)).2.2.2.2.1)) 59 ((kr_readPart_6 r (F 1 2) (A 2) m y1 (F 1 3) (F 1 4) (F 52 2) (F 53 1) (A 58) (A 59)).2.2.2.2.2)) L) Q) → wl_E f B D mm38.2.2.2.2.2.2.2.2 6 [some (.ref 52), some (.int y1), o2] [] (hz F A L) Q := by
  intro m
  induction m with
  | zero =>
    intro B D F A L y1 o2 hm hn K
    generalize hT : (kr_readPart_6 r (F 1 2) (A 2) 0 y1 (F 1 3) (F 1 4) (F 52 2) (F 53 1) (A 58) (A 59)) = T at K
    have hE : T = ((F 1 3), (F 1 4), (F 52 2), (F 53 1), (A 58), (A 59)) := hT.symm
    clear hT
    refine w_n 2 (pc1 := 10) (ls1 := [some (.ref 52), some (.int y1), o2]) (st1 := [.int 240, .int y1]) (hp1 := (hz F A L)) rfl ?_
    refine w_ge (p3 := 13) rfl rfl (fun hb => ?_) (fun h => False.elim (by have h : y1.toInt < 240 := h; omega))
    subst T
    exact cvE (funext fun q => funext fun z => if k0 : q = 1 ∧ z = 3 then by obtain ⟨w1, w2⟩ := k0; subst w1; subst w2; exact Eq.trans (b := (F 1 3)) rfl rfl else if k1 : q = 1 ∧ z = 4 then by obtain ⟨w1, w2⟩ := k1; subst w1; subst w2; exact Eq.trans (b := (F 1 4)) rfl rfl else if k2 : q = 52 ∧ z = 2 then by obtain ⟨w1, w2⟩ := k2; subst w1; subst w2; exact Eq.trans (b := (F 52 2)) rfl rfl else if k3 : q = 53 ∧ z = 1 then by obtain ⟨w1, w2⟩ := k3; subst w1; subst w2; exact Eq.trans (b := (F 53 1)) rfl rfl else by unfold uF; simp only [nb2 k0, nb2 k1, nb2 k2, nb2 k3, cond_false]) (funext fun q => if k0 : q = 58 then by subst k0; exact Eq.trans (b := (A 58)) rfl rfl else if k1 : q = 59 then by subst k1; exact Eq.trans (b := (A 59)) rfl rfl else by unfold uA; simp only [nb1 k0, nb1 k1, cond_false]) rfl (K _ _)
  | succ m ih =>
    intro B D F A L y1 o2 hm hn K
    generalize hT : (kr_readPart_6 r (F 1 2) (A 2) (m + 1) y1 (F 1 3) (F 1 4) (F 52 2) (F 53 1) (A 58) (A 59)) = T at K
    have hE : T = (lt (kx_stands (F 1 2) (F 1 3) (F 1 4) (A 2) 38 38) (fun g343 => (if g343 = 0 then ((F 1 3), (F 1 4), (F 52 2), (F 53 1), (A 58), (A 59)) else (lt (kl_add_53 (F 53 1) (A 58) (A 59) 38 0) (fun g344 => (lt (r (F 1 2) ((F 1 3) + 1) (F 1 4) (F 52 2) g344.2.1 (A 2) g344.2.2.1 g344.2.2.2) (fun g345 => (lt (kr_goOnHere g345.2.2.2.1 g345.2.2.2.2.2 g344.1) (fun g346 => (kr_readPart_6 r (F 1 2) (A 2) m (y1 + 1) g345.1 g345.2.1 g345.2.2.1 g345.2.2.2.1 g345.2.2.2.2.1 g346)))))))))) := hT.symm
    clear hT
    refine w_n 2 (pc1 := 10) (ls1 := [some (.ref 52), some (.int y1), o2]) (st1 := [.int 240, .int y1]) (hp1 := (hz F A L)) rfl ?_
    refine w_ge (p3 := 13) rfl rfl (fun h => False.elim (by have h : 240 ≤ y1.toInt := h; omega)) (fun hb => ?_)
    refine w_n 4 (pc1 := 21) (ls1 := [some (.ref 52), some (.int y1), o2]) (st1 := [.int 38, .int 38, .ref 1]) (hp1 := (hz F A L)) rfl ?_
    refine w_c rfl rfl (t_kx_stands ?_)
    show wl_E f _ _ mm38.2.2.2.2.2.2.2.2 24 [some (.ref 52), some (.int y1), o2] [.int (kx_stands (F 1 2) (F 1 3) (F 1 4) (A 2) 38 38)] (hz F A L) _
    generalize hG343 : (kx_stands (F 1 2) (F 1 3) (F 1 4) (A 2) 38 38) = G343 at hE ⊢
    replace hE := hE.trans (lt_e _ _)
    refine w_zeq (p3 := 27) rfl rfl (fun h => ?_) (fun h => ?_)
    · have h1 : G343 = 0 := h
      rw [if_pos h1] at hE
      subst T
      exact cvE (funext fun q => funext fun z => if k0 : q = 1 ∧ z = 3 then by obtain ⟨w1, w2⟩ := k0; subst w1; subst w2; exact Eq.trans (b := (F 1 3)) rfl rfl else if k1 : q = 1 ∧ z = 4 then by obtain ⟨w1, w2⟩ := k1; subst w1; subst w2; exact Eq.trans (b := (F 1 4)) rfl rfl else if k2 : q = 52 ∧ z = 2 then by obtain ⟨w1, w2⟩ := k2; subst w1; subst w2; exact Eq.trans (b := (F 52 2)) rfl rfl else if k3 : q = 53 ∧ z = 1 then by obtain ⟨w1, w2⟩ := k3; subst w1; subst w2; exact Eq.trans (b := (F 53 1)) rfl rfl else by unfold uF; simp only [nb2 k0, nb2 k1, nb2 k2, nb2 k3, cond_false]) (funext fun q => if k0 : q = 58 then by subst k0; exact Eq.trans (b := (A 58)) rfl rfl else if k1 : q = 59 then by subst k1; exact Eq.trans (b := (A 59)) rfl rfl else by unfold uA; simp only [nb1 k0, nb1 k1, cond_false]) rfl (K _ _)
    · have h1 : ¬ G343 = 0 := h
      rw [if_neg h1] at hE
      refine w_n 6 (pc1 := 37) (ls1 := [some (.ref 52), some (.int y1), o2]) (st1 := [.int ((F 1 3) + 1), .ref 1]) (hp1 := (hz F A L)) rfl ?_
      refine w_pf (k := 1) (fs := hz_f1 F) (hp1 := (hz (uF F 1 3 ((F 1 3) + 1)) A L)) rfl rfl rfl (hz_p1_3 _) ?_
      refine w_n 4 (pc1 := 47) (ls1 := [some (.ref 52), some (.int y1), o2]) (st1 := [.int 0, .int 38, .ref 53]) (hp1 := (hz (uF F 1 3 ((F 1 3) + 1)) A L)) rfl ?_
      refine w_c rfl rfl (t_kl_add_53 ?_)
      show wl_E f _ _ mm38.2.2.2.2.2.2.2.2 50 [some (.ref 52), some (.int y1), o2] [.int (kl_add_53 (F 53 1) (A 58) (A 59) 38 0).1] (hz (uF (uF F 1 3 ((F 1 3) + 1)) 53 1 (kl_add_53 (F 53 1) (A 58) (A 59) 38 0).2.1) (uA (uA A 58 (kl_add_53 (F 53 1) (A 58) (A 59) 38 0).2.2.1) 59 (kl_add_53 (F 53 1) (A 58) (A 59) 38 0).2.2.2) L) _
      generalize hG344 : (kl_add_53 (F 53 1) (A 58) (A 59) 38 0) = G344 at hE ⊢
      replace hE := hE.trans (lt_e _ _)
      refine w_n 2 (pc1 := 52) (ls1 := [some (.ref 52), some (.int y1), some (.int G344.1)]) (st1 := [.ref 52]) (hp1 := (hz (uF (uF F 1 3 ((F 1 3) + 1)) 53 1 G344.2.1) (uA (uA A 58 G344.2.2.1) 59 G344.2.2.2) L)) rfl ?_
      refine w_c rfl rfl (hr _ (by omega) ?_)
      show wl_E f _ _ mm38.2.2.2.2.2.2.2.2 55 [some (.ref 52), some (.int y1), some (.int G344.1)] [] (hz (uF (uF (uF (uF (uF (uF F 1 3 ((F 1 3) + 1)) 53 1 G344.2.1) 1 3 (r (F 1 2) ((F 1 3) + 1) (F 1 4) (F 52 2) G344.2.1 (A 2) G344.2.2.1 G344.2.2.2).1) 1 4 (r (F 1 2) ((F 1 3) + 1) (F 1 4) (F 52 2) G344.2.1 (A 2) G344.2.2.1 G344.2.2.2).2.1) 52 2 (r (F 1 2) ((F 1 3) + 1) (F 1 4) (F 52 2) G344.2.1 (A 2) G344.2.2.1 G344.2.2.2).2.2.1) 53 1 (r (F 1 2) ((F 1 3) + 1) (F 1 4) (F 52 2) G344.2.1 (A 2) G344.2.2.1 G344.2.2.2).2.2.2.1) (uA (uA (uA (uA A 58 G344.2.2.1) 59 G344.2.2.2) 58 (r (F 1 2) ((F 1 3) + 1) (F 1 4) (F 52 2) G344.2.1 (A 2) G344.2.2.1 G344.2.2.2).2.2.2.2.1) 59 (r (F 1 2) ((F 1 3) + 1) (F 1 4) (F 52 2) G344.2.1 (A 2) G344.2.2.1 G344.2.2.2).2.2.2.2.2) L) _
      generalize hG345 : (r (F 1 2) ((F 1 3) + 1) (F 1 4) (F 52 2) G344.2.1 (A 2) G344.2.2.1 G344.2.2.2) = G345 at hE ⊢
      replace hE := hE.trans (lt_e _ _)
      refine w_n 2 (pc1 := 57) (ls1 := [some (.ref 52), some (.int y1), some (.int G344.1)]) (st1 := [.int G344.1, .ref 52]) (hp1 := (hz (uF (uF (uF (uF (uF (uF F 1 3 ((F 1 3) + 1)) 53 1 G344.2.1) 1 3 G345.1) 1 4 G345.2.1) 52 2 G345.2.2.1) 53 1 G345.2.2.2.1) (uA (uA (uA (uA A 58 G344.2.2.1) 59 G344.2.2.2) 58 G345.2.2.2.2.1) 59 G345.2.2.2.2.2) L)) rfl ?_
      refine w_c rfl rfl (t_kr_goOnHere ?_)
      show wl_E f _ _ mm38.2.2.2.2.2.2.2.2 60 [some (.ref 52), some (.int y1), some (.int G344.1)] [] (hz (uF (uF (uF (uF (uF (uF F 1 3 ((F 1 3) + 1)) 53 1 G344.2.1) 1 3 G345.1) 1 4 G345.2.1) 52 2 G345.2.2.1) 53 1 G345.2.2.2.1) (uA (uA (uA (uA (uA A 58 G344.2.2.1) 59 G344.2.2.2) 58 G345.2.2.2.2.1) 59 G345.2.2.2.2.2) 59 (kr_goOnHere G345.2.2.2.1 G345.2.2.2.2.2 G344.1)) L) _
      generalize hG346 : (kr_goOnHere G345.2.2.2.1 G345.2.2.2.2.2 G344.1) = G346 at hE ⊢
      replace hE := hE.trans (lt_e _ _)
      refine w_n 2 (pc1 := 6) (ls1 := [some (.ref 52), some (.int (y1 + 1)), some (.int G344.1)]) (st1 := []) (hp1 := (hz (uF (uF (uF (uF (uF (uF F 1 3 ((F 1 3) + 1)) 53 1 G344.2.1) 1 3 G345.1) 1 4 G345.2.1) 52 2 G345.2.2.1) 53 1 G345.2.2.2.1) (uA (uA (uA (uA (uA A 58 G344.2.2.1) 59 G344.2.2.2) 58 G345.2.2.2.2.1) 59 G345.2.2.2.2.2) 59 G346) L)) rfl ?_
      subst T
      have hb2 := i_up (B := (240 : Int32)) hb
      have hb3 : y1.toInt < 240 := hb
      exact ih (show m = (240 - (y1 + 1).toInt).toNat by rw [hb2]; omega) hn (fun q1 q2 => cvE (funext fun q => funext fun z => if k0 : q = 1 ∧ z = 3 then by obtain ⟨w1, w2⟩ := k0; subst w1; subst w2; exact Eq.trans (b := (kr_readPart_6 r (F 1 2) (A 2) m (y1 + 1) G345.1 G345.2.1 G345.2.2.1 G345.2.2.2.1 G345.2.2.2.2.1 G346).1) rfl rfl else if k1 : q = 1 ∧ z = 4 then by obtain ⟨w1, w2⟩ := k1; subst w1; subst w2; exact Eq.trans (b := (kr_readPart_6 r (F 1 2) (A 2) m (y1 + 1) G345.1 G345.2.1 G345.2.2.1 G345.2.2.2.1 G345.2.2.2.2.1 G346).2.1) rfl rfl else if k2 : q = 52 ∧ z = 2 then by obtain ⟨w1, w2⟩ := k2; subst w1; subst w2; exact Eq.trans (b := (kr_readPart_6 r (F 1 2) (A 2) m (y1 + 1) G345.1 G345.2.1 G345.2.2.1 G345.2.2.2.1 G345.2.2.2.2.1 G346).2.2.1) rfl rfl else if k3 : q = 53 ∧ z = 1 then by obtain ⟨w1, w2⟩ := k3; subst w1; subst w2; exact Eq.trans (b := (kr_readPart_6 r (F 1 2) (A 2) m (y1 + 1) G345.1 G345.2.1 G345.2.2.1 G345.2.2.2.1 G345.2.2.2.2.1 G346).2.2.2.1) rfl rfl else by unfold uF; simp only [nb2 k0, nb2 k1, nb2 k2, nb2 k3, cond_false]) (funext fun q => if k0 : q = 58 then by subst k0; exact Eq.trans (b := (kr_readPart_6 r (F 1 2) (A 2) m (y1 + 1) G345.1 G345.2.1 G345.2.2.1 G345.2.2.2.1 G345.2.2.2.2.1 G346).2.2.2.2.1) rfl rfl else if k1 : q = 59 then by subst k1; exact Eq.trans (b := (kr_readPart_6 r (F 1 2) (A 2) m (y1 + 1) G345.1 G345.2.1 G345.2.2.1 G345.2.2.2.1 G345.2.2.2.2.1 G346).2.2.2.2.2) rfl rfl else by unfold uA; simp only [nb1 k0, nb1 k1, cond_false]) rfl (K q1 q2))
noncomputable def kr_readPart (r : Int32 → Int32 → Int32 → Int32 → Int32 → List Int32 → List Int32 → List Int32 → (Int32 × Int32 × Int32 × Int32 × List Int32 × List Int32)) (f1_2 : Int32) (f1_3 : Int32) (f1_4 : Int32) (f52_2 : Int32) (f53_1 : Int32) (a2 : List Int32) (a58 : List Int32) (a59 : List Int32) : Int32 × Int32 × Int32 × Int32 × List Int32 × List Int32 := (lt (r f1_2 f1_3 f1_4 f52_2 f53_1 a2 a58 a59) (fun g342 => (lt (kr_readPart_6 r f1_2 a2 240 0 g342.1 g342.2.1 g342.2.2.1 g342.2.2.2.1 g342.2.2.2.2.1 g342.2.2.2.2.2) (fun g347 => (g347.1, g347.2.1, g347.2.2.1, g347.2.2.2.1, g347.2.2.2.2.1, g347.2.2.2.2.2)))))
