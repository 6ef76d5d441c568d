/-! lifts, printed by genlift.py: 15 -/
noncomputable def kx_pass (f1_2 : Int32) (f1_3 : Int32) (f1_4 : Int32) (a2 : List Int32) (x1 : Int32) : Int32 × Int32 := (if f1_4 = 0 then (if (kx_sign f1_2 f1_3 a2) = x1 then ((f1_3 + 1), f1_4) else (f1_3, (kx_fail f1_3 f1_4 1).2)) else (f1_3, f1_4))
theorem t_kx_pass {f D : Nat} {F : Nat → Nat → Int32} {A : Nat → List Int32} {L : Nat → List Int64} {Q : Option Value → sm_H → Prop} {x1 : Int32} (K : Q none (hz (uF (uF F 1 3 ((kx_pass (F 1 2) (F 1 3) (F 1 4) (A 2) x1).1)) 1 4 ((kx_pass (F 1 2) (F 1 3) (F 1 4) (A 2) x1).2)) A L)) : wl_M f D 23 [.ref 1, .int x1] (hz F A L) Q := by
  generalize hT : (kx_pass (F 1 2) (F 1 3) (F 1 4) (A 2) x1) = T at K
  have hE : T = (if (F 1 4) = 0 then (if (kx_sign (F 1 2) (F 1 3) (A 2)) = x1 then (((F 1 3) + 1), (F 1 4)) else ((F 1 3), (kx_fail (F 1 3) (F 1 4) 1).2)) else ((F 1 3), (F 1 4))) := hT.symm
  clear hT
  refine w_m (E := mm23) rfl ?_
  show wl_E f f (D - 1) mm23.2.2.2.2.2.2.2.2 0 [some (.ref 1), some (.int x1)] [] (hz F A L) Q
  refine w_n 2 (pc1 := 4) (ls1 := [some (.ref 1), some (.int x1)]) (st1 := [.int (F 1 4)]) (hp1 := (hz F A L)) rfl ?_
  refine w_zeq (p3 := 7) rfl rfl (fun h => ?_) (fun h => ?_)
  · have h1 : (F 1 4) = 0 := h
    rw [if_pos h1] at hE
    refine w_n 1 (pc1 := 9) (ls1 := [some (.ref 1), some (.int x1)]) (st1 := [.ref 1]) (hp1 := (hz F A L)) rfl ?_
    refine w_c rfl rfl (t_kx_sign ?_)
    show wl_E f _ _ mm23.2.2.2.2.2.2.2.2 12 [some (.ref 1), some (.int x1)] [.int (kx_sign (F 1 2) (F 1 3) (A 2))] (hz F A L) _
    generalize hG425 : (kx_sign (F 1 2) (F 1 3) (A 2)) = G425 at hE ⊢
    refine w_n 1 (pc1 := 13) (ls1 := [some (.ref 1), some (.int x1)]) (st1 := [.int x1, .int G425]) (hp1 := (hz F A L)) rfl ?_
    refine w_ne (p3 := 16) rfl rfl (fun h => ?_) (fun h => ?_)
    · have h2 : ¬ G425 = x1 := h
      rw [if_neg h2] at hE
      refine w_n 2 (pc1 := 31) (ls1 := [some (.ref 1), some (.int x1)]) (st1 := [.int 1, .ref 1]) (hp1 := (hz F A L)) rfl ?_
      refine w_c rfl rfl (t_kx_fail ?_)
      show wl_E f _ _ mm23.2.2.2.2.2.2.2.2 34 [some (.ref 1), some (.int x1)] [.int (kx_fail (F 1 3) (F 1 4) 1).1] (hz (uF F 1 4 (kx_fail (F 1 3) (F 1 4) 1).2) A L) _
      generalize hG426 : (kx_fail (F 1 3) (F 1 4) 1) = G426 at hE ⊢
      refine w_n 1 (pc1 := 35) (ls1 := [some (.ref 1), some (.int x1)]) (st1 := []) (hp1 := (hz (uF F 1 4 G426.2) A L)) rfl ?_
      subst T
      exact w_r rfl rfl (cvQ (funext fun q => funext fun z => if k0 : q = 1 ∧ z = 3 then by obtain ⟨w1, w2⟩ := k0; subst w1; subst w2; exact Eq.trans (b := (F 1 3)) rfl rfl else if k1 : q = 1 ∧ z = 4 then by obtain ⟨w1, w2⟩ := k1; subst w1; subst w2; exact Eq.trans (b := G426.2) rfl rfl else by unfold uF; simp only [nb2 k0, nb2 k1, cond_false]) rfl rfl K)
    · have h2 : G425 = x1 := h
      rw [if_pos h2] at hE
      refine w_n 5 (pc1 := 23) (ls1 := [some (.ref 1), some (.int x1)]) (st1 := [.int ((F 1 3) + 1), .ref 1]) (hp1 := (hz F A L)) rfl ?_
      refine w_pf (k := 1) (fs := hz_f1 F) (hp1 := (hz (uF F 1 3 ((F 1 3) + 1)) A L)) rfl rfl rfl (hz_p1_3 _) ?_
      refine w_n 1 (pc1 := 35) (ls1 := [some (.ref 1), some (.int x1)]) (st1 := []) (hp1 := (hz (uF F 1 3 ((F 1 3) + 1)) A L)) rfl ?_
      subst T
      exact w_r rfl rfl (cvQ (funext fun q => funext fun z => if k0 : q = 1 ∧ z = 3 then by obtain ⟨w1, w2⟩ := k0; subst w1; subst w2; exact Eq.trans (b := ((F 1 3) + 1)) rfl rfl else if k1 : q = 1 ∧ z = 4 then by obtain ⟨w1, w2⟩ := k1; subst w1; subst w2; exact Eq.trans (b := (F 1 4)) rfl rfl else by unfold uF; simp only [nb2 k0, nb2 k1, cond_false]) rfl rfl K)
  · have h1 : ¬ (F 1 4) = 0 := h
    rw [if_neg h1] at hE
    subst T
    exact w_r rfl rfl (cvQ (funext fun q => funext fun z => if k0 : q = 1 ∧ z = 3 then by obtain ⟨w1, w2⟩ := k0; subst w1; subst w2; exact Eq.trans (b := (F 1 3)) rfl rfl else if k1 : q = 1 ∧ z = 4 then by obtain ⟨w1, w2⟩ := k1; subst w1; subst w2; exact Eq.trans (b := (F 1 4)) rfl rfl else by unfold uF; simp only [nb2 k0, nb2 k1, cond_false]) rfl rfl K)
noncomputable def ka_winnerOf_b (r : Int32 → Int32 → Int32 → Int32 → List Int32 → List Int32 → Int32 → Int32 → (Int32 × Int32 × Int32)) (f1_2 : Int32) (f1_3 : Int32) (f1_4 : Int32) (f3_0 : Int32) (a2 : List Int32) (a33 : List Int32) (x1 : Int32) (x2 : Int32) : Int32 × Int32 × Int32 := (if f1_4 = 0 then (if (kc_within (kx_sign f1_2 f1_3 a2) 97 ((97 + x1) - 1)) = 0 then (if (kx_sign f1_2 f1_3 a2) = 40 then (if x2.toInt < 8 then (if (kx_pass f1_2 (r f1_2 (r f1_2 (f1_3 + 1) f1_4 f3_0 a2 a33 x1 (x2 + 1)).2.1 (r f1_2 (f1_3 + 1) f1_4 f3_0 a2 a33 x1 (x2 + 1)).2.2 f3_0 a2 a33 x1 (x2 + 1)).2.1 (r f1_2 (r f1_2 (f1_3 + 1) f1_4 f3_0 a2 a33 x1 (x2 + 1)).2.1 (r f1_2 (f1_3 + 1) f1_4 f3_0 a2 a33 x1 (x2 + 1)).2.2 f3_0 a2 a33 x1 (x2 + 1)).2.2 a2 41).2 = 0 then ((kv_winnerOf f3_0 a33 (r f1_2 (f1_3 + 1) f1_4 f3_0 a2 a33 x1 (x2 + 1)).1 (r f1_2 (r f1_2 (f1_3 + 1) f1_4 f3_0 a2 a33 x1 (x2 + 1)).2.1 (r f1_2 (f1_3 + 1) f1_4 f3_0 a2 a33 x1 (x2 + 1)).2.2 f3_0 a2 a33 x1 (x2 + 1)).1), (kx_pass f1_2 (r f1_2 (r f1_2 (f1_3 + 1) f1_4 f3_0 a2 a33 x1 (x2 + 1)).2.1 (r f1_2 (f1_3 + 1) f1_4 f3_0 a2 a33 x1 (x2 + 1)).2.2 f3_0 a2 a33 x1 (x2 + 1)).2.1 (r f1_2 (r f1_2 (f1_3 + 1) f1_4 f3_0 a2 a33 x1 (x2 + 1)).2.1 (r f1_2 (f1_3 + 1) f1_4 f3_0 a2 a33 x1 (x2 + 1)).2.2 f3_0 a2 a33 x1 (x2 + 1)).2.2 a2 41).1, (kx_pass f1_2 (r f1_2 (r f1_2 (f1_3 + 1) f1_4 f3_0 a2 a33 x1 (x2 + 1)).2.1 (r f1_2 (f1_3 + 1) f1_4 f3_0 a2 a33 x1 (x2 + 1)).2.2 f3_0 a2 a33 x1 (x2 + 1)).2.1 (r f1_2 (r f1_2 (f1_3 + 1) f1_4 f3_0 a2 a33 x1 (x2 + 1)).2.1 (r f1_2 (f1_3 + 1) f1_4 f3_0 a2 a33 x1 (x2 + 1)).2.2 f3_0 a2 a33 x1 (x2 + 1)).2.2 a2 41).2) else ((-1), (kx_pass f1_2 (r f1_2 (r f1_2 (f1_3 + 1) f1_4 f3_0 a2 a33 x1 (x2 + 1)).2.1 (r f1_2 (f1_3 + 1) f1_4 f3_0 a2 a33 x1 (x2 + 1)).2.2 f3_0 a2 a33 x1 (x2 + 1)).2.1 (r f1_2 (r f1_2 (f1_3 + 1) f1_4 f3_0 a2 a33 x1 (x2 + 1)).2.1 (r f1_2 (f1_3 + 1) f1_4 f3_0 a2 a33 x1 (x2 + 1)).2.2 f3_0 a2 a33 x1 (x2 + 1)).2.2 a2 41).1, (kx_pass f1_2 (r f1_2 (r f1_2 (f1_3 + 1) f1_4 f3_0 a2 a33 x1 (x2 + 1)).2.1 (r f1_2 (f1_3 + 1) f1_4 f3_0 a2 a33 x1 (x2 + 1)).2.2 f3_0 a2 a33 x1 (x2 + 1)).2.1 (r f1_2 (r f1_2 (f1_3 + 1) f1_4 f3_0 a2 a33 x1 (x2 + 1)).2.1 (r f1_2 (f1_3 + 1) f1_4 f3_0 a2 a33 x1 (x2 + 1)).2.2 f3_0 a2 a33 x1 (x2 + 1)).2.2 a2 41).2)) else ((kx_fail f1_3 f1_4 5).1, f1_3, (kx_fail f1_3 f1_4 5).2)) else ((kx_fail f1_3 f1_4 1).1, f1_3, (kx_fail f1_3 f1_4 1).2)) else (((kx_sign f1_2 f1_3 a2) - 97), (f1_3 + 1), f1_4)) else ((-1), f1_3, f1_4))
theorem t_ka_winnerOf_b {f D : Nat} {n : Nat} {r : Int32 → Int32 → Int32 → Int32 → List Int32 → List Int32 → Int32 → Int32 → (Int32 × Int32 × Int32)} (hr : ∀ (D : Nat) {F : Nat → Nat → Int32} {A : Nat → List Int32} {L : Nat → List Int64} {Q : Option Value → sm_H → Prop} {x1 : Int32} {x2 : Int32}, D ≤ n → (Q (some (.int ((r (F 1 2) (F 1 3) (F 1 4) (F 3 0) (A 2) (A 33) x1 x2).1))) (hz (uF (uF F 1 3 ((r (F 1 2) (F 1 3) (F 1 4) (F 3 0) (A 2) (A 33) x1 x2).2.1)) 1 4 ((r (F 1 2) (F 1 3) (F 1 4) (F 3 0) (A 2) (A 33) x1 x2).2.2)) A L)) → wl_M f D 97 [.ref 62, .int x1, .int x2] (hz F A L) Q) (hnf : n + 1 ≤ f) {F : Nat → Nat → Int32} {A : Nat → List Int32} {L : Nat → List Int64} {Q : Option Value → sm_H → Prop} {x1 : Int32} {x2 : Int32} (hn : D ≤ n + 1) (K : Q (some (.int ((ka_winnerOf_b r (F 1 2) (F 1 3) (F 1 4) (F 3 0) (A 2) (A 33) x1 x2).1))) (hz (uF (uF F 1 3 ((ka_winnerOf_b r (F 1 2) (F 1 3) (F 1 4) (F 3 0) (A 2) (A 33) x1 x2).2.1)) 1 4 ((ka_winnerOf_b r (F 1 2) (F 1 3) (F 1 4) (F 3 0) (A 2) (A 33) x1 x2).2.2)) A L)) : wl_M f D 97 [.ref 62, .int x1, .int x2] (hz F A L) Q := by
  generalize hT : (ka_winnerOf_b r (F 1 2) (F 1 3) (F 1 4) (F 3 0) (A 2) (A 33) x1 x2) = T at K
  have hE : T = (if (F 1 4) = 0 then (if (kc_within (kx_sign (F 1 2) (F 1 3) (A 2)) 97 ((97 + x1) - 1)) = 0 then (if (kx_sign (F 1 2) (F 1 3) (A 2)) = 40 then (if x2.toInt < 8 then (if (kx_pass (F 1 2) (r (F 1 2) (r (F 1 2) ((F 1 3) + 1) (F 1 4) (F 3 0) (A 2) (A 33) x1 (x2 + 1)).2.1 (r (F 1 2) ((F 1 3) + 1) (F 1 4) (F 3 0) (A 2) (A 33) x1 (x2 + 1)).2.2 (F 3 0) (A 2) (A 33) x1 (x2 + 1)).2.1 (r (F 1 2) (r (F 1 2) ((F 1 3) + 1) (F 1 4) (F 3 0) (A 2) (A 33) x1 (x2 + 1)).2.1 (r (F 1 2) ((F 1 3) + 1) (F 1 4) (F 3 0) (A 2) (A 33) x1 (x2 + 1)).2.2 (F 3 0) (A 2) (A 33) x1 (x2 + 1)).2.2 (A 2) 41).2 = 0 then ((kv_winnerOf (F 3 0) (A 33) (r (F 1 2) ((F 1 3) + 1) (F 1 4) (F 3 0) (A 2) (A 33) x1 (x2 + 1)).1 (r (F 1 2) (r (F 1 2) ((F 1 3) + 1) (F 1 4) (F 3 0) (A 2) (A 33) x1 (x2 + 1)).2.1 (r (F 1 2) ((F 1 3) + 1) (F 1 4) (F 3 0) (A 2) (A 33) x1 (x2 + 1)).2.2 (F 3 0) (A 2) (A 33) x1 (x2 + 1)).1), (kx_pass (F 1 2) (r (F 1 2) (r (F 1 2) ((F 1 3) + 1) (F 1 4) (F 3 0) (A 2) (A 33) x1 (x2 + 1)).2.1 (r (F 1 2) ((F 1 3) + 1) (F 1 4) (F 3 0) (A 2) (A 33) x1 (x2 + 1)).2.2 (F 3 0) (A 2) (A 33) x1 (x2 + 1)).2.1 (r (F 1 2) (r (F 1 2) ((F 1 3) + 1) (F 1 4) (F 3 0) (A 2) (A 33) x1 (x2 + 1)).2.1 (r (F 1 2) ((F 1 3) + 1) (F 1 4) (F 3 0) (A 2) (A 33) x1 (x2 + 1)).2.2 (F 3 0) (A 2) (A 33) x1 (x2 + 1)).2.2 (A 2) 41).1, (kx_pass (F 1 2) (r (F 1 2) (r (F 1 2) ((F 1 3) + 1) (F 1 4) (F 3 0) (A 2) (A 33) x1 (x2 + 1)).2.1 (r (F 1 2) ((F 1 3) + 1) (F 1 4) (F 3 0) (A 2) (A 33) x1 (x2 + 1)).2.2 (F 3 0) (A 2) (A 33) x1 (x2 + 1)).2.1 (r (F 1 2) (r (F 1 2) ((F 1 3) + 1) (F 1 4) (F 3 0) (A 2) (A 33) x1 (x2 + 1)).2.1 (r (F 1 2) ((F 1 3) + 1) (F 1 4) (F 3 0) (A 2) (A 33) x1 (x2 + 1)).2.2 (F 3 0) (A 2) (A 33) x1 (x2 + 1)).2.2 (A 2) 41).2) else ((-1), (kx_pass (F 1 2) (r (F 1 2) (r (F 1 2) ((F 1 3) + 1) (F 1 4) (F 3 0) (A 2) (A 33) x1 (x2 + 1)).2.1 (r (F 1 2) ((F 1 3) + 1) (F 1 4) (F 3 0) (A 2) (A 33) x1 (x2 + 1)).2.2 (F 3 0) (A 2) (A 33) x1 (x2 + 1)).2.1 (r (F 1 2) (r (F 1 2) ((F 1 3) + 1) (F 1 4) (F 3 0) (A 2) (A 33) x1 (x2 + 1)).2.1 (r (F 1 2) ((F 1 3) + 1) (F 1 4) (F 3 0) (A 2) (A 33) x1 (x2 + 1)).2.2 (F 3 0) (A 2) (A 33) x1 (x2 + 1)).2.2 (A 2) 41).1, (kx_pass (F 1 2) (r (F 1 2) (r (F 1 2) ((F 1 3) + 1) (F 1 4) (F 3 0) (A 2) (A 33) x1 (x2 + 1)).2.1 (r (F 1 2) ((F 1 3) + 1) (F 1 4) (F 3 0) (A 2) (A 33) x1 (x2 + 1)).2.2 (F 3 0) (A 2) (A 33) x1 (x2 + 1)).2.1 (r (F 1 2) (r (F 1 2) ((F 1 3) + 1) (F 1 4) (F 3 0) (A 2) (A 33) x1 (x2 + 1)).2.1 (r (F 1 2) ((F 1 3) + 1) (F 1 4) (F 3 0) (A 2) (A 33) x1 (x2 + 1)).2.2 (F 3 0) (A 2) (A 33) x1 (x2 + 1)).2.2 (A 2) 41).2)) else ((kx_fail (F 1 3) (F 1 4) 5).1, (F 1 3), (kx_fail (F 1 3) (F 1 4) 5).2)) else ((kx_fail (F 1 3) (F 1 4) 1).1, (F 1 3), (kx_fail (F 1 3) (F 1 4) 1).2)) else (((kx_sign (F 1 2) (F 1 3) (A 2)) - 97), ((F 1 3) + 1), (F 1 4))) else ((-1), (F 1 3), (F 1 4))) := hT.symm
  clear hT
  refine w_m (E := mm97) rfl ?_
  show wl_E f f (D - 1) mm97.2.2.2.2.2.2.2.2 0 [some (.ref 62), some (.int x1), some (.int x2), none, none, none] [] (hz F A L) Q
  refine w_n 3 (pc1 := 7) (ls1 := [some (.ref 62), some (.int x1), some (.int x2), none, none, none]) (st1 := [.int (F 1 4)]) (hp1 := (hz F A L)) rfl ?_
  refine w_zeq (p3 := 10) rfl rfl (fun h => ?_) (fun h => ?_)
  · have h1 : (F 1 4) = 0 := h
    rw [if_pos h1] at hE
    refine w_n 2 (pc1 := 16) (ls1 := [some (.ref 62), some (.int x1), some (.int x2), none, none, none]) (st1 := [.ref 1]) (hp1 := (hz F A L)) rfl ?_
    refine w_c rfl rfl (t_kx_sign ?_)
    show wl_E f _ _ mm97.2.2.2.2.2.2.2.2 19 [some (.ref 62), some (.int x1), some (.int x2), none, none, none] [.int (kx_sign (F 1 2) (F 1 3) (A 2))] (hz F A L) _
    generalize hG421 : (kx_sign (F 1 2) (F 1 3) (A 2)) = G421 at hE ⊢
    refine w_n 8 (pc1 := 29) (ls1 := [some (.ref 62), some (.int x1), some (.int x2), some (.int G421), none, none]) (st1 := [.int ((97 + x1) - 1), .int 97, .int G421]) (hp1 := (hz F A L)) rfl ?_
    refine w_c rfl rfl (t_kc_within ?_)
    show wl_E f _ _ mm97.2.2.2.2.2.2.2.2 32 [some (.ref 62), some (.int x1), some (.int x2), some (.int G421), none, none] [.int (kc_within G421 97 ((97 + x1) - 1))] (hz F A L) _
    generalize hG422 : (kc_within G421 97 ((97 + x1) - 1)) = G422 at hE ⊢
    refine w_zeq (p3 := 35) rfl rfl (fun h => ?_) (fun h => ?_)
    · have h2 : G422 = 0 := h
      rw [if_pos h2] at hE
      refine w_n 2 (pc1 := 56) (ls1 := [some (.ref 62), some (.int x1), some (.int x2), some (.int G421), none, none]) (st1 := [.int 40, .int G421]) (hp1 := (hz F A L)) rfl ?_
      refine w_eq (p3 := 59) rfl rfl (fun h => ?_) (fun h => ?_)
      · have h3 : G421 = 40 := h
        rw [if_pos h3] at hE
        refine w_n 2 (pc1 := 71) (ls1 := [some (.ref 62), some (.int x1), some (.int x2), some (.int G421), none, none]) (st1 := [.int 8, .int x2]) (hp1 := (hz F A L)) rfl ?_
        refine w_lt (p3 := 74) rfl rfl (fun h => ?_) (fun h => ?_)
        · have h4 : x2.toInt < 8 := h
          rw [if_pos h4] at hE
          refine w_n 6 (pc1 := 93) (ls1 := [some (.ref 62), some (.int x1), some (.int x2), some (.int G421), none, none]) (st1 := [.int ((F 1 3) + 1), .ref 1]) (hp1 := (hz F A L)) rfl ?_
          refine w_pf (k := 1) (fs := hz_f1 F) (hp1 := (hz (uF F 1 3 ((F 1 3) + 1)) A L)) rfl rfl rfl (hz_p1_3 _) ?_
          refine w_n 5 (pc1 := 101) (ls1 := [some (.ref 62), some (.int x1), some (.int x2), some (.int G421), none, none]) (st1 := [.int (x2 + 1), .int x1, .ref 62]) (hp1 := (hz (uF F 1 3 ((F 1 3) + 1)) A L)) rfl ?_
          refine w_c rfl rfl (hr _ (by omega) ?_)
          show wl_E f _ _ mm97.2.2.2.2.2.2.2.2 104 [some (.ref 62), some (.int x1), some (.int x2), some (.int G421), none, none] [.int (r (F 1 2) ((F 1 3) + 1) (F 1 4) (F 3 0) (A 2) (A 33) x1 (x2 + 1)).1] (hz (uF (uF (uF F 1 3 ((F 1 3) + 1)) 1 3 (r (F 1 2) ((F 1 3) + 1) (F 1 4) (F 3 0) (A 2) (A 33) x1 (x2 + 1)).2.1) 1 4 (r (F 1 2) ((F 1 3) + 1) (F 1 4) (F 3 0) (A 2) (A 33) x1 (x2 + 1)).2.2) A L) _
          generalize hG423 : (r (F 1 2) ((F 1 3) + 1) (F 1 4) (F 3 0) (A 2) (A 33) x1 (x2 + 1)) = G423 at hE ⊢
          refine w_n 6 (pc1 := 111) (ls1 := [some (.ref 62), some (.int x1), some (.int x2), some (.int G421), some (.int G423.1), none]) (st1 := [.int (x2 + 1), .int x1, .ref 62]) (hp1 := (hz (uF (uF (uF F 1 3 ((F 1 3) + 1)) 1 3 G423.2.1) 1 4 G423.2.2) A L)) rfl ?_
          refine w_c rfl rfl (hr _ (by omega) ?_)
          show wl_E f _ _ mm97.2.2.2.2.2.2.2.2 114 [some (.ref 62), some (.int x1), some (.int x2), some (.int G421), some (.int G423.1), none] [.int (r (F 1 2) G423.2.1 G423.2.2 (F 3 0) (A 2) (A 33) x1 (x2 + 1)).1] (hz (uF (uF (uF (uF (uF F 1 3 ((F 1 3) + 1)) 1 3 G423.2.1) 1 4 G423.2.2) 1 3 (r (F 1 2) G423.2.1 G423.2.2 (F 3 0) (A 2) (A 33) x1 (x2 + 1)).2.1) 1 4 (r (F 1 2) G423.2.1 G423.2.2 (F 3 0) (A 2) (A 33) x1 (x2 + 1)).2.2) A L) _
          generalize hG424 : (r (F 1 2) G423.2.1 G423.2.2 (F 3 0) (A 2) (A 33) x1 (x2 + 1)) = G424 at hE ⊢
          refine w_n 4 (pc1 := 122) (ls1 := [some (.ref 62), some (.int x1), some (.int x2), some (.int G421), some (.int G423.1), some (.int G424.1)]) (st1 := [.int 41, .ref 1]) (hp1 := (hz (uF (uF (uF (uF (uF F 1 3 ((F 1 3) + 1)) 1 3 G423.2.1) 1 4 G423.2.2) 1 3 G424.2.1) 1 4 G424.2.2) A L)) rfl ?_
          refine w_c rfl rfl (t_kx_pass ?_)
          show wl_E f _ _ mm97.2.2.2.2.2.2.2.2 125 [some (.ref 62), some (.int x1), some (.int x2), some (.int G421), some (.int G423.1), some (.int G424.1)] [] (hz (uF (uF (uF (uF (uF (uF (uF F 1 3 ((F 1 3) + 1)) 1 3 G423.2.1) 1 4 G423.2.2) 1 3 G424.2.1) 1 4 G424.2.2) 1 3 (kx_pass (F 1 2) G424.2.1 G424.2.2 (A 2) 41).1) 1 4 (kx_pass (F 1 2) G424.2.1 G424.2.2 (A 2) 41).2) A L) _
          generalize hG427 : (kx_pass (F 1 2) G424.2.1 G424.2.2 (A 2) 41) = G427 at hE ⊢
          refine w_n 3 (pc1 := 132) (ls1 := [some (.ref 62), some (.int x1), some (.int x2), some (.int G421), some (.int G423.1), some (.int G424.1)]) (st1 := [.int G427.2]) (hp1 := (hz (uF (uF (uF (uF (uF (uF (uF F 1 3 ((F 1 3) + 1)) 1 3 G423.2.1) 1 4 G423.2.2) 1 3 G424.2.1) 1 4 G424.2.2) 1 3 G427.1) 1 4 G427.2) A L)) rfl ?_
          refine w_zeq (p3 := 135) rfl rfl (fun h => ?_) (fun h => ?_)
          · have h5 : G427.2 = 0 := h
            rw [if_pos h5] at hE
            refine w_n 4 (pc1 := 147) (ls1 := [some (.ref 62), some (.int x1), some (.int x2), some (.int G421), some (.int G423.1), some (.int G424.1)]) (st1 := [.int G424.1, .int G423.1, .ref 30]) (hp1 := (hz (uF (uF (uF (uF (uF (uF (uF F 1 3 ((F 1 3) + 1)) 1 3 G423.2.1) 1 4 G423.2.2) 1 3 G424.2.1) 1 4 G424.2.2) 1 3 G427.1) 1 4 G427.2) A L)) rfl ?_
            refine w_c rfl rfl (t_kv_winnerOf ?_)
            show wl_E f _ _ mm97.2.2.2.2.2.2.2.2 150 [some (.ref 62), some (.int x1), some (.int x2), some (.int G421), some (.int G423.1), some (.int G424.1)] [.int (kv_winnerOf (F 3 0) (A 33) G423.1 G424.1)] (hz (uF (uF (uF (uF (uF (uF (uF F 1 3 ((F 1 3) + 1)) 1 3 G423.2.1) 1 4 G423.2.2) 1 3 G424.2.1) 1 4 G424.2.2) 1 3 G427.1) 1 4 G427.2) A L) _
            generalize hG428 : (kv_winnerOf (F 3 0) (A 33) G423.1 G424.1) = G428 at hE ⊢
            subst T
            exact w_ri rfl (cvQ (funext fun q => funext fun z => if k0 : q = 1 ∧ z = 3 then by obtain ⟨w1, w2⟩ := k0; subst w1; subst w2; exact Eq.trans (b := G427.1) rfl rfl else if k1 : q = 1 ∧ z = 4 then by obtain ⟨w1, w2⟩ := k1; subst w1; subst w2; exact Eq.trans (b := G427.2) rfl rfl else by unfold uF; simp only [nb2 k0, nb2 k1, cond_false]) rfl rfl K)
          · have h5 : ¬ G427.2 = 0 := h
            rw [if_neg h5] at hE
            refine w_n 2 (pc1 := 150) (ls1 := [some (.ref 62), some (.int x1), some (.int x2), some (.int G421), some (.int G423.1), some (.int G424.1)]) (st1 := [.int (-1)]) (hp1 := (hz (uF (uF (uF (uF (uF (uF (uF F 1 3 ((F 1 3) + 1)) 1 3 G423.2.1) 1 4 G423.2.2) 1 3 G424.2.1) 1 4 G424.2.2) 1 3 G427.1) 1 4 G427.2) A L)) rfl ?_
            subst T
            exact w_ri rfl (cvQ (funext fun q => funext fun z => if k0 : q = 1 ∧ z = 3 then by obtain ⟨w1, w2⟩ := k0; subst w1; subst w2; exact Eq.trans (b := G427.1) rfl rfl else if k1 : q = 1 ∧ z = 4 then by obtain ⟨w1, w2⟩ := k1; subst w1; subst w2; exact Eq.trans (b := G427.2) rfl rfl else by unfold uF; simp only [nb2 k0, nb2 k1, cond_false]) rfl rfl K)
        · have h4 : 8 ≤ x2.toInt := h
          rw [if_neg (Int.not_lt.mpr h4)] at hE
          refine w_n 3 (pc1 := 79) (ls1 := [some (.ref 62), some (.int x1), some (.int x2), some (.int G421), none, none]) (st1 := [.int 5, .ref 1]) (hp1 := (hz F A L)) rfl ?_
          refine w_c rfl rfl (t_kx_fail ?_)
          show wl_E f _ _ mm97.2.2.2.2.2.2.2.2 82 [some (.ref 62), some (.int x1), some (.int x2), some (.int G421), none, none] [.int (kx_fail (F 1 3) (F 1 4) 5).1] (hz (uF F 1 4 (kx_fail (F 1 3) (F 1 4) 5).2) A L) _
          generalize hG429 : (kx_fail (F 1 3) (F 1 4) 5) = G429 at hE ⊢
          subst T
          exact w_ri rfl (cvQ (funext fun q => funext fun z => if k0 : q = 1 ∧ z = 3 then by obtain ⟨w1, w2⟩ := k0; subst w1; subst w2; exact Eq.trans (b := (F 1 3)) rfl rfl else if k1 : q = 1 ∧ z = 4 then by obtain ⟨w1, w2⟩ := k1; subst w1; subst w2; exact Eq.trans (b := G429.2) rfl rfl else by unfold uF; simp only [nb2 k0, nb2 k1, cond_false]) rfl rfl K)
      · have h3 : ¬ G421 = 40 := h
        rw [if_neg h3] at hE
        refine w_n 3 (pc1 := 64) (ls1 := [some (.ref 62), some (.int x1), some (.int x2), some (.int G421), none, none]) (st1 := [.int 1, .ref 1]) (hp1 := (hz F A L)) rfl ?_
        refine w_c rfl rfl (t_kx_fail ?_)
        show wl_E f _ _ mm97.2.2.2.2.2.2.2.2 67 [some (.ref 62), some (.int x1), some (.int x2), some (.int G421), none, none] [.int (kx_fail (F 1 3) (F 1 4) 1).1] (hz (uF F 1 4 (kx_fail (F 1 3) (F 1 4) 1).2) A L) _
        generalize hG430 : (kx_fail (F 1 3) (F 1 4) 1) = G430 at hE ⊢
        subst T
        exact w_ri rfl (cvQ (funext fun q => funext fun z => if k0 : q = 1 ∧ z = 3 then by obtain ⟨w1, w2⟩ := k0; subst w1; subst w2; exact Eq.trans (b := (F 1 3)) rfl rfl else if k1 : q = 1 ∧ z = 4 then by obtain ⟨w1, w2⟩ := k1; subst w1; subst w2; exact Eq.trans (b := G430.2) rfl rfl else by unfold uF; simp only [nb2 k0, nb2 k1, cond_false]) rfl rfl K)
    · have h2 : ¬ G422 = 0 := h
      rw [if_neg h2] at hE
      refine w_n 6 (pc1 := 45) (ls1 := [some (.ref 62), some (.int x1), some (.int x2), some (.int G421), none, none]) (st1 := [.int ((F 1 3) + 1), .ref 1]) (hp1 := (hz F A L)) rfl ?_
      refine w_pf (k := 1) (fs := hz_f1 F) (hp1 := (hz (uF F 1 3 ((F 1 3) + 1)) A L)) rfl rfl rfl (hz_p1_3 _) ?_
      refine w_n 3 (pc1 := 52) (ls1 := [some (.ref 62), some (.int x1), some (.int x2), some (.int G421), none, none]) (st1 := [.int (G421 - 97)]) (hp1 := (hz (uF F 1 3 ((F 1 3) + 1)) A L)) rfl ?_
      subst T
      exact w_ri rfl (cvQ (funext fun q => funext fun z => if k0 : q = 1 ∧ z = 3 then by obtain ⟨w1, w2⟩ := k0; subst w1; subst w2; exact Eq.trans (b := ((F 1 3) + 1)) rfl rfl else if k1 : q = 1 ∧ z = 4 then by obtain ⟨w1, w2⟩ := k1; subst w1; subst w2; exact Eq.trans (b := (F 1 4)) rfl rfl else by unfold uF; simp only [nb2 k0, nb2 k1, cond_false]) rfl rfl K)
  · have h1 : ¬ (F 1 4) = 0 := h
    rw [if_neg h1] at hE
    refine w_n 1 (pc1 := 11) (ls1 := [some (.ref 62), some (.int x1), some (.int x2), none, none, none]) (st1 := [.int (-1)]) (hp1 := (hz F A L)) rfl ?_
    subst T
    exact w_ri rfl (cvQ (funext fun q => funext fun z => if k0 : q = 1 ∧ z = 3 then by obtain ⟨w1, w2⟩ := k0; subst w1; subst w2; exact Eq.trans (b := (F 1 3)) rfl rfl else if k1 : q = 1 ∧ z = 4 then by obtain ⟨w1, w2⟩ := k1; subst w1; subst w2; exact Eq.trans (b := (F 1 4)) rfl rfl else by unfold uF; simp only [nb2 k0, nb2 k1, cond_false]) rfl rfl K)
noncomputable def ka_winnerOf : Nat → Int32 → Int32 → Int32 → Int32 → List Int32 → List Int32 → Int32 → Int32 → (Int32 × Int32 × Int32)
  | 0, _, f1_3, f1_4, _, _, _, _, _ => (0, f1_3, f1_4)
  | n + 1, f1_2, f1_3, f1_4, f3_0, a2, a33, x1, x2 => ka_winnerOf_b (ka_winnerOf n) f1_2 f1_3 f1_4 f3_0 a2 a33 x1 x2
theorem t_ka_winnerOf {f : Nat} : ∀ (n : Nat), n ≤ f → ∀ {D : Nat} {F : Nat → Nat → Int32} {A : Nat → List Int32} {L : Nat → List Int64} {Q : Option Value → sm_H → Prop} {x1 : Int32} {x2 : Int32}, D ≤ n → (Q (some (.int ((ka_winnerOf n (F 1 2) (F 1 3) (F 1 4) (F 3 0) (A 2) (A 33) x1 x2).1))) (hz (uF (uF F 1 3 ((ka_winnerOf n (F 1 2) (F 1 3) (F 1 4) (F 3 0) (A 2) (A 33) x1 x2).2.1)) 1 4 ((ka_winnerOf n (F 1 2) (F 1 3) (F 1 4) (F 3 0) (A 2) (A 33) x1 x2).2.2)) A L)) → wl_M f D 97 [.ref 62, .int x1, .int x2] (hz F A L) Q := by
  intro n
  induction n with
  | zero =>
    intro hf D F A L Q x1 x2 hD K
    obtain rfl : D = 0 := by omega
    exact w_m0
  | succ n ih =>
    intro hf D F A L Q x1 x2 hD K
    exact t_ka_winnerOf_b (n := n) (r := ka_winnerOf n) (fun _ => ih (by omega)) hf hD K
noncomputable def ka_readAgenda (f : Nat) (f1_2 : Int32) (f1_3 : Int32) (f1_4 : Int32) (f3_0 : Int32) (a2 : List Int32) (a33 : List Int32) (x1 : Int32) : Int32 × Int32 × Int32 := (if (ka_winnerOf f f1_2 f1_3 f1_4 f3_0 a2 a33 x1 0).2.2 = 0 then (if (kx_sign f1_2 (ka_winnerOf f f1_2 f1_3 f1_4 f3_0 a2 a33 x1 0).2.1 a2) = (-1) then ((ka_winnerOf f f1_2 f1_3 f1_4 f3_0 a2 a33 x1 0).1, (ka_winnerOf f f1_2 f1_3 f1_4 f3_0 a2 a33 x1 0).2.1, (ka_winnerOf f f1_2 f1_3 f1_4 f3_0 a2 a33 x1 0).2.2) else ((ka_winnerOf f f1_2 f1_3 f1_4 f3_0 a2 a33 x1 0).1, (ka_winnerOf f f1_2 f1_3 f1_4 f3_0 a2 a33 x1 0).2.1, (kx_fail (ka_winnerOf f f1_2 f1_3 f1_4 f3_0 a2 a33 x1 0).2.1 (ka_winnerOf f f1_2 f1_3 f1_4 f3_0 a2 a33 x1 0).2.2 1).2)) else ((ka_winnerOf f f1_2 f1_3 f1_4 f3_0 a2 a33 x1 0).1, (ka_winnerOf f f1_2 f1_3 f1_4 f3_0 a2 a33 x1 0).2.1, (ka_winnerOf f f1_2 f1_3 f1_4 f3_0 a2 a33 x1 0).2.2))
theorem t_ka_readAgenda {f D : Nat} {F : Nat → Nat → Int32} {A : Nat → List Int32} {L : Nat → List Int64} {Q : Option Value → sm_H → Prop} {x1 : Int32} (hh0 : D ≤ f) (K : Q (some (.int ((ka_readAgenda f (F 1 2) (F 1 3) (F 1 4) (F 3 0) (A 2) (A 33) x1).1))) (hz (uF (uF F 1 3 ((ka_readAgenda f (F 1 2) (F 1 3) (F 1 4) (F 3 0) (A 2) (A 33) x1).2.1)) 1 4 ((ka_readAgenda f (F 1 2) (F 1 3) (F 1 4) (F 3 0) (A 2) (A 33) x1).2.2)) A L)) : wl_M f D 96 [.ref 62, .int x1] (hz F A L) Q := by
  generalize hT : (ka_readAgenda f (F 1 2) (F 1 3) (F 1 4) (F 3 0) (A 2) (A 33) x1) = T at K
  have hE : T = (if (ka_winnerOf f (F 1 2) (F 1 3) (F 1 4) (F 3 0) (A 2) (A 33) x1 0).2.2 = 0 then (if (kx_sign (F 1 2) (ka_winnerOf f (F 1 2) (F 1 3) (F 1 4) (F 3 0) (A 2) (A 33) x1 0).2.1 (A 2)) = (-1) then ((ka_winnerOf f (F 1 2) (F 1 3) (F 1 4) (F 3 0) (A 2) (A 33) x1 0).1, (ka_winnerOf f (F 1 2) (F 1 3) (F 1 4) (F 3 0) (A 2) (A 33) x1 0).2.1, (ka_winnerOf f (F 1 2) (F 1 3) (F 1 4) (F 3 0) (A 2) (A 33) x1 0).2.2) else ((ka_winnerOf f (F 1 2) (F 1 3) (F 1 4) (F 3 0) (A 2) (A 33) x1 0).1, (ka_winnerOf f (F 1 2) (F 1 3) (F 1 4) (F 3 0) (A 2) (A 33) x1 0).2.1, (kx_fail (ka_winnerOf f (F 1 2) (F 1 3) (F 1 4) (F 3 0) (A 2) (A 33) x1 0).2.1 (ka_winnerOf f (F 1 2) (F 1 3) (F 1 4) (F 3 0) (A 2) (A 33) x1 0).2.2 1).2)) else ((ka_winnerOf f (F 1 2) (F 1 3) (F 1 4) (F 3 0) (A 2) (A 33) x1 0).1, (ka_winnerOf f (F 1 2) (F 1 3) (F 1 4) (F 3 0) (A 2) (A 33) x1 0).2.1, (ka_winnerOf f (F 1 2) (F 1 3) (F 1 4) (F 3 0) (A 2) (A 33) x1 0).2.2)) := hT.symm
  clear hT
  refine w_m (E := mm96) rfl ?_
  show wl_E f f (D - 1) mm96.2.2.2.2.2.2.2.2 0 [some (.ref 62), some (.int x1), none] [] (hz F A L) Q
  refine w_n 3 (pc1 := 3) (ls1 := [some (.ref 62), some (.int x1), none]) (st1 := [.int 0, .int x1, .ref 62]) (hp1 := (hz F A L)) rfl ?_
  refine w_c rfl rfl (t_ka_winnerOf f (Nat.le_refl _) (by omega) ?_)
  show wl_E f _ _ mm96.2.2.2.2.2.2.2.2 6 [some (.ref 62), some (.int x1), none] [.int (ka_winnerOf f (F 1 2) (F 1 3) (F 1 4) (F 3 0) (A 2) (A 33) x1 0).1] (hz (uF (uF F 1 3 (ka_winnerOf f (F 1 2) (F 1 3) (F 1 4) (F 3 0) (A 2) (A 33) x1 0).2.1) 1 4 (ka_winnerOf f (F 1 2) (F 1 3) (F 1 4) (F 3 0) (A 2) (A 33) x1 0).2.2) A L) _
  generalize hG431 : (ka_winnerOf f (F 1 2) (F 1 3) (F 1 4) (F 3 0) (A 2) (A 33) x1 0) = G431 at hE ⊢
  refine w_n 4 (pc1 := 14) (ls1 := [some (.ref 62), some (.int x1), some (.int G431.1)]) (st1 := [.int G431.2.2]) (hp1 := (hz (uF (uF F 1 3 G431.2.1) 1 4 G431.2.2) A L)) rfl ?_
  refine w_zne (p3 := 17) rfl rfl (fun h => ?_) (fun h => ?_)
  · have h1 : ¬ G431.2.2 = 0 := h
    rw [if_neg h1] at hE
    refine w_n 1 (pc1 := 38) (ls1 := [some (.ref 62), some (.int x1), some (.int G431.1)]) (st1 := [.int G431.1]) (hp1 := (hz (uF (uF F 1 3 G431.2.1) 1 4 G431.2.2) A L)) rfl ?_
    subst T
    exact w_ri rfl (cvQ rfl rfl rfl K)
  · have h1 : G431.2.2 = 0 := h
    rw [if_pos h1] at hE
    refine w_n 2 (pc1 := 21) (ls1 := [some (.ref 62), some (.int x1), some (.int G431.1)]) (st1 := [.ref 1]) (hp1 := (hz (uF (uF F 1 3 G431.2.1) 1 4 G431.2.2) A L)) rfl ?_
    refine w_c rfl rfl (t_kx_sign ?_)
    show wl_E f _ _ mm96.2.2.2.2.2.2.2.2 24 [some (.ref 62), some (.int x1), some (.int G431.1)] [.int (kx_sign (F 1 2) G431.2.1 (A 2))] (hz (uF (uF F 1 3 G431.2.1) 1 4 G431.2.2) A L) _
    generalize hG432 : (kx_sign (F 1 2) G431.2.1 (A 2)) = G432 at hE ⊢
    refine w_n 1 (pc1 := 25) (ls1 := [some (.ref 62), some (.int x1), some (.int G431.1)]) (st1 := [.int (-1), .int G432]) (hp1 := (hz (uF (uF F 1 3 G431.2.1) 1 4 G431.2.2) A L)) rfl ?_
    refine w_eq (p3 := 28) rfl rfl (fun h => ?_) (fun h => ?_)
    · have h2 : G432 = (-1) := h
      rw [if_pos h2] at hE
      refine w_n 1 (pc1 := 38) (ls1 := [some (.ref 62), some (.int x1), some (.int G431.1)]) (st1 := [.int G431.1]) (hp1 := (hz (uF (uF F 1 3 G431.2.1) 1 4 G431.2.2) A L)) rfl ?_
      subst T
      exact w_ri rfl (cvQ rfl rfl rfl K)
    · have h2 : ¬ G432 = (-1) := h
      rw [if_neg h2] at hE
      refine w_n 3 (pc1 := 33) (ls1 := [some (.ref 62), some (.int x1), some (.int G431.1)]) (st1 := [.int 1, .ref 1]) (hp1 := (hz (uF (uF F 1 3 G431.2.1) 1 4 G431.2.2) A L)) rfl ?_
      refine w_c rfl rfl (t_kx_fail ?_)
      show wl_E f _ _ mm96.2.2.2.2.2.2.2.2 36 [some (.ref 62), some (.int x1), some (.int G431.1)] [.int (kx_fail G431.2.1 G431.2.2 1).1] (hz (uF (uF (uF F 1 3 G431.2.1) 1 4 G431.2.2) 1 4 (kx_fail G431.2.1 G431.2.2 1).2) A L) _
      generalize hG433 : (kx_fail G431.2.1 G431.2.2 1) = G433 at hE ⊢
      refine w_n 2 (pc1 := 38) (ls1 := [some (.ref 62), some (.int x1), some (.int G431.1)]) (st1 := [.int G431.1]) (hp1 := (hz (uF (uF (uF F 1 3 G431.2.1) 1 4 G431.2.2) 1 4 G433.2) A L)) rfl ?_
      subst T
      exact w_ri rfl (cvQ (funext fun q => funext fun z => if k0 : q = 1 ∧ z = 3 then by obtain ⟨w1, w2⟩ := k0; subst w1; subst w2; exact Eq.trans (b := G431.2.1) rfl rfl else if k1 : q = 1 ∧ z = 4 then by obtain ⟨w1, w2⟩ := k1; subst w1; subst w2; exact Eq.trans (b := G433.2) rfl rfl else by unfold uF; simp only [nb2 k0, nb2 k1, cond_false]) rfl rfl K)
noncomputable def kc_agenda (f : Nat) (f1_1 : Int32) (f1_2 : Int32) (f1_3 : Int32) (f1_4 : Int32) (f3_0 : Int32) (f3_1 : Int32) (a2 : List Int32) (a6 : List Int32) (a32 : List Int32) (a33 : List Int32) (l11 : List Int64) (x1 : Int32) : Int32 × Int32 × Int32 × Int32 × Int32 × List Int32 × List Int32 := (if (kx_has f1_1 x1 1 60) = 0 then ((-1), f1_1, f1_2, f1_3, f1_4, a32, a33) else (if (ka_readAgenda f (kx_open x1).1 (kx_open x1).2.1 (kx_open x1).2.2 f3_0 a2 (kv_weighPairs f3_0 f3_1 a6 a32 a33 l11).2 f3_0).2.2 = 0 then ((ka_readAgenda f (kx_open x1).1 (kx_open x1).2.1 (kx_open x1).2.2 f3_0 a2 (kv_weighPairs f3_0 f3_1 a6 a32 a33 l11).2 f3_0).1, 0, (kx_open x1).1, (ka_readAgenda f (kx_open x1).1 (kx_open x1).2.1 (kx_open x1).2.2 f3_0 a2 (kv_weighPairs f3_0 f3_1 a6 a32 a33 l11).2 f3_0).2.1, (ka_readAgenda f (kx_open x1).1 (kx_open x1).2.1 (kx_open x1).2.2 f3_0 a2 (kv_weighPairs f3_0 f3_1 a6 a32 a33 l11).2 f3_0).2.2, (kv_weighPairs f3_0 f3_1 a6 a32 a33 l11).1, (kv_weighPairs f3_0 f3_1 a6 a32 a33 l11).2) else ((ka_readAgenda f (kx_open x1).1 (kx_open x1).2.1 (kx_open x1).2.2 f3_0 a2 (kv_weighPairs f3_0 f3_1 a6 a32 a33 l11).2 f3_0).2.2, 0, (kx_open x1).1, (ka_readAgenda f (kx_open x1).1 (kx_open x1).2.1 (kx_open x1).2.2 f3_0 a2 (kv_weighPairs f3_0 f3_1 a6 a32 a33 l11).2 f3_0).2.1, (ka_readAgenda f (kx_open x1).1 (kx_open x1).2.1 (kx_open x1).2.2 f3_0 a2 (kv_weighPairs f3_0 f3_1 a6 a32 a33 l11).2 f3_0).2.2, (kv_weighPairs f3_0 f3_1 a6 a32 a33 l11).1, (kv_weighPairs f3_0 f3_1 a6 a32 a33 l11).2)))
theorem t_kc_agenda {f D : Nat} {F : Nat → Nat → Int32} {A : Nat → List Int32} {L : Nat → List Int64} {Q : Option Value → sm_H → Prop} {x1 : Int32} (hh0 : D ≤ f) (K : Q (some (.int ((kc_agenda f (F 1 1) (F 1 2) (F 1 3) (F 1 4) (F 3 0) (F 3 1) (A 2) (A 6) (A 32) (A 33) (L 11) x1).1))) (hz (uF (uF (uF (uF F 1 1 ((kc_agenda f (F 1 1) (F 1 2) (F 1 3) (F 1 4) (F 3 0) (F 3 1) (A 2) (A 6) (A 32) (A 33) (L 11) x1).2.1)) 1 2 ((kc_agenda f (F 1 1) (F 1 2) (F 1 3) (F 1 4) (F 3 0) (F 3 1) (A 2) (A 6) (A 32) (A 33) (L 11) x1).2.2.1)) 1 3 ((kc_agenda f (F 1 1) (F 1 2) (F 1 3) (F 1 4) (F 3 0) (F 3 1) (A 2) (A 6) (A 32) (A 33) (L 11) x1).2.2.2.1)) 1 4 ((kc_agenda f (F 1 1) (F 1 2) (F 1 3) (F 1 4) (F 3 0) (F 3 1) (A 2) (A 6) (A 32) (A 33) (L 11) x1).2.2.2.2.1)) (uA (uA A 32 ((kc_agenda f (F 1 1) (F 1 2) (F 1 3) (F 1 4) (F 3 0) (F 3 1) (A 2) (A 6) (A 32) (A 33) (L 11) x1).2.2.2.2.2.1)) 33 ((kc_agenda f (F 1 1) (F 1 2) (F 1 3) (F 1 4) (F 3 0) (F 3 1) (A 2) (A 6) (A 32) (A 33) (L 11) x1).2.2.2.2.2.2)) L)) : wl_M f D 95 [.ref 0, .int x1] (hz F A L) Q := by
  generalize hT : (kc_agenda f (F 1 1) (F 1 2) (F 1 3) (F 1 4) (F 3 0) (F 3 1) (A 2) (A 6) (A 32) (A 33) (L 11) x1) = T at K
  have hE : T = (if (kx_has (F 1 1) x1 1 60) = 0 then ((-1), (F 1 1), (F 1 2), (F 1 3), (F 1 4), (A 32), (A 33)) else (if (ka_readAgenda f (kx_open x1).1 (kx_open x1).2.1 (kx_open x1).2.2 (F 3 0) (A 2) (kv_weighPairs (F 3 0) (F 3 1) (A 6) (A 32) (A 33) (L 11)).2 (F 3 0)).2.2 = 0 then ((ka_readAgenda f (kx_open x1).1 (kx_open x1).2.1 (kx_open x1).2.2 (F 3 0) (A 2) (kv_weighPairs (F 3 0) (F 3 1) (A 6) (A 32) (A 33) (L 11)).2 (F 3 0)).1, 0, (kx_open x1).1, (ka_readAgenda f (kx_open x1).1 (kx_open x1).2.1 (kx_open x1).2.2 (F 3 0) (A 2) (kv_weighPairs (F 3 0) (F 3 1) (A 6) (A 32) (A 33) (L 11)).2 (F 3 0)).2.1, (ka_readAgenda f (kx_open x1).1 (kx_open x1).2.1 (kx_open x1).2.2 (F 3 0) (A 2) (kv_weighPairs (F 3 0) (F 3 1) (A 6) (A 32) (A 33) (L 11)).2 (F 3 0)).2.2, (kv_weighPairs (F 3 0) (F 3 1) (A 6) (A 32) (A 33) (L 11)).1, (kv_weighPairs (F 3 0) (F 3 1) (A 6) (A 32) (A 33) (L 11)).2) else ((ka_readAgenda f (kx_open x1).1 (kx_open x1).2.1 (kx_open x1).2.2 (F 3 0) (A 2) (kv_weighPairs (F 3 0) (F 3 1) (A 6) (A 32) (A 33) (L 11)).2 (F 3 0)).2.2, 0, (kx_open x1).1, (ka_readAgenda f (kx_open x1).1 (kx_open x1).2.1 (kx_open x1).2.2 (F 3 0) (A 2) (kv_weighPairs (F 3 0) (F 3 1) (A 6) (A 32) (A 33) (L 11)).2 (F 3 0)).2.1, (ka_readAgenda f (kx_open x1).1 (kx_open x1).2.1 (kx_open x1).2.2 (F 3 0) (A 2) (kv_weighPairs (F 3 0) (F 3 1) (A 6) (A 32) (A 33) (L 11)).2 (F 3 0)).2.2, (kv_weighPairs (F 3 0) (F 3 1) (A 6) (A 32) (A 33) (L 11)).1, (kv_weighPairs (F 3 0) (F 3 1) (A 6) (A 32) (A 33) (L 11)).2))) := hT.symm
  clear hT
  refine w_m (E := mm95) rfl ?_
  show wl_E f f (D - 1) mm95.2.2.2.2.2.2.2.2 0 [some (.ref 0), some (.int x1), none] [] (hz F A L) Q
  refine w_n 5 (pc1 := 8) (ls1 := [some (.ref 0), some (.int x1), none]) (st1 := [.int 60, .int 1, .int x1, .ref 1]) (hp1 := (hz F A L)) rfl ?_
  refine w_c rfl rfl (t_kx_has ?_)
  show wl_E f _ _ mm95.2.2.2.2.2.2.2.2 11 [some (.ref 0), some (.int x1), none] [.int (kx_has (F 1 1) x1 1 60)] (hz F A L) _
  generalize hG418 : (kx_has (F 1 1) x1 1 60) = G418 at hE ⊢
  refine w_zne (p3 := 14) rfl rfl (fun h => ?_) (fun h => ?_)
  · have h1 : ¬ G418 = 0 := h
    rw [if_neg h1] at hE
    refine w_n 3 (pc1 := 21) (ls1 := [some (.ref 0), some (.int x1), none]) (st1 := [.int x1, .ref 1]) (hp1 := (hz F A L)) rfl ?_
    refine w_c rfl rfl (t_kx_open ?_)
    show wl_E f _ _ mm95.2.2.2.2.2.2.2.2 24 [some (.ref 0), some (.int x1), none] [] (hz (uF (uF (uF F 1 2 (kx_open x1).1) 1 3 (kx_open x1).2.1) 1 4 (kx_open x1).2.2) A L) _
    generalize hG419 : (kx_open x1) = G419 at hE ⊢
    refine w_n 2 (pc1 := 28) (ls1 := [some (.ref 0), some (.int x1), none]) (st1 := [.ref 30]) (hp1 := (hz (uF (uF (uF F 1 2 G419.1) 1 3 G419.2.1) 1 4 G419.2.2) A L)) rfl ?_
    refine w_c rfl rfl (t_kv_weighPairs ?_)
    show wl_E f _ _ mm95.2.2.2.2.2.2.2.2 31 [some (.ref 0), some (.int x1), none] [] (hz (uF (uF (uF F 1 2 G419.1) 1 3 G419.2.1) 1 4 G419.2.2) (uA (uA A 32 (kv_weighPairs (F 3 0) (F 3 1) (A 6) (A 32) (A 33) (L 11)).1) 33 (kv_weighPairs (F 3 0) (F 3 1) (A 6) (A 32) (A 33) (L 11)).2) L) _
    generalize hG420 : (kv_weighPairs (F 3 0) (F 3 1) (A 6) (A 32) (A 33) (L 11)) = G420 at hE ⊢
    refine w_n 5 (pc1 := 42) (ls1 := [some (.ref 0), some (.int x1), none]) (st1 := [.int (F 3 0), .ref 62]) (hp1 := (hz (uF (uF (uF F 1 2 G419.1) 1 3 G419.2.1) 1 4 G419.2.2) (uA (uA A 32 G420.1) 33 G420.2) L)) rfl ?_
    refine w_c rfl rfl (t_ka_readAgenda (by omega) ?_)
    show wl_E f _ _ mm95.2.2.2.2.2.2.2.2 45 [some (.ref 0), some (.int x1), none] [.int (ka_readAgenda f G419.1 G419.2.1 G419.2.2 (F 3 0) (A 2) G420.2 (F 3 0)).1] (hz (uF (uF (uF (uF (uF F 1 2 G419.1) 1 3 G419.2.1) 1 4 G419.2.2) 1 3 (ka_readAgenda f G419.1 G419.2.1 G419.2.2 (F 3 0) (A 2) G420.2 (F 3 0)).2.1) 1 4 (ka_readAgenda f G419.1 G419.2.1 G419.2.2 (F 3 0) (A 2) G420.2 (F 3 0)).2.2) (uA (uA A 32 G420.1) 33 G420.2) L) _
    generalize hG434 : (ka_readAgenda f G419.1 G419.2.1 G419.2.2 (F 3 0) (A 2) G420.2 (F 3 0)) = G434 at hE ⊢
    refine w_n 4 (pc1 := 51) (ls1 := [some (.ref 0), some (.int x1), some (.int G434.1)]) (st1 := [.int 0, .ref 1]) (hp1 := (hz (uF (uF (uF (uF (uF F 1 2 G419.1) 1 3 G419.2.1) 1 4 G419.2.2) 1 3 G434.2.1) 1 4 G434.2.2) (uA (uA A 32 G420.1) 33 G420.2) L)) rfl ?_
    refine w_pf (k := 1) (fs := hz_f1 (uF (uF (uF (uF (uF F 1 2 G419.1) 1 3 G419.2.1) 1 4 G419.2.2) 1 3 G434.2.1) 1 4 G434.2.2)) (hp1 := (hz (uF (uF (uF (uF (uF (uF F 1 2 G419.1) 1 3 G419.2.1) 1 4 G419.2.2) 1 3 G434.2.1) 1 4 G434.2.2) 1 1 0) (uA (uA A 32 G420.1) 33 G420.2) L)) rfl rfl rfl (hz_p1_1 _) ?_
    refine w_n 3 (pc1 := 61) (ls1 := [some (.ref 0), some (.int x1), some (.int G434.1)]) (st1 := [.int G434.2.2]) (hp1 := (hz (uF (uF (uF (uF (uF (uF F 1 2 G419.1) 1 3 G419.2.1) 1 4 G419.2.2) 1 3 G434.2.1) 1 4 G434.2.2) 1 1 0) (uA (uA A 32 G420.1) 33 G420.2) L)) rfl ?_
    refine w_zeq (p3 := 64) rfl rfl (fun h => ?_) (fun h => ?_)
    · have h2 : G434.2.2 = 0 := h
      rw [if_pos h2] at hE
      refine w_n 1 (pc1 := 75) (ls1 := [some (.ref 0), some (.int x1), some (.int G434.1)]) (st1 := [.int G434.1]) (hp1 := (hz (uF (uF (uF (uF (uF (uF F 1 2 G419.1) 1 3 G419.2.1) 1 4 G419.2.2) 1 3 G434.2.1) 1 4 G434.2.2) 1 1 0) (uA (uA A 32 G420.1) 33 G420.2) L)) rfl ?_
      subst T
      exact w_ri rfl (cvQ (funext fun q => funext fun z => if k0 : q = 1 ∧ z = 1 then by obtain ⟨w1, w2⟩ := k0; subst w1; subst w2; exact Eq.trans (b := 0) rfl rfl else if k1 : q = 1 ∧ z = 2 then by obtain ⟨w1, w2⟩ := k1; subst w1; subst w2; exact Eq.trans (b := G419.1) rfl rfl else if k2 : q = 1 ∧ z = 3 then by obtain ⟨w1, w2⟩ := k2; subst w1; subst w2; exact Eq.trans (b := G434.2.1) rfl rfl else if k3 : q = 1 ∧ z = 4 then by obtain ⟨w1, w2⟩ := k3; subst w1; subst w2; exact Eq.trans (b := G434.2.2) rfl rfl else by unfold uF; simp only [nb2 k0, nb2 k1, nb2 k2, nb2 k3, cond_false]) rfl rfl K)
    · have h2 : ¬ G434.2.2 = 0 := h
      rw [if_neg h2] at hE
      refine w_n 4 (pc1 := 75) (ls1 := [some (.ref 0), some (.int x1), some (.int G434.1)]) (st1 := [.int G434.2.2]) (hp1 := (hz (uF (uF (uF (uF (uF (uF F 1 2 G419.1) 1 3 G419.2.1) 1 4 G419.2.2) 1 3 G434.2.1) 1 4 G434.2.2) 1 1 0) (uA (uA A 32 G420.1) 33 G420.2) L)) rfl ?_
      subst T
      exact w_ri rfl (cvQ (funext fun q => funext fun z => if k0 : q = 1 ∧ z = 1 then by obtain ⟨w1, w2⟩ := k0; subst w1; subst w2; exact Eq.trans (b := 0) rfl rfl else if k1 : q = 1 ∧ z = 2 then by obtain ⟨w1, w2⟩ := k1; subst w1; subst w2; exact Eq.trans (b := G419.1) rfl rfl else if k2 : q = 1 ∧ z = 3 then by obtain ⟨w1, w2⟩ := k2; subst w1; subst w2; exact Eq.trans (b := G434.2.1) rfl rfl else if k3 : q = 1 ∧ z = 4 then by obtain ⟨w1, w2⟩ := k3; subst w1; subst w2; exact Eq.trans (b := G434.2.2) rfl rfl else by unfold uF; simp only [nb2 k0, nb2 k1, nb2 k2, nb2 k3, cond_false]) rfl rfl K)
  · have h1 : G418 = 0 := h
    rw [if_pos h1] at hE
    refine w_n 1 (pc1 := 15) (ls1 := [some (.ref 0), some (.int x1), none]) (st1 := [.int (-1)]) (hp1 := (hz F A L)) rfl ?_
    subst T
    exact w_ri rfl (cvQ (funext fun q => funext fun z => if k0 : q = 1 ∧ z = 1 then by obtain ⟨w1, w2⟩ := k0; subst w1; subst w2; exact Eq.trans (b := (F 1 1)) rfl rfl else if k1 : q = 1 ∧ z = 2 then by obtain ⟨w1, w2⟩ := k1; subst w1; subst w2; exact Eq.trans (b := (F 1 2)) rfl rfl else if k2 : q = 1 ∧ z = 3 then by obtain ⟨w1, w2⟩ := k2; subst w1; subst w2; exact Eq.trans (b := (F 1 3)) rfl rfl else if k3 : q = 1 ∧ z = 4 then by obtain ⟨w1, w2⟩ := k3; subst w1; subst w2; exact Eq.trans (b := (F 1 4)) rfl rfl else by unfold uF; simp only [nb2 k0, nb2 k1, nb2 k2, nb2 k3, cond_false]) (funext fun q => if k0 : q = 32 then by subst k0; exact Eq.trans (b := (A 32)) rfl rfl else if k1 : q = 33 then by subst k1; exact Eq.trans (b := (A 33)) rfl rfl else by unfold uA; simp only [nb1 k0, nb1 k1, cond_false]) rfl K)
noncomputable def km_agenda_114 (f67_8 : Int32) (f67_10 : Int32) (a68 : List Int32) (a71 : List Int32) (a91 : List Int32)  : Nat → Int32 → Int32 → Int32 → Sum (Int32 × Int32 × Int32 × Int32 × Int32 × List Int32) (Int32 × Int32 × Int32)
  | 0, y2, y3, f67_9 => (Sum.inr (y2, y3, f67_9))
  | m + 1, y2, y3, f67_9 => (if (a91.getD (y2 - 1).toInt.toNat 0) = (-1) then (Sum.inr (y2, y3, f67_9)) else (if (km_here f67_9 f67_10 a71) = 41 then (km_agenda_114 f67_8 f67_10 a68 a71 a91 m (y2 - 1) (km_winsOf a68 (a91.getD (y2 - 1).toInt.toNat 0) y3) (f67_9 + 1)) else (Sum.inl ((km_wrongOf f67_9 1).1, f67_8, f67_9, f67_10, (km_wrongOf f67_9 1).2, a91))))
theorem t_km_agenda_114 {f : Nat} {Q : Option Value → sm_H → Prop} : ∀ (m : Nat) {B D : Nat} {F : Nat → Nat → Int32} {A : Nat → List Int32} {L : Nat → List Int64} {x1 : Int32} {y2 : Int32} {y3 : Int32}, m = (y2.toInt - 0).toNat → (∀ rr : Int32 × Int32 × Int32 × Int32 × Int32 × List Int32, (km_agenda_114 (F 67 8) (F 67 10) (A 68) (A 71) (A 91) m y2 y3 (F 67 9)) = Sum.inl rr → Q (some (.int rr.1)) (hz (uF (uF (uF (uF F 67 8 rr.2.1) 67 9 rr.2.2.1) 67 10 rr.2.2.2.1) 67 11 rr.2.2.2.2.1) (uA A 91 rr.2.2.2.2.2) L)) → (∀ ss : Int32 × Int32 × Int32, (km_agenda_114 (F 67 8) (F 67 10) (A 68) (A 71) (A 91) m y2 y3 (F 67 9)) = Sum.inr ss → wl_E f B D mm221.2.2.2.2.2.2.2.2 174 [some (.ref 67), some (.int x1), some (.int ss.1), some (.int ss.2.1)] [] (hz (uF F 67 9 ss.2.2) A L) Q) → wl_E f B D mm221.2.2.2.2.2.2.2.2 114 [some (.ref 67), some (.int x1), some (.int y2), some (.int y3)] [] (hz F A L) Q := by
  intro m
  induction m with
  | zero =>
    intro B D F A L x1 y2 y3 hm K1 K2
    generalize hT : (km_agenda_114 (F 67 8) (F 67 10) (A 68) (A 71) (A 91) 0 y2 y3 (F 67 9)) = T at K1 K2
    have hE : T = (Sum.inr (y2, y3, (F 67 9))) := hT.symm
    clear hT
    refine w_n 1 (pc1 := 115) (ls1 := [some (.ref 67), some (.int x1), some (.int y2), some (.int y3)]) (st1 := [.int y2]) (hp1 := (hz F A L)) rfl ?_
    refine w_zle (p3 := 118) rfl rfl (fun hb => ?_) (fun h => False.elim (by have h : 0 < y2.toInt := h; omega))
    subst T
    exact cvE (funext fun q => funext fun z => if k0 : q = 67 ∧ z = 9 then by obtain ⟨w1, w2⟩ := k0; subst w1; subst w2; exact Eq.trans (b := (F 67 9)) rfl rfl else by unfold uF; simp only [nb2 k0, cond_false]) rfl rfl (K2 _ rfl)
  | succ m ih =>
    intro B D F A L x1 y2 y3 hm K1 K2
    generalize hT : (km_agenda_114 (F 67 8) (F 67 10) (A 68) (A 71) (A 91) (m + 1) y2 y3 (F 67 9)) = T at K1 K2
    have hE : T = (if ((A 91).getD (y2 - 1).toInt.toNat 0) = (-1) then (Sum.inr (y2, y3, (F 67 9))) else (if (km_here (F 67 9) (F 67 10) (A 71)) = 41 then (km_agenda_114 (F 67 8) (F 67 10) (A 68) (A 71) (A 91) m (y2 - 1) (km_winsOf (A 68) ((A 91).getD (y2 - 1).toInt.toNat 0) y3) ((F 67 9) + 1)) else (Sum.inl ((km_wrongOf (F 67 9) 1).1, (F 67 8), (F 67 9), (F 67 10), (km_wrongOf (F 67 9) 1).2, (A 91))))) := hT.symm
    clear hT
    refine w_n 1 (pc1 := 115) (ls1 := [some (.ref 67), some (.int x1), some (.int y2), some (.int y3)]) (st1 := [.int y2]) (hp1 := (hz F A L)) rfl ?_
    refine w_zle (p3 := 118) rfl rfl (fun h => False.elim (by have h : y2.toInt ≤ 0 := h; omega)) (fun hb => ?_)
    refine w_n 5 (pc1 := 125) (ls1 := [some (.ref 67), some (.int x1), some (.int y2), some (.int y3)]) (st1 := [.int (y2 - 1), .ref 91]) (hp1 := (hz F A L)) rfl ?_
    refine w_al (k := 91) (l := (A 91)) rfl rfl rfl (fun _ => ?_)
    refine w_n 1 (pc1 := 127) (ls1 := [some (.ref 67), some (.int x1), some (.int y2), some (.int y3)]) (st1 := [.int (-1), .int ((A 91).getD (y2 - 1).toInt.toNat 0)]) (hp1 := (hz F A L)) rfl ?_
    refine w_eq (p3 := 130) rfl rfl (fun h => ?_) (fun h => ?_)
    · have h1 : ((A 91).getD (y2 - 1).toInt.toNat 0) = (-1) := h
      rw [if_pos h1] at hE
      subst T
      exact cvE (funext fun q => funext fun z => if k0 : q = 67 ∧ z = 9 then by obtain ⟨w1, w2⟩ := k0; subst w1; subst w2; exact Eq.trans (b := (F 67 9)) rfl rfl else by unfold uF; simp only [nb2 k0, cond_false]) rfl rfl (K2 _ rfl)
    · have h1 : ¬ ((A 91).getD (y2 - 1).toInt.toNat 0) = (-1) := h
      rw [if_neg h1] at hE
      refine w_n 1 (pc1 := 131) (ls1 := [some (.ref 67), some (.int x1), some (.int y2), some (.int y3)]) (st1 := [.ref 67]) (hp1 := (hz F A L)) rfl ?_
      refine w_c rfl rfl (t_km_here ?_)
      show wl_E f _ _ mm221.2.2.2.2.2.2.2.2 134 [some (.ref 67), some (.int x1), some (.int y2), some (.int y3)] [.int (km_here (F 67 9) (F 67 10) (A 71))] (hz F A L) _
      generalize hG438 : (km_here (F 67 9) (F 67 10) (A 71)) = G438 at hE ⊢
      refine w_n 1 (pc1 := 136) (ls1 := [some (.ref 67), some (.int x1), some (.int y2), some (.int y3)]) (st1 := [.int 41, .int G438]) (hp1 := (hz F A L)) rfl ?_
      refine w_eq (p3 := 139) rfl rfl (fun h => ?_) (fun h => ?_)
      · have h2 : G438 = 41 := h
        rw [if_pos h2] at hE
        refine w_n 5 (pc1 := 152) (ls1 := [some (.ref 67), some (.int x1), some (.int y2), some (.int y3)]) (st1 := [.int ((F 67 9) + 1), .ref 67]) (hp1 := (hz F A L)) rfl ?_
        refine w_pf (k := 67) (fs := hz_f67 F) (hp1 := (hz (uF F 67 9 ((F 67 9) + 1)) A L)) rfl rfl rfl (hz_p67_9 _) ?_
        refine w_n 8 (pc1 := 165) (ls1 := [some (.ref 67), some (.int x1), some (.int (y2 - 1)), some (.int y3)]) (st1 := [.int (y2 - 1), .ref 91, .ref 67]) (hp1 := (hz (uF F 67 9 ((F 67 9) + 1)) A L)) rfl ?_
        refine w_al (k := 91) (l := (A 91)) rfl rfl rfl (fun _ => ?_)
        refine w_n 1 (pc1 := 167) (ls1 := [some (.ref 67), some (.int x1), some (.int (y2 - 1)), some (.int y3)]) (st1 := [.int y3, .int ((A 91).getD (y2 - 1).toInt.toNat 0), .ref 67]) (hp1 := (hz (uF F 67 9 ((F 67 9) + 1)) A L)) rfl ?_
        refine w_c rfl rfl (t_km_winsOf ?_)
        show wl_E f _ _ mm221.2.2.2.2.2.2.2.2 170 [some (.ref 67), some (.int x1), some (.int (y2 - 1)), some (.int y3)] [.int (km_winsOf (A 68) ((A 91).getD (y2 - 1).toInt.toNat 0) y3)] (hz (uF F 67 9 ((F 67 9) + 1)) A L) _
        generalize hG439 : (km_winsOf (A 68) ((A 91).getD (y2 - 1).toInt.toNat 0) y3) = G439 at hE ⊢
        refine w_n 2 (pc1 := 114) (ls1 := [some (.ref 67), some (.int x1), some (.int (y2 - 1)), some (.int G439)]) (st1 := []) (hp1 := (hz (uF F 67 9 ((F 67 9) + 1)) A L)) rfl ?_
        subst T
        have hb2 := i_dn (B := (0 : Int32)) hb
        have hb3 : 0 < y2.toInt := hb
        exact ih (show m = ((y2 - 1).toInt - 0).toNat by rw [hb2]; omega) (fun rr hh => cvQ (funext fun q => funext fun z => if k0 : q = 67 ∧ z = 8 then by obtain ⟨w1, w2⟩ := k0; subst w1; subst w2; exact Eq.trans (b := rr.2.1) rfl rfl else if k1 : q = 67 ∧ z = 9 then by obtain ⟨w1, w2⟩ := k1; subst w1; subst w2; exact Eq.trans (b := rr.2.2.1) rfl rfl else if k2 : q = 67 ∧ z = 10 then by obtain ⟨w1, w2⟩ := k2; subst w1; subst w2; exact Eq.trans (b := rr.2.2.2.1) rfl rfl else if k3 : q = 67 ∧ z = 11 then by obtain ⟨w1, w2⟩ := k3; subst w1; subst w2; exact Eq.trans (b := rr.2.2.2.2.1) rfl rfl else by unfold uF; simp only [nb2 k0, nb2 k1, nb2 k2, nb2 k3, cond_false]) (funext fun q => if k0 : q = 91 then by subst k0; exact Eq.trans (b := rr.2.2.2.2.2) rfl rfl else by unfold uA; simp only [nb1 k0, cond_false]) rfl (K1 rr hh)) (fun ss hh => cvE (funext fun q => funext fun z => if k0 : q = 67 ∧ z = 9 then by obtain ⟨w1, w2⟩ := k0; subst w1; subst w2; exact Eq.trans (b := ss.2.2) rfl rfl else by unfold uF; simp only [nb2 k0, cond_false]) rfl rfl (K2 ss hh))
      · have h2 : ¬ G438 = 41 := h
        rw [if_neg h2] at hE
        refine w_n 2 (pc1 := 141) (ls1 := [some (.ref 67), some (.int x1), some (.int y2), some (.int y3)]) (st1 := [.int 1, .ref 67]) (hp1 := (hz F A L)) rfl ?_
        refine w_c rfl rfl (t_km_wrongOf ?_)
        show wl_E f _ _ mm221.2.2.2.2.2.2.2.2 144 [some (.ref 67), some (.int x1), some (.int y2), some (.int y3)] [.int (km_wrongOf (F 67 9) 1).1] (hz (uF F 67 11 (km_wrongOf (F 67 9) 1).2) A L) _
        generalize hG440 : (km_wrongOf (F 67 9) 1) = G440 at hE ⊢
        subst T
        exact w_ri rfl (cvQ (funext fun q => funext fun z => if k0 : q = 67 ∧ z = 8 then by obtain ⟨w1, w2⟩ := k0; subst w1; subst w2; exact Eq.trans (b := (F 67 8)) rfl rfl else if k1 : q = 67 ∧ z = 9 then by obtain ⟨w1, w2⟩ := k1; subst w1; subst w2; exact Eq.trans (b := (F 67 9)) rfl rfl else if k2 : q = 67 ∧ z = 10 then by obtain ⟨w1, w2⟩ := k2; subst w1; subst w2; exact Eq.trans (b := (F 67 10)) rfl rfl else if k3 : q = 67 ∧ z = 11 then by obtain ⟨w1, w2⟩ := k3; subst w1; subst w2; exact Eq.trans (b := G440.2) rfl rfl else by unfold uF; simp only [nb2 k0, nb2 k1, nb2 k2, nb2 k3, cond_false]) (funext fun q => if k0 : q = 91 then by subst k0; exact Eq.trans (b := (A 91)) rfl rfl else by unfold uA; simp only [nb1 k0, cond_false]) rfl (K1 _ rfl))
noncomputable def km_agenda_37 (f67_3 : Int32) (f67_8 : Int32) (f67_10 : Int32) (f67_11 : Int32) (a68 : List Int32) (a71 : List Int32)  : Nat → Int32 → Int32 → List Int32 → Int32 × Int32 × Int32 × Int32 × Int32 × List Int32
  | 0, _, f67_9, a91 => (0, f67_8, f67_9, f67_10, f67_11, a91)
  | m + 1, y2, f67_9, a91 => (if (km_here f67_9 f67_10 a71) = 40 then (if y2 = 8 then ((km_wrongOf f67_9 5).1, f67_8, f67_9, f67_10, (km_wrongOf f67_9 5).2, a91) else (km_agenda_37 f67_3 f67_8 f67_10 f67_11 a68 a71 m (y2 + 1) (f67_9 + 1) (a91.set y2.toInt.toNat (-1)))) else (if (km_isMeasure f67_3 ((km_here f67_9 f67_10 a71) - 97)) = 0 then ((km_wrongOf f67_9 1).1, f67_8, f67_9, f67_10, (km_wrongOf f67_9 1).2, a91) else (sE (km_agenda_114 f67_8 f67_10 a68 a71 a91 y2.toInt.toNat y2 ((km_here f67_9 f67_10 a71) - 97) (f67_9 + 1)) (fun rr1 => rr1) (fun ss1 => (if ss1.1 = 0 then (if ss1.2.2.toInt < f67_10.toInt then ((km_wrongOf ss1.2.2 1).1, f67_8, ss1.2.2, f67_10, (km_wrongOf ss1.2.2 1).2, a91) else (ss1.2.1, f67_8, ss1.2.2, f67_10, f67_11, a91)) else (km_agenda_37 f67_3 f67_8 f67_10 f67_11 a68 a71 m ss1.1 ss1.2.2 (a91.set (ss1.1 - 1).toInt.toNat ss1.2.1)))))))
theorem t_km_agenda_37 {f : Nat} {Q : Option Value → sm_H → Prop} : ∀ (m : Nat) (B : Nat) {D : Nat} {F : Nat → Nat → Int32} {A : Nat → List Int32} {L : Nat → List Int64} {x1 : Int32} {y2 : Int32} {o3 : Option Value}, B ≤ m → (Q (some (.int ((km_agenda_37 (F 67 3) (F 67 8) (F 67 10) (F 67 11) (A 68) (A 71) m y2 (F 67 9) (A 91)).1))) (hz (uF (uF (uF (uF F 67 8 ((km_agenda_37 (F 67 3) (F 67 8) (F 67 10) (F 67 11) (A 68) (A 71) m y2 (F 67 9) (A 91)).2.1)) 67 9 ((km_agenda_37 (F 67 3) (F 67 8) (F 67 10) (F 67 11) (A 68) (A 71) m y2 (F 67 9) (A 91)).2.2.1)) 67 10 ((km_agenda_37 (F 67 3) (F 67 8) (F 67 10) (F 67 11) (A 68) (A 71) m y2 (F 67 9) (A 91)).2.2.2.1)) 67 11 ((km_agenda_37 (F 67 3) (F 67 8) (F 67 10) (F 67 11) (A 68) (A 71) m y2 (F 67 9) (A 91)).2.2.2.2.1)) (uA A 91 ((km_agenda_37 (F 67 3) (F 67 8) (F 67 10) (F 67 11) (A 68) (A 71) m y2 (F 67 9) (A 91)).2.2.2.2.2)) L)) → wl_E f B D mm221.2.2.2.2.2.2.2.2 37 [some (.ref 67), some (.int x1), some (.int y2), o3] [] (hz F A L) Q := by
  intro m
  induction m with
  | zero =>
    intro B D F A L x1 y2 o3 hm K
    rw [show B = 0 by omega]
    exact w_0
  | succ m ih =>
    intro B D F A L x1 y2 o3 hm K
    cases B with
    | zero => exact w_0
    | succ B =>
      generalize hT : (km_agenda_37 (F 67 3) (F 67 8) (F 67 10) (F 67 11) (A 68) (A 71) (m + 1) y2 (F 67 9) (A 91)) = T at K
      have hE : T = (if (km_here (F 67 9) (F 67 10) (A 71)) = 40 then (if y2 = 8 then ((km_wrongOf (F 67 9) 5).1, (F 67 8), (F 67 9), (F 67 10), (km_wrongOf (F 67 9) 5).2, (A 91)) else (km_agenda_37 (F 67 3) (F 67 8) (F 67 10) (F 67 11) (A 68) (A 71) m (y2 + 1) ((F 67 9) + 1) ((A 91).set y2.toInt.toNat (-1)))) else (if (km_isMeasure (F 67 3) ((km_here (F 67 9) (F 67 10) (A 71)) - 97)) = 0 then ((km_wrongOf (F 67 9) 1).1, (F 67 8), (F 67 9), (F 67 10), (km_wrongOf (F 67 9) 1).2, (A 91)) else (sE (km_agenda_114 (F 67 8) (F 67 10) (A 68) (A 71) (A 91) y2.toInt.toNat y2 ((km_here (F 67 9) (F 67 10) (A 71)) - 97) ((F 67 9) + 1)) (fun rr1 => rr1) (fun ss1 => (if ss1.1 = 0 then (if ss1.2.2.toInt < (F 67 10).toInt then ((km_wrongOf ss1.2.2 1).1, (F 67 8), ss1.2.2, (F 67 10), (km_wrongOf ss1.2.2 1).2, (A 91)) else (ss1.2.1, (F 67 8), ss1.2.2, (F 67 10), (F 67 11), (A 91))) else (km_agenda_37 (F 67 3) (F 67 8) (F 67 10) (F 67 11) (A 68) (A 71) m ss1.1 ss1.2.2 ((A 91).set (ss1.1 - 1).toInt.toNat ss1.2.1))))))) := hT.symm
      clear hT
      refine w_n1 (pc1 := 38) (ls1 := [some (.ref 67), some (.int x1), some (.int y2), o3]) (st1 := [.ref 67]) (hp1 := (hz F A L)) rfl ?_
      refine w_c rfl rfl (t_km_here ?_)
      show wl_E f _ _ mm221.2.2.2.2.2.2.2.2 41 [some (.ref 67), some (.int x1), some (.int y2), o3] [.int (km_here (F 67 9) (F 67 10) (A 71))] (hz F A L) _
      generalize hG436 : (km_here (F 67 9) (F 67 10) (A 71)) = G436 at hE ⊢
      refine w_n 1 (pc1 := 43) (ls1 := [some (.ref 67), some (.int x1), some (.int y2), o3]) (st1 := [.int 40, .int G436]) (hp1 := (hz F A L)) rfl ?_
      refine w_ne (p3 := 46) rfl rfl (fun h => ?_) (fun h => ?_)
      · have h1 : ¬ G436 = 40 := h
        rw [if_neg h1] at hE
        refine w_n 1 (pc1 := 83) (ls1 := [some (.ref 67), some (.int x1), some (.int y2), o3]) (st1 := [.ref 67]) (hp1 := (hz F A L)) rfl ?_
        refine w_c rfl rfl (t_km_here ?_)
        show wl_E f _ _ mm221.2.2.2.2.2.2.2.2 86 [some (.ref 67), some (.int x1), some (.int y2), o3] [.int (km_here (F 67 9) (F 67 10) (A 71))] (hz F A L) _
        rw [hG436]
        refine w_n 5 (pc1 := 92) (ls1 := [some (.ref 67), some (.int x1), some (.int y2), some (.int (G436 - 97))]) (st1 := [.int (G436 - 97), .ref 67]) (hp1 := (hz F A L)) rfl ?_
        refine w_c rfl rfl (t_km_isMeasure ?_)
        show wl_E f _ _ mm221.2.2.2.2.2.2.2.2 95 [some (.ref 67), some (.int x1), some (.int y2), some (.int (G436 - 97))] [.int (km_isMeasure (F 67 3) (G436 - 97))] (hz F A L) _
        generalize hG437 : (km_isMeasure (F 67 3) (G436 - 97)) = G437 at hE ⊢
        refine w_zne (p3 := 98) rfl rfl (fun h => ?_) (fun h => ?_)
        · have h2 : ¬ G437 = 0 := h
          rw [if_neg h2] at hE
          refine w_n 5 (pc1 := 111) (ls1 := [some (.ref 67), some (.int x1), some (.int y2), some (.int (G436 - 97))]) (st1 := [.int ((F 67 9) + 1), .ref 67]) (hp1 := (hz F A L)) rfl ?_
          refine w_pf (k := 67) (fs := hz_f67 F) (hp1 := (hz (uF F 67 9 ((F 67 9) + 1)) A L)) rfl rfl rfl (hz_p67_9 _) ?_
          refine t_km_agenda_114 y2.toInt.toNat (show y2.toInt.toNat = (y2.toInt - 0).toNat by first | rfl | omega) (fun rr1 hh => ?_) (fun ss1 hh => ?_)
          · have hh : (km_agenda_114 (F 67 8) (F 67 10) (A 68) (A 71) (A 91) y2.toInt.toNat y2 (G436 - 97) ((F 67 9) + 1)) = Sum.inl rr1 := hh
            rw [hh] at hE
            replace hE : T = rr1 := hE
            subst T
            exact cvQ (funext fun q => funext fun z => if k0 : q = 67 ∧ z = 8 then by obtain ⟨w1, w2⟩ := k0; subst w1; subst w2; exact Eq.trans (b := rr1.2.1) rfl rfl else if k1 : q = 67 ∧ z = 9 then by obtain ⟨w1, w2⟩ := k1; subst w1; subst w2; exact Eq.trans (b := rr1.2.2.1) rfl rfl else if k2 : q = 67 ∧ z = 10 then by obtain ⟨w1, w2⟩ := k2; subst w1; subst w2; exact Eq.trans (b := rr1.2.2.2.1) rfl rfl else if k3 : q = 67 ∧ z = 11 then by obtain ⟨w1, w2⟩ := k3; subst w1; subst w2; exact Eq.trans (b := rr1.2.2.2.2.1) rfl rfl else by unfold uF; simp only [nb2 k0, nb2 k1, nb2 k2, nb2 k3, cond_false]) rfl rfl K
          · have hh : (km_agenda_114 (F 67 8) (F 67 10) (A 68) (A 71) (A 91) y2.toInt.toNat y2 (G436 - 97) ((F 67 9) + 1)) = Sum.inr ss1 := hh
            rw [hh] at hE
            replace hE : T = (if ss1.1 = 0 then (if ss1.2.2.toInt < (F 67 10).toInt then ((km_wrongOf ss1.2.2 1).1, (F 67 8), ss1.2.2, (F 67 10), (km_wrongOf ss1.2.2 1).2, (A 91)) else (ss1.2.1, (F 67 8), ss1.2.2, (F 67 10), (F 67 11), (A 91))) else (km_agenda_37 (F 67 3) (F 67 8) (F 67 10) (F 67 11) (A 68) (A 71) m ss1.1 ss1.2.2 ((A 91).set (ss1.1 - 1).toInt.toNat ss1.2.1))) := hE
            show wl_E f _ _ mm221.2.2.2.2.2.2.2.2 174 [some (.ref 67), some (.int x1), some (.int ss1.1), some (.int ss1.2.1)] [] (hz (uF (uF F 67 9 ((F 67 9) + 1)) 67 9 ss1.2.2) A L) _
            refine w_n 1 (pc1 := 175) (ls1 := [some (.ref 67), some (.int x1), some (.int ss1.1), some (.int ss1.2.1)]) (st1 := [.int ss1.1]) (hp1 := (hz (uF (uF F 67 9 ((F 67 9) + 1)) 67 9 ss1.2.2) A L)) rfl ?_
            refine w_zne (p3 := 178) rfl rfl (fun h => ?_) (fun h => ?_)
            · have h3 : ¬ ss1.1 = 0 := h
              rw [if_neg h3] at hE
              refine w_n 6 (pc1 := 207) (ls1 := [some (.ref 67), some (.int x1), some (.int ss1.1), some (.int ss1.2.1)]) (st1 := [.int ss1.2.1, .int (ss1.1 - 1), .ref 91]) (hp1 := (hz (uF (uF F 67 9 ((F 67 9) + 1)) 67 9 ss1.2.2) A L)) rfl ?_
              refine w_as (k := 91) (l := (A 91)) (hp1 := (hz (uF (uF F 67 9 ((F 67 9) + 1)) 67 9 ss1.2.2) (uA A 91 ((A 91).set (ss1.1 - 1).toInt.toNat ss1.2.1)) L)) rfl rfl rfl (hz_s91 _) (fun _ => ?_)
              refine w_n 1 (pc1 := 37) (ls1 := [some (.ref 67), some (.int x1), some (.int ss1.1), some (.int ss1.2.1)]) (st1 := []) (hp1 := (hz (uF (uF F 67 9 ((F 67 9) + 1)) 67 9 ss1.2.2) (uA A 91 ((A 91).set (ss1.1 - 1).toInt.toNat ss1.2.1)) L)) rfl ?_
              subst T
              exact ih _ (by omega) (cvQ (funext fun q => funext fun z => if k0 : q = 67 ∧ z = 8 then by obtain ⟨w1, w2⟩ := k0; subst w1; subst w2; exact Eq.trans (b := (km_agenda_37 (F 67 3) (F 67 8) (F 67 10) (F 67 11) (A 68) (A 71) m ss1.1 ss1.2.2 ((A 91).set (ss1.1 - 1).toInt.toNat ss1.2.1)).2.1) rfl rfl else if k1 : q = 67 ∧ z = 9 then by obtain ⟨w1, w2⟩ := k1; subst w1; subst w2; exact Eq.trans (b := (km_agenda_37 (F 67 3) (F 67 8) (F 67 10) (F 67 11) (A 68) (A 71) m ss1.1 ss1.2.2 ((A 91).set (ss1.1 - 1).toInt.toNat ss1.2.1)).2.2.1) rfl rfl else if k2 : q = 67 ∧ z = 10 then by obtain ⟨w1, w2⟩ := k2; subst w1; subst w2; exact Eq.trans (b := (km_agenda_37 (F 67 3) (F 67 8) (F 67 10) (F 67 11) (A 68) (A 71) m ss1.1 ss1.2.2 ((A 91).set (ss1.1 - 1).toInt.toNat ss1.2.1)).2.2.2.1) rfl rfl else if k3 : q = 67 ∧ z = 11 then by obtain ⟨w1, w2⟩ := k3; subst w1; subst w2; exact Eq.trans (b := (km_agenda_37 (F 67 3) (F 67 8) (F 67 10) (F 67 11) (A 68) (A 71) m ss1.1 ss1.2.2 ((A 91).set (ss1.1 - 1).toInt.toNat ss1.2.1)).2.2.2.2.1) rfl rfl else by unfold uF; simp only [nb2 k0, nb2 k1, nb2 k2, nb2 k3, cond_false]) (funext fun q => if k0 : q = 91 then by subst k0; exact Eq.trans (b := (km_agenda_37 (F 67 3) (F 67 8) (F 67 10) (F 67 11) (A 68) (A 71) m ss1.1 ss1.2.2 ((A 91).set (ss1.1 - 1).toInt.toNat ss1.2.1)).2.2.2.2.2) rfl rfl else by unfold uA; simp only [nb1 k0, cond_false]) rfl K)
            · have h3 : ss1.1 = 0 := h
              rw [if_pos h3] at hE
              refine w_n 4 (pc1 := 186) (ls1 := [some (.ref 67), some (.int x1), some (.int ss1.1), some (.int ss1.2.1)]) (st1 := [.int (F 67 10), .int ss1.2.2]) (hp1 := (hz (uF (uF F 67 9 ((F 67 9) + 1)) 67 9 ss1.2.2) A L)) rfl ?_
              refine w_ge (p3 := 189) rfl rfl (fun h => ?_) (fun h => ?_)
              · have h4 : (F 67 10).toInt ≤ ss1.2.2.toInt := h
                rw [if_neg (Int.not_lt.mpr h4)] at hE
                refine w_n 1 (pc1 := 198) (ls1 := [some (.ref 67), some (.int x1), some (.int ss1.1), some (.int ss1.2.1)]) (st1 := [.int ss1.2.1]) (hp1 := (hz (uF (uF F 67 9 ((F 67 9) + 1)) 67 9 ss1.2.2) A L)) rfl ?_
                subst T
                exact w_ri rfl (cvQ (funext fun q => funext fun z => if k0 : q = 67 ∧ z = 8 then by obtain ⟨w1, w2⟩ := k0; subst w1; subst w2; exact Eq.trans (b := (F 67 8)) rfl rfl else if k1 : q = 67 ∧ z = 9 then by obtain ⟨w1, w2⟩ := k1; subst w1; subst w2; exact Eq.trans (b := ss1.2.2) rfl rfl else if k2 : q = 67 ∧ z = 10 then by obtain ⟨w1, w2⟩ := k2; subst w1; subst w2; exact Eq.trans (b := (F 67 10)) rfl rfl else if k3 : q = 67 ∧ z = 11 then by obtain ⟨w1, w2⟩ := k3; subst w1; subst w2; exact Eq.trans (b := (F 67 11)) rfl rfl else by unfold uF; simp only [nb2 k0, nb2 k1, nb2 k2, nb2 k3, cond_false]) (funext fun q => if k0 : q = 91 then by subst k0; exact Eq.trans (b := (A 91)) rfl rfl else by unfold uA; simp only [nb1 k0, cond_false]) rfl K)
              · have h4 : ss1.2.2.toInt < (F 67 10).toInt := h
                rw [if_pos h4] at hE
                refine w_n 2 (pc1 := 191) (ls1 := [some (.ref 67), some (.int x1), some (.int ss1.1), some (.int ss1.2.1)]) (st1 := [.int 1, .ref 67]) (hp1 := (hz (uF (uF F 67 9 ((F 67 9) + 1)) 67 9 ss1.2.2) A L)) rfl ?_
                refine w_c rfl rfl (t_km_wrongOf ?_)
                show wl_E f _ _ mm221.2.2.2.2.2.2.2.2 194 [some (.ref 67), some (.int x1), some (.int ss1.1), some (.int ss1.2.1)] [.int (km_wrongOf ss1.2.2 1).1] (hz (uF (uF (uF F 67 9 ((F 67 9) + 1)) 67 9 ss1.2.2) 67 11 (km_wrongOf ss1.2.2 1).2) A L) _
                generalize hG441 : (km_wrongOf ss1.2.2 1) = G441 at hE ⊢
                refine w_n 1 (pc1 := 198) (ls1 := [some (.ref 67), some (.int x1), some (.int ss1.1), some (.int ss1.2.1)]) (st1 := [.int G441.1]) (hp1 := (hz (uF (uF (uF F 67 9 ((F 67 9) + 1)) 67 9 ss1.2.2) 67 11 G441.2) A L)) rfl ?_
                subst T
                exact w_ri rfl (cvQ (funext fun q => funext fun z => if k0 : q = 67 ∧ z = 8 then by obtain ⟨w1, w2⟩ := k0; subst w1; subst w2; exact Eq.trans (b := (F 67 8)) rfl rfl else if k1 : q = 67 ∧ z = 9 then by obtain ⟨w1, w2⟩ := k1; subst w1; subst w2; exact Eq.trans (b := ss1.2.2) rfl rfl else if k2 : q = 67 ∧ z = 10 then by obtain ⟨w1, w2⟩ := k2; subst w1; subst w2; exact Eq.trans (b := (F 67 10)) rfl rfl else if k3 : q = 67 ∧ z = 11 then by obtain ⟨w1, w2⟩ := k3; subst w1; subst w2; exact Eq.trans (b := G441.2) rfl rfl else by unfold uF; simp only [nb2 k0, nb2 k1, nb2 k2, nb2 k3, cond_false]) (funext fun q => if k0 : q = 91 then by subst k0; exact Eq.trans (b := (A 91)) rfl rfl else by unfold uA; simp only [nb1 k0, cond_false]) rfl K)
        · have h2 : G437 = 0 := h
          rw [if_pos h2] at hE
          refine w_n 2 (pc1 := 100) (ls1 := [some (.ref 67), some (.int x1), some (.int y2), some (.int (G436 - 97))]) (st1 := [.int 1, .ref 67]) (hp1 := (hz F A L)) rfl ?_
          refine w_c rfl rfl (t_km_wrongOf ?_)
          show wl_E f _ _ mm221.2.2.2.2.2.2.2.2 103 [some (.ref 67), some (.int x1), some (.int y2), some (.int (G436 - 97))] [.int (km_wrongOf (F 67 9) 1).1] (hz (uF F 67 11 (km_wrongOf (F 67 9) 1).2) A L) _
          generalize hG442 : (km_wrongOf (F 67 9) 1) = G442 at hE ⊢
          subst T
          exact w_ri rfl (cvQ (funext fun q => funext fun z => if k0 : q = 67 ∧ z = 8 then by obtain ⟨w1, w2⟩ := k0; subst w1; subst w2; exact Eq.trans (b := (F 67 8)) rfl rfl else if k1 : q = 67 ∧ z = 9 then by obtain ⟨w1, w2⟩ := k1; subst w1; subst w2; exact Eq.trans (b := (F 67 9)) rfl rfl else if k2 : q = 67 ∧ z = 10 then by obtain ⟨w1, w2⟩ := k2; subst w1; subst w2; exact Eq.trans (b := (F 67 10)) rfl rfl else if k3 : q = 67 ∧ z = 11 then by obtain ⟨w1, w2⟩ := k3; subst w1; subst w2; exact Eq.trans (b := G442.2) rfl rfl else by unfold uF; simp only [nb2 k0, nb2 k1, nb2 k2, nb2 k3, cond_false]) (funext fun q => if k0 : q = 91 then by subst k0; exact Eq.trans (b := (A 91)) rfl rfl else by unfold uA; simp only [nb1 k0, cond_false]) rfl K)
      · have h1 : G436 = 40 := h
        rw [if_pos h1] at hE
        refine w_n 2 (pc1 := 49) (ls1 := [some (.ref 67), some (.int x1), some (.int y2), o3]) (st1 := [.int 8, .int y2]) (hp1 := (hz F A L)) rfl ?_
        refine w_ne (p3 := 52) rfl rfl (fun h => ?_) (fun h => ?_)
        · have h5 : ¬ y2 = 8 := h
          rw [if_neg h5] at hE
          refine w_n 4 (pc1 := 64) (ls1 := [some (.ref 67), some (.int x1), some (.int y2), o3]) (st1 := [.int (-1), .int y2, .ref 91]) (hp1 := (hz F A L)) rfl ?_
          refine w_as (k := 91) (l := (A 91)) (hp1 := (hz F (uA A 91 ((A 91).set y2.toInt.toNat (-1))) L)) rfl rfl rfl (hz_s91 _) (fun _ => ?_)
          refine w_n 9 (pc1 := 76) (ls1 := [some (.ref 67), some (.int x1), some (.int (y2 + 1)), o3]) (st1 := [.int ((F 67 9) + 1), .ref 67]) (hp1 := (hz F (uA A 91 ((A 91).set y2.toInt.toNat (-1))) L)) rfl ?_
          refine w_pf (k := 67) (fs := hz_f67 F) (hp1 := (hz (uF F 67 9 ((F 67 9) + 1)) (uA A 91 ((A 91).set y2.toInt.toNat (-1))) L)) rfl rfl rfl (hz_p67_9 _) ?_
          refine w_n 1 (pc1 := 37) (ls1 := [some (.ref 67), some (.int x1), some (.int (y2 + 1)), o3]) (st1 := []) (hp1 := (hz (uF F 67 9 ((F 67 9) + 1)) (uA A 91 ((A 91).set y2.toInt.toNat (-1))) L)) rfl ?_
          subst T
          exact ih _ (by omega) (cvQ (funext fun q => funext fun z => if k0 : q = 67 ∧ z = 8 then by obtain ⟨w1, w2⟩ := k0; subst w1; subst w2; exact Eq.trans (b := (km_agenda_37 (F 67 3) (F 67 8) (F 67 10) (F 67 11) (A 68) (A 71) m (y2 + 1) ((F 67 9) + 1) ((A 91).set y2.toInt.toNat (-1))).2.1) rfl rfl else if k1 : q = 67 ∧ z = 9 then by obtain ⟨w1, w2⟩ := k1; subst w1; subst w2; exact Eq.trans (b := (km_agenda_37 (F 67 3) (F 67 8) (F 67 10) (F 67 11) (A 68) (A 71) m (y2 + 1) ((F 67 9) + 1) ((A 91).set y2.toInt.toNat (-1))).2.2.1) rfl rfl else if k2 : q = 67 ∧ z = 10 then by obtain ⟨w1, w2⟩ := k2; subst w1; subst w2; exact Eq.trans (b := (km_agenda_37 (F 67 3) (F 67 8) (F 67 10) (F 67 11) (A 68) (A 71) m (y2 + 1) ((F 67 9) + 1) ((A 91).set y2.toInt.toNat (-1))).2.2.2.1) rfl rfl else if k3 : q = 67 ∧ z = 11 then by obtain ⟨w1, w2⟩ := k3; subst w1; subst w2; exact Eq.trans (b := (km_agenda_37 (F 67 3) (F 67 8) (F 67 10) (F 67 11) (A 68) (A 71) m (y2 + 1) ((F 67 9) + 1) ((A 91).set y2.toInt.toNat (-1))).2.2.2.2.1) rfl rfl else by unfold uF; simp only [nb2 k0, nb2 k1, nb2 k2, nb2 k3, cond_false]) (funext fun q => if k0 : q = 91 then by subst k0; exact Eq.trans (b := (km_agenda_37 (F 67 3) (F 67 8) (F 67 10) (F 67 11) (A 68) (A 71) m (y2 + 1) ((F 67 9) + 1) ((A 91).set y2.toInt.toNat (-1))).2.2.2.2.2) rfl rfl else by unfold uA; simp only [nb1 k0, cond_false]) rfl K)
        · have h5 : y2 = 8 := h
          rw [if_pos h5] at hE
          refine w_n 2 (pc1 := 54) (ls1 := [some (.ref 67), some (.int x1), some (.int y2), o3]) (st1 := [.int 5, .ref 67]) (hp1 := (hz F A L)) rfl ?_
          refine w_c rfl rfl (t_km_wrongOf ?_)
          show wl_E f _ _ mm221.2.2.2.2.2.2.2.2 57 [some (.ref 67), some (.int x1), some (.int y2), o3] [.int (km_wrongOf (F 67 9) 5).1] (hz (uF F 67 11 (km_wrongOf (F 67 9) 5).2) A L) _
          generalize hG443 : (km_wrongOf (F 67 9) 5) = G443 at hE ⊢
          subst T
          exact w_ri rfl (cvQ (funext fun q => funext fun z => if k0 : q = 67 ∧ z = 8 then by obtain ⟨w1, w2⟩ := k0; subst w1; subst w2; exact Eq.trans (b := (F 67 8)) rfl rfl else if k1 : q = 67 ∧ z = 9 then by obtain ⟨w1, w2⟩ := k1; subst w1; subst w2; exact Eq.trans (b := (F 67 9)) rfl rfl else if k2 : q = 67 ∧ z = 10 then by obtain ⟨w1, w2⟩ := k2; subst w1; subst w2; exact Eq.trans (b := (F 67 10)) rfl rfl else if k3 : q = 67 ∧ z = 11 then by obtain ⟨w1, w2⟩ := k3; subst w1; subst w2; exact Eq.trans (b := G443.2) rfl rfl else by unfold uF; simp only [nb2 k0, nb2 k1, nb2 k2, nb2 k3, cond_false]) (funext fun q => if k0 : q = 91 then by subst k0; exact Eq.trans (b := (A 91)) rfl rfl else by unfold uA; simp only [nb1 k0, cond_false]) rfl K)
noncomputable def km_agenda (f : Nat) (f67_3 : Int32) (f67_8 : Int32) (f67_9 : Int32) (f67_10 : Int32) (f67_11 : Int32) (a68 : List Int32) (a71 : List Int32) (a91 : List Int32) (x1 : Int32) : Int32 × Int32 × Int32 × Int32 × Int32 × List Int32 := (if (km_in x1 1 60) = 0 then ((-1), f67_8, f67_9, f67_10, f67_11, a91) else (if f67_8.toInt < x1.toInt then ((-1), f67_8, f67_9, f67_10, f67_11, a91) else (km_agenda_37 f67_3 0 x1 f67_11 a68 a71 f 0 0 a91)))
theorem t_km_agenda {f D : Nat} {F : Nat → Nat → Int32} {A : Nat → List Int32} {L : Nat → List Int64} {Q : Option Value → sm_H → Prop} {x1 : Int32} (K : Q (some (.int ((km_agenda f (F 67 3) (F 67 8) (F 67 9) (F 67 10) (F 67 11) (A 68) (A 71) (A 91) x1).1))) (hz (uF (uF (uF (uF F 67 8 ((km_agenda f (F 67 3) (F 67 8) (F 67 9) (F 67 10) (F 67 11) (A 68) (A 71) (A 91) x1).2.1)) 67 9 ((km_agenda f (F 67 3) (F 67 8) (F 67 9) (F 67 10) (F 67 11) (A 68) (A 71) (A 91) x1).2.2.1)) 67 10 ((km_agenda f (F 67 3) (F 67 8) (F 67 9) (F 67 10) (F 67 11) (A 68) (A 71) (A 91) x1).2.2.2.1)) 67 11 ((km_agenda f (F 67 3) (F 67 8) (F 67 9) (F 67 10) (F 67 11) (A 68) (A 71) (A 91) x1).2.2.2.2.1)) (uA A 91 ((km_agenda f (F 67 3) (F 67 8) (F 67 9) (F 67 10) (F 67 11) (A 68) (A 71) (A 91) x1).2.2.2.2.2)) L)) : wl_M f D 221 [.ref 67, .int x1] (hz F A L) Q := by
  generalize hT : (km_agenda f (F 67 3) (F 67 8) (F 67 9) (F 67 10) (F 67 11) (A 68) (A 71) (A 91) x1) = T at K
  have hE : T = (if (km_in x1 1 60) = 0 then ((-1), (F 67 8), (F 67 9), (F 67 10), (F 67 11), (A 91)) else (if (F 67 8).toInt < x1.toInt then ((-1), (F 67 8), (F 67 9), (F 67 10), (F 67 11), (A 91)) else (km_agenda_37 (F 67 3) 0 x1 (F 67 11) (A 68) (A 71) f 0 0 (A 91)))) := hT.symm
  clear hT
  refine w_m (E := mm221) rfl ?_
  show wl_E f f (D - 1) mm221.2.2.2.2.2.2.2.2 0 [some (.ref 67), some (.int x1), none, none] [] (hz F A L) Q
  refine w_n 3 (pc1 := 4) (ls1 := [some (.ref 67), some (.int x1), none, none]) (st1 := [.int 60, .int 1, .int x1]) (hp1 := (hz F A L)) rfl ?_
  refine w_c rfl rfl (t_km_in ?_)
  show wl_E f _ _ mm221.2.2.2.2.2.2.2.2 7 [some (.ref 67), some (.int x1), none, none] [.int (km_in x1 1 60)] (hz F A L) _
  generalize hG435 : (km_in x1 1 60) = G435 at hE ⊢
  refine w_zeq (p3 := 10) rfl rfl (fun h => ?_) (fun h => ?_)
  · have h1 : G435 = 0 := h
    rw [if_pos h1] at hE
    refine w_n 1 (pc1 := 19) (ls1 := [some (.ref 67), some (.int x1), none, none]) (st1 := [.int (-1)]) (hp1 := (hz F A L)) rfl ?_
    subst T
    exact w_ri rfl (cvQ (funext fun q => funext fun z => if k0 : q = 67 ∧ z = 8 then by obtain ⟨w1, w2⟩ := k0; subst w1; subst w2; exact Eq.trans (b := (F 67 8)) rfl rfl else if k1 : q = 67 ∧ z = 9 then by obtain ⟨w1, w2⟩ := k1; subst w1; subst w2; exact Eq.trans (b := (F 67 9)) rfl rfl else if k2 : q = 67 ∧ z = 10 then by obtain ⟨w1, w2⟩ := k2; subst w1; subst w2; exact Eq.trans (b := (F 67 10)) rfl rfl else if k3 : q = 67 ∧ z = 11 then by obtain ⟨w1, w2⟩ := k3; subst w1; subst w2; exact Eq.trans (b := (F 67 11)) rfl rfl else by unfold uF; simp only [nb2 k0, nb2 k1, nb2 k2, nb2 k3, cond_false]) (funext fun q => if k0 : q = 91 then by subst k0; exact Eq.trans (b := (A 91)) rfl rfl else by unfold uA; simp only [nb1 k0, cond_false]) rfl K)
  · have h1 : ¬ G435 = 0 := h
    rw [if_neg h1] at hE
    refine w_n 3 (pc1 := 15) (ls1 := [some (.ref 67), some (.int x1), none, none]) (st1 := [.int (F 67 8), .int x1]) (hp1 := (hz F A L)) rfl ?_
    refine w_le (p3 := 18) rfl rfl (fun h => ?_) (fun h => ?_)
    · have h2 : x1.toInt ≤ (F 67 8).toInt := h
      rw [if_neg (Int.not_lt.mpr h2)] at hE
      refine w_n 2 (pc1 := 22) (ls1 := [some (.ref 67), some (.int x1), none, none]) (st1 := [.int 0, .ref 67]) (hp1 := (hz F A L)) rfl ?_
      refine w_pf (k := 67) (fs := hz_f67 F) (hp1 := (hz (uF F 67 9 0) A L)) rfl rfl rfl (hz_p67_9 _) ?_
      refine w_n 2 (pc1 := 27) (ls1 := [some (.ref 67), some (.int x1), none, none]) (st1 := [.int x1, .ref 67]) (hp1 := (hz (uF F 67 9 0) A L)) rfl ?_
      refine w_pf (k := 67) (fs := hz_f67 (uF F 67 9 0)) (hp1 := (hz (uF (uF F 67 9 0) 67 10 x1) A L)) rfl rfl rfl (hz_p67_10 _) ?_
      refine w_n 2 (pc1 := 32) (ls1 := [some (.ref 67), some (.int x1), none, none]) (st1 := [.int 0, .ref 67]) (hp1 := (hz (uF (uF F 67 9 0) 67 10 x1) A L)) rfl ?_
      refine w_pf (k := 67) (fs := hz_f67 (uF (uF F 67 9 0) 67 10 x1)) (hp1 := (hz (uF (uF (uF F 67 9 0) 67 10 x1) 67 8 0) A L)) rfl rfl rfl (hz_p67_8 _) ?_
      refine w_n 2 (pc1 := 37) (ls1 := [some (.ref 67), some (.int x1), some (.int 0), none]) (st1 := []) (hp1 := (hz (uF (uF (uF F 67 9 0) 67 10 x1) 67 8 0) A L)) rfl ?_
      subst T
      exact t_km_agenda_37 _ _ (Nat.le_refl _) (cvQ (funext fun q => funext fun z => if k0 : q = 67 ∧ z = 8 then by obtain ⟨w1, w2⟩ := k0; subst w1; subst w2; exact Eq.trans (b := (km_agenda_37 (F 67 3) 0 x1 (F 67 11) (A 68) (A 71) f 0 0 (A 91)).2.1) rfl rfl else if k1 : q = 67 ∧ z = 9 then by obtain ⟨w1, w2⟩ := k1; subst w1; subst w2; exact Eq.trans (b := (km_agenda_37 (F 67 3) 0 x1 (F 67 11) (A 68) (A 71) f 0 0 (A 91)).2.2.1) rfl rfl else if k2 : q = 67 ∧ z = 10 then by obtain ⟨w1, w2⟩ := k2; subst w1; subst w2; exact Eq.trans (b := (km_agenda_37 (F 67 3) 0 x1 (F 67 11) (A 68) (A 71) f 0 0 (A 91)).2.2.2.1) rfl rfl else if k3 : q = 67 ∧ z = 11 then by obtain ⟨w1, w2⟩ := k3; subst w1; subst w2; exact Eq.trans (b := (km_agenda_37 (F 67 3) 0 x1 (F 67 11) (A 68) (A 71) f 0 0 (A 91)).2.2.2.2.1) rfl rfl else by unfold uF; simp only [nb2 k0, nb2 k1, nb2 k2, nb2 k3, cond_false]) (funext fun q => if k0 : q = 91 then by subst k0; exact Eq.trans (b := (km_agenda_37 (F 67 3) 0 x1 (F 67 11) (A 68) (A 71) f 0 0 (A 91)).2.2.2.2.2) rfl rfl else by unfold uA; simp only [nb1 k0, cond_false]) rfl K)
    · have h2 : (F 67 8).toInt < x1.toInt := h
      rw [if_pos h2] at hE
      refine w_n 1 (pc1 := 19) (ls1 := [some (.ref 67), some (.int x1), none, none]) (st1 := [.int (-1)]) (hp1 := (hz F A L)) rfl ?_
      subst T
      exact w_ri rfl (cvQ (funext fun q => funext fun z => if k0 : q = 67 ∧ z = 8 then by obtain ⟨w1, w2⟩ := k0; subst w1; subst w2; exact Eq.trans (b := (F 67 8)) rfl rfl else if k1 : q = 67 ∧ z = 9 then by obtain ⟨w1, w2⟩ := k1; subst w1; subst w2; exact Eq.trans (b := (F 67 9)) rfl rfl else if k2 : q = 67 ∧ z = 10 then by obtain ⟨w1, w2⟩ := k2; subst w1; subst w2; exact Eq.trans (b := (F 67 10)) rfl rfl else if k3 : q = 67 ∧ z = 11 then by obtain ⟨w1, w2⟩ := k3; subst w1; subst w2; exact Eq.trans (b := (F 67 11)) rfl rfl else by unfold uF; simp only [nb2 k0, nb2 k1, nb2 k2, nb2 k3, cond_false]) (funext fun q => if k0 : q = 91 then by subst k0; exact Eq.trans (b := (A 91)) rfl rfl else by unfold uA; simp only [nb1 k0, cond_false]) rfl K)
noncomputable def kx_stands (f1_2 : Int32) (f1_3 : Int32) (f1_4 : Int32) (a2 : List Int32) (x1 : Int32) (x2 : Int32) : Int32 := (if f1_4 = 0 then (if (kx_sign f1_2 f1_3 a2) = x1 then 1 else (if (kx_sign f1_2 f1_3 a2) = x2 then 1 else 0)) else 0)
theorem t_kx_stands {f D : Nat} {F : Nat → Nat → Int32} {A : Nat → List Int32} {L : Nat → List Int64} {Q : Option Value → sm_H → Prop} {x1 : Int32} {x2 : Int32} (K : Q (some (.int (kx_stands (F 1 2) (F 1 3) (F 1 4) (A 2) x1 x2))) (hz F A L)) : wl_M f D 35 [.ref 1, .int x1, .int x2] (hz F A L) Q := by
  generalize hT : (kx_stands (F 1 2) (F 1 3) (F 1 4) (A 2) x1 x2) = T at K
  have hE : T = (if (F 1 4) = 0 then (if (kx_sign (F 1 2) (F 1 3) (A 2)) = x1 then 1 else (if (kx_sign (F 1 2) (F 1 3) (A 2)) = x2 then 1 else 0)) else 0) := hT.symm
  clear hT
  refine w_m (E := mm35) rfl ?_
  show wl_E f f (D - 1) mm35.2.2.2.2.2.2.2.2 0 [some (.ref 1), some (.int x1), some (.int x2), none] [] (hz F A L) Q
  refine w_n 1 (pc1 := 1) (ls1 := [some (.ref 1), some (.int x1), some (.int x2), none]) (st1 := [.ref 1]) (hp1 := (hz F A L)) rfl ?_
  refine w_c rfl rfl (t_kx_sign ?_)
  show wl_E f _ _ mm35.2.2.2.2.2.2.2.2 4 [some (.ref 1), some (.int x1), some (.int x2), none] [.int (kx_sign (F 1 2) (F 1 3) (A 2))] (hz F A L) _
  generalize hG447 : (kx_sign (F 1 2) (F 1 3) (A 2)) = G447 at hE ⊢
  refine w_n 3 (pc1 := 9) (ls1 := [some (.ref 1), some (.int x1), some (.int x2), some (.int G447)]) (st1 := [.int (F 1 4)]) (hp1 := (hz F A L)) rfl ?_
  refine w_zne (p3 := 12) rfl rfl (fun h => ?_) (fun h => ?_)
  · have h1 : ¬ (F 1 4) = 0 := h
    rw [if_neg h1] at hE
    refine w_n 1 (pc1 := 27) (ls1 := [some (.ref 1), some (.int x1), some (.int x2), some (.int G447)]) (st1 := [.int 0]) (hp1 := (hz F A L)) rfl ?_
    subst T
    exact w_ri rfl (cvQ rfl rfl rfl K)
  · have h1 : (F 1 4) = 0 := h
    rw [if_pos h1] at hE
    refine w_n 2 (pc1 := 14) (ls1 := [some (.ref 1), some (.int x1), some (.int x2), some (.int G447)]) (st1 := [.int x1, .int G447]) (hp1 := (hz F A L)) rfl ?_
    refine w_eq (p3 := 17) rfl rfl (fun h => ?_) (fun h => ?_)
    · have h2 : G447 = x1 := h
      rw [if_pos h2] at hE
      refine w_n 2 (pc1 := 27) (ls1 := [some (.ref 1), some (.int x1), some (.int x2), some (.int G447)]) (st1 := [.int 1]) (hp1 := (hz F A L)) rfl ?_
      subst T
      exact w_ri rfl (cvQ rfl rfl rfl K)
    · have h2 : ¬ G447 = x1 := h
      rw [if_neg h2] at hE
      refine w_n 2 (pc1 := 19) (ls1 := [some (.ref 1), some (.int x1), some (.int x2), some (.int G447)]) (st1 := [.int x2, .int G447]) (hp1 := (hz F A L)) rfl ?_
      refine w_ne (p3 := 22) rfl rfl (fun h => ?_) (fun h => ?_)
      · have h3 : ¬ G447 = x2 := h
        rw [if_neg h3] at hE
        refine w_n 1 (pc1 := 27) (ls1 := [some (.ref 1), some (.int x1), some (.int x2), some (.int G447)]) (st1 := [.int 0]) (hp1 := (hz F A L)) rfl ?_
        subst T
        exact w_ri rfl (cvQ rfl rfl rfl K)
      · have h3 : G447 = x2 := h
        rw [if_pos h3] at hE
        refine w_n 2 (pc1 := 27) (ls1 := [some (.ref 1), some (.int x1), some (.int x2), some (.int G447)]) (st1 := [.int 1]) (hp1 := (hz F A L)) rfl ?_
        subst T
        exact w_ri rfl (cvQ rfl rfl rfl K)
noncomputable def kl_add_53 (f53_1 : Int32) (a58 : List Int32) (a59 : List Int32) (x1 : Int32) (x2 : Int32) : Int32 × Int32 × List Int32 × List Int32 := (if f53_1.toInt < 240 then (((f53_1 + 1) - 1), (f53_1 + 1), (a58.set f53_1.toInt.toNat x1), (a59.set f53_1.toInt.toNat x2)) else ((-1), f53_1, a58, a59))
theorem t_kl_add_53 {f D : Nat} {F : Nat → Nat → Int32} {A : Nat → List Int32} {L : Nat → List Int64} {Q : Option Value → sm_H → Prop} {x1 : Int32} {x2 : Int32} (K : Q (some (.int ((kl_add_53 (F 53 1) (A 58) (A 59) x1 x2).1))) (hz (uF F 53 1 ((kl_add_53 (F 53 1) (A 58) (A 59) x1 x2).2.1)) (uA (uA A 58 ((kl_add_53 (F 53 1) (A 58) (A 59) x1 x2).2.2.1)) 59 ((kl_add_53 (F 53 1) (A 58) (A 59) x1 x2).2.2.2)) L)) : wl_M f D 32 [.ref 53, .int x1, .int x2] (hz F A L) Q := by
  generalize hT : (kl_add_53 (F 53 1) (A 58) (A 59) x1 x2) = T at K
  have hE : T = (if (F 53 1).toInt < 240 then ((((F 53 1) + 1) - 1), ((F 53 1) + 1), ((A 58).set (F 53 1).toInt.toNat x1), ((A 59).set (F 53 1).toInt.toNat x2)) else ((-1), (F 53 1), (A 58), (A 59))) := hT.symm
  clear hT
  refine w_m (E := mm32) rfl ?_
  show wl_E f f (D - 1) mm32.2.2.2.2.2.2.2.2 0 [some (.ref 53), some (.int x1), some (.int x2)] [] (hz F A L) Q
  refine w_n 3 (pc1 := 7) (ls1 := [some (.ref 53), some (.int x1), some (.int x2)]) (st1 := [.int 240, .int (F 53 1)]) (hp1 := (hz F A L)) rfl ?_
  refine w_lt (p3 := 10) rfl rfl (fun h => ?_) (fun h => ?_)
  · have h1 : (F 53 1).toInt < 240 := h
    rw [if_pos h1] at hE
    refine w_n 5 (pc1 := 21) (ls1 := [some (.ref 53), some (.int x1), some (.int x2)]) (st1 := [.int x1, .int (F 53 1), .ref 58]) (hp1 := (hz F A L)) rfl ?_
    refine w_as (k := 58) (l := (A 58)) (hp1 := (hz F (uA A 58 ((A 58).set (F 53 1).toInt.toNat x1)) L)) rfl rfl rfl (hz_s58 _) (fun _ => ?_)
    refine w_n 5 (pc1 := 31) (ls1 := [some (.ref 53), some (.int x1), some (.int x2)]) (st1 := [.int x2, .int (F 53 1), .ref 59]) (hp1 := (hz F (uA A 58 ((A 58).set (F 53 1).toInt.toNat x1)) L)) rfl ?_
    refine w_as (k := 59) (l := (A 59)) (hp1 := (hz F (uA (uA A 58 ((A 58).set (F 53 1).toInt.toNat x1)) 59 ((A 59).set (F 53 1).toInt.toNat x2)) L)) rfl rfl rfl (hz_s59 _) (fun _ => ?_)
    refine w_n 5 (pc1 := 39) (ls1 := [some (.ref 53), some (.int x1), some (.int x2)]) (st1 := [.int ((F 53 1) + 1), .ref 53]) (hp1 := (hz F (uA (uA A 58 ((A 58).set (F 53 1).toInt.toNat x1)) 59 ((A 59).set (F 53 1).toInt.toNat x2)) L)) rfl ?_
    refine w_pf (k := 53) (fs := hz_f53 F) (hp1 := (hz (uF F 53 1 ((F 53 1) + 1)) (uA (uA A 58 ((A 58).set (F 53 1).toInt.toNat x1)) 59 ((A 59).set (F 53 1).toInt.toNat x2)) L)) rfl rfl rfl (hz_p53_1 _) ?_
    refine w_n 4 (pc1 := 48) (ls1 := [some (.ref 53), some (.int x1), some (.int x2)]) (st1 := [.int (((F 53 1) + 1) - 1)]) (hp1 := (hz (uF F 53 1 ((F 53 1) + 1)) (uA (uA A 58 ((A 58).set (F 53 1).toInt.toNat x1)) 59 ((A 59).set (F 53 1).toInt.toNat x2)) L)) rfl ?_
    subst T
    exact w_ri rfl (cvQ rfl rfl rfl K)
  · have h1 : 240 ≤ (F 53 1).toInt := h
    rw [if_neg (Int.not_lt.mpr h1)] at hE
    refine w_n 1 (pc1 := 11) (ls1 := [some (.ref 53), some (.int x1), some (.int x2)]) (st1 := [.int (-1)]) (hp1 := (hz F A L)) rfl ?_
    subst T
    exact w_ri rfl (cvQ (funext fun q => funext fun z => if k0 : q = 53 ∧ z = 1 then by obtain ⟨w1, w2⟩ := k0; subst w1; subst w2; exact Eq.trans (b := (F 53 1)) rfl rfl else by unfold uF; simp only [nb2 k0, cond_false]) (funext fun q => if k0 : q = 58 then by subst k0; exact Eq.trans (b := (A 58)) rfl rfl else if k1 : q = 59 then by subst k1; exact Eq.trans (b := (A 59)) rfl rfl else by unfold uA; simp only [nb1 k0, nb1 k1, cond_false]) rfl K)
noncomputable def kr_readNumber_4 (f1_2 : Int32) (f1_4 : Int32) (f53_1 : Int32) (a2 : List Int32) (a58 : List Int32) (a59 : List Int32)  : Nat → Int32 → Int32 → Int32 → Int32 × Int32 × Int32 × List Int32 × List Int32
  | 0, y1, _, f1_3 => (lt (kl_add_53 f53_1 a58 a59 48 y1) (fun g455 => (f1_3, f1_4, g455.2.1, g455.2.2.1, g455.2.2.2)))
  | m + 1, y1, y2, f1_3 => (lt (kx_sign f1_2 f1_3 a2) (fun g456 => (lt (kc_within g456 48 57) (fun g457 => (if g457 = 0 then (lt (kl_add_53 f53_1 a58 a59 48 y1) (fun g458 => (f1_3, f1_4, g458.2.1, g458.2.2.1, g458.2.2.2))) else (if y2 = 5 then (lt (kx_fail f1_3 f1_4 2) (fun g459 => (f1_3, g459.2, f53_1, a58, a59))) else (kr_readNumber_4 f1_2 f1_4 f53_1 a2 a58 a59 m (((y1 * 10) + g456) - 48) (y2 + 1) (f1_3 + 1))))))))
theorem t_kr_readNumber_4 {f : Nat} {Q : Option Value → sm_H → Prop} : ∀ (m : Nat) {B D : Nat} {F : Nat → Nat → Int32} {A : Nat → List Int32} {L : Nat → List Int64} {y1 : Int32} {y2 : Int32}, m = (5 + 1 - y2.toInt).toNat → (Q none (hz (uF (uF (uF F 1 3 ((kr_readNumber_4 (F 1 2) (F 1 4) (F 53 1) (A 2) (A 58) (A 59) m y1 y2 (F 1 3)).1)) 1 4 ((kr_readNumber_4 (F 1 2) (F 1 4) (F 53 1) (A 2) (A 58) (A 59) m y1 y2 (F 1 3)).2.1)) 53 1 ((kr_readNumber_4 (F 1 2) (F 1 4) (F 53 1) (A 2) (A 58) (A 59) m y1 y2 (F 1 3)).2.2.1)) (uA (uA A 58 ((kr_readNumber_4 (F 1 2) (F 1 4) (F 53 1) (A 2) (A 58) (A 59) m y1 y2 (F 1 3)).2.2.2.1)) 59 ((kr_readNumber_4 (F 1 2) (F 1 4) (F 53 1) (A 2) (A 58) (A 59) m y1 y2 (F 1 3)).2.2.2.2)) L)) → wl_E f B D mm31.2.2.2.2.2.2.2.2 4 [some (.ref 52), some (.int y1), some (.int y2)] [] (hz F A L) Q := by
  intro m
  induction m with
  | zero =>
    intro B D F A L y1 y2 hm K
    generalize hT : (kr_readNumber_4 (F 1 2) (F 1 4) (F 53 1) (A 2) (A 58) (A 59) 0 y1 y2 (F 1 3)) = T at K
    have hE : T = (lt (kl_add_53 (F 53 1) (A 58) (A 59) 48 y1) (fun g455 => ((F 1 3), (F 1 4), g455.2.1, g455.2.2.1, g455.2.2.2))) := hT.symm
    clear hT
    refine w_n 2 (pc1 := 6) (ls1 := [some (.ref 52), some (.int y1), some (.int y2)]) (st1 := [.int 5, .int y2]) (hp1 := (hz F A L)) rfl ?_
    refine w_gt (p3 := 9) rfl rfl (fun hb => ?_) (fun h => False.elim (by have h : y2.toInt ≤ 5 := h; omega))
    refine w_n 4 (pc1 := 83) (ls1 := [some (.ref 52), some (.int y1), some (.int y2)]) (st1 := [.int y1, .int 48, .ref 53]) (hp1 := (hz F A L)) rfl ?_
    refine w_c rfl rfl (t_kl_add_53 ?_)
    show wl_E f _ _ mm31.2.2.2.2.2.2.2.2 86 [some (.ref 52), some (.int y1), some (.int y2)] [.int (kl_add_53 (F 53 1) (A 58) (A 59) 48 y1).1] (hz (uF F 53 1 (kl_add_53 (F 53 1) (A 58) (A 59) 48 y1).2.1) (uA (uA A 58 (kl_add_53 (F 53 1) (A 58) (A 59) 48 y1).2.2.1) 59 (kl_add_53 (F 53 1) (A 58) (A 59) 48 y1).2.2.2) L) _
    generalize hG455 : (kl_add_53 (F 53 1) (A 58) (A 59) 48 y1) = G455 at hE ⊢
    replace hE := hE.trans (lt_e _ _)
    refine w_n 1 (pc1 := 87) (ls1 := [some (.ref 52), some (.int y1), some (.int y2)]) (st1 := []) (hp1 := (hz (uF F 53 1 G455.2.1) (uA (uA A 58 G455.2.2.1) 59 G455.2.2.2) L)) rfl ?_
    subst T
    exact w_r rfl rfl (cvQ (funext fun q => funext fun z => if k0 : q = 1 ∧ z = 3 then by obtain ⟨w1, w2⟩ := k0; subst w1; subst w2; exact Eq.trans (b := (F 1 3)) rfl rfl else if k1 : q = 1 ∧ z = 4 then by obtain ⟨w1, w2⟩ := k1; subst w1; subst w2; exact Eq.trans (b := (F 1 4)) rfl rfl else if k2 : q = 53 ∧ z = 1 then by obtain ⟨w1, w2⟩ := k2; subst w1; subst w2; exact Eq.trans (b := G455.2.1) rfl rfl else by unfold uF; simp only [nb2 k0, nb2 k1, nb2 k2, cond_false]) rfl rfl K)
  | succ m ih =>
    intro B D F A L y1 y2 hm K
    generalize hT : (kr_readNumber_4 (F 1 2) (F 1 4) (F 53 1) (A 2) (A 58) (A 59) (m + 1) y1 y2 (F 1 3)) = T at K
    have hE : T = (lt (kx_sign (F 1 2) (F 1 3) (A 2)) (fun g456 => (lt (kc_within g456 48 57) (fun g457 => (if g457 = 0 then (lt (kl_add_53 (F 53 1) (A 58) (A 59) 48 y1) (fun g458 => ((F 1 3), (F 1 4), g458.2.1, g458.2.2.1, g458.2.2.2))) else (if y2 = 5 then (lt (kx_fail (F 1 3) (F 1 4) 2) (fun g459 => ((F 1 3), g459.2, (F 53 1), (A 58), (A 59)))) else (kr_readNumber_4 (F 1 2) (F 1 4) (F 53 1) (A 2) (A 58) (A 59) m (((y1 * 10) + g456) - 48) (y2 + 1) ((F 1 3) + 1)))))))) := hT.symm
    clear hT
    refine w_n 2 (pc1 := 6) (ls1 := [some (.ref 52), some (.int y1), some (.int y2)]) (st1 := [.int 5, .int y2]) (hp1 := (hz F A L)) rfl ?_
    refine w_gt (p3 := 9) rfl rfl (fun h => False.elim (by have h : 5 < y2.toInt := h; omega)) (fun hb => ?_)
    refine w_n 2 (pc1 := 13) (ls1 := [some (.ref 52), some (.int y1), some (.int y2)]) (st1 := [.ref 1]) (hp1 := (hz F A L)) rfl ?_
    refine w_c rfl rfl (t_kx_sign ?_)
    show wl_E f _ _ mm31.2.2.2.2.2.2.2.2 16 [some (.ref 52), some (.int y1), some (.int y2)] [.int (kx_sign (F 1 2) (F 1 3) (A 2))] (hz F A L) _
    generalize hG456 : (kx_sign (F 1 2) (F 1 3) (A 2)) = G456 at hE ⊢
    replace hE := hE.trans (lt_e _ _)
    refine w_n 2 (pc1 := 20) (ls1 := [some (.ref 52), some (.int y1), some (.int y2)]) (st1 := [.int 57, .int 48, .int G456]) (hp1 := (hz F A L)) rfl ?_
    refine w_c rfl rfl (t_kc_within ?_)
    show wl_E f _ _ mm31.2.2.2.2.2.2.2.2 23 [some (.ref 52), some (.int y1), some (.int y2)] [.int (kc_within G456 48 57)] (hz F A L) _
    generalize hG457 : (kc_within G456 48 57) = G457 at hE ⊢
    replace hE := hE.trans (lt_e _ _)
    refine w_zeq (p3 := 26) rfl rfl (fun h => ?_) (fun h => ?_)
    · have h1 : G457 = 0 := h
      rw [if_pos h1] at hE
      refine w_n 4 (pc1 := 83) (ls1 := [some (.ref 52), some (.int y1), some (.int y2)]) (st1 := [.int y1, .int 48, .ref 53]) (hp1 := (hz F A L)) rfl ?_
      refine w_c rfl rfl (t_kl_add_53 ?_)
      show wl_E f _ _ mm31.2.2.2.2.2.2.2.2 86 [some (.ref 52), some (.int y1), some (.int y2)] [.int (kl_add_53 (F 53 1) (A 58) (A 59) 48 y1).1] (hz (uF F 53 1 (kl_add_53 (F 53 1) (A 58) (A 59) 48 y1).2.1) (uA (uA A 58 (kl_add_53 (F 53 1) (A 58) (A 59) 48 y1).2.2.1) 59 (kl_add_53 (F 53 1) (A 58) (A 59) 48 y1).2.2.2) L) _
      generalize hG458 : (kl_add_53 (F 53 1) (A 58) (A 59) 48 y1) = G458 at hE ⊢
      replace hE := hE.trans (lt_e _ _)
      refine w_n 1 (pc1 := 87) (ls1 := [some (.ref 52), some (.int y1), some (.int y2)]) (st1 := []) (hp1 := (hz (uF F 53 1 G458.2.1) (uA (uA A 58 G458.2.2.1) 59 G458.2.2.2) L)) rfl ?_
      subst T
      exact w_r rfl rfl (cvQ (funext fun q => funext fun z => if k0 : q = 1 ∧ z = 3 then by obtain ⟨w1, w2⟩ := k0; subst w1; subst w2; exact Eq.trans (b := (F 1 3)) rfl rfl else if k1 : q = 1 ∧ z = 4 then by obtain ⟨w1, w2⟩ := k1; subst w1; subst w2; exact Eq.trans (b := (F 1 4)) rfl rfl else if k2 : q = 53 ∧ z = 1 then by obtain ⟨w1, w2⟩ := k2; subst w1; subst w2; exact Eq.trans (b := G458.2.1) rfl rfl else by unfold uF; simp only [nb2 k0, nb2 k1, nb2 k2, cond_false]) rfl rfl K)
    · have h1 : ¬ G457 = 0 := h
      rw [if_neg h1] at hE
      refine w_n 2 (pc1 := 28) (ls1 := [some (.ref 52), some (.int y1), some (.int y2)]) (st1 := [.int 5, .int y2]) (hp1 := (hz F A L)) rfl ?_
      refine w_ne (p3 := 31) rfl rfl (fun h => ?_) (fun h => ?_)
      · have h2 : ¬ y2 = 5 := h
        rw [if_neg h2] at hE
        refine w_n 5 (pc1 := 49) (ls1 := [some (.ref 52), some (.int y1), some (.int y2)]) (st1 := [.ref 1, .int (y1 * 10)]) (hp1 := (hz F A L)) rfl ?_
        refine w_c rfl rfl (t_kx_sign ?_)
        show wl_E f _ _ mm31.2.2.2.2.2.2.2.2 52 [some (.ref 52), some (.int y1), some (.int y2)] [.int (kx_sign (F 1 2) (F 1 3) (A 2)), .int (y1 * 10)] (hz F A L) _
        rw [hG456]
        refine w_n 10 (pc1 := 67) (ls1 := [some (.ref 52), some (.int (((y1 * 10) + G456) - 48)), some (.int y2)]) (st1 := [.int ((F 1 3) + 1), .ref 1]) (hp1 := (hz F A L)) rfl ?_
        refine w_pf (k := 1) (fs := hz_f1 F) (hp1 := (hz (uF F 1 3 ((F 1 3) + 1)) A L)) rfl rfl rfl (hz_p1_3 _) ?_
        refine w_n 2 (pc1 := 4) (ls1 := [some (.ref 52), some (.int (((y1 * 10) + G456) - 48)), some (.int (y2 + 1))]) (st1 := []) (hp1 := (hz (uF F 1 3 ((F 1 3) + 1)) A L)) rfl ?_
        subst T
        have hb2 := i_up2 (B := (5 : Int32)) hb (by first | decide | exact hB | assumption)
        have hb3 : y2.toInt ≤ 5 := hb
        exact ih (show m = (5 + 1 - (y2 + 1).toInt).toNat by rw [hb2]; omega) (cvQ (funext fun q => funext fun z => if k0 : q = 1 ∧ z = 3 then by obtain ⟨w1, w2⟩ := k0; subst w1; subst w2; exact Eq.trans (b := (kr_readNumber_4 (F 1 2) (F 1 4) (F 53 1) (A 2) (A 58) (A 59) m (((y1 * 10) + G456) - 48) (y2 + 1) ((F 1 3) + 1)).1) rfl rfl else if k1 : q = 1 ∧ z = 4 then by obtain ⟨w1, w2⟩ := k1; subst w1; subst w2; exact Eq.trans (b := (kr_readNumber_4 (F 1 2) (F 1 4) (F 53 1) (A 2) (A 58) (A 59) m (((y1 * 10) + G456) - 48) (y2 + 1) ((F 1 3) + 1)).2.1) rfl rfl else if k2 : q = 53 ∧ z = 1 then by obtain ⟨w1, w2⟩ := k2; subst w1; subst w2; exact Eq.trans (b := (kr_readNumber_4 (F 1 2) (F 1 4) (F 53 1) (A 2) (A 58) (A 59) m (((y1 * 10) + G456) - 48) (y2 + 1) ((F 1 3) + 1)).2.2.1) rfl rfl else by unfold uF; simp only [nb2 k0, nb2 k1, nb2 k2, cond_false]) (funext fun q => if k0 : q = 58 then by subst k0; exact Eq.trans (b := (kr_readNumber_4 (F 1 2) (F 1 4) (F 53 1) (A 2) (A 58) (A 59) m (((y1 * 10) + G456) - 48) (y2 + 1) ((F 1 3) + 1)).2.2.2.1) rfl rfl else if k1 : q = 59 then by subst k1; exact Eq.trans (b := (kr_readNumber_4 (F 1 2) (F 1 4) (F 53 1) (A 2) (A 58) (A 59) m (((y1 * 10) + G456) - 48) (y2 + 1) ((F 1 3) + 1)).2.2.2.2) rfl rfl else by unfold uA; simp only [nb1 k0, nb1 k1, cond_false]) rfl K)
      · have h2 : y2 = 5 := h
        rw [if_pos h2] at hE
        refine w_n 3 (pc1 := 36) (ls1 := [some (.ref 52), some (.int y1), some (.int y2)]) (st1 := [.int 2, .ref 1]) (hp1 := (hz F A L)) rfl ?_
        refine w_c rfl rfl (t_kx_fail ?_)
        show wl_E f _ _ mm31.2.2.2.2.2.2.2.2 39 [some (.ref 52), some (.int y1), some (.int y2)] [.int (kx_fail (F 1 3) (F 1 4) 2).1] (hz (uF F 1 4 (kx_fail (F 1 3) (F 1 4) 2).2) A L) _
        generalize hG459 : (kx_fail (F 1 3) (F 1 4) 2) = G459 at hE ⊢
        replace hE := hE.trans (lt_e _ _)
        refine w_n 1 (pc1 := 40) (ls1 := [some (.ref 52), some (.int y1), some (.int y2)]) (st1 := []) (hp1 := (hz (uF F 1 4 G459.2) A L)) rfl ?_
        subst T
        exact w_r rfl rfl (cvQ (funext fun q => funext fun z => if k0 : q = 1 ∧ z = 3 then by obtain ⟨w1, w2⟩ := k0; subst w1; subst w2; exact Eq.trans (b := (F 1 3)) rfl rfl else if k1 : q = 1 ∧ z = 4 then by obtain ⟨w1, w2⟩ := k1; subst w1; subst w2; exact Eq.trans (b := G459.2) rfl rfl else if k2 : q = 53 ∧ z = 1 then by obtain ⟨w1, w2⟩ := k2; subst w1; subst w2; exact Eq.trans (b := (F 53 1)) rfl rfl else by unfold uF; simp only [nb2 k0, nb2 k1, nb2 k2, cond_false]) (funext fun q => if k0 : q = 58 then by subst k0; exact Eq.trans (b := (A 58)) rfl rfl else if k1 : q = 59 then by subst k1; exact Eq.trans (b := (A 59)) rfl rfl else by unfold uA; simp only [nb1 k0, nb1 k1, cond_false]) rfl K)
noncomputable def kr_readNumber (f1_2 : Int32) (f1_3 : Int32) (f1_4 : Int32) (f53_1 : Int32) (a2 : List Int32) (a58 : List Int32) (a59 : List Int32) : Int32 × Int32 × Int32 × List Int32 × List Int32 := (kr_readNumber_4 f1_2 f1_4 f53_1 a2 a58 a59 6 0 0 f1_3)
theorem t_kr_readNumber {f D : Nat} {F : Nat → Nat → Int32} {A : Nat → List Int32} {L : Nat → List Int64} {Q : Option Value → sm_H → Prop} (K : Q none (hz (uF (uF (uF F 1 3 ((kr_readNumber (F 1 2) (F 1 3) (F 1 4) (F 53 1) (A 2) (A 58) (A 59)).1)) 1 4 ((kr_readNumber (F 1 2) (F 1 3) (F 1 4) (F 53 1) (A 2) (A 58) (A 59)).2.1)) 53 1 ((kr_readNumber (F 1 2) (F 1 3) (F 1 4) (F 53 1) (A 2) (A 58) (A 59)).2.2.1)) (uA (uA A 58 ((kr_readNumber (F 1 2) (F 1 3) (F 1 4) (F 53 1) (A 2) (A 58) (A 59)).2.2.2.1)) 59 ((kr_readNumber (F 1 2) (F 1 3) (F 1 4) (F 53 1) (A 2) (A 58) (A 59)).2.2.2.2)) L)) : wl_M f D 31 [.ref 52] (hz F A L) Q := by
  generalize hT : (kr_readNumber (F 1 2) (F 1 3) (F 1 4) (F 53 1) (A 2) (A 58) (A 59)) = T at K
  have hE : T = (kr_readNumber_4 (F 1 2) (F 1 4) (F 53 1) (A 2) (A 58) (A 59) 6 0 0 (F 1 3)) := hT.symm
  clear hT
  refine w_m (E := mm31) rfl ?_
  show wl_E f f (D - 1) mm31.2.2.2.2.2.2.2.2 0 [some (.ref 52), none, none] [] (hz F A L) Q
  refine w_n 4 (pc1 := 4) (ls1 := [some (.ref 52), some (.int 0), some (.int 0)]) (st1 := []) (hp1 := (hz F A L)) rfl ?_
  subst T
  exact t_kr_readNumber_4 _ (show (6 : Nat) = (5 + 1 - (0 : Int32).toInt).toNat by have e0 : (0 : Int32).toInt = 0 := rfl; first | rfl | omega) (cvQ (funext fun q => funext fun z => if k0 : q = 1 ∧ z = 3 then by obtain ⟨w1, w2⟩ := k0; subst w1; subst w2; exact Eq.trans (b := (kr_readNumber_4 (F 1 2) (F 1 4) (F 53 1) (A 2) (A 58) (A 59) 6 0 0 (F 1 3)).1) rfl rfl else if k1 : q = 1 ∧ z = 4 then by obtain ⟨w1, w2⟩ := k1; subst w1; subst w2; exact Eq.trans (b := (kr_readNumber_4 (F 1 2) (F 1 4) (F 53 1) (A 2) (A 58) (A 59) 6 0 0 (F 1 3)).2.1) rfl rfl else if k2 : q = 53 ∧ z = 1 then by obtain ⟨w1, w2⟩ := k2; subst w1; subst w2; exact Eq.trans (b := (kr_readNumber_4 (F 1 2) (F 1 4) (F 53 1) (A 2) (A 58) (A 59) 6 0 0 (F 1 3)).2.2.1) rfl rfl else by unfold uF; simp only [nb2 k0, nb2 k1, nb2 k2, cond_false]) (funext fun q => if k0 : q = 58 then by subst k0; exact Eq.trans (b := (kr_readNumber_4 (F 1 2) (F 1 4) (F 53 1) (A 2) (A 58) (A 59) 6 0 0 (F 1 3)).2.2.2.1) rfl rfl else if k1 : q = 59 then by subst k1; exact Eq.trans (b := (kr_readNumber_4 (F 1 2) (F 1 4) (F 53 1) (A 2) (A 58) (A 59) 6 0 0 (F 1 3)).2.2.2.2) rfl rfl else by unfold uA; simp only [nb1 k0, nb1 k1, cond_false]) rfl K)
