/-! the lift of law of the reference, printed by genlift.py: 14 -/
noncomputable def km_takes (f67_9 : Int32) (f67_10 : Int32) (f67_11 : Int32) (a71 : List Int32) (x1 : Int32) : Int32 × Int32 × Int32 := (if (km_here f67_9 f67_10 a71) = x1 then (1, (f67_9 + 1), f67_11) else ((km_wrongAt 1 f67_9).1, f67_9, (km_wrongAt 1 f67_9).2))
theorem t_km_takes {f D : Nat} {F : Nat → Nat → Int32} {A : Nat → List Int32} {L : Nat → List Int64} {Q : Option Value → sm_H → Prop} {x1 : Int32} (K : Q (some (.int ((km_takes (F 67 9) (F 67 10) (F 67 11) (A 71) x1).1))) (hz (uF (uF F 67 9 ((km_takes (F 67 9) (F 67 10) (F 67 11) (A 71) x1).2.1)) 67 11 ((km_takes (F 67 9) (F 67 10) (F 67 11) (A 71) x1).2.2)) A L)) : wl_M f D 171 [.ref 67, .int x1] (hz F A L) Q := by
  generalize hT : (km_takes (F 67 9) (F 67 10) (F 67 11) (A 71) x1) = T at K
  have hE : T = (if (km_here (F 67 9) (F 67 10) (A 71)) = x1 then (1, ((F 67 9) + 1), (F 67 11)) else ((km_wrongAt 1 (F 67 9)).1, (F 67 9), (km_wrongAt 1 (F 67 9)).2)) := hT.symm
  clear hT
  refine w_m (E := mm171) rfl ?_
  show wl_E f f (D - 1) mm171.2.2.2.2.2.2.2.2 0 [some (.ref 67), some (.int x1)] [] (hz F A L) Q
  refine w_n 1 (pc1 := 1) (ls1 := [some (.ref 67), some (.int x1)]) (st1 := [.ref 67]) (hp1 := (hz F A L)) rfl ?_
  refine w_c rfl rfl (t_km_here ?_)
  show wl_E f _ _ mm171.2.2.2.2.2.2.2.2 4 [some (.ref 67), some (.int x1)] [.int (km_here (F 67 9) (F 67 10) (A 71))] (hz F A L) _
  generalize hG539 : (km_here (F 67 9) (F 67 10) (A 71)) = G539 at hE ⊢
  refine w_n 1 (pc1 := 5) (ls1 := [some (.ref 67), some (.int x1)]) (st1 := [.int x1, .int G539]) (hp1 := (hz F A L)) rfl ?_
  refine w_eq (p3 := 8) rfl rfl (fun h => ?_) (fun h => ?_)
  · have h1 : G539 = x1 := h
    rw [if_pos h1] at hE
    refine w_n 5 (pc1 := 25) (ls1 := [some (.ref 67), some (.int x1)]) (st1 := [.int ((F 67 9) + 1), .ref 67]) (hp1 := (hz F A L)) rfl ?_
    refine w_pf (k := 67) (fs := hz_f67 F) (hp1 := (hz (uF F 67 9 ((F 67 9) + 1)) A L)) rfl rfl rfl (hz_p67_9 _) ?_
    refine w_n 1 (pc1 := 29) (ls1 := [some (.ref 67), some (.int x1)]) (st1 := [.int 1]) (hp1 := (hz (uF F 67 9 ((F 67 9) + 1)) A L)) rfl ?_
    subst T
    exact w_ri rfl (cvQ (funext fun q => funext fun z => if k0 : q = 67 ∧ z = 9 then by obtain ⟨w1, w2⟩ := k0; subst w1; subst w2; exact Eq.trans (b := ((F 67 9) + 1)) rfl rfl else if k1 : q = 67 ∧ z = 11 then by obtain ⟨w1, w2⟩ := k1; subst w1; subst w2; exact Eq.trans (b := (F 67 11)) rfl rfl else by unfold uF; simp only [nb2 k0, nb2 k1, cond_false]) rfl rfl K)
  · have h1 : ¬ G539 = x1 := h
    rw [if_neg h1] at hE
    refine w_n 4 (pc1 := 14) (ls1 := [some (.ref 67), some (.int x1)]) (st1 := [.int (F 67 9), .int 1, .ref 67]) (hp1 := (hz F A L)) rfl ?_
    refine w_c rfl rfl (t_km_wrongAt ?_)
    show wl_E f _ _ mm171.2.2.2.2.2.2.2.2 17 [some (.ref 67), some (.int x1)] [.int (km_wrongAt 1 (F 67 9)).1] (hz (uF F 67 11 (km_wrongAt 1 (F 67 9)).2) A L) _
    generalize hG540 : (km_wrongAt 1 (F 67 9)) = G540 at hE ⊢
    subst T
    exact w_ri rfl (cvQ (funext fun q => funext fun z => if k0 : q = 67 ∧ z = 9 then by obtain ⟨w1, w2⟩ := k0; subst w1; subst w2; exact Eq.trans (b := (F 67 9)) rfl rfl else if k1 : q = 67 ∧ z = 11 then by obtain ⟨w1, w2⟩ := k1; subst w1; subst w2; exact Eq.trans (b := G540.2) rfl rfl else by unfold uF; simp only [nb2 k0, nb2 k1, cond_false]) rfl rfl K)
