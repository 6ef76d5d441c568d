/-! the lift of law of the reference, printed by genlift.py: 3 -/
noncomputable def km_readsCondition_92 (f : Nat) (f67_10 : Int32) (f67_11 : Int32) (f67_12 : Int32) (a71 : List Int32) (a73 : List Int32)  : Nat → Int32 → Int32 → Int32 → Int32 → List Int32 → Sum (Int32 × Int32 × Int32 × Int32 × Int32 × Int32 × Int32 × List Int32 × List Int32) (Int32 × Int32 × Int32 × Int32 × List Int32)
  | 0, f67_9, f67_13, f67_14, f67_15, a72 => (Sum.inr (f67_9, f67_13, f67_14, f67_15, a72))
  | m + 1, f67_9, f67_13, f67_14, f67_15, a72 => (lt (km_here f67_9 f67_10 a71) (fun g518 => (if g518 = 41 then (lt (km_lands f f67_14 f67_15 a72 a73 1) (fun g521 => (if (g521.1 - 1) = 0 then (Sum.inl (1, (f67_9 + 1), f67_11, f67_12, (f67_13 - 1), f67_14, (g521.1 - 1), g521.2, a73)) else (lt (km_endsPiece f (f67_13 - 1) f67_14 (g521.1 - 1) g521.2 a73) (fun g522 => (km_readsCondition_92 f f67_10 f67_11 f67_12 a71 a73 m (f67_9 + 1) g522.1 g522.2.1 g522.2.2.1 g522.2.2.2)))))) else (Sum.inr (f67_9, f67_13, f67_14, f67_15, a72)))))
theorem t_km_readsCondition_92 {f : Nat} {Q : Option Value → sm_H → Prop} : ∀ (m : Nat) (B : Nat) {D : Nat} {F : Nat → Nat → Int32} {A : Nat → List Int32} {L : Nat → List Int64}, B ≤ m → (∀ rr : Int32 × Int32 × Int32 × Int32 × Int32 × Int32 × Int32 × List Int32 × List Int32, (km_readsCondition_92 f (F 67 10) (F 67 11) (F 67 12) (A 71) (A 73) m (F 67 9) (F 67 13) (F 67 14) (F 67 15) (A 72)) = Sum.inl rr → Q (some (.int rr.1)) (hz (uF (uF (uF (uF (uF (uF F 67 9 rr.2.1) 67 11 rr.2.2.1) 67 12 rr.2.2.2.1) 67 13 rr.2.2.2.2.1) 67 14 rr.2.2.2.2.2.1) 67 15 rr.2.2.2.2.2.2.1) (uA (uA A 72 rr.2.2.2.2.2.2.2.1) 73 rr.2.2.2.2.2.2.2.2) L)) → (∀ ss : Int32 × Int32 × Int32 × Int32 × List Int32, (km_readsCondition_92 f (F 67 10) (F 67 11) (F 67 12) (A 71) (A 73) m (F 67 9) (F 67 13) (F 67 14) (F 67 15) (A 72)) = Sum.inr ss → wl_E f B D mm166.2.2.2.2.2.2.2.2 152 [some (.ref 67)] [] (hz (uF (uF (uF (uF F 67 9 ss.1) 67 13 ss.2.1) 67 14 ss.2.2.1) 67 15 ss.2.2.2.1) (uA A 72 ss.2.2.2.2) L) Q) → wl_E f B D mm166.2.2.2.2.2.2.2.2 92 [some (.ref 67)] [] (hz F A L) Q := by
  intro m
  induction m with
  | zero =>
    intro B D F A L hm K1 K2
    rw [show B = 0 by omega]
    exact w_0
  | succ m ih =>
    intro B D F A L hm K1 K2
    cases B with
    | zero => exact w_0
    | succ B =>
      generalize hT : (km_readsCondition_92 f (F 67 10) (F 67 11) (F 67 12) (A 71) (A 73) (m + 1) (F 67 9) (F 67 13) (F 67 14) (F 67 15) (A 72)) = T at K1 K2
      have hE : T = (lt (km_here (F 67 9) (F 67 10) (A 71)) (fun g518 => (if g518 = 41 then (lt (km_lands f (F 67 14) (F 67 15) (A 72) (A 73) 1) (fun g521 => (if (g521.1 - 1) = 0 then (Sum.inl (1, ((F 67 9) + 1), (F 67 11), (F 67 12), ((F 67 13) - 1), (F 67 14), (g521.1 - 1), g521.2, (A 73))) else (lt (km_endsPiece f ((F 67 13) - 1) (F 67 14) (g521.1 - 1) g521.2 (A 73)) (fun g522 => (km_readsCondition_92 f (F 67 10) (F 67 11) (F 67 12) (A 71) (A 73) m ((F 67 9) + 1) g522.1 g522.2.1 g522.2.2.1 g522.2.2.2)))))) else (Sum.inr ((F 67 9), (F 67 13), (F 67 14), (F 67 15), (A 72)))))) := hT.symm
      clear hT
      refine w_n1 (pc1 := 93) (ls1 := [some (.ref 67)]) (st1 := [.ref 67]) (hp1 := (hz F A L)) rfl ?_
      refine w_c rfl rfl (t_km_here ?_)
      show wl_E f _ _ mm166.2.2.2.2.2.2.2.2 96 [some (.ref 67)] [.int (km_here (F 67 9) (F 67 10) (A 71))] (hz F A L) _
      generalize hG518 : (km_here (F 67 9) (F 67 10) (A 71)) = G518 at hE ⊢
      replace hE := hE.trans (lt_e _ _)
      refine w_n 1 (pc1 := 98) (ls1 := [some (.ref 67)]) (st1 := [.int 41, .int G518]) (hp1 := (hz F A L)) rfl ?_
      refine w_ne (p3 := 101) rfl rfl (fun h => ?_) (fun h => ?_)
      · have h1 : ¬ G518 = 41 := h
        rw [if_neg h1] at hE
        subst T
        exact cvE (funext fun q => funext fun z => if k0 : q = 67 ∧ z = 9 then by obtain ⟨w1, w2⟩ := k0; subst w1; subst w2; exact Eq.trans (b := (F 67 9)) rfl rfl else if k1 : q = 67 ∧ z = 13 then by obtain ⟨w1, w2⟩ := k1; subst w1; subst w2; exact Eq.trans (b := (F 67 13)) rfl rfl else if k2 : q = 67 ∧ z = 14 then by obtain ⟨w1, w2⟩ := k2; subst w1; subst w2; exact Eq.trans (b := (F 67 14)) rfl rfl else if k3 : q = 67 ∧ z = 15 then by obtain ⟨w1, w2⟩ := k3; subst w1; subst w2; exact Eq.trans (b := (F 67 15)) rfl rfl else by unfold uF; simp only [nb2 k0, nb2 k1, nb2 k2, nb2 k3, cond_false]) (funext fun q => if k0 : q = 72 then by subst k0; exact Eq.trans (b := (A 72)) rfl rfl else by unfold uA; simp only [nb1 k0, cond_false]) rfl (wl_le (Nat.le_succ _) (K2 _ rfl))
      · have h1 : G518 = 41 := h
        rw [if_pos h1] at hE
        refine w_n 2 (pc1 := 103) (ls1 := [some (.ref 67)]) (st1 := [.int 1, .ref 67]) (hp1 := (hz F A L)) rfl ?_
        refine w_c rfl rfl (t_km_lands ?_)
        show wl_E f _ _ mm166.2.2.2.2.2.2.2.2 106 [some (.ref 67)] [] (hz (uF F 67 15 (km_lands f (F 67 14) (F 67 15) (A 72) (A 73) 1).1) (uA A 72 (km_lands f (F 67 14) (F 67 15) (A 72) (A 73) 1).2) L) _
        generalize hG521 : (km_lands f (F 67 14) (F 67 15) (A 72) (A 73) 1) = G521 at hE ⊢
        replace hE := hE.trans (lt_e _ _)
        refine w_n 5 (pc1 := 113) (ls1 := [some (.ref 67)]) (st1 := [.int (G521.1 - 1), .ref 67]) (hp1 := (hz (uF F 67 15 G521.1) (uA A 72 G521.2) L)) rfl ?_
        refine w_pf (k := 67) (fs := hz_f67 (uF F 67 15 G521.1)) (hp1 := (hz (uF (uF F 67 15 G521.1) 67 15 (G521.1 - 1)) (uA A 72 G521.2) L)) rfl rfl rfl (hz_p67_15 _) ?_
        refine w_n 5 (pc1 := 123) (ls1 := [some (.ref 67)]) (st1 := [.int ((F 67 13) - 1), .ref 67]) (hp1 := (hz (uF (uF F 67 15 G521.1) 67 15 (G521.1 - 1)) (uA A 72 G521.2) L)) rfl ?_
        refine w_pf (k := 67) (fs := hz_f67 (uF (uF F 67 15 G521.1) 67 15 (G521.1 - 1))) (hp1 := (hz (uF (uF (uF F 67 15 G521.1) 67 15 (G521.1 - 1)) 67 13 ((F 67 13) - 1)) (uA A 72 G521.2) L)) rfl rfl rfl (hz_p67_13 _) ?_
        refine w_n 5 (pc1 := 133) (ls1 := [some (.ref 67)]) (st1 := [.int ((F 67 9) + 1), .ref 67]) (hp1 := (hz (uF (uF (uF F 67 15 G521.1) 67 15 (G521.1 - 1)) 67 13 ((F 67 13) - 1)) (uA A 72 G521.2) L)) rfl ?_
        refine w_pf (k := 67) (fs := hz_f67 (uF (uF (uF F 67 15 G521.1) 67 15 (G521.1 - 1)) 67 13 ((F 67 13) - 1))) (hp1 := (hz (uF (uF (uF (uF F 67 15 G521.1) 67 15 (G521.1 - 1)) 67 13 ((F 67 13) - 1)) 67 9 ((F 67 9) + 1)) (uA A 72 G521.2) L)) rfl rfl rfl (hz_p67_9 _) ?_
        refine w_n 2 (pc1 := 140) (ls1 := [some (.ref 67)]) (st1 := [.int (G521.1 - 1)]) (hp1 := (hz (uF (uF (uF (uF F 67 15 G521.1) 67 15 (G521.1 - 1)) 67 13 ((F 67 13) - 1)) 67 9 ((F 67 9) + 1)) (uA A 72 G521.2) L)) rfl ?_
        refine w_zne (p3 := 143) rfl rfl (fun h => ?_) (fun h => ?_)
        · have h2 : ¬ (G521.1 - 1) = 0 := h
          rw [if_neg h2] at hE
          refine w_n 1 (pc1 := 146) (ls1 := [some (.ref 67)]) (st1 := [.ref 67]) (hp1 := (hz (uF (uF (uF (uF F 67 15 G521.1) 67 15 (G521.1 - 1)) 67 13 ((F 67 13) - 1)) 67 9 ((F 67 9) + 1)) (uA A 72 G521.2) L)) rfl ?_
          refine w_c rfl rfl (t_km_endsPiece ?_)
          show wl_E f _ _ mm166.2.2.2.2.2.2.2.2 149 [some (.ref 67)] [] (hz (uF (uF (uF (uF (uF (uF (uF F 67 15 G521.1) 67 15 (G521.1 - 1)) 67 13 ((F 67 13) - 1)) 67 9 ((F 67 9) + 1)) 67 13 (km_endsPiece f ((F 67 13) - 1) (F 67 14) (G521.1 - 1) G521.2 (A 73)).1) 67 14 (km_endsPiece f ((F 67 13) - 1) (F 67 14) (G521.1 - 1) G521.2 (A 73)).2.1) 67 15 (km_endsPiece f ((F 67 13) - 1) (F 67 14) (G521.1 - 1) G521.2 (A 73)).2.2.1) (uA (uA A 72 G521.2) 72 (km_endsPiece f ((F 67 13) - 1) (F 67 14) (G521.1 - 1) G521.2 (A 73)).2.2.2) L) _
          generalize hG522 : (km_endsPiece f ((F 67 13) - 1) (F 67 14) (G521.1 - 1) G521.2 (A 73)) = G522 at hE ⊢
          replace hE := hE.trans (lt_e _ _)
          refine cvE (F := (uF (uF (uF (uF F 67 9 ((F 67 9) + 1)) 67 13 G522.1) 67 14 G522.2.1) 67 15 G522.2.2.1)) (A := (uA A 72 G522.2.2.2)) (L := L) (funext fun q => funext fun z => if k0 : q = 67 ∧ z = 9 then by obtain ⟨w1, w2⟩ := k0; subst w1; subst w2; exact Eq.trans (b := ((F 67 9) + 1)) rfl rfl else if k1 : q = 67 ∧ z = 13 then by obtain ⟨w1, w2⟩ := k1; subst w1; subst w2; exact Eq.trans (b := G522.1) rfl rfl else if k2 : q = 67 ∧ z = 14 then by obtain ⟨w1, w2⟩ := k2; subst w1; subst w2; exact Eq.trans (b := G522.2.1) rfl rfl else if k3 : q = 67 ∧ z = 15 then by obtain ⟨w1, w2⟩ := k3; subst w1; subst w2; exact Eq.trans (b := G522.2.2.1) rfl rfl else by unfold uF; simp only [nb2 k0, nb2 k1, nb2 k2, nb2 k3, cond_false]) (funext fun q => if k0 : q = 72 then by subst k0; exact Eq.trans (b := G522.2.2.2) rfl rfl else by unfold uA; simp only [nb1 k0, cond_false]) rfl ?_
          refine w_n 1 (pc1 := 92) (ls1 := [some (.ref 67)]) (st1 := []) (hp1 := (hz (uF (uF (uF (uF F 67 9 ((F 67 9) + 1)) 67 13 G522.1) 67 14 G522.2.1) 67 15 G522.2.2.1) (uA A 72 G522.2.2.2) L)) rfl ?_
          subst T
          exact ih _ (by omega) (fun rr hh => cvQ (funext fun q => funext fun z => if k0 : q = 67 ∧ z = 9 then by obtain ⟨w1, w2⟩ := k0; subst w1; subst w2; exact Eq.trans (b := rr.2.1) rfl rfl else if k1 : q = 67 ∧ z = 11 then by obtain ⟨w1, w2⟩ := k1; subst w1; subst w2; exact Eq.trans (b := rr.2.2.1) rfl rfl else if k2 : q = 67 ∧ z = 12 then by obtain ⟨w1, w2⟩ := k2; subst w1; subst w2; exact Eq.trans (b := rr.2.2.2.1) rfl rfl else if k3 : q = 67 ∧ z = 13 then by obtain ⟨w1, w2⟩ := k3; subst w1; subst w2; exact Eq.trans (b := rr.2.2.2.2.1) rfl rfl else if k4 : q = 67 ∧ z = 14 then by obtain ⟨w1, w2⟩ := k4; subst w1; subst w2; exact Eq.trans (b := rr.2.2.2.2.2.1) rfl rfl else if k5 : q = 67 ∧ z = 15 then by obtain ⟨w1, w2⟩ := k5; subst w1; subst w2; exact Eq.trans (b := rr.2.2.2.2.2.2.1) rfl rfl else by unfold uF; simp only [nb2 k0, nb2 k1, nb2 k2, nb2 k3, nb2 k4, nb2 k5, cond_false]) (funext fun q => if k0 : q = 72 then by subst k0; exact Eq.trans (b := rr.2.2.2.2.2.2.2.1) rfl rfl else if k1 : q = 73 then by subst k1; exact Eq.trans (b := rr.2.2.2.2.2.2.2.2) rfl rfl else by unfold uA; simp only [nb1 k0, nb1 k1, cond_false]) rfl (K1 rr hh)) (fun ss hh => cvE (funext fun q => funext fun z => if k0 : q = 67 ∧ z = 9 then by obtain ⟨w1, w2⟩ := k0; subst w1; subst w2; exact Eq.trans (b := ss.1) rfl rfl else if k1 : q = 67 ∧ z = 13 then by obtain ⟨w1, w2⟩ := k1; subst w1; subst w2; exact Eq.trans (b := ss.2.1) rfl rfl else if k2 : q = 67 ∧ z = 14 then by obtain ⟨w1, w2⟩ := k2; subst w1; subst w2; exact Eq.trans (b := ss.2.2.1) rfl rfl else if k3 : q = 67 ∧ z = 15 then by obtain ⟨w1, w2⟩ := k3; subst w1; subst w2; exact Eq.trans (b := ss.2.2.2.1) rfl rfl else by unfold uF; simp only [nb2 k0, nb2 k1, nb2 k2, nb2 k3, cond_false]) (funext fun q => if k0 : q = 72 then by subst k0; exact Eq.trans (b := ss.2.2.2.2) rfl rfl else by unfold uA; simp only [nb1 k0, cond_false]) rfl (wl_le (Nat.le_succ _) (K2 ss hh)))
        · have h2 : (G521.1 - 1) = 0 := h
          rw [if_pos h2] at hE
          refine w_n 1 (pc1 := 144) (ls1 := [some (.ref 67)]) (st1 := [.int 1]) (hp1 := (hz (uF (uF (uF (uF F 67 15 G521.1) 67 15 (G521.1 - 1)) 67 13 ((F 67 13) - 1)) 67 9 ((F 67 9) + 1)) (uA A 72 G521.2) L)) rfl ?_
          subst T
          exact w_ri rfl (cvQ (funext fun q => funext fun z => if k0 : q = 67 ∧ z = 9 then by obtain ⟨w1, w2⟩ := k0; subst w1; subst w2; exact Eq.trans (b := ((F 67 9) + 1)) rfl rfl else if k1 : q = 67 ∧ z = 11 then by obtain ⟨w1, w2⟩ := k1; subst w1; subst w2; exact Eq.trans (b := (F 67 11)) rfl rfl else if k2 : q = 67 ∧ z = 12 then by obtain ⟨w1, w2⟩ := k2; subst w1; subst w2; exact Eq.trans (b := (F 67 12)) rfl rfl else if k3 : q = 67 ∧ z = 13 then by obtain ⟨w1, w2⟩ := k3; subst w1; subst w2; exact Eq.trans (b := ((F 67 13) - 1)) rfl rfl else if k4 : q = 67 ∧ z = 14 then by obtain ⟨w1, w2⟩ := k4; subst w1; subst w2; exact Eq.trans (b := (F 67 14)) rfl rfl else if k5 : q = 67 ∧ z = 15 then by obtain ⟨w1, w2⟩ := k5; subst w1; subst w2; exact Eq.trans (b := (G521.1 - 1)) rfl rfl else by unfold uF; simp only [nb2 k0, nb2 k1, nb2 k2, nb2 k3, nb2 k4, nb2 k5, cond_false]) (funext fun q => if k0 : q = 72 then by subst k0; exact Eq.trans (b := G521.2) rfl rfl else if k1 : q = 73 then by subst k1; exact Eq.trans (b := (A 73)) rfl rfl else by unfold uA; simp only [nb1 k0, nb1 k1, cond_false]) rfl (K1 _ rfl))
