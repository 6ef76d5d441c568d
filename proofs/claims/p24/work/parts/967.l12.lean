/-! lifts, printed by genlift.py: 12 -/
noncomputable def km_agenda (f : Nat) (f67_3 : Int32) (f67_8 : Int32) (f67_9 : Int32) (f67_10 : Int32) (f67_11 : Int32) (a68 : List Int32) (a71 : List Int32) (a91 : List Int32) (x1 : Int32) : Int32 × Int32 × Int32 × Int32 × Int32 × List Int32 := (if (km_in x1 1 60) = 0 then ((-1), f67_8, f67_9, f67_10, f67_11, a91) else (if f67_8.toInt < x1.toInt then ((-1), f67_8, f67_9, f67_10, f67_11, a91) else (km_agenda_37 f67_3 0 x1 f67_11 a68 a71 f 0 0 a91)))
theorem t_km_agenda {f D : Nat} {F : Nat → Nat → Int32} {A : Nat → List Int32} {L : Nat → List Int64} {Q : Option Value → sm_H → Prop} {x1 : Int32} (K : Q (some (.int ((km_agenda f (F 67 3) (F 67 8) (F 67 9) (F 67 10) (F 67 11) (A 68) (A 71) (A 91) x1).1))) (hz (uF (uF (uF (uF F 67 8 ((km_agenda f (F 67 3) (F 67 8) (F 67 9) (F 67 10) (F 67 11) (A 68) (A 71) (A 91) x1).2.1)) 67 9 ((km_agenda f (F 67 3) (F 67 8) (F 67 9) (F 67 10) (F 67 11) (A 68) (A 71) (A 91) x1).2.2.1)) 67 10 ((km_agenda f (F 67 3) (F 67 8) (F 67 9) (F 67 10) (F 67 11) (A 68) (A 71) (A 91) x1).2.2.2.1)) 67 11 ((km_agenda f (F 67 3) (F 67 8) (F 67 9) (F 67 10) (F 67 11) (A 68) (A 71) (A 91) x1).2.2.2.2.1)) (uA A 91 ((km_agenda f (F 67 3) (F 67 8) (F 67 9) (F 67 10) (F 67 11) (A 68) (A 71) (A 91) x1).2.2.2.2.2)) L)) : wl_M f D 221 [.ref 67, .int x1] (hz F A L) Q := by
  generalize hT : (km_agenda f (F 67 3) (F 67 8) (F 67 9) (F 67 10) (F 67 11) (A 68) (A 71) (A 91) x1) = T at K
  have hE : T = (if (km_in x1 1 60) = 0 then ((-1), (F 67 8), (F 67 9), (F 67 10), (F 67 11), (A 91)) else (if (F 67 8).toInt < x1.toInt then ((-1), (F 67 8), (F 67 9), (F 67 10), (F 67 11), (A 91)) else (km_agenda_37 (F 67 3) 0 x1 (F 67 11) (A 68) (A 71) f 0 0 (A 91)))) := hT.symm
  clear hT
  refine w_m (E := mm221) rfl ?_
  show wl_E f f (D - 1) mm221.2.2.2.2.2.2.2.2 0 [some (.ref 67), some (.int x1), none, none] [] (hz F A L) Q
  refine w_n 3 (pc1 := 4) (ls1 := [some (.ref 67), some (.int x1), none, none]) (st1 := [.int 60, .int 1, .int x1]) (hp1 := (hz F A L)) rfl ?_
  refine w_c rfl rfl (t_km_in ?_)
  show wl_E f _ _ mm221.2.2.2.2.2.2.2.2 7 [some (.ref 67), some (.int x1), none, none] [.int (km_in x1 1 60)] (hz F A L) _
  generalize hG309 : (km_in x1 1 60) = G309 at hE ⊢
  refine w_zeq (p3 := 10) rfl rfl (fun h => ?_) (fun h => ?_)
  · have h1 : G309 = 0 := h
    rw [if_pos h1] at hE
    refine w_n 1 (pc1 := 19) (ls1 := [some (.ref 67), some (.int x1), none, none]) (st1 := [.int (-1)]) (hp1 := (hz F A L)) rfl ?_
    subst T
    exact w_ri rfl (cvQ (funext fun q => funext fun z => if k0 : q = 67 ∧ z = 8 then by obtain ⟨w1, w2⟩ := k0; subst w1; subst w2; exact Eq.trans (b := (F 67 8)) rfl rfl else if k1 : q = 67 ∧ z = 9 then by obtain ⟨w1, w2⟩ := k1; subst w1; subst w2; exact Eq.trans (b := (F 67 9)) rfl rfl else if k2 : q = 67 ∧ z = 10 then by obtain ⟨w1, w2⟩ := k2; subst w1; subst w2; exact Eq.trans (b := (F 67 10)) rfl rfl else if k3 : q = 67 ∧ z = 11 then by obtain ⟨w1, w2⟩ := k3; subst w1; subst w2; exact Eq.trans (b := (F 67 11)) rfl rfl else by unfold uF; simp only [nb2 k0, nb2 k1, nb2 k2, nb2 k3, cond_false]) (funext fun q => if k0 : q = 91 then by subst k0; exact Eq.trans (b := (A 91)) rfl rfl else by unfold uA; simp only [nb1 k0, cond_false]) rfl K)
  · have h1 : ¬ G309 = 0 := h
    rw [if_neg h1] at hE
    refine w_n 3 (pc1 := 15) (ls1 := [some (.ref 67), some (.int x1), none, none]) (st1 := [.int (F 67 8), .int x1]) (hp1 := (hz F A L)) rfl ?_
    refine w_le (p3 := 18) rfl rfl (fun h => ?_) (fun h => ?_)
    · have h2 : x1.toInt ≤ (F 67 8).toInt := h
      rw [if_neg (Int.not_lt.mpr h2)] at hE
      refine w_n 2 (pc1 := 22) (ls1 := [some (.ref 67), some (.int x1), none, none]) (st1 := [.int 0, .ref 67]) (hp1 := (hz F A L)) rfl ?_
      refine w_pf (k := 67) (fs := hz_f67 F) (hp1 := (hz (uF F 67 9 0) A L)) rfl rfl rfl (hz_p67_9 _) ?_
      refine w_n 2 (pc1 := 27) (ls1 := [some (.ref 67), some (.int x1), none, none]) (st1 := [.int x1, .ref 67]) (hp1 := (hz (uF F 67 9 0) A L)) rfl ?_
      refine w_pf (k := 67) (fs := hz_f67 (uF F 67 9 0)) (hp1 := (hz (uF (uF F 67 9 0) 67 10 x1) A L)) rfl rfl rfl (hz_p67_10 _) ?_
      refine w_n 2 (pc1 := 32) (ls1 := [some (.ref 67), some (.int x1), none, none]) (st1 := [.int 0, .ref 67]) (hp1 := (hz (uF (uF F 67 9 0) 67 10 x1) A L)) rfl ?_
      refine w_pf (k := 67) (fs := hz_f67 (uF (uF F 67 9 0) 67 10 x1)) (hp1 := (hz (uF (uF (uF F 67 9 0) 67 10 x1) 67 8 0) A L)) rfl rfl rfl (hz_p67_8 _) ?_
      refine w_n 2 (pc1 := 37) (ls1 := [some (.ref 67), some (.int x1), some (.int 0), none]) (st1 := []) (hp1 := (hz (uF (uF (uF F 67 9 0) 67 10 x1) 67 8 0) A L)) rfl ?_
      subst T
      exact t_km_agenda_37 _ _ (Nat.le_refl _) (cvQ (funext fun q => funext fun z => if k0 : q = 67 ∧ z = 8 then by obtain ⟨w1, w2⟩ := k0; subst w1; subst w2; exact Eq.trans (b := (km_agenda_37 (F 67 3) 0 x1 (F 67 11) (A 68) (A 71) f 0 0 (A 91)).2.1) rfl rfl else if k1 : q = 67 ∧ z = 9 then by obtain ⟨w1, w2⟩ := k1; subst w1; subst w2; exact Eq.trans (b := (km_agenda_37 (F 67 3) 0 x1 (F 67 11) (A 68) (A 71) f 0 0 (A 91)).2.2.1) rfl rfl else if k2 : q = 67 ∧ z = 10 then by obtain ⟨w1, w2⟩ := k2; subst w1; subst w2; exact Eq.trans (b := (km_agenda_37 (F 67 3) 0 x1 (F 67 11) (A 68) (A 71) f 0 0 (A 91)).2.2.2.1) rfl rfl else if k3 : q = 67 ∧ z = 11 then by obtain ⟨w1, w2⟩ := k3; subst w1; subst w2; exact Eq.trans (b := (km_agenda_37 (F 67 3) 0 x1 (F 67 11) (A 68) (A 71) f 0 0 (A 91)).2.2.2.2.1) rfl rfl else by unfold uF; simp only [nb2 k0, nb2 k1, nb2 k2, nb2 k3, cond_false]) (funext fun q => if k0 : q = 91 then by subst k0; exact Eq.trans (b := (km_agenda_37 (F 67 3) 0 x1 (F 67 11) (A 68) (A 71) f 0 0 (A 91)).2.2.2.2.2) rfl rfl else by unfold uA; simp only [nb1 k0, cond_false]) rfl K)
    · have h2 : (F 67 8).toInt < x1.toInt := h
      rw [if_pos h2] at hE
      refine w_n 1 (pc1 := 19) (ls1 := [some (.ref 67), some (.int x1), none, none]) (st1 := [.int (-1)]) (hp1 := (hz F A L)) rfl ?_
      subst T
      exact w_ri rfl (cvQ (funext fun q => funext fun z => if k0 : q = 67 ∧ z = 8 then by obtain ⟨w1, w2⟩ := k0; subst w1; subst w2; exact Eq.trans (b := (F 67 8)) rfl rfl else if k1 : q = 67 ∧ z = 9 then by obtain ⟨w1, w2⟩ := k1; subst w1; subst w2; exact Eq.trans (b := (F 67 9)) rfl rfl else if k2 : q = 67 ∧ z = 10 then by obtain ⟨w1, w2⟩ := k2; subst w1; subst w2; exact Eq.trans (b := (F 67 10)) rfl rfl else if k3 : q = 67 ∧ z = 11 then by obtain ⟨w1, w2⟩ := k3; subst w1; subst w2; exact Eq.trans (b := (F 67 11)) rfl rfl else by unfold uF; simp only [nb2 k0, nb2 k1, nb2 k2, nb2 k3, cond_false]) (funext fun q => if k0 : q = 91 then by subst k0; exact Eq.trans (b := (A 91)) rfl rfl else by unfold uA; simp only [nb1 k0, cond_false]) rfl K)
noncomputable def kx_stands (f1_2 : Int32) (f1_3 : Int32) (f1_4 : Int32) (a2 : List Int32) (x1 : Int32) (x2 : Int32) : Int32 := (if f1_4 = 0 then (if (kx_sign f1_2 f1_3 a2) = x1 then 1 else (if (kx_sign f1_2 f1_3 a2) = x2 then 1 else 0)) else 0)
theorem t_kx_stands {f D : Nat} {F : Nat → Nat → Int32} {A : Nat → List Int32} {L : Nat → List Int64} {Q : Option Value → sm_H → Prop} {x1 : Int32} {x2 : Int32} (K : Q (some (.int (kx_stands (F 1 2) (F 1 3) (F 1 4) (A 2) x1 x2))) (hz F A L)) : wl_M f D 35 [.ref 1, .int x1, .int x2] (hz F A L) Q := by
  generalize hT : (kx_stands (F 1 2) (F 1 3) (F 1 4) (A 2) x1 x2) = T at K
  have hE : T = (if (F 1 4) = 0 then (if (kx_sign (F 1 2) (F 1 3) (A 2)) = x1 then 1 else (if (kx_sign (F 1 2) (F 1 3) (A 2)) = x2 then 1 else 0)) else 0) := hT.symm
  clear hT
  refine w_m (E := mm35) rfl ?_
  show wl_E f f (D - 1) mm35.2.2.2.2.2.2.2.2 0 [some (.ref 1), some (.int x1), some (.int x2), none] [] (hz F A L) Q
  refine w_n 1 (pc1 := 1) (ls1 := [some (.ref 1), some (.int x1), some (.int x2), none]) (st1 := [.ref 1]) (hp1 := (hz F A L)) rfl ?_
  refine w_c rfl rfl (t_kx_sign ?_)
  show wl_E f _ _ mm35.2.2.2.2.2.2.2.2 4 [some (.ref 1), some (.int x1), some (.int x2), none] [.int (kx_sign (F 1 2) (F 1 3) (A 2))] (hz F A L) _
  generalize hG324 : (kx_sign (F 1 2) (F 1 3) (A 2)) = G324 at hE ⊢
  refine w_n 3 (pc1 := 9) (ls1 := [some (.ref 1), some (.int x1), some (.int x2), some (.int G324)]) (st1 := [.int (F 1 4)]) (hp1 := (hz F A L)) rfl ?_
  refine w_zne (p3 := 12) rfl rfl (fun h => ?_) (fun h => ?_)
  · have h1 : ¬ (F 1 4) = 0 := h
    rw [if_neg h1] at hE
    refine w_n 1 (pc1 := 27) (ls1 := [some (.ref 1), some (.int x1), some (.int x2), some (.int G324)]) (st1 := [.int 0]) (hp1 := (hz F A L)) rfl ?_
    subst T
    exact w_ri rfl (cvQ rfl rfl rfl K)
  · have h1 : (F 1 4) = 0 := h
    rw [if_pos h1] at hE
    refine w_n 2 (pc1 := 14) (ls1 := [some (.ref 1), some (.int x1), some (.int x2), some (.int G324)]) (st1 := [.int x1, .int G324]) (hp1 := (hz F A L)) rfl ?_
    refine w_eq (p3 := 17) rfl rfl (fun h => ?_) (fun h => ?_)
    · have h2 : G324 = x1 := h
      rw [if_pos h2] at hE
      refine w_n 2 (pc1 := 27) (ls1 := [some (.ref 1), some (.int x1), some (.int x2), some (.int G324)]) (st1 := [.int 1]) (hp1 := (hz F A L)) rfl ?_
      subst T
      exact w_ri rfl (cvQ rfl rfl rfl K)
    · have h2 : ¬ G324 = x1 := h
      rw [if_neg h2] at hE
      refine w_n 2 (pc1 := 19) (ls1 := [some (.ref 1), some (.int x1), some (.int x2), some (.int G324)]) (st1 := [.int x2, .int G324]) (hp1 := (hz F A L)) rfl ?_
      refine w_ne (p3 := 22) rfl rfl (fun h => ?_) (fun h => ?_)
      · have h3 : ¬ G324 = x2 := h
        rw [if_neg h3] at hE
        refine w_n 1 (pc1 := 27) (ls1 := [some (.ref 1), some (.int x1), some (.int x2), some (.int G324)]) (st1 := [.int 0]) (hp1 := (hz F A L)) rfl ?_
        subst T
        exact w_ri rfl (cvQ rfl rfl rfl K)
      · have h3 : G324 = x2 := h
        rw [if_pos h3] at hE
        refine w_n 2 (pc1 := 27) (ls1 := [some (.ref 1), some (.int x1), some (.int x2), some (.int G324)]) (st1 := [.int 1]) (hp1 := (hz F A L)) rfl ?_
        subst T
        exact w_ri rfl (cvQ rfl rfl rfl K)
noncomputable def kl_add_53 (f53_1 : Int32) (a58 : List Int32) (a59 : List Int32) (x1 : Int32) (x2 : Int32) : Int32 × Int32 × List Int32 × List Int32 := (if f53_1.toInt < 240 then (((f53_1 + 1) - 1), (f53_1 + 1), (a58.set f53_1.toInt.toNat x1), (a59.set f53_1.toInt.toNat x2)) else ((-1), f53_1, a58, a59))
theorem t_kl_add_53 {f D : Nat} {F : Nat → Nat → Int32} {A : Nat → List Int32} {L : Nat → List Int64} {Q : Option Value → sm_H → Prop} {x1 : Int32} {x2 : Int32} (K : Q (some (.int ((kl_add_53 (F 53 1) (A 58) (A 59) x1 x2).1))) (hz (uF F 53 1 ((kl_add_53 (F 53 1) (A 58) (A 59) x1 x2).2.1)) (uA (uA A 58 ((kl_add_53 (F 53 1) (A 58) (A 59) x1 x2).2.2.1)) 59 ((kl_add_53 (F 53 1) (A 58) (A 59) x1 x2).2.2.2)) L)) : wl_M f D 32 [.ref 53, .int x1, .int x2] (hz F A L) Q := by
  generalize hT : (kl_add_53 (F 53 1) (A 58) (A 59) x1 x2) = T at K
  have hE : T = (if (F 53 1).toInt < 240 then ((((F 53 1) + 1) - 1), ((F 53 1) + 1), ((A 58).set (F 53 1).toInt.toNat x1), ((A 59).set (F 53 1).toInt.toNat x2)) else ((-1), (F 53 1), (A 58), (A 59))) := hT.symm
  clear hT
  refine w_m (E := mm32) rfl ?_
  show wl_E f f (D - 1) mm32.2.2.2.2.2.2.2.2 0 [some (.ref 53), some (.int x1), some (.int x2)] [] (hz F A L) Q
  refine w_n 3 (pc1 := 7) (ls1 := [some (.ref 53), some (.int x1), some (.int x2)]) (st1 := [.int 240, .int (F 53 1)]) (hp1 := (hz F A L)) rfl ?_
  refine w_lt (p3 := 10) rfl rfl (fun h => ?_) (fun h => ?_)
  · have h1 : (F 53 1).toInt < 240 := h
    rw [if_pos h1] at hE
    refine w_n 5 (pc1 := 21) (ls1 := [some (.ref 53), some (.int x1), some (.int x2)]) (st1 := [.int x1, .int (F 53 1), .ref 58]) (hp1 := (hz F A L)) rfl ?_
    refine w_as (k := 58) (l := (A 58)) (hp1 := (hz F (uA A 58 ((A 58).set (F 53 1).toInt.toNat x1)) L)) rfl rfl rfl (hz_s58 _) (fun _ => ?_)
    refine w_n 5 (pc1 := 31) (ls1 := [some (.ref 53), some (.int x1), some (.int x2)]) (st1 := [.int x2, .int (F 53 1), .ref 59]) (hp1 := (hz F (uA A 58 ((A 58).set (F 53 1).toInt.toNat x1)) L)) rfl ?_
    refine w_as (k := 59) (l := (A 59)) (hp1 := (hz F (uA (uA A 58 ((A 58).set (F 53 1).toInt.toNat x1)) 59 ((A 59).set (F 53 1).toInt.toNat x2)) L)) rfl rfl rfl (hz_s59 _) (fun _ => ?_)
    refine w_n 5 (pc1 := 39) (ls1 := [some (.ref 53), some (.int x1), some (.int x2)]) (st1 := [.int ((F 53 1) + 1), .ref 53]) (hp1 := (hz F (uA (uA A 58 ((A 58).set (F 53 1).toInt.toNat x1)) 59 ((A 59).set (F 53 1).toInt.toNat x2)) L)) rfl ?_
    refine w_pf (k := 53) (fs := hz_f53 F) (hp1 := (hz (uF F 53 1 ((F 53 1) + 1)) (uA (uA A 58 ((A 58).set (F 53 1).toInt.toNat x1)) 59 ((A 59).set (F 53 1).toInt.toNat x2)) L)) rfl rfl rfl (hz_p53_1 _) ?_
    refine w_n 4 (pc1 := 48) (ls1 := [some (.ref 53), some (.int x1), some (.int x2)]) (st1 := [.int (((F 53 1) + 1) - 1)]) (hp1 := (hz (uF F 53 1 ((F 53 1) + 1)) (uA (uA A 58 ((A 58).set (F 53 1).toInt.toNat x1)) 59 ((A 59).set (F 53 1).toInt.toNat x2)) L)) rfl ?_
    subst T
    exact w_ri rfl (cvQ rfl rfl rfl K)
  · have h1 : 240 ≤ (F 53 1).toInt := h
    rw [if_neg (Int.not_lt.mpr h1)] at hE
    refine w_n 1 (pc1 := 11) (ls1 := [some (.ref 53), some (.int x1), some (.int x2)]) (st1 := [.int (-1)]) (hp1 := (hz F A L)) rfl ?_
    subst T
    exact w_ri rfl (cvQ (funext fun q => funext fun z => if k0 : q = 53 ∧ z = 1 then by obtain ⟨w1, w2⟩ := k0; subst w1; subst w2; exact Eq.trans (b := (F 53 1)) rfl rfl else by unfold uF; simp only [nb2 k0, cond_false]) (funext fun q => if k0 : q = 58 then by subst k0; exact Eq.trans (b := (A 58)) rfl rfl else if k1 : q = 59 then by subst k1; exact Eq.trans (b := (A 59)) rfl rfl else by unfold uA; simp only [nb1 k0, nb1 k1, cond_false]) rfl K)
noncomputable def kr_readNumber_4 (f1_2 : Int32) (f1_4 : Int32) (f53_1 : Int32) (a2 : List Int32) (a58 : List Int32) (a59 : List Int32)  : Nat → Int32 → Int32 → Int32 → Int32 × Int32 × Int32 × List Int32 × List Int32
  | 0, y1, _, f1_3 => (lt (kl_add_53 f53_1 a58 a59 48 y1) (fun g332 => (f1_3, f1_4, g332.2.1, g332.2.2.1, g332.2.2.2)))
  | m + 1, y1, y2, f1_3 => (lt (kx_sign f1_2 f1_3 a2) (fun g333 => (lt (kc_within g333 48 57) (fun g334 => (if g334 = 0 then (lt (kl_add_53 f53_1 a58 a59 48 y1) (fun g335 => (f1_3, f1_4, g335.2.1, g335.2.2.1, g335.2.2.2))) else (if y2 = 5 then (lt (kx_fail f1_3 f1_4 2) (fun g336 => (f1_3, g336.2, f53_1, a58, a59))) else (kr_readNumber_4 f1_2 f1_4 f53_1 a2 a58 a59 m (((y1 * 10) + g333) - 48) (y2 + 1) (f1_3 + 1))))))))
theorem t_kr_readNumber_4 {f : Nat} {Q : Option Value → sm_H → Prop} : ∀ (m : Nat) {B D : Nat} {F : Nat → Nat → Int32} {A : Nat → List Int32} {L : Nat → List Int64} {y1 : Int32} {y2 : Int32}, m = (5 + 1 - y2.toInt).toNat → (Q none (hz (uF (uF (uF F 1 3 ((kr_readNumber_4 (F 1 2) (F 1 4) (F 53 1) (A 2) (A 58) (A 59) m y1 y2 (F 1 3)).1)) 1 4 ((kr_readNumber_4 (F 1 2) (F 1 4) (F 53 1) (A 2) (A 58) (A 59) m y1 y2 (F 1 3)).2.1)) 53 1 ((kr_readNumber_4 (F 1 2) (F 1 4) (F 53 1) (A 2) (A 58) (A 59) m y1 y2 (F 1 3)).2.2.1)) (uA (uA A 58 ((kr_readNumber_4 (F 1 2) (F 1 4) (F 53 1) (A 2) (A 58) (A 59) m y1 y2 (F 1 3)).2.2.2.1)) 59 ((kr_readNumber_4 (F 1 2) (F 1 4) (F 53 1) (A 2) (A 58) (A 59) m y1 y2 (F 1 3)).2.2.2.2)) L)) → wl_E f B D mm31.2.2.2.2.2.2.2.2 4 [some (.ref 52), some (.int y1), some (.int y2)] [] (hz F A L) Q := by
  intro m
  induction m with
  | zero =>
    intro B D F A L y1 y2 hm K
    generalize hT : (kr_readNumber_4 (F 1 2) (F 1 4) (F 53 1) (A 2) (A 58) (A 59) 0 y1 y2 (F 1 3)) = T at K
    have hE : T = (lt (kl_add_53 (F 53 1) (A 58) (A 59) 48 y1) (fun g332 => ((F 1 3), (F 1 4), g332.2.1, g332.2.2.1, g332.2.2.2))) := hT.symm
    clear hT
    refine w_n 2 (pc1 := 6) (ls1 := [some (.ref 52), some (.int y1), some (.int y2)]) (st1 := [.int 5, .int y2]) (hp1 := (hz F A L)) rfl ?_
    refine w_gt (p3 := 9) rfl rfl (fun hb => ?_) (fun h => False.elim (by have h : y2.toInt ≤ 5 := h; omega))
    refine w_n 4 (pc1 := 83) (ls1 := [some (.ref 52), some (.int y1), some (.int y2)]) (st1 := [.int y1, .int 48, .ref 53]) (hp1 := (hz F A L)) rfl ?_
    refine w_c rfl rfl (t_kl_add_53 ?_)
    show wl_E f _ _ mm31.2.2.2.2.2.2.2.2 86 [some (.ref 52), some (.int y1), some (.int y2)] [.int (kl_add_53 (F 53 1) (A 58) (A 59) 48 y1).1] (hz (uF F 53 1 (kl_add_53 (F 53 1) (A 58) (A 59) 48 y1).2.1) (uA (uA A 58 (kl_add_53 (F 53 1) (A 58) (A 59) 48 y1).2.2.1) 59 (kl_add_53 (F 53 1) (A 58) (A 59) 48 y1).2.2.2) L) _
    generalize hG332 : (kl_add_53 (F 53 1) (A 58) (A 59) 48 y1) = G332 at hE ⊢
    replace hE := hE.trans (lt_e _ _)
    refine w_n 1 (pc1 := 87) (ls1 := [some (.ref 52), some (.int y1), some (.int y2)]) (st1 := []) (hp1 := (hz (uF F 53 1 G332.2.1) (uA (uA A 58 G332.2.2.1) 59 G332.2.2.2) L)) rfl ?_
    subst T
    exact w_r rfl rfl (cvQ (funext fun q => funext fun z => if k0 : q = 1 ∧ z = 3 then by obtain ⟨w1, w2⟩ := k0; subst w1; subst w2; exact Eq.trans (b := (F 1 3)) rfl rfl else if k1 : q = 1 ∧ z = 4 then by obtain ⟨w1, w2⟩ := k1; subst w1; subst w2; exact Eq.trans (b := (F 1 4)) rfl rfl else if k2 : q = 53 ∧ z = 1 then by obtain ⟨w1, w2⟩ := k2; subst w1; subst w2; exact Eq.trans (b := G332.2.1) rfl rfl else by unfold uF; simp only [nb2 k0, nb2 k1, nb2 k2, cond_false]) rfl rfl K)
  | succ m ih =>
    intro B D F A L y1 y2 hm K
    generalize hT : (kr_readNumber_4 (F 1 2) (F 1 4) (F 53 1) (A 2) (A 58) (A 59) (m + 1) y1 y2 (F 1 3)) = T at K
    have hE : T = (lt (kx_sign (F 1 2) (F 1 3) (A 2)) (fun g333 => (lt (kc_within g333 48 57) (fun g334 => (if g334 = 0 then (lt (kl_add_53 (F 53 1) (A 58) (A 59) 48 y1) (fun g335 => ((F 1 3), (F 1 4), g335.2.1, g335.2.2.1, g335.2.2.2))) else (if y2 = 5 then (lt (kx_fail (F 1 3) (F 1 4) 2) (fun g336 => ((F 1 3), g336.2, (F 53 1), (A 58), (A 59)))) else (kr_readNumber_4 (F 1 2) (F 1 4) (F 53 1) (A 2) (A 58) (A 59) m (((y1 * 10) + g333) - 48) (y2 + 1) ((F 1 3) + 1)))))))) := hT.symm
    clear hT
    refine w_n 2 (pc1 := 6) (ls1 := [some (.ref 52), some (.int y1), some (.int y2)]) (st1 := [.int 5, .int y2]) (hp1 := (hz F A L)) rfl ?_
    refine w_gt (p3 := 9) rfl rfl (fun h => False.elim (by have h : 5 < y2.toInt := h; omega)) (fun hb => ?_)
    refine w_n 2 (pc1 := 13) (ls1 := [some (.ref 52), some (.int y1), some (.int y2)]) (st1 := [.ref 1]) (hp1 := (hz F A L)) rfl ?_
    refine w_c rfl rfl (t_kx_sign ?_)
    show wl_E f _ _ mm31.2.2.2.2.2.2.2.2 16 [some (.ref 52), some (.int y1), some (.int y2)] [.int (kx_sign (F 1 2) (F 1 3) (A 2))] (hz F A L) _
    generalize hG333 : (kx_sign (F 1 2) (F 1 3) (A 2)) = G333 at hE ⊢
    replace hE := hE.trans (lt_e _ _)
    refine w_n 2 (pc1 := 20) (ls1 := [some (.ref 52), some (.int y1), some (.int y2)]) (st1 := [.int 57, .int 48, .int G333]) (hp1 := (hz F A L)) rfl ?_
    refine w_c rfl rfl (t_kc_within ?_)
    show wl_E f _ _ mm31.2.2.2.2.2.2.2.2 23 [some (.ref 52), some (.int y1), some (.int y2)] [.int (kc_within G333 48 57)] (hz F A L) _
    generalize hG334 : (kc_within G333 48 57) = G334 at hE ⊢
    replace hE := hE.trans (lt_e _ _)
    refine w_zeq (p3 := 26) rfl rfl (fun h => ?_) (fun h => ?_)
    · have h1 : G334 = 0 := h
      rw [if_pos h1] at hE
      refine w_n 4 (pc1 := 83) (ls1 := [some (.ref 52), some (.int y1), some (.int y2)]) (st1 := [.int y1, .int 48, .ref 53]) (hp1 := (hz F A L)) rfl ?_
      refine w_c rfl rfl (t_kl_add_53 ?_)
      show wl_E f _ _ mm31.2.2.2.2.2.2.2.2 86 [some (.ref 52), some (.int y1), some (.int y2)] [.int (kl_add_53 (F 53 1) (A 58) (A 59) 48 y1).1] (hz (uF F 53 1 (kl_add_53 (F 53 1) (A 58) (A 59) 48 y1).2.1) (uA (uA A 58 (kl_add_53 (F 53 1) (A 58) (A 59) 48 y1).2.2.1) 59 (kl_add_53 (F 53 1) (A 58) (A 59) 48 y1).2.2.2) L) _
      generalize hG335 : (kl_add_53 (F 53 1) (A 58) (A 59) 48 y1) = G335 at hE ⊢
      replace hE := hE.trans (lt_e _ _)
      refine w_n 1 (pc1 := 87) (ls1 := [some (.ref 52), some (.int y1), some (.int y2)]) (st1 := []) (hp1 := (hz (uF F 53 1 G335.2.1) (uA (uA A 58 G335.2.2.1) 59 G335.2.2.2) L)) rfl ?_
      subst T
      exact w_r rfl rfl (cvQ (funext fun q => funext fun z => if k0 : q = 1 ∧ z = 3 then by obtain ⟨w1, w2⟩ := k0; subst w1; subst w2; exact Eq.trans (b := (F 1 3)) rfl rfl else if k1 : q = 1 ∧ z = 4 then by obtain ⟨w1, w2⟩ := k1; subst w1; subst w2; exact Eq.trans (b := (F 1 4)) rfl rfl else if k2 : q = 53 ∧ z = 1 then by obtain ⟨w1, w2⟩ := k2; subst w1; subst w2; exact Eq.trans (b := G335.2.1) rfl rfl else by unfold uF; simp only [nb2 k0, nb2 k1, nb2 k2, cond_false]) rfl rfl K)
    · have h1 : ¬ G334 = 0 := h
      rw [if_neg h1] at hE
      refine w_n 2 (pc1 := 28) (ls1 := [some (.ref 52), some (.int y1), some (.int y2)]) (st1 := [.int 5, .int y2]) (hp1 := (hz F A L)) rfl ?_
      refine w_ne (p3 := 31) rfl rfl (fun h => ?_) (fun h => ?_)
      · have h2 : ¬ y2 = 5 := h
        rw [if_neg h2] at hE
        refine w_n 5 (pc1 := 49) (ls1 := [some (.ref 52), some (.int y1), some (.int y2)]) (st1 := [.ref 1, .int (y1 * 10)]) (hp1 := (hz F A L)) rfl ?_
        refine w_c rfl rfl (t_kx_sign ?_)
        show wl_E f _ _ mm31.2.2.2.2.2.2.2.2 52 [some (.ref 52), some (.int y1), some (.int y2)] [.int (kx_sign (F 1 2) (F 1 3) (A 2)), .int (y1 * 10)] (hz F A L) _
        rw [hG333]
        refine w_n 10 (pc1 := 67) (ls1 := [some (.ref 52), some (.int (((y1 * 10) + G333) - 48)), some (.int y2)]) (st1 := [.int ((F 1 3) + 1), .ref 1]) (hp1 := (hz F A L)) rfl ?_
        refine w_pf (k := 1) (fs := hz_f1 F) (hp1 := (hz (uF F 1 3 ((F 1 3) + 1)) A L)) rfl rfl rfl (hz_p1_3 _) ?_
        refine w_n 2 (pc1 := 4) (ls1 := [some (.ref 52), some (.int (((y1 * 10) + G333) - 48)), some (.int (y2 + 1))]) (st1 := []) (hp1 := (hz (uF F 1 3 ((F 1 3) + 1)) A L)) rfl ?_
        subst T
        have hb2 := i_up2 (B := (5 : Int32)) hb (by first | decide | exact hB | assumption)
        have hb3 : y2.toInt ≤ 5 := hb
        exact ih (show m = (5 + 1 - (y2 + 1).toInt).toNat by rw [hb2]; omega) (cvQ (funext fun q => funext fun z => if k0 : q = 1 ∧ z = 3 then by obtain ⟨w1, w2⟩ := k0; subst w1; subst w2; exact Eq.trans (b := (kr_readNumber_4 (F 1 2) (F 1 4) (F 53 1) (A 2) (A 58) (A 59) m (((y1 * 10) + G333) - 48) (y2 + 1) ((F 1 3) + 1)).1) rfl rfl else if k1 : q = 1 ∧ z = 4 then by obtain ⟨w1, w2⟩ := k1; subst w1; subst w2; exact Eq.trans (b := (kr_readNumber_4 (F 1 2) (F 1 4) (F 53 1) (A 2) (A 58) (A 59) m (((y1 * 10) + G333) - 48) (y2 + 1) ((F 1 3) + 1)).2.1) rfl rfl else if k2 : q = 53 ∧ z = 1 then by obtain ⟨w1, w2⟩ := k2; subst w1; subst w2; exact Eq.trans (b := (kr_readNumber_4 (F 1 2) (F 1 4) (F 53 1) (A 2) (A 58) (A 59) m (((y1 * 10) + G333) - 48) (y2 + 1) ((F 1 3) + 1)).2.2.1) rfl rfl else by unfold uF; simp only [nb2 k0, nb2 k1, nb2 k2, cond_false]) (funext fun q => if k0 : q = 58 then by subst k0; exact Eq.trans (b := (kr_readNumber_4 (F 1 2) (F 1 4) (F 53 1) (A 2) (A 58) (A 59) m (((y1 * 10) + G333) - 48) (y2 + 1) ((F 1 3) + 1)).2.2.2.1) rfl rfl else if k1 : q = 59 then by subst k1; exact Eq.trans (b := (kr_readNumber_4 (F 1 2) (F 1 4) (F 53 1) (A 2) (A 58) (A 59) m (((y1 * 10) + G333) - 48) (y2 + 1) ((F 1 3) + 1)).2.2.2.2) rfl rfl else by unfold uA; simp only [nb1 k0, nb1 k1, cond_false]) rfl K)
      · have h2 : y2 = 5 := h
        rw [if_pos h2] at hE
        refine w_n 3 (pc1 := 36) (ls1 := [some (.ref 52), some (.int y1), some (.int y2)]) (st1 := [.int 2, .ref 1]) (hp1 := (hz F A L)) rfl ?_
        refine w_c rfl rfl (t_kx_fail ?_)
        show wl_E f _ _ mm31.2.2.2.2.2.2.2.2 39 [some (.ref 52), some (.int y1), some (.int y2)] [.int (kx_fail (F 1 3) (F 1 4) 2).1] (hz (uF F 1 4 (kx_fail (F 1 3) (F 1 4) 2).2) A L) _
        generalize hG336 : (kx_fail (F 1 3) (F 1 4) 2) = G336 at hE ⊢
        replace hE := hE.trans (lt_e _ _)
        refine w_n 1 (pc1 := 40) (ls1 := [some (.ref 52), some (.int y1), some (.int y2)]) (st1 := []) (hp1 := (hz (uF F 1 4 G336.2) A L)) rfl ?_
        subst T
        exact w_r rfl rfl (cvQ (funext fun q => funext fun z => if k0 : q = 1 ∧ z = 3 then by obtain ⟨w1, w2⟩ := k0; subst w1; subst w2; exact Eq.trans (b := (F 1 3)) rfl rfl else if k1 : q = 1 ∧ z = 4 then by obtain ⟨w1, w2⟩ := k1; subst w1; subst w2; exact Eq.trans (b := G336.2) rfl rfl else if k2 : q = 53 ∧ z = 1 then by obtain ⟨w1, w2⟩ := k2; subst w1; subst w2; exact Eq.trans (b := (F 53 1)) rfl rfl else by unfold uF; simp only [nb2 k0, nb2 k1, nb2 k2, cond_false]) (funext fun q => if k0 : q = 58 then by subst k0; exact Eq.trans (b := (A 58)) rfl rfl else if k1 : q = 59 then by subst k1; exact Eq.trans (b := (A 59)) rfl rfl else by unfold uA; simp only [nb1 k0, nb1 k1, cond_false]) rfl K)
noncomputable def kr_readNumber (f1_2 : Int32) (f1_3 : Int32) (f1_4 : Int32) (f53_1 : Int32) (a2 : List Int32) (a58 : List Int32) (a59 : List Int32) : Int32 × Int32 × Int32 × List Int32 × List Int32 := (kr_readNumber_4 f1_2 f1_4 f53_1 a2 a58 a59 6 0 0 f1_3)
theorem t_kr_readNumber {f D : Nat} {F : Nat → Nat → Int32} {A : Nat → List Int32} {L : Nat → List Int64} {Q : Option Value → sm_H → Prop} (K : Q none (hz (uF (uF (uF F 1 3 ((kr_readNumber (F 1 2) (F 1 3) (F 1 4) (F 53 1) (A 2) (A 58) (A 59)).1)) 1 4 ((kr_readNumber (F 1 2) (F 1 3) (F 1 4) (F 53 1) (A 2) (A 58) (A 59)).2.1)) 53 1 ((kr_readNumber (F 1 2) (F 1 3) (F 1 4) (F 53 1) (A 2) (A 58) (A 59)).2.2.1)) (uA (uA A 58 ((kr_readNumber (F 1 2) (F 1 3) (F 1 4) (F 53 1) (A 2) (A 58) (A 59)).2.2.2.1)) 59 ((kr_readNumber (F 1 2) (F 1 3) (F 1 4) (F 53 1) (A 2) (A 58) (A 59)).2.2.2.2)) L)) : wl_M f D 31 [.ref 52] (hz F A L) Q := by
  generalize hT : (kr_readNumber (F 1 2) (F 1 3) (F 1 4) (F 53 1) (A 2) (A 58) (A 59)) = T at K
  have hE : T = (kr_readNumber_4 (F 1 2) (F 1 4) (F 53 1) (A 2) (A 58) (A 59) 6 0 0 (F 1 3)) := hT.symm
  clear hT
  refine w_m (E := mm31) rfl ?_
  show wl_E f f (D - 1) mm31.2.2.2.2.2.2.2.2 0 [some (.ref 52), none, none] [] (hz F A L) Q
  refine w_n 4 (pc1 := 4) (ls1 := [some (.ref 52), some (.int 0), some (.int 0)]) (st1 := []) (hp1 := (hz F A L)) rfl ?_
  subst T
  exact t_kr_readNumber_4 _ (show (6 : Nat) = (5 + 1 - (0 : Int32).toInt).toNat by have e0 : (0 : Int32).toInt = 0 := rfl; first | rfl | omega) (cvQ (funext fun q => funext fun z => if k0 : q = 1 ∧ z = 3 then by obtain ⟨w1, w2⟩ := k0; subst w1; subst w2; exact Eq.trans (b := (kr_readNumber_4 (F 1 2) (F 1 4) (F 53 1) (A 2) (A 58) (A 59) 6 0 0 (F 1 3)).1) rfl rfl else if k1 : q = 1 ∧ z = 4 then by obtain ⟨w1, w2⟩ := k1; subst w1; subst w2; exact Eq.trans (b := (kr_readNumber_4 (F 1 2) (F 1 4) (F 53 1) (A 2) (A 58) (A 59) 6 0 0 (F 1 3)).2.1) rfl rfl else if k2 : q = 53 ∧ z = 1 then by obtain ⟨w1, w2⟩ := k2; subst w1; subst w2; exact Eq.trans (b := (kr_readNumber_4 (F 1 2) (F 1 4) (F 53 1) (A 2) (A 58) (A 59) 6 0 0 (F 1 3)).2.2.1) rfl rfl else by unfold uF; simp only [nb2 k0, nb2 k1, nb2 k2, cond_false]) (funext fun q => if k0 : q = 58 then by subst k0; exact Eq.trans (b := (kr_readNumber_4 (F 1 2) (F 1 4) (F 53 1) (A 2) (A 58) (A 59) 6 0 0 (F 1 3)).2.2.2.1) rfl rfl else if k1 : q = 59 then by subst k1; exact Eq.trans (b := (kr_readNumber_4 (F 1 2) (F 1 4) (F 53 1) (A 2) (A 58) (A 59) 6 0 0 (F 1 3)).2.2.2.2) rfl rfl else by unfold uA; simp only [nb1 k0, nb1 k1, cond_false]) rfl K)
noncomputable def kr_opens (f1_2 : Int32) (f1_3 : Int32) (f1_4 : Int32) (f52_2 : Int32) (a2 : List Int32) (x1 : Int32) : Int32 × Int32 × Int32 × Int32 := (if f1_4 = 0 then (lt (kx_sign f1_2 f1_3 a2) (fun g339 => (if g339 = x1 then (if f52_2.toInt < 6 then (lt (kx_pass f1_2 f1_3 f1_4 a2 x1) (fun g341 => (if g341.2 = 0 then (1, g341.1, g341.2, (f52_2 + 1)) else (0, g341.1, g341.2, f52_2)))) else (lt (kx_fail f1_3 f1_4 5) (fun g342 => (lt (kx_pass f1_2 f1_3 g342.2 a2 x1) (fun g343 => (if g343.2 = 0 then (1, g343.1, g343.2, (f52_2 + 1)) else (0, g343.1, g343.2, f52_2))))))) else (lt (kx_pass f1_2 f1_3 f1_4 a2 x1) (fun g340 => (if g340.2 = 0 then (1, g340.1, g340.2, (f52_2 + 1)) else (0, g340.1, g340.2, f52_2))))))) else (lt (kx_pass f1_2 f1_3 f1_4 a2 x1) (fun g338 => (if g338.2 = 0 then (1, g338.1, g338.2, (f52_2 + 1)) else (0, g338.1, g338.2, f52_2)))))
theorem t_kr_opens {f D : Nat} {F : Nat → Nat → Int32} {A : Nat → List Int32} {L : Nat → List Int64} {Q : Option Value → sm_H → Prop} {x1 : Int32} (K : Q (some (.int ((kr_opens (F 1 2) (F 1 3) (F 1 4) (F 52 2) (A 2) x1).1))) (hz (uF (uF (uF F 1 3 ((kr_opens (F 1 2) (F 1 3) (F 1 4) (F 52 2) (A 2) x1).2.1)) 1 4 ((kr_opens (F 1 2) (F 1 3) (F 1 4) (F 52 2) (A 2) x1).2.2.1)) 52 2 ((kr_opens (F 1 2) (F 1 3) (F 1 4) (F 52 2) (A 2) x1).2.2.2)) A L)) : wl_M f D 30 [.ref 52, .int x1] (hz F A L) Q := by
  generalize hT : (kr_opens (F 1 2) (F 1 3) (F 1 4) (F 52 2) (A 2) x1) = T at K
  have hE : T = (if (F 1 4) = 0 then (lt (kx_sign (F 1 2) (F 1 3) (A 2)) (fun g339 => (if g339 = x1 then (if (F 52 2).toInt < 6 then (lt (kx_pass (F 1 2) (F 1 3) (F 1 4) (A 2) x1) (fun g341 => (if g341.2 = 0 then (1, g341.1, g341.2, ((F 52 2) + 1)) else (0, g341.1, g341.2, (F 52 2))))) else (lt (kx_fail (F 1 3) (F 1 4) 5) (fun g342 => (lt (kx_pass (F 1 2) (F 1 3) g342.2 (A 2) x1) (fun g343 => (if g343.2 = 0 then (1, g343.1, g343.2, ((F 52 2) + 1)) else (0, g343.1, g343.2, (F 52 2)))))))) else (lt (kx_pass (F 1 2) (F 1 3) (F 1 4) (A 2) x1) (fun g340 => (if g340.2 = 0 then (1, g340.1, g340.2, ((F 52 2) + 1)) else (0, g340.1, g340.2, (F 52 2)))))))) else (lt (kx_pass (F 1 2) (F 1 3) (F 1 4) (A 2) x1) (fun g338 => (if g338.2 = 0 then (1, g338.1, g338.2, ((F 52 2) + 1)) else (0, g338.1, g338.2, (F 52 2)))))) := hT.symm
  clear hT
  refine w_m (E := mm30) rfl ?_
  show wl_E f f (D - 1) mm30.2.2.2.2.2.2.2.2 0 [some (.ref 52), some (.int x1)] [] (hz F A L) Q
  refine w_n 3 (pc1 := 7) (ls1 := [some (.ref 52), some (.int x1)]) (st1 := [.int (F 1 4)]) (hp1 := (hz F A L)) rfl ?_
  refine w_zne (p3 := 10) rfl rfl (fun h => ?_) (fun h => ?_)
  · have h1 : ¬ (F 1 4) = 0 := h
    rw [if_neg h1] at hE
    refine w_n 3 (pc1 := 44) (ls1 := [some (.ref 52), some (.int x1)]) (st1 := [.int x1, .ref 1]) (hp1 := (hz F A L)) rfl ?_
    refine w_c rfl rfl (t_kx_pass ?_)
    show wl_E f _ _ mm30.2.2.2.2.2.2.2.2 47 [some (.ref 52), some (.int x1)] [] (hz (uF (uF F 1 3 (kx_pass (F 1 2) (F 1 3) (F 1 4) (A 2) x1).1) 1 4 (kx_pass (F 1 2) (F 1 3) (F 1 4) (A 2) x1).2) A L) _
    generalize hG338 : (kx_pass (F 1 2) (F 1 3) (F 1 4) (A 2) x1) = G338 at hE ⊢
    replace hE := hE.trans (lt_e _ _)
    refine w_n 3 (pc1 := 54) (ls1 := [some (.ref 52), some (.int x1)]) (st1 := [.int G338.2]) (hp1 := (hz (uF (uF F 1 3 G338.1) 1 4 G338.2) A L)) rfl ?_
    refine w_zeq (p3 := 57) rfl rfl (fun h => ?_) (fun h => ?_)
    · have h2 : G338.2 = 0 := h
      rw [if_pos h2] at hE
      refine w_n 5 (pc1 := 66) (ls1 := [some (.ref 52), some (.int x1)]) (st1 := [.int ((F 52 2) + 1), .ref 52]) (hp1 := (hz (uF (uF F 1 3 G338.1) 1 4 G338.2) A L)) rfl ?_
      refine w_pf (k := 52) (fs := hz_f52 (uF (uF F 1 3 G338.1) 1 4 G338.2)) (hp1 := (hz (uF (uF (uF F 1 3 G338.1) 1 4 G338.2) 52 2 ((F 52 2) + 1)) A L)) rfl rfl rfl (hz_p52_2 _) ?_
      refine w_n 1 (pc1 := 70) (ls1 := [some (.ref 52), some (.int x1)]) (st1 := [.int 1]) (hp1 := (hz (uF (uF (uF F 1 3 G338.1) 1 4 G338.2) 52 2 ((F 52 2) + 1)) A L)) rfl ?_
      subst T
      exact w_ri rfl (cvQ rfl rfl rfl K)
    · have h2 : ¬ G338.2 = 0 := h
      rw [if_neg h2] at hE
      refine w_n 1 (pc1 := 58) (ls1 := [some (.ref 52), some (.int x1)]) (st1 := [.int 0]) (hp1 := (hz (uF (uF F 1 3 G338.1) 1 4 G338.2) A L)) rfl ?_
      subst T
      exact w_ri rfl (cvQ (funext fun q => funext fun z => if k0 : q = 1 ∧ z = 3 then by obtain ⟨w1, w2⟩ := k0; subst w1; subst w2; exact Eq.trans (b := G338.1) rfl rfl else if k1 : q = 1 ∧ z = 4 then by obtain ⟨w1, w2⟩ := k1; subst w1; subst w2; exact Eq.trans (b := G338.2) rfl rfl else if k2 : q = 52 ∧ z = 2 then by obtain ⟨w1, w2⟩ := k2; subst w1; subst w2; exact Eq.trans (b := (F 52 2)) rfl rfl else by unfold uF; simp only [nb2 k0, nb2 k1, nb2 k2, cond_false]) rfl rfl K)
  · have h1 : (F 1 4) = 0 := h
    rw [if_pos h1] at hE
    refine w_n 2 (pc1 := 14) (ls1 := [some (.ref 52), some (.int x1)]) (st1 := [.ref 1]) (hp1 := (hz F A L)) rfl ?_
    refine w_c rfl rfl (t_kx_sign ?_)
    show wl_E f _ _ mm30.2.2.2.2.2.2.2.2 17 [some (.ref 52), some (.int x1)] [.int (kx_sign (F 1 2) (F 1 3) (A 2))] (hz F A L) _
    generalize hG339 : (kx_sign (F 1 2) (F 1 3) (A 2)) = G339 at hE ⊢
    replace hE := hE.trans (lt_e _ _)
    refine w_n 1 (pc1 := 18) (ls1 := [some (.ref 52), some (.int x1)]) (st1 := [.int x1, .int G339]) (hp1 := (hz F A L)) rfl ?_
    refine w_ne (p3 := 21) rfl rfl (fun h => ?_) (fun h => ?_)
    · have h3 : ¬ G339 = x1 := h
      rw [if_neg h3] at hE
      refine w_n 3 (pc1 := 44) (ls1 := [some (.ref 52), some (.int x1)]) (st1 := [.int x1, .ref 1]) (hp1 := (hz F A L)) rfl ?_
      refine w_c rfl rfl (t_kx_pass ?_)
      show wl_E f _ _ mm30.2.2.2.2.2.2.2.2 47 [some (.ref 52), some (.int x1)] [] (hz (uF (uF F 1 3 (kx_pass (F 1 2) (F 1 3) (F 1 4) (A 2) x1).1) 1 4 (kx_pass (F 1 2) (F 1 3) (F 1 4) (A 2) x1).2) A L) _
      generalize hG340 : (kx_pass (F 1 2) (F 1 3) (F 1 4) (A 2) x1) = G340 at hE ⊢
      replace hE := hE.trans (lt_e _ _)
      refine w_n 3 (pc1 := 54) (ls1 := [some (.ref 52), some (.int x1)]) (st1 := [.int G340.2]) (hp1 := (hz (uF (uF F 1 3 G340.1) 1 4 G340.2) A L)) rfl ?_
      refine w_zeq (p3 := 57) rfl rfl (fun h => ?_) (fun h => ?_)
      · have h4 : G340.2 = 0 := h
        rw [if_pos h4] at hE
        refine w_n 5 (pc1 := 66) (ls1 := [some (.ref 52), some (.int x1)]) (st1 := [.int ((F 52 2) + 1), .ref 52]) (hp1 := (hz (uF (uF F 1 3 G340.1) 1 4 G340.2) A L)) rfl ?_
        refine w_pf (k := 52) (fs := hz_f52 (uF (uF F 1 3 G340.1) 1 4 G340.2)) (hp1 := (hz (uF (uF (uF F 1 3 G340.1) 1 4 G340.2) 52 2 ((F 52 2) + 1)) A L)) rfl rfl rfl (hz_p52_2 _) ?_
        refine w_n 1 (pc1 := 70) (ls1 := [some (.ref 52), some (.int x1)]) (st1 := [.int 1]) (hp1 := (hz (uF (uF (uF F 1 3 G340.1) 1 4 G340.2) 52 2 ((F 52 2) + 1)) A L)) rfl ?_
        subst T
        exact w_ri rfl (cvQ rfl rfl rfl K)
      · have h4 : ¬ G340.2 = 0 := h
        rw [if_neg h4] at hE
        refine w_n 1 (pc1 := 58) (ls1 := [some (.ref 52), some (.int x1)]) (st1 := [.int 0]) (hp1 := (hz (uF (uF F 1 3 G340.1) 1 4 G340.2) A L)) rfl ?_
        subst T
        exact w_ri rfl (cvQ (funext fun q => funext fun z => if k0 : q = 1 ∧ z = 3 then by obtain ⟨w1, w2⟩ := k0; subst w1; subst w2; exact Eq.trans (b := G340.1) rfl rfl else if k1 : q = 1 ∧ z = 4 then by obtain ⟨w1, w2⟩ := k1; subst w1; subst w2; exact Eq.trans (b := G340.2) rfl rfl else if k2 : q = 52 ∧ z = 2 then by obtain ⟨w1, w2⟩ := k2; subst w1; subst w2; exact Eq.trans (b := (F 52 2)) rfl rfl else by unfold uF; simp only [nb2 k0, nb2 k1, nb2 k2, cond_false]) rfl rfl K)
    · have h3 : G339 = x1 := h
      rw [if_pos h3] at hE
      refine w_n 3 (pc1 := 27) (ls1 := [some (.ref 52), some (.int x1)]) (st1 := [.int 6, .int (F 52 2)]) (hp1 := (hz F A L)) rfl ?_
      refine w_lt (p3 := 30) rfl rfl (fun h => ?_) (fun h => ?_)
      · have h5 : (F 52 2).toInt < 6 := h
        rw [if_pos h5] at hE
        refine w_n 3 (pc1 := 44) (ls1 := [some (.ref 52), some (.int x1)]) (st1 := [.int x1, .ref 1]) (hp1 := (hz F A L)) rfl ?_
        refine w_c rfl rfl (t_kx_pass ?_)
        show wl_E f _ _ mm30.2.2.2.2.2.2.2.2 47 [some (.ref 52), some (.int x1)] [] (hz (uF (uF F 1 3 (kx_pass (F 1 2) (F 1 3) (F 1 4) (A 2) x1).1) 1 4 (kx_pass (F 1 2) (F 1 3) (F 1 4) (A 2) x1).2) A L) _
        generalize hG341 : (kx_pass (F 1 2) (F 1 3) (F 1 4) (A 2) x1) = G341 at hE ⊢
        replace hE := hE.trans (lt_e _ _)
        refine w_n 3 (pc1 := 54) (ls1 := [some (.ref 52), some (.int x1)]) (st1 := [.int G341.2]) (hp1 := (hz (uF (uF F 1 3 G341.1) 1 4 G341.2) A L)) rfl ?_
        refine w_zeq (p3 := 57) rfl rfl (fun h => ?_) (fun h => ?_)
        · have h6 : G341.2 = 0 := h
          rw [if_pos h6] at hE
          refine w_n 5 (pc1 := 66) (ls1 := [some (.ref 52), some (.int x1)]) (st1 := [.int ((F 52 2) + 1), .ref 52]) (hp1 := (hz (uF (uF F 1 3 G341.1) 1 4 G341.2) A L)) rfl ?_
          refine w_pf (k := 52) (fs := hz_f52 (uF (uF F 1 3 G341.1) 1 4 G341.2)) (hp1 := (hz (uF (uF (uF F 1 3 G341.1) 1 4 G341.2) 52 2 ((F 52 2) + 1)) A L)) rfl rfl rfl (hz_p52_2 _) ?_
          refine w_n 1 (pc1 := 70) (ls1 := [some (.ref 52), some (.int x1)]) (st1 := [.int 1]) (hp1 := (hz (uF (uF (uF F 1 3 G341.1) 1 4 G341.2) 52 2 ((F 52 2) + 1)) A L)) rfl ?_
          subst T
          exact w_ri rfl (cvQ rfl rfl rfl K)
        · have h6 : ¬ G341.2 = 0 := h
          rw [if_neg h6] at hE
          refine w_n 1 (pc1 := 58) (ls1 := [some (.ref 52), some (.int x1)]) (st1 := [.int 0]) (hp1 := (hz (uF (uF F 1 3 G341.1) 1 4 G341.2) A L)) rfl ?_
          subst T
          exact w_ri rfl (cvQ (funext fun q => funext fun z => if k0 : q = 1 ∧ z = 3 then by obtain ⟨w1, w2⟩ := k0; subst w1; subst w2; exact Eq.trans (b := G341.1) rfl rfl else if k1 : q = 1 ∧ z = 4 then by obtain ⟨w1, w2⟩ := k1; subst w1; subst w2; exact Eq.trans (b := G341.2) rfl rfl else if k2 : q = 52 ∧ z = 2 then by obtain ⟨w1, w2⟩ := k2; subst w1; subst w2; exact Eq.trans (b := (F 52 2)) rfl rfl else by unfold uF; simp only [nb2 k0, nb2 k1, nb2 k2, cond_false]) rfl rfl K)
      · have h5 : 6 ≤ (F 52 2).toInt := h
        rw [if_neg (Int.not_lt.mpr h5)] at hE
        refine w_n 3 (pc1 := 35) (ls1 := [some (.ref 52), some (.int x1)]) (st1 := [.int 5, .ref 1]) (hp1 := (hz F A L)) rfl ?_
        refine w_c rfl rfl (t_kx_fail ?_)
        show wl_E f _ _ mm30.2.2.2.2.2.2.2.2 38 [some (.ref 52), some (.int x1)] [.int (kx_fail (F 1 3) (F 1 4) 5).1] (hz (uF F 1 4 (kx_fail (F 1 3) (F 1 4) 5).2) A L) _
        generalize hG342 : (kx_fail (F 1 3) (F 1 4) 5) = G342 at hE ⊢
        replace hE := hE.trans (lt_e _ _)
        refine w_n 4 (pc1 := 44) (ls1 := [some (.ref 52), some (.int x1)]) (st1 := [.int x1, .ref 1]) (hp1 := (hz (uF F 1 4 G342.2) A L)) rfl ?_
        refine w_c rfl rfl (t_kx_pass ?_)
        show wl_E f _ _ mm30.2.2.2.2.2.2.2.2 47 [some (.ref 52), some (.int x1)] [] (hz (uF (uF (uF F 1 4 G342.2) 1 3 (kx_pass (F 1 2) (F 1 3) G342.2 (A 2) x1).1) 1 4 (kx_pass (F 1 2) (F 1 3) G342.2 (A 2) x1).2) A L) _
        generalize hG343 : (kx_pass (F 1 2) (F 1 3) G342.2 (A 2) x1) = G343 at hE ⊢
        replace hE := hE.trans (lt_e _ _)
        refine w_n 3 (pc1 := 54) (ls1 := [some (.ref 52), some (.int x1)]) (st1 := [.int G343.2]) (hp1 := (hz (uF (uF (uF F 1 4 G342.2) 1 3 G343.1) 1 4 G343.2) A L)) rfl ?_
        refine w_zeq (p3 := 57) rfl rfl (fun h => ?_) (fun h => ?_)
        · have h7 : G343.2 = 0 := h
          rw [if_pos h7] at hE
          refine w_n 5 (pc1 := 66) (ls1 := [some (.ref 52), some (.int x1)]) (st1 := [.int ((F 52 2) + 1), .ref 52]) (hp1 := (hz (uF (uF (uF F 1 4 G342.2) 1 3 G343.1) 1 4 G343.2) A L)) rfl ?_
          refine w_pf (k := 52) (fs := hz_f52 (uF (uF (uF F 1 4 G342.2) 1 3 G343.1) 1 4 G343.2)) (hp1 := (hz (uF (uF (uF (uF F 1 4 G342.2) 1 3 G343.1) 1 4 G343.2) 52 2 ((F 52 2) + 1)) A L)) rfl rfl rfl (hz_p52_2 _) ?_
          refine w_n 1 (pc1 := 70) (ls1 := [some (.ref 52), some (.int x1)]) (st1 := [.int 1]) (hp1 := (hz (uF (uF (uF (uF F 1 4 G342.2) 1 3 G343.1) 1 4 G343.2) 52 2 ((F 52 2) + 1)) A L)) rfl ?_
          subst T
          exact w_ri rfl (cvQ (funext fun q => funext fun z => if k0 : q = 1 ∧ z = 3 then by obtain ⟨w1, w2⟩ := k0; subst w1; subst w2; exact Eq.trans (b := G343.1) rfl rfl else if k1 : q = 1 ∧ z = 4 then by obtain ⟨w1, w2⟩ := k1; subst w1; subst w2; exact Eq.trans (b := G343.2) rfl rfl else if k2 : q = 52 ∧ z = 2 then by obtain ⟨w1, w2⟩ := k2; subst w1; subst w2; exact Eq.trans (b := ((F 52 2) + 1)) rfl rfl else by unfold uF; simp only [nb2 k0, nb2 k1, nb2 k2, cond_false]) rfl rfl K)
        · have h7 : ¬ G343.2 = 0 := h
          rw [if_neg h7] at hE
          refine w_n 1 (pc1 := 58) (ls1 := [some (.ref 52), some (.int x1)]) (st1 := [.int 0]) (hp1 := (hz (uF (uF (uF F 1 4 G342.2) 1 3 G343.1) 1 4 G343.2) A L)) rfl ?_
          subst T
          exact w_ri rfl (cvQ (funext fun q => funext fun z => if k0 : q = 1 ∧ z = 3 then by obtain ⟨w1, w2⟩ := k0; subst w1; subst w2; exact Eq.trans (b := G343.1) rfl rfl else if k1 : q = 1 ∧ z = 4 then by obtain ⟨w1, w2⟩ := k1; subst w1; subst w2; exact Eq.trans (b := G343.2) rfl rfl else if k2 : q = 52 ∧ z = 2 then by obtain ⟨w1, w2⟩ := k2; subst w1; subst w2; exact Eq.trans (b := (F 52 2)) rfl rfl else by unfold uF; simp only [nb2 k0, nb2 k1, nb2 k2, cond_false]) rfl rfl K)
noncomputable def kr_readFactor (r : Int32 → Int32 → Int32 → Int32 → Int32 → List Int32 → List Int32 → List Int32 → (Int32 × Int32 × Int32 × Int32 × List Int32 × List Int32)) (f1_2 : Int32) (f1_3 : Int32) (f1_4 : Int32) (f52_2 : Int32) (f53_1 : Int32) (a2 : List Int32) (a58 : List Int32) (a59 : List Int32) : Int32 × Int32 × Int32 × Int32 × List Int32 × List Int32 := (if f1_4 = 0 then (lt (kx_sign f1_2 f1_3 a2) (fun g327 => (if g327 = 91 then (lt (kr_opens f1_2 f1_3 f1_4 f52_2 a2 91) (fun g344 => (if g344.1 = 0 then (g344.2.1, g344.2.2.1, g344.2.2.2, f53_1, a58, a59) else (lt (r f1_2 g344.2.1 g344.2.2.1 g344.2.2.2 f53_1 a2 a58 a59) (fun g345 => (lt (kx_pass f1_2 g345.1 g345.2.1 a2 93) (fun g346 => (g346.1, g346.2, (g345.2.2.1 - 1), g345.2.2.2.1, g345.2.2.2.2.1, g345.2.2.2.2.2)))))))) else (lt (kc_within g327 48 57) (fun g328 => (if g328 = 0 then (if g327 = (-1) then (lt (kx_fail f1_3 f1_4 1) (fun g331 => (f1_3, g331.2, f52_2, f53_1, a58, a59))) else (if (sx_ixF (g327.toUInt32 % 65536).toInt32 sx_b 0).toInt < 0 then (lt (kx_fail f1_3 f1_4 1) (fun g330 => (f1_3, g330.2, f52_2, f53_1, a58, a59))) else (lt (kl_add_53 f53_1 a58 a59 103 (sx_ixF (g327.toUInt32 % 65536).toInt32 sx_b 0)) (fun g329 => ((f1_3 + 1), f1_4, f52_2, g329.2.1, g329.2.2.1, g329.2.2.2))))) else (lt (kr_readNumber f1_2 f1_3 f1_4 f53_1 a2 a58 a59) (fun g337 => (g337.1, g337.2.1, f52_2, g337.2.2.1, g337.2.2.2.1, g337.2.2.2.2))))))))) else (f1_3, f1_4, f52_2, f53_1, a58, a59))
theorem t_kr_readFactor {f D : Nat} {n : Nat} {r : Int32 → Int32 → Int32 → Int32 → Int32 → List Int32 → List Int32 → List Int32 → (Int32 × Int32 × Int32 × Int32 × List Int32 × List Int32)} (hr : ∀ (D : Nat) {F : Nat → Nat → Int32} {A : Nat → List Int32} {L : Nat → List Int64} {Q : Option Value → sm_H → Prop}, D ≤ n → (Q none (hz (uF (uF (uF (uF F 1 3 ((r (F 1 2) (F 1 3) (F 1 4) (F 52 2) (F 53 1) (A 2) (A 58) (A 59)).1)) 1 4 ((r (F 1 2) (F 1 3) (F 1 4) (F 52 2) (F 53 1) (A 2) (A 58) (A 59)).2.1)) 52 2 ((r (F 1 2) (F 1 3) (F 1 4) (F 52 2) (F 53 1) (A 2) (A 58) (A 59)).2.2.1)) 53 1 ((r (F 1 2) (F 1 3) (F 1 4) (F 52 2) (F 53 1) (A 2) (A 58) (A 59)).2.2.2.1)) (uA (uA A 58 ((r (F 1 2) (F 1 3) (F 1 4) (F 52 2) (F 53 1) (A 2) (A 58) (A 59)).2.2.2.2.1)) 59 ((r (F 1 2) (F 1 3) (F 1 4) (F 52 2) (F 53 1) (A 2) (A 58) (A 59)).2.2.2.2.2)) L)) → wl_M f D 27 [.ref 52] (hz F A L) Q) (hnf : n ≤ f) {F : Nat → Nat → Int32} {A : Nat → List Int32} {L : Nat → List Int64} {Q : Option Value → sm_H → Prop} (hn : D ≤ n) (K : Q none (hz (uF (uF (uF (uF F 1 3 ((kr_readFactor r (F 1 2) (F 1 3) (F 1 4) (F 52 2) (F 53 1) (A 2) (A 58) (A 59)).1)) 1 4 ((kr_readFactor r (F 1 2) (F 1 3) (F 1 4) (F 52 2) (F 53 1) (A 2) (A 58) (A 59)).2.1)) 52 2 ((kr_readFactor r (F 1 2) (F 1 3) (F 1 4) (F 52 2) (F 53 1) (A 2) (A 58) (A 59)).2.2.1)) 53 1 ((kr_readFactor r (F 1 2) (F 1 3) (F 1 4) (F 52 2) (F 53 1) (A 2) (A 58) (A 59)).2.2.2.1)) (uA (uA A 58 ((kr_readFactor r (F 1 2) (F 1 3) (F 1 4) (F 52 2) (F 53 1) (A 2) (A 58) (A 59)).2.2.2.2.1)) 59 ((kr_readFactor r (F 1 2) (F 1 3) (F 1 4) (F 52 2) (F 53 1) (A 2) (A 58) (A 59)).2.2.2.2.2)) L)) : wl_M f D 29 [.ref 52] (hz F A L) Q := by
  generalize hT : (kr_readFactor r (F 1 2) (F 1 3) (F 1 4) (F 52 2) (F 53 1) (A 2) (A 58) (A 59)) = T at K
  have hE : T = (if (F 1 4) = 0 then (lt (kx_sign (F 1 2) (F 1 3) (A 2)) (fun g327 => (if g327 = 91 then (lt (kr_opens (F 1 2) (F 1 3) (F 1 4) (F 52 2) (A 2) 91) (fun g344 => (if g344.1 = 0 then (g344.2.1, g344.2.2.1, g344.2.2.2, (F 53 1), (A 58), (A 59)) else (lt (r (F 1 2) g344.2.1 g344.2.2.1 g344.2.2.2 (F 53 1) (A 2) (A 58) (A 59)) (fun g345 => (lt (kx_pass (F 1 2) g345.1 g345.2.1 (A 2) 93) (fun g346 => (g346.1, g346.2, (g345.2.2.1 - 1), g345.2.2.2.1, g345.2.2.2.2.1, g345.2.2.2.2.2)))))))) else (lt (kc_within g327 48 57) (fun g328 => (if g328 = 0 then (if g327 = (-1) then (lt (kx_fail (F 1 3) (F 1 4) 1) (fun g331 => ((F 1 3), g331.2, (F 52 2), (F 53 1), (A 58), (A 59)))) else (if (sx_ixF (g327.toUInt32 % 65536).toInt32 sx_b 0).toInt < 0 then (lt (kx_fail (F 1 3) (F 1 4) 1) (fun g330 => ((F 1 3), g330.2, (F 52 2), (F 53 1), (A 58), (A 59)))) else (lt (kl_add_53 (F 53 1) (A 58) (A 59) 103 (sx_ixF (g327.toUInt32 % 65536).toInt32 sx_b 0)) (fun g329 => (((F 1 3) + 1), (F 1 4), (F 52 2), g329.2.1, g329.2.2.1, g329.2.2.2))))) else (lt (kr_readNumber (F 1 2) (F 1 3) (F 1 4) (F 53 1) (A 2) (A 58) (A 59)) (fun g337 => (g337.1, g337.2.1, (F 52 2), g337.2.2.1, g337.2.2.2.1, g337.2.2.2.2))))))))) else ((F 1 3), (F 1 4), (F 52 2), (F 53 1), (A 58), (A 59))) := hT.symm
  clear hT
  refine w_m (E := mm29) rfl ?_
  show wl_E f f (D - 1) mm29.2.2.2.2.2.2.2.2 0 [some (.ref 52), none, none] [] (hz F A L) Q
  refine w_n 3 (pc1 := 7) (ls1 := [some (.ref 52), none, none]) (st1 := [.int (F 1 4)]) (hp1 := (hz F A L)) rfl ?_
  refine w_zeq (p3 := 10) rfl rfl (fun h => ?_) (fun h => ?_)
  · have h1 : (F 1 4) = 0 := h
    rw [if_pos h1] at hE
    refine w_n 2 (pc1 := 15) (ls1 := [some (.ref 52), none, none]) (st1 := [.ref 1]) (hp1 := (hz F A L)) rfl ?_
    refine w_c rfl rfl (t_kx_sign ?_)
    show wl_E f _ _ mm29.2.2.2.2.2.2.2.2 18 [some (.ref 52), none, none] [.int (kx_sign (F 1 2) (F 1 3) (A 2))] (hz F A L) _
    generalize hG327 : (kx_sign (F 1 2) (F 1 3) (A 2)) = G327 at hE ⊢
    replace hE := hE.trans (lt_e _ _)
    refine w_n 3 (pc1 := 22) (ls1 := [some (.ref 52), some (.int G327), none]) (st1 := [.int 91, .int G327]) (hp1 := (hz F A L)) rfl ?_
    refine w_ne (p3 := 25) rfl rfl (fun h => ?_) (fun h => ?_)
    · have h2 : ¬ G327 = 91 := h
      rw [if_neg h2] at hE
      refine w_n 3 (pc1 := 66) (ls1 := [some (.ref 52), some (.int G327), none]) (st1 := [.int 57, .int 48, .int G327]) (hp1 := (hz F A L)) rfl ?_
      refine w_c rfl rfl (t_kc_within ?_)
      show wl_E f _ _ mm29.2.2.2.2.2.2.2.2 69 [some (.ref 52), some (.int G327), none] [.int (kc_within G327 48 57)] (hz F A L) _
      generalize hG328 : (kc_within G327 48 57) = G328 at hE ⊢
      replace hE := hE.trans (lt_e _ _)
      refine w_zeq (p3 := 72) rfl rfl (fun h => ?_) (fun h => ?_)
      · have h3 : G328 = 0 := h
        rw [if_pos h3] at hE
        refine w_n 2 (pc1 := 81) (ls1 := [some (.ref 52), some (.int G327), none]) (st1 := [.int (-1), .int G327]) (hp1 := (hz F A L)) rfl ?_
        refine w_ne (p3 := 84) rfl rfl (fun h => ?_) (fun h => ?_)
        · have h4 : ¬ G327 = (-1) := h
          rw [if_neg h4] at hE
          refine w_io (x := G327) rfl rfl rfl ?_
          refine w_n 2 (pc1 := 97) (ls1 := [some (.ref 52), some (.int G327), some (.int (sx_ixF (G327.toUInt32 % 65536).toInt32 sx_b 0))]) (st1 := [.int (sx_ixF (G327.toUInt32 % 65536).toInt32 sx_b 0)]) (hp1 := (hz F A L)) rfl ?_
          refine w_zge (p3 := 100) rfl rfl (fun h => ?_) (fun h => ?_)
          · have h5 : 0 ≤ (sx_ixF (G327.toUInt32 % 65536).toInt32 sx_b 0).toInt := h
            rw [if_neg (Int.not_lt.mpr h5)] at hE
            refine w_n 6 (pc1 := 120) (ls1 := [some (.ref 52), some (.int G327), some (.int (sx_ixF (G327.toUInt32 % 65536).toInt32 sx_b 0))]) (st1 := [.int ((F 1 3) + 1), .ref 1]) (hp1 := (hz F A L)) rfl ?_
            refine w_pf (k := 1) (fs := hz_f1 F) (hp1 := (hz (uF F 1 3 ((F 1 3) + 1)) A L)) rfl rfl rfl (hz_p1_3 _) ?_
            refine w_n 4 (pc1 := 130) (ls1 := [some (.ref 52), some (.int G327), some (.int (sx_ixF (G327.toUInt32 % 65536).toInt32 sx_b 0))]) (st1 := [.int (sx_ixF (G327.toUInt32 % 65536).toInt32 sx_b 0), .int 103, .ref 53]) (hp1 := (hz (uF F 1 3 ((F 1 3) + 1)) A L)) rfl ?_
            refine w_c rfl rfl (t_kl_add_53 ?_)
            show wl_E f _ _ mm29.2.2.2.2.2.2.2.2 133 [some (.ref 52), some (.int G327), some (.int (sx_ixF (G327.toUInt32 % 65536).toInt32 sx_b 0))] [.int (kl_add_53 (F 53 1) (A 58) (A 59) 103 (sx_ixF (G327.toUInt32 % 65536).toInt32 sx_b 0)).1] (hz (uF (uF F 1 3 ((F 1 3) + 1)) 53 1 (kl_add_53 (F 53 1) (A 58) (A 59) 103 (sx_ixF (G327.toUInt32 % 65536).toInt32 sx_b 0)).2.1) (uA (uA A 58 (kl_add_53 (F 53 1) (A 58) (A 59) 103 (sx_ixF (G327.toUInt32 % 65536).toInt32 sx_b 0)).2.2.1) 59 (kl_add_53 (F 53 1) (A 58) (A 59) 103 (sx_ixF (G327.toUInt32 % 65536).toInt32 sx_b 0)).2.2.2) L) _
            generalize hG329 : (kl_add_53 (F 53 1) (A 58) (A 59) 103 (sx_ixF (G327.toUInt32 % 65536).toInt32 sx_b 0)) = G329 at hE ⊢
            replace hE := hE.trans (lt_e _ _)
            refine w_n 1 (pc1 := 134) (ls1 := [some (.ref 52), some (.int G327), some (.int (sx_ixF (G327.toUInt32 % 65536).toInt32 sx_b 0))]) (st1 := []) (hp1 := (hz (uF (uF F 1 3 ((F 1 3) + 1)) 53 1 G329.2.1) (uA (uA A 58 G329.2.2.1) 59 G329.2.2.2) L)) rfl ?_
            subst T
            exact w_r rfl rfl (cvQ (funext fun q => funext fun z => if k0 : q = 1 ∧ z = 3 then by obtain ⟨w1, w2⟩ := k0; subst w1; subst w2; exact Eq.trans (b := ((F 1 3) + 1)) rfl rfl else if k1 : q = 1 ∧ z = 4 then by obtain ⟨w1, w2⟩ := k1; subst w1; subst w2; exact Eq.trans (b := (F 1 4)) rfl rfl else if k2 : q = 52 ∧ z = 2 then by obtain ⟨w1, w2⟩ := k2; subst w1; subst w2; exact Eq.trans (b := (F 52 2)) rfl rfl else if k3 : q = 53 ∧ z = 1 then by obtain ⟨w1, w2⟩ := k3; subst w1; subst w2; exact Eq.trans (b := G329.2.1) rfl rfl else by unfold uF; simp only [nb2 k0, nb2 k1, nb2 k2, nb2 k3, cond_false]) rfl rfl K)
          · have h5 : (sx_ixF (G327.toUInt32 % 65536).toInt32 sx_b 0).toInt < 0 := h
            rw [if_pos h5] at hE
            refine w_n 3 (pc1 := 105) (ls1 := [some (.ref 52), some (.int G327), some (.int (sx_ixF (G327.toUInt32 % 65536).toInt32 sx_b 0))]) (st1 := [.int 1, .ref 1]) (hp1 := (hz F A L)) rfl ?_
            refine w_c rfl rfl (t_kx_fail ?_)
            show wl_E f _ _ mm29.2.2.2.2.2.2.2.2 108 [some (.ref 52), some (.int G327), some (.int (sx_ixF (G327.toUInt32 % 65536).toInt32 sx_b 0))] [.int (kx_fail (F 1 3) (F 1 4) 1).1] (hz (uF F 1 4 (kx_fail (F 1 3) (F 1 4) 1).2) A L) _
            generalize hG330 : (kx_fail (F 1 3) (F 1 4) 1) = G330 at hE ⊢
            replace hE := hE.trans (lt_e _ _)
            refine w_n 1 (pc1 := 109) (ls1 := [some (.ref 52), some (.int G327), some (.int (sx_ixF (G327.toUInt32 % 65536).toInt32 sx_b 0))]) (st1 := []) (hp1 := (hz (uF F 1 4 G330.2) A L)) rfl ?_
            subst T
            exact w_r rfl rfl (cvQ (funext fun q => funext fun z => if k0 : q = 1 ∧ z = 3 then by obtain ⟨w1, w2⟩ := k0; subst w1; subst w2; exact Eq.trans (b := (F 1 3)) rfl rfl else if k1 : q = 1 ∧ z = 4 then by obtain ⟨w1, w2⟩ := k1; subst w1; subst w2; exact Eq.trans (b := G330.2) rfl rfl else if k2 : q = 52 ∧ z = 2 then by obtain ⟨w1, w2⟩ := k2; subst w1; subst w2; exact Eq.trans (b := (F 52 2)) rfl rfl else if k3 : q = 53 ∧ z = 1 then by obtain ⟨w1, w2⟩ := k3; subst w1; subst w2; exact Eq.trans (b := (F 53 1)) rfl rfl else by unfold uF; simp only [nb2 k0, nb2 k1, nb2 k2, nb2 k3, cond_false]) (funext fun q => if k0 : q = 58 then by subst k0; exact Eq.trans (b := (A 58)) rfl rfl else if k1 : q = 59 then by subst k1; exact Eq.trans (b := (A 59)) rfl rfl else by unfold uA; simp only [nb1 k0, nb1 k1, cond_false]) rfl K)
        · have h4 : G327 = (-1) := h
          rw [if_pos h4] at hE
          refine w_n 4 (pc1 := 97) (ls1 := [some (.ref 52), some (.int G327), some (.int (-1))]) (st1 := [.int (-1)]) (hp1 := (hz F A L)) rfl ?_
          refine w_zge (p3 := 100) rfl rfl (fun h => absurd h (by decide)) (fun _ => ?_)
          refine w_n 3 (pc1 := 105) (ls1 := [some (.ref 52), some (.int G327), some (.int (-1))]) (st1 := [.int 1, .ref 1]) (hp1 := (hz F A L)) rfl ?_
          refine w_c rfl rfl (t_kx_fail ?_)
          show wl_E f _ _ mm29.2.2.2.2.2.2.2.2 108 [some (.ref 52), some (.int G327), some (.int (-1))] [.int (kx_fail (F 1 3) (F 1 4) 1).1] (hz (uF F 1 4 (kx_fail (F 1 3) (F 1 4) 1).2) A L) _
          generalize hG331 : (kx_fail (F 1 3) (F 1 4) 1) = G331 at hE ⊢
          replace hE := hE.trans (lt_e _ _)
          refine w_n 1 (pc1 := 109) (ls1 := [some (.ref 52), some (.int G327), some (.int (-1))]) (st1 := []) (hp1 := (hz (uF F 1 4 G331.2) A L)) rfl ?_
          subst T
          exact w_r rfl rfl (cvQ (funext fun q => funext fun z => if k0 : q = 1 ∧ z = 3 then by obtain ⟨w1, w2⟩ := k0; subst w1; subst w2; exact Eq.trans (b := (F 1 3)) rfl rfl else if k1 : q = 1 ∧ z = 4 then by obtain ⟨w1, w2⟩ := k1; subst w1; subst w2; exact Eq.trans (b := G331.2) rfl rfl else if k2 : q = 52 ∧ z = 2 then by obtain ⟨w1, w2⟩ := k2; subst w1; subst w2; exact Eq.trans (b := (F 52 2)) rfl rfl else if k3 : q = 53 ∧ z = 1 then by obtain ⟨w1, w2⟩ := k3; subst w1; subst w2; exact Eq.trans (b := (F 53 1)) rfl rfl else by unfold uF; simp only [nb2 k0, nb2 k1, nb2 k2, nb2 k3, cond_false]) (funext fun q => if k0 : q = 58 then by subst k0; exact Eq.trans (b := (A 58)) rfl rfl else if k1 : q = 59 then by subst k1; exact Eq.trans (b := (A 59)) rfl rfl else by unfold uA; simp only [nb1 k0, nb1 k1, cond_false]) rfl K)
      · have h3 : ¬ G328 = 0 := h
        rw [if_neg h3] at hE
        refine w_n 1 (pc1 := 73) (ls1 := [some (.ref 52), some (.int G327), none]) (st1 := [.ref 52]) (hp1 := (hz F A L)) rfl ?_
        refine w_c rfl rfl (t_kr_readNumber ?_)
        show wl_E f _ _ mm29.2.2.2.2.2.2.2.2 76 [some (.ref 52), some (.int G327), none] [] (hz (uF (uF (uF F 1 3 (kr_readNumber (F 1 2) (F 1 3) (F 1 4) (F 53 1) (A 2) (A 58) (A 59)).1) 1 4 (kr_readNumber (F 1 2) (F 1 3) (F 1 4) (F 53 1) (A 2) (A 58) (A 59)).2.1) 53 1 (kr_readNumber (F 1 2) (F 1 3) (F 1 4) (F 53 1) (A 2) (A 58) (A 59)).2.2.1) (uA (uA A 58 (kr_readNumber (F 1 2) (F 1 3) (F 1 4) (F 53 1) (A 2) (A 58) (A 59)).2.2.2.1) 59 (kr_readNumber (F 1 2) (F 1 3) (F 1 4) (F 53 1) (A 2) (A 58) (A 59)).2.2.2.2) L) _
        generalize hG337 : (kr_readNumber (F 1 2) (F 1 3) (F 1 4) (F 53 1) (A 2) (A 58) (A 59)) = G337 at hE ⊢
        replace hE := hE.trans (lt_e _ _)
        refine w_n 1 (pc1 := 134) (ls1 := [some (.ref 52), some (.int G327), none]) (st1 := []) (hp1 := (hz (uF (uF (uF F 1 3 G337.1) 1 4 G337.2.1) 53 1 G337.2.2.1) (uA (uA A 58 G337.2.2.2.1) 59 G337.2.2.2.2) L)) rfl ?_
        subst T
        exact w_r rfl rfl (cvQ (funext fun q => funext fun z => if k0 : q = 1 ∧ z = 3 then by obtain ⟨w1, w2⟩ := k0; subst w1; subst w2; exact Eq.trans (b := G337.1) rfl rfl else if k1 : q = 1 ∧ z = 4 then by obtain ⟨w1, w2⟩ := k1; subst w1; subst w2; exact Eq.trans (b := G337.2.1) rfl rfl else if k2 : q = 52 ∧ z = 2 then by obtain ⟨w1, w2⟩ := k2; subst w1; subst w2; exact Eq.trans (b := (F 52 2)) rfl rfl else if k3 : q = 53 ∧ z = 1 then by obtain ⟨w1, w2⟩ := k3; subst w1; subst w2; exact Eq.trans (b := G337.2.2.1) rfl rfl else by unfold uF; simp only [nb2 k0, nb2 k1, nb2 k2, nb2 k3, cond_false]) rfl rfl K)
    · have h2 : G327 = 91 := h
      rw [if_pos h2] at hE
      refine w_n 2 (pc1 := 28) (ls1 := [some (.ref 52), some (.int G327), none]) (st1 := [.int 91, .ref 52]) (hp1 := (hz F A L)) rfl ?_
      refine w_c rfl rfl (t_kr_opens ?_)
      show wl_E f _ _ mm29.2.2.2.2.2.2.2.2 31 [some (.ref 52), some (.int G327), none] [.int (kr_opens (F 1 2) (F 1 3) (F 1 4) (F 52 2) (A 2) 91).1] (hz (uF (uF (uF F 1 3 (kr_opens (F 1 2) (F 1 3) (F 1 4) (F 52 2) (A 2) 91).2.1) 1 4 (kr_opens (F 1 2) (F 1 3) (F 1 4) (F 52 2) (A 2) 91).2.2.1) 52 2 (kr_opens (F 1 2) (F 1 3) (F 1 4) (F 52 2) (A 2) 91).2.2.2) A L) _
      generalize hG344 : (kr_opens (F 1 2) (F 1 3) (F 1 4) (F 52 2) (A 2) 91) = G344 at hE ⊢
      replace hE := hE.trans (lt_e _ _)
      refine w_zne (p3 := 34) rfl rfl (fun h => ?_) (fun h => ?_)
      · have h6 : ¬ G344.1 = 0 := h
        rw [if_neg h6] at hE
        refine w_n 1 (pc1 := 36) (ls1 := [some (.ref 52), some (.int G327), none]) (st1 := [.ref 52]) (hp1 := (hz (uF (uF (uF F 1 3 G344.2.1) 1 4 G344.2.2.1) 52 2 G344.2.2.2) A L)) rfl ?_
        refine w_c rfl rfl (hr _ (by omega) ?_)
        show wl_E f _ _ mm29.2.2.2.2.2.2.2.2 39 [some (.ref 52), some (.int G327), none] [] (hz (uF (uF (uF (uF (uF (uF (uF F 1 3 G344.2.1) 1 4 G344.2.2.1) 52 2 G344.2.2.2) 1 3 (r (F 1 2) G344.2.1 G344.2.2.1 G344.2.2.2 (F 53 1) (A 2) (A 58) (A 59)).1) 1 4 (r (F 1 2) G344.2.1 G344.2.2.1 G344.2.2.2 (F 53 1) (A 2) (A 58) (A 59)).2.1) 52 2 (r (F 1 2) G344.2.1 G344.2.2.1 G344.2.2.2 (F 53 1) (A 2) (A 58) (A 59)).2.2.1) 53 1 (r (F 1 2) G344.2.1 G344.2.2.1 G344.2.2.2 (F 53 1) (A 2) (A 58) (A 59)).2.2.2.1) (uA (uA A 58 (r (F 1 2) G344.2.1 G344.2.2.1 G344.2.2.2 (F 53 1) (A 2) (A 58) (A 59)).2.2.2.2.1) 59 (r (F 1 2) G344.2.1 G344.2.2.1 G344.2.2.2 (F 53 1) (A 2) (A 58) (A 59)).2.2.2.2.2) L) _
        generalize hG345 : (r (F 1 2) G344.2.1 G344.2.2.1 G344.2.2.2 (F 53 1) (A 2) (A 58) (A 59)) = G345 at hE ⊢
        replace hE := hE.trans (lt_e _ _)
        refine w_n 3 (pc1 := 45) (ls1 := [some (.ref 52), some (.int G327), none]) (st1 := [.int 93, .ref 1]) (hp1 := (hz (uF (uF (uF (uF (uF (uF (uF F 1 3 G344.2.1) 1 4 G344.2.2.1) 52 2 G344.2.2.2) 1 3 G345.1) 1 4 G345.2.1) 52 2 G345.2.2.1) 53 1 G345.2.2.2.1) (uA (uA A 58 G345.2.2.2.2.1) 59 G345.2.2.2.2.2) L)) rfl ?_
        refine w_c rfl rfl (t_kx_pass ?_)
        show wl_E f _ _ mm29.2.2.2.2.2.2.2.2 48 [some (.ref 52), some (.int G327), none] [] (hz (uF (uF (uF (uF (uF (uF (uF (uF (uF F 1 3 G344.2.1) 1 4 G344.2.2.1) 52 2 G344.2.2.2) 1 3 G345.1) 1 4 G345.2.1) 52 2 G345.2.2.1) 53 1 G345.2.2.2.1) 1 3 (kx_pass (F 1 2) G345.1 G345.2.1 (A 2) 93).1) 1 4 (kx_pass (F 1 2) G345.1 G345.2.1 (A 2) 93).2) (uA (uA A 58 G345.2.2.2.2.1) 59 G345.2.2.2.2.2) L) _
        generalize hG346 : (kx_pass (F 1 2) G345.1 G345.2.1 (A 2) 93) = G346 at hE ⊢
        replace hE := hE.trans (lt_e _ _)
        refine w_n 5 (pc1 := 55) (ls1 := [some (.ref 52), some (.int G327), none]) (st1 := [.int (G345.2.2.1 - 1), .ref 52]) (hp1 := (hz (uF (uF (uF (uF (uF (uF (uF (uF (uF F 1 3 G344.2.1) 1 4 G344.2.2.1) 52 2 G344.2.2.2) 1 3 G345.1) 1 4 G345.2.1) 52 2 G345.2.2.1) 53 1 G345.2.2.2.1) 1 3 G346.1) 1 4 G346.2) (uA (uA A 58 G345.2.2.2.2.1) 59 G345.2.2.2.2.2) L)) rfl ?_
        refine w_pf (k := 52) (fs := hz_f52 (uF (uF (uF (uF (uF (uF (uF (uF (uF F 1 3 G344.2.1) 1 4 G344.2.2.1) 52 2 G344.2.2.2) 1 3 G345.1) 1 4 G345.2.1) 52 2 G345.2.2.1) 53 1 G345.2.2.2.1) 1 3 G346.1) 1 4 G346.2)) (hp1 := (hz (uF (uF (uF (uF (uF (uF (uF (uF (uF (uF F 1 3 G344.2.1) 1 4 G344.2.2.1) 52 2 G344.2.2.2) 1 3 G345.1) 1 4 G345.2.1) 52 2 G345.2.2.1) 53 1 G345.2.2.2.1) 1 3 G346.1) 1 4 G346.2) 52 2 (G345.2.2.1 - 1)) (uA (uA A 58 G345.2.2.2.2.1) 59 G345.2.2.2.2.2) L)) rfl rfl rfl (hz_p52_2 _) ?_
        refine w_n 1 (pc1 := 134) (ls1 := [some (.ref 52), some (.int G327), none]) (st1 := []) (hp1 := (hz (uF (uF (uF (uF (uF (uF (uF (uF (uF (uF F 1 3 G344.2.1) 1 4 G344.2.2.1) 52 2 G344.2.2.2) 1 3 G345.1) 1 4 G345.2.1) 52 2 G345.2.2.1) 53 1 G345.2.2.2.1) 1 3 G346.1) 1 4 G346.2) 52 2 (G345.2.2.1 - 1)) (uA (uA A 58 G345.2.2.2.2.1) 59 G345.2.2.2.2.2) L)) rfl ?_
        subst T
        exact w_r rfl rfl (cvQ (funext fun q => funext fun z => if k0 : q = 1 ∧ z = 3 then by obtain ⟨w1, w2⟩ := k0; subst w1; subst w2; exact Eq.trans (b := G346.1) rfl rfl else if k1 : q = 1 ∧ z = 4 then by obtain ⟨w1, w2⟩ := k1; subst w1; subst w2; exact Eq.trans (b := G346.2) rfl rfl else if k2 : q = 52 ∧ z = 2 then by obtain ⟨w1, w2⟩ := k2; subst w1; subst w2; exact Eq.trans (b := (G345.2.2.1 - 1)) rfl rfl else if k3 : q = 53 ∧ z = 1 then by obtain ⟨w1, w2⟩ := k3; subst w1; subst w2; exact Eq.trans (b := G345.2.2.2.1) rfl rfl else by unfold uF; simp only [nb2 k0, nb2 k1, nb2 k2, nb2 k3, cond_false]) rfl rfl K)
      · have h6 : G344.1 = 0 := h
        rw [if_pos h6] at hE
        subst T
        exact w_r rfl rfl (cvQ (funext fun q => funext fun z => if k0 : q = 1 ∧ z = 3 then by obtain ⟨w1, w2⟩ := k0; subst w1; subst w2; exact Eq.trans (b := G344.2.1) rfl rfl else if k1 : q = 1 ∧ z = 4 then by obtain ⟨w1, w2⟩ := k1; subst w1; subst w2; exact Eq.trans (b := G344.2.2.1) rfl rfl else if k2 : q = 52 ∧ z = 2 then by obtain ⟨w1, w2⟩ := k2; subst w1; subst w2; exact Eq.trans (b := G344.2.2.2) rfl rfl else if k3 : q = 53 ∧ z = 1 then by obtain ⟨w1, w2⟩ := k3; subst w1; subst w2; exact Eq.trans (b := (F 53 1)) rfl rfl else by unfold uF; simp only [nb2 k0, nb2 k1, nb2 k2, nb2 k3, cond_false]) (funext fun q => if k0 : q = 58 then by subst k0; exact Eq.trans (b := (A 58)) rfl rfl else if k1 : q = 59 then by subst k1; exact Eq.trans (b := (A 59)) rfl rfl else by unfold uA; simp only [nb1 k0, nb1 k1, cond_false]) rfl K)
  · have h1 : ¬ (F 1 4) = 0 := h
    rw [if_neg h1] at hE
    subst T
    exact w_r rfl rfl (cvQ (funext fun q => funext fun z => if k0 : q = 1 ∧ z = 3 then by obtain ⟨w1, w2⟩ := k0; subst w1; subst w2; exact Eq.trans (b := (F 1 3)) rfl rfl else if k1 : q = 1 ∧ z = 4 then by obtain ⟨w1, w2⟩ := k1; subst w1; subst w2; exact Eq.trans (b := (F 1 4)) rfl rfl else if k2 : q = 52 ∧ z = 2 then by obtain ⟨w1, w2⟩ := k2; subst w1; subst w2; exact Eq.trans (b := (F 52 2)) rfl rfl else if k3 : q = 53 ∧ z = 1 then by obtain ⟨w1, w2⟩ := k3; subst w1; subst w2; exact Eq.trans (b := (F 53 1)) rfl rfl else by unfold uF; simp only [nb2 k0, nb2 k1, nb2 k2, nb2 k3, cond_false]) (funext fun q => if k0 : q = 58 then by subst k0; exact Eq.trans (b := (A 58)) rfl rfl else if k1 : q = 59 then by subst k1; exact Eq.trans (b := (A 59)) rfl rfl else by unfold uA; simp only [nb1 k0, nb1 k1, cond_false]) rfl K)
noncomputable def kr_readProduct_6 (r : Int32 → Int32 → Int32 → Int32 → Int32 → List Int32 → List Int32 → List Int32 → (Int32 × Int32 × Int32 × Int32 × List Int32 × List Int32)) (f1_2 : Int32) (a2 : List Int32)  : Nat → Int32 → Int32 → Int32 → Int32 → Int32 → List Int32 → List Int32 → Int32 × Int32 × Int32 × Int32 × List Int32 × List Int32
  | 0, _, f1_3, f1_4, f52_2, f53_1, a58, a59 => (f1_3, f1_4, f52_2, f53_1, a58, a59)
  | m + 1, y1, f1_3, f1_4, f52_2, f53_1, a58, a59 => (lt (kx_stands f1_2 f1_3 f1_4 a2 42 47) (fun g348 => (if g348 = 0 then (lt (kx_stands f1_2 f1_3 f1_4 a2 37 37) (fun g352 => (if g352 = 0 then (f1_3, f1_4, f52_2, f53_1, a58, a59) else (lt (kx_sign f1_2 f1_3 a2) (fun g353 => (lt (kr_readFactor r f1_2 (f1_3 + 1) f1_4 f52_2 f53_1 a2 a58 a59) (fun g354 => (lt (kl_add_53 g354.2.2.2.1 g354.2.2.2.2.1 g354.2.2.2.2.2 g353 0) (fun g355 => (kr_readProduct_6 r f1_2 a2 m (y1 + 1) g354.1 g354.2.1 g354.2.2.1 g355.2.1 g355.2.2.1 g355.2.2.2)))))))))) else (lt (kx_sign f1_2 f1_3 a2) (fun g349 => (lt (kr_readFactor r f1_2 (f1_3 + 1) f1_4 f52_2 f53_1 a2 a58 a59) (fun g350 => (lt (kl_add_53 g350.2.2.2.1 g350.2.2.2.2.1 g350.2.2.2.2.2 g349 0) (fun g351 => (kr_readProduct_6 r f1_2 a2 m (y1 + 1) g350.1 g350.2.1 g350.2.2.1 g351.2.1 g351.2.2.1 g351.2.2.2))))))))))
theorem t_kr_readProduct_6 {f : Nat} {n : Nat} {r : Int32 → Int32 → Int32 → Int32 → Int32 → List Int32 → List Int32 → List Int32 → (Int32 × Int32 × Int32 × Int32 × List Int32 × List Int32)} (hr : ∀ (D : Nat) {F : Nat → Nat → Int32} {A : Nat → List Int32} {L : Nat → List Int64} {Q : Option Value → sm_H → Prop}, D ≤ n → (Q none (hz (uF (uF (uF (uF F 1 3 ((r (F 1 2) (F 1 3) (F 1 4) (F 52 2) (F 53 1) (A 2) (A 58) (A 59)).1)) 1 4 ((r (F 1 2) (F 1 3) (F 1 4) (F 52 2) (F 53 1) (A 2) (A 58) (A 59)).2.1)) 52 2 ((r (F 1 2) (F 1 3) (F 1 4) (F 52 2) (F 53 1) (A 2) (A 58) (A 59)).2.2.1)) 53 1 ((r (F 1 2) (F 1 3) (F 1 4) (F 52 2) (F 53 1) (A 2) (A 58) (A 59)).2.2.2.1)) (uA (uA A 58 ((r (F 1 2) (F 1 3) (F 1 4) (F 52 2) (F 53 1) (A 2) (A 58) (A 59)).2.2.2.2.1)) 59 ((r (F 1 2) (F 1 3) (F 1 4) (F 52 2) (F 53 1) (A 2) (A 58) (A 59)).2.2.2.2.2)) L)) → wl_M f D 27 [.ref 52] (hz F A L) Q) (hnf : n ≤ f) {Q : Option Value → sm_H → Prop} : ∀ (m : Nat) {B D : Nat} {F : Nat → Nat → Int32} {A : Nat → List Int32} {L : Nat → List Int64} {y1 : Int32} {o2 : Option Value}, m = (240 - y1.toInt).toNat → (_ : D ≤ n) → (∀ q1 : Int32, ∀ q2 : Option Value, wl_E f B D mm28.2.2.2.2.2.2.2.2 82 [some (.ref 52), some (.int q1), q2] [] (hz (uF (uF (uF (uF F 1 3 ((kr_readProduct_6 r (F 1 2) (A 2) m y1 (F 1 3) (F 1 4) (F 52 2) (F 53 1) (A 58) (A 59)).1)) 1 4 ((kr_readProduct_6 r (F 1 2) (A 2) m y1 (F 1 3) (F 1 4) (F 52 2) (F 53 1) (A 58) (A 59)).2.1)) 52 2 ((kr_readProduct_6 r (F 1 2) (A 2) m y1 (F 1 3) (F 1 4) (F 52 2) (F 53 1) (A 58) (A 59)).2.2.1)) 53 1 ((kr_readProduct_6 r (F 1 2) (A 2) m y1 (F 1 3) (F 1 4) (F 52 2) (F 53 1) (A 58) (A 59)).2.2.2.1)) (uA (uA A 58 ((kr_readProduct_6 r (F 1 2) (A 2) m y1 (F 1 3) (F 1 4) (F 52 2) (F 53 1) (A 58) (A 59)).2.2.2.2.1)) 59 ((kr_readProduct_6 r (F 1 2) (A 2) m y1 (F 1 3) (F 1 4) (F 52 2) (F 53 1) (A 58) (A 59)).2.2.2.2.2)) L) Q) → wl_E f B D mm28.2.2.2.2.2.2.2.2 6 [some (.ref 52), some (.int y1), o2] [] (hz F A L) Q := by
  intro m
  induction m with
  | zero =>
    intro B D F A L y1 o2 hm hn K
    generalize hT : (kr_readProduct_6 r (F 1 2) (A 2) 0 y1 (F 1 3) (F 1 4) (F 52 2) (F 53 1) (A 58) (A 59)) = T at K
    have hE : T = ((F 1 3), (F 1 4), (F 52 2), (F 53 1), (A 58), (A 59)) := hT.symm
    clear hT
    refine w_n 2 (pc1 := 10) (ls1 := [some (.ref 52), some (.int y1), o2]) (st1 := [.int 240, .int y1]) (hp1 := (hz F A L)) rfl ?_
    refine w_ge (p3 := 13) rfl rfl (fun hb => ?_) (fun h => False.elim (by have h : y1.toInt < 240 := h; omega))
    subst T
    exact cvE (funext fun q => funext fun z => if k0 : q = 1 ∧ z = 3 then by obtain ⟨w1, w2⟩ := k0; subst w1; subst w2; exact Eq.trans (b := (F 1 3)) rfl rfl else if k1 : q = 1 ∧ z = 4 then by obtain ⟨w1, w2⟩ := k1; subst w1; subst w2; exact Eq.trans (b := (F 1 4)) rfl rfl else if k2 : q = 52 ∧ z = 2 then by obtain ⟨w1, w2⟩ := k2; subst w1; subst w2; exact Eq.trans (b := (F 52 2)) rfl rfl else if k3 : q = 53 ∧ z = 1 then by obtain ⟨w1, w2⟩ := k3; subst w1; subst w2; exact Eq.trans (b := (F 53 1)) rfl rfl else by unfold uF; simp only [nb2 k0, nb2 k1, nb2 k2, nb2 k3, cond_false]) (funext fun q => if k0 : q = 58 then by subst k0; exact Eq.trans (b := (A 58)) rfl rfl else if k1 : q = 59 then by subst k1; exact Eq.trans (b := (A 59)) rfl rfl else by unfold uA; simp only [nb1 k0, nb1 k1, cond_false]) rfl (K _ _)
  | succ m ih =>
    intro B D F A L y1 o2 hm hn K
    generalize hT : (kr_readProduct_6 r (F 1 2) (A 2) (m + 1) y1 (F 1 3) (F 1 4) (F 52 2) (F 53 1) (A 58) (A 59)) = T at K
    have hE : T = (lt (kx_stands (F 1 2) (F 1 3) (F 1 4) (A 2) 42 47) (fun g348 => (if g348 = 0 then (lt (kx_stands (F 1 2) (F 1 3) (F 1 4) (A 2) 37 37) (fun g352 => (if g352 = 0 then ((F 1 3), (F 1 4), (F 52 2), (F 53 1), (A 58), (A 59)) else (lt (kx_sign (F 1 2) (F 1 3) (A 2)) (fun g353 => (lt (kr_readFactor r (F 1 2) ((F 1 3) + 1) (F 1 4) (F 52 2) (F 53 1) (A 2) (A 58) (A 59)) (fun g354 => (lt (kl_add_53 g354.2.2.2.1 g354.2.2.2.2.1 g354.2.2.2.2.2 g353 0) (fun g355 => (kr_readProduct_6 r (F 1 2) (A 2) m (y1 + 1) g354.1 g354.2.1 g354.2.2.1 g355.2.1 g355.2.2.1 g355.2.2.2)))))))))) else (lt (kx_sign (F 1 2) (F 1 3) (A 2)) (fun g349 => (lt (kr_readFactor r (F 1 2) ((F 1 3) + 1) (F 1 4) (F 52 2) (F 53 1) (A 2) (A 58) (A 59)) (fun g350 => (lt (kl_add_53 g350.2.2.2.1 g350.2.2.2.2.1 g350.2.2.2.2.2 g349 0) (fun g351 => (kr_readProduct_6 r (F 1 2) (A 2) m (y1 + 1) g350.1 g350.2.1 g350.2.2.1 g351.2.1 g351.2.2.1 g351.2.2.2)))))))))) := hT.symm
    clear hT
    refine w_n 2 (pc1 := 10) (ls1 := [some (.ref 52), some (.int y1), o2]) (st1 := [.int 240, .int y1]) (hp1 := (hz F A L)) rfl ?_
    refine w_ge (p3 := 13) rfl rfl (fun h => False.elim (by have h : 240 ≤ y1.toInt := h; omega)) (fun hb => ?_)
    refine w_n 4 (pc1 := 21) (ls1 := [some (.ref 52), some (.int y1), o2]) (st1 := [.int 47, .int 42, .ref 1]) (hp1 := (hz F A L)) rfl ?_
    refine w_c rfl rfl (t_kx_stands ?_)
    show wl_E f _ _ mm28.2.2.2.2.2.2.2.2 24 [some (.ref 52), some (.int y1), o2] [.int (kx_stands (F 1 2) (F 1 3) (F 1 4) (A 2) 42 47)] (hz F A L) _
    generalize hG348 : (kx_stands (F 1 2) (F 1 3) (F 1 4) (A 2) 42 47) = G348 at hE ⊢
    replace hE := hE.trans (lt_e _ _)
    refine w_zne (p3 := 27) rfl rfl (fun h => ?_) (fun h => ?_)
    · have h1 : ¬ G348 = 0 := h
      rw [if_neg h1] at hE
      refine w_n 2 (pc1 := 45) (ls1 := [some (.ref 52), some (.int y1), o2]) (st1 := [.ref 1]) (hp1 := (hz F A L)) rfl ?_
      refine w_c rfl rfl (t_kx_sign ?_)
      show wl_E f _ _ mm28.2.2.2.2.2.2.2.2 48 [some (.ref 52), some (.int y1), o2] [.int (kx_sign (F 1 2) (F 1 3) (A 2))] (hz F A L) _
      generalize hG349 : (kx_sign (F 1 2) (F 1 3) (A 2)) = G349 at hE ⊢
      replace hE := hE.trans (lt_e _ _)
      refine w_n 7 (pc1 := 59) (ls1 := [some (.ref 52), some (.int y1), some (.int G349)]) (st1 := [.int ((F 1 3) + 1), .ref 1]) (hp1 := (hz F A L)) rfl ?_
      refine w_pf (k := 1) (fs := hz_f1 F) (hp1 := (hz (uF F 1 3 ((F 1 3) + 1)) A L)) rfl rfl rfl (hz_p1_3 _) ?_
      refine w_n 1 (pc1 := 63) (ls1 := [some (.ref 52), some (.int y1), some (.int G349)]) (st1 := [.ref 52]) (hp1 := (hz (uF F 1 3 ((F 1 3) + 1)) A L)) rfl ?_
      refine w_c rfl rfl (t_kr_readFactor hr (by omega) (by omega) ?_)
      show wl_E f _ _ mm28.2.2.2.2.2.2.2.2 66 [some (.ref 52), some (.int y1), some (.int G349)] [] (hz (uF (uF (uF (uF (uF F 1 3 ((F 1 3) + 1)) 1 3 (kr_readFactor r (F 1 2) ((F 1 3) + 1) (F 1 4) (F 52 2) (F 53 1) (A 2) (A 58) (A 59)).1) 1 4 (kr_readFactor r (F 1 2) ((F 1 3) + 1) (F 1 4) (F 52 2) (F 53 1) (A 2) (A 58) (A 59)).2.1) 52 2 (kr_readFactor r (F 1 2) ((F 1 3) + 1) (F 1 4) (F 52 2) (F 53 1) (A 2) (A 58) (A 59)).2.2.1) 53 1 (kr_readFactor r (F 1 2) ((F 1 3) + 1) (F 1 4) (F 52 2) (F 53 1) (A 2) (A 58) (A 59)).2.2.2.1) (uA (uA A 58 (kr_readFactor r (F 1 2) ((F 1 3) + 1) (F 1 4) (F 52 2) (F 53 1) (A 2) (A 58) (A 59)).2.2.2.2.1) 59 (kr_readFactor r (F 1 2) ((F 1 3) + 1) (F 1 4) (F 52 2) (F 53 1) (A 2) (A 58) (A 59)).2.2.2.2.2) L) _
      generalize hG350 : (kr_readFactor r (F 1 2) ((F 1 3) + 1) (F 1 4) (F 52 2) (F 53 1) (A 2) (A 58) (A 59)) = G350 at hE ⊢
      replace hE := hE.trans (lt_e _ _)
      refine w_n 4 (pc1 := 72) (ls1 := [some (.ref 52), some (.int y1), some (.int G349)]) (st1 := [.int 0, .int G349, .ref 53]) (hp1 := (hz (uF (uF (uF (uF (uF F 1 3 ((F 1 3) + 1)) 1 3 G350.1) 1 4 G350.2.1) 52 2 G350.2.2.1) 53 1 G350.2.2.2.1) (uA (uA A 58 G350.2.2.2.2.1) 59 G350.2.2.2.2.2) L)) rfl ?_
      refine w_c rfl rfl (t_kl_add_53 ?_)
      show wl_E f _ _ mm28.2.2.2.2.2.2.2.2 75 [some (.ref 52), some (.int y1), some (.int G349)] [.int (kl_add_53 G350.2.2.2.1 G350.2.2.2.2.1 G350.2.2.2.2.2 G349 0).1] (hz (uF (uF (uF (uF (uF (uF F 1 3 ((F 1 3) + 1)) 1 3 G350.1) 1 4 G350.2.1) 52 2 G350.2.2.1) 53 1 G350.2.2.2.1) 53 1 (kl_add_53 G350.2.2.2.1 G350.2.2.2.2.1 G350.2.2.2.2.2 G349 0).2.1) (uA (uA (uA (uA A 58 G350.2.2.2.2.1) 59 G350.2.2.2.2.2) 58 (kl_add_53 G350.2.2.2.1 G350.2.2.2.2.1 G350.2.2.2.2.2 G349 0).2.2.1) 59 (kl_add_53 G350.2.2.2.1 G350.2.2.2.2.1 G350.2.2.2.2.2 G349 0).2.2.2) L) _
      generalize hG351 : (kl_add_53 G350.2.2.2.1 G350.2.2.2.2.1 G350.2.2.2.2.2 G349 0) = G351 at hE ⊢
      replace hE := hE.trans (lt_e _ _)
      refine w_n 3 (pc1 := 6) (ls1 := [some (.ref 52), some (.int (y1 + 1)), some (.int G349)]) (st1 := []) (hp1 := (hz (uF (uF (uF (uF (uF (uF F 1 3 ((F 1 3) + 1)) 1 3 G350.1) 1 4 G350.2.1) 52 2 G350.2.2.1) 53 1 G350.2.2.2.1) 53 1 G351.2.1) (uA (uA (uA (uA A 58 G350.2.2.2.2.1) 59 G350.2.2.2.2.2) 58 G351.2.2.1) 59 G351.2.2.2) L)) rfl ?_
      subst T
      have hb2 := i_up (B := (240 : Int32)) hb
      have hb3 : y1.toInt < 240 := hb
      exact ih (show m = (240 - (y1 + 1).toInt).toNat by rw [hb2]; omega) hn (fun q1 q2 => cvE (funext fun q => funext fun z => if k0 : q = 1 ∧ z = 3 then by obtain ⟨w1, w2⟩ := k0; subst w1; subst w2; exact Eq.trans (b := (kr_readProduct_6 r (F 1 2) (A 2) m (y1 + 1) G350.1 G350.2.1 G350.2.2.1 G351.2.1 G351.2.2.1 G351.2.2.2).1) rfl rfl else if k1 : q = 1 ∧ z = 4 then by obtain ⟨w1, w2⟩ := k1; subst w1; subst w2; exact Eq.trans (b := (kr_readProduct_6 r (F 1 2) (A 2) m (y1 + 1) G350.1 G350.2.1 G350.2.2.1 G351.2.1 G351.2.2.1 G351.2.2.2).2.1) rfl rfl else if k2 : q = 52 ∧ z = 2 then by obtain ⟨w1, w2⟩ := k2; subst w1; subst w2; exact Eq.trans (b := (kr_readProduct_6 r (F 1 2) (A 2) m (y1 + 1) G350.1 G350.2.1 G350.2.2.1 G351.2.1 G351.2.2.1 G351.2.2.2).2.2.1) rfl rfl else if k3 : q = 53 ∧ z = 1 then by obtain ⟨w1, w2⟩ := k3; subst w1; subst w2; exact Eq.trans (b := (kr_readProduct_6 r (F 1 2) (A 2) m (y1 + 1) G350.1 G350.2.1 G350.2.2.1 G351.2.1 G351.2.2.1 G351.2.2.2).2.2.2.1) rfl rfl else by unfold uF; simp only [nb2 k0, nb2 k1, nb2 k2, nb2 k3, cond_false]) (funext fun q => if k0 : q = 58 then by subst k0; exact Eq.trans (b := (kr_readProduct_6 r (F 1 2) (A 2) m (y1 + 1) G350.1 G350.2.1 G350.2.2.1 G351.2.1 G351.2.2.1 G351.2.2.2).2.2.2.2.1) rfl rfl else if k1 : q = 59 then by subst k1; exact Eq.trans (b := (kr_readProduct_6 r (F 1 2) (A 2) m (y1 + 1) G350.1 G350.2.1 G350.2.2.1 G351.2.1 G351.2.2.1 G351.2.2.2).2.2.2.2.2) rfl rfl else by unfold uA; simp only [nb1 k0, nb1 k1, cond_false]) rfl (K q1 q2))
    · have h1 : G348 = 0 := h
      rw [if_pos h1] at hE
      refine w_n 4 (pc1 := 35) (ls1 := [some (.ref 52), some (.int y1), o2]) (st1 := [.int 37, .int 37, .ref 1]) (hp1 := (hz F A L)) rfl ?_
      refine w_c rfl rfl (t_kx_stands ?_)
      show wl_E f _ _ mm28.2.2.2.2.2.2.2.2 38 [some (.ref 52), some (.int y1), o2] [.int (kx_stands (F 1 2) (F 1 3) (F 1 4) (A 2) 37 37)] (hz F A L) _
      generalize hG352 : (kx_stands (F 1 2) (F 1 3) (F 1 4) (A 2) 37 37) = G352 at hE ⊢
      replace hE := hE.trans (lt_e _ _)
      refine w_zeq (p3 := 41) rfl rfl (fun h => ?_) (fun h => ?_)
      · have h2 : G352 = 0 := h
        rw [if_pos h2] at hE
        subst T
        exact cvE (funext fun q => funext fun z => if k0 : q = 1 ∧ z = 3 then by obtain ⟨w1, w2⟩ := k0; subst w1; subst w2; exact Eq.trans (b := (F 1 3)) rfl rfl else if k1 : q = 1 ∧ z = 4 then by obtain ⟨w1, w2⟩ := k1; subst w1; subst w2; exact Eq.trans (b := (F 1 4)) rfl rfl else if k2 : q = 52 ∧ z = 2 then by obtain ⟨w1, w2⟩ := k2; subst w1; subst w2; exact Eq.trans (b := (F 52 2)) rfl rfl else if k3 : q = 53 ∧ z = 1 then by obtain ⟨w1, w2⟩ := k3; subst w1; subst w2; exact Eq.trans (b := (F 53 1)) rfl rfl else by unfold uF; simp only [nb2 k0, nb2 k1, nb2 k2, nb2 k3, cond_false]) (funext fun q => if k0 : q = 58 then by subst k0; exact Eq.trans (b := (A 58)) rfl rfl else if k1 : q = 59 then by subst k1; exact Eq.trans (b := (A 59)) rfl rfl else by unfold uA; simp only [nb1 k0, nb1 k1, cond_false]) rfl (K _ _)
      · have h2 : ¬ G352 = 0 := h
        rw [if_neg h2] at hE
        refine w_n 2 (pc1 := 45) (ls1 := [some (.ref 52), some (.int y1), o2]) (st1 := [.ref 1]) (hp1 := (hz F A L)) rfl ?_
        refine w_c rfl rfl (t_kx_sign ?_)
        show wl_E f _ _ mm28.2.2.2.2.2.2.2.2 48 [some (.ref 52), some (.int y1), o2] [.int (kx_sign (F 1 2) (F 1 3) (A 2))] (hz F A L) _
        generalize hG353 : (kx_sign (F 1 2) (F 1 3) (A 2)) = G353 at hE ⊢
        replace hE := hE.trans (lt_e _ _)
        refine w_n 7 (pc1 := 59) (ls1 := [some (.ref 52), some (.int y1), some (.int G353)]) (st1 := [.int ((F 1 3) + 1), .ref 1]) (hp1 := (hz F A L)) rfl ?_
        refine w_pf (k := 1) (fs := hz_f1 F) (hp1 := (hz (uF F 1 3 ((F 1 3) + 1)) A L)) rfl rfl rfl (hz_p1_3 _) ?_
        refine w_n 1 (pc1 := 63) (ls1 := [some (.ref 52), some (.int y1), some (.int G353)]) (st1 := [.ref 52]) (hp1 := (hz (uF F 1 3 ((F 1 3) + 1)) A L)) rfl ?_
        refine w_c rfl rfl (t_kr_readFactor hr (by omega) (by omega) ?_)
        show wl_E f _ _ mm28.2.2.2.2.2.2.2.2 66 [some (.ref 52), some (.int y1), some (.int G353)] [] (hz (uF (uF (uF (uF (uF F 1 3 ((F 1 3) + 1)) 1 3 (kr_readFactor r (F 1 2) ((F 1 3) + 1) (F 1 4) (F 52 2) (F 53 1) (A 2) (A 58) (A 59)).1) 1 4 (kr_readFactor r (F 1 2) ((F 1 3) + 1) (F 1 4) (F 52 2) (F 53 1) (A 2) (A 58) (A 59)).2.1) 52 2 (kr_readFactor r (F 1 2) ((F 1 3) + 1) (F 1 4) (F 52 2) (F 53 1) (A 2) (A 58) (A 59)).2.2.1) 53 1 (kr_readFactor r (F 1 2) ((F 1 3) + 1) (F 1 4) (F 52 2) (F 53 1) (A 2) (A 58) (A 59)).2.2.2.1) (uA (uA A 58 (kr_readFactor r (F 1 2) ((F 1 3) + 1) (F 1 4) (F 52 2) (F 53 1) (A 2) (A 58) (A 59)).2.2.2.2.1) 59 (kr_readFactor r (F 1 2) ((F 1 3) + 1) (F 1 4) (F 52 2) (F 53 1) (A 2) (A 58) (A 59)).2.2.2.2.2) L) _
        generalize hG354 : (kr_readFactor r (F 1 2) ((F 1 3) + 1) (F 1 4) (F 52 2) (F 53 1) (A 2) (A 58) (A 59)) = G354 at hE ⊢
        replace hE := hE.trans (lt_e _ _)
        refine w_n 4 (pc1 := 72) (ls1 := [some (.ref 52), some (.int y1), some (.int G353)]) (st1 := [.int 0, .int G353, .ref 53]) (hp1 := (hz (uF (uF (uF (uF (uF F 1 3 ((F 1 3) + 1)) 1 3 G354.1) 1 4 G354.2.1) 52 2 G354.2.2.1) 53 1 G354.2.2.2.1) (uA (uA A 58 G354.2.2.2.2.1) 59 G354.2.2.2.2.2) L)) rfl ?_
        refine w_c rfl rfl (t_kl_add_53 ?_)
        show wl_E f _ _ mm28.2.2.2.2.2.2.2.2 75 [some (.ref 52), some (.int y1), some (.int G353)] [.int (kl_add_53 G354.2.2.2.1 G354.2.2.2.2.1 G354.2.2.2.2.2 G353 0).1] (hz (uF (uF (uF (uF (uF (uF F 1 3 ((F 1 3) + 1)) 1 3 G354.1) 1 4 G354.2.1) 52 2 G354.2.2.1) 53 1 G354.2.2.2.1) 53 1 (kl_add_53 G354.2.2.2.1 G354.2.2.2.2.1 G354.2.2.2.2.2 G353 0).2.1) (uA (uA (uA (uA A 58 G354.2.2.2.2.1) 59 G354.2.2.2.2.2) 58 (kl_add_53 G354.2.2.2.1 G354.2.2.2.2.1 G354.2.2.2.2.2 G353 0).2.2.1) 59 (kl_add_53 G354.2.2.2.1 G354.2.2.2.2.1 G354.2.2.2.2.2 G353 0).2.2.2) L) _
        generalize hG355 : (kl_add_53 G354.2.2.2.1 G354.2.2.2.2.1 G354.2.2.2.2.2 G353 0) = G355 at hE ⊢
        replace hE := hE.trans (lt_e _ _)
        refine w_n 3 (pc1 := 6) (ls1 := [some (.ref 52), some (.int (y1 + 1)), some (.int G353)]) (st1 := []) (hp1 := (hz (uF (uF (uF (uF (uF (uF F 1 3 ((F 1 3) + 1)) 1 3 G354.1) 1 4 G354.2.1) 52 2 G354.2.2.1) 53 1 G354.2.2.2.1) 53 1 G355.2.1) (uA (uA (uA (uA A 58 G354.2.2.2.2.1) 59 G354.2.2.2.2.2) 58 G355.2.2.1) 59 G355.2.2.2) L)) rfl ?_
        subst T
        have hb2 := i_up (B := (240 : Int32)) hb
        have hb3 : y1.toInt < 240 := hb
        exact ih (show m = (240 - (y1 + 1).toInt).toNat by rw [hb2]; omega) hn (fun q1 q2 => cvE (funext fun q => funext fun z => if k0 : q = 1 ∧ z = 3 then by obtain ⟨w1, w2⟩ := k0; subst w1; subst w2; exact Eq.trans (b := (kr_readProduct_6 r (F 1 2) (A 2) m (y1 + 1) G354.1 G354.2.1 G354.2.2.1 G355.2.1 G355.2.2.1 G355.2.2.2).1) rfl rfl else if k1 : q = 1 ∧ z = 4 then by obtain ⟨w1, w2⟩ := k1; subst w1; subst w2; exact Eq.trans (b := (kr_readProduct_6 r (F 1 2) (A 2) m (y1 + 1) G354.1 G354.2.1 G354.2.2.1 G355.2.1 G355.2.2.1 G355.2.2.2).2.1) rfl rfl else if k2 : q = 52 ∧ z = 2 then by obtain ⟨w1, w2⟩ := k2; subst w1; subst w2; exact Eq.trans (b := (kr_readProduct_6 r (F 1 2) (A 2) m (y1 + 1) G354.1 G354.2.1 G354.2.2.1 G355.2.1 G355.2.2.1 G355.2.2.2).2.2.1) rfl rfl else if k3 : q = 53 ∧ z = 1 then by obtain ⟨w1, w2⟩ := k3; subst w1; subst w2; exact Eq.trans (b := (kr_readProduct_6 r (F 1 2) (A 2) m (y1 + 1) G354.1 G354.2.1 G354.2.2.1 G355.2.1 G355.2.2.1 G355.2.2.2).2.2.2.1) rfl rfl else by unfold uF; simp only [nb2 k0, nb2 k1, nb2 k2, nb2 k3, cond_false]) (funext fun q => if k0 : q = 58 then by subst k0; exact Eq.trans (b := (kr_readProduct_6 r (F 1 2) (A 2) m (y1 + 1) G354.1 G354.2.1 G354.2.2.1 G355.2.1 G355.2.2.1 G355.2.2.2).2.2.2.2.1) rfl rfl else if k1 : q = 59 then by subst k1; exact Eq.trans (b := (kr_readProduct_6 r (F 1 2) (A 2) m (y1 + 1) G354.1 G354.2.1 G354.2.2.1 G355.2.1 G355.2.2.1 G355.2.2.2).2.2.2.2.2) rfl rfl else by unfold uA; simp only [nb1 k0, nb1 k1, cond_false]) rfl (K q1 q2))
noncomputable def kr_readProduct (r : Int32 → Int32 → Int32 → Int32 → Int32 → List Int32 → List Int32 → List Int32 → (Int32 × Int32 × Int32 × Int32 × List Int32 × List Int32)) (f1_2 : Int32) (f1_3 : Int32) (f1_4 : Int32) (f52_2 : Int32) (f53_1 : Int32) (a2 : List Int32) (a58 : List Int32) (a59 : List Int32) : Int32 × Int32 × Int32 × Int32 × List Int32 × List Int32 := (lt (kr_readFactor r f1_2 f1_3 f1_4 f52_2 f53_1 a2 a58 a59) (fun g347 => (lt (kr_readProduct_6 r f1_2 a2 240 0 g347.1 g347.2.1 g347.2.2.1 g347.2.2.2.1 g347.2.2.2.2.1 g347.2.2.2.2.2) (fun g356 => (g356.1, g356.2.1, g356.2.2.1, g356.2.2.2.1, g356.2.2.2.2.1, g356.2.2.2.2.2)))))
theorem t_kr_readProduct {f D : Nat} {n : Nat} {r : Int32 → Int32 → Int32 → Int32 → Int32 → List Int32 → List Int32 → List Int32 → (Int32 × Int32 × Int32 × Int32 × List Int32 × List Int32)} (hr : ∀ (D : Nat) {F : Nat → Nat → Int32} {A : Nat → List Int32} {L : Nat → List Int64} {Q : Option Value → sm_H → Prop}, D ≤ n → (Q none (hz (uF (uF (uF (uF F 1 3 ((r (F 1 2) (F 1 3) (F 1 4) (F 52 2) (F 53 1) (A 2) (A 58) (A 59)).1)) 1 4 ((r (F 1 2) (F 1 3) (F 1 4) (F 52 2) (F 53 1) (A 2) (A 58) (A 59)).2.1)) 52 2 ((r (F 1 2) (F 1 3) (F 1 4) (F 52 2) (F 53 1) (A 2) (A 58) (A 59)).2.2.1)) 53 1 ((r (F 1 2) (F 1 3) (F 1 4) (F 52 2) (F 53 1) (A 2) (A 58) (A 59)).2.2.2.1)) (uA (uA A 58 ((r (F 1 2) (F 1 3) (F 1 4) (F 52 2) (F 53 1) (A 2) (A 58) (A 59)).2.2.2.2.1)) 59 ((r (F 1 2) (F 1 3) (F 1 4) (F 52 2) (F 53 1) (A 2) (A 58) (A 59)).2.2.2.2.2)) L)) → wl_M f D 27 [.ref 52] (hz F A L) Q) (hnf : n ≤ f) {F : Nat → Nat → Int32} {A : Nat → List Int32} {L : Nat → List Int64} {Q : Option Value → sm_H → Prop} (hn : D ≤ n) (K : Q none (hz (uF (uF (uF (uF F 1 3 ((kr_readProduct r (F 1 2) (F 1 3) (F 1 4) (F 52 2) (F 53 1) (A 2) (A 58) (A 59)).1)) 1 4 ((kr_readProduct r (F 1 2) (F 1 3) (F 1 4) (F 52 2) (F 53 1) (A 2) (A 58) (A 59)).2.1)) 52 2 ((kr_readProduct r (F 1 2) (F 1 3) (F 1 4) (F 52 2) (F 53 1) (A 2) (A 58) (A 59)).2.2.1)) 53 1 ((kr_readProduct r (F 1 2) (F 1 3) (F 1 4) (F 52 2) (F 53 1) (A 2) (A 58) (A 59)).2.2.2.1)) (uA (uA A 58 ((kr_readProduct r (F 1 2) (F 1 3) (F 1 4) (F 52 2) (F 53 1) (A 2) (A 58) (A 59)).2.2.2.2.1)) 59 ((kr_readProduct r (F 1 2) (F 1 3) (F 1 4) (F 52 2) (F 53 1) (A 2) (A 58) (A 59)).2.2.2.2.2)) L)) : wl_M f D 28 [.ref 52] (hz F A L) Q := by
  generalize hT : (kr_readProduct r (F 1 2) (F 1 3) (F 1 4) (F 52 2) (F 53 1) (A 2) (A 58) (A 59)) = T at K
  have hE : T = (lt (kr_readFactor r (F 1 2) (F 1 3) (F 1 4) (F 52 2) (F 53 1) (A 2) (A 58) (A 59)) (fun g347 => (lt (kr_readProduct_6 r (F 1 2) (A 2) 240 0 g347.1 g347.2.1 g347.2.2.1 g347.2.2.2.1 g347.2.2.2.2.1 g347.2.2.2.2.2) (fun g356 => (g356.1, g356.2.1, g356.2.2.1, g356.2.2.2.1, g356.2.2.2.2.1, g356.2.2.2.2.2))))) := hT.symm
  clear hT
  refine w_m (E := mm28) rfl ?_
  show wl_E f f (D - 1) mm28.2.2.2.2.2.2.2.2 0 [some (.ref 52), none, none] [] (hz F A L) Q
  refine w_n 1 (pc1 := 1) (ls1 := [some (.ref 52), none, none]) (st1 := [.ref 52]) (hp1 := (hz F A L)) rfl ?_
  refine w_c rfl rfl (t_kr_readFactor hr (by omega) (by omega) ?_)
  show wl_E f _ _ mm28.2.2.2.2.2.2.2.2 4 [some (.ref 52), none, none] [] (hz (uF (uF (uF (uF F 1 3 (kr_readFactor r (F 1 2) (F 1 3) (F 1 4) (F 52 2) (F 53 1) (A 2) (A 58) (A 59)).1) 1 4 (kr_readFactor r (F 1 2) (F 1 3) (F 1 4) (F 52 2) (F 53 1) (A 2) (A 58) (A 59)).2.1) 52 2 (kr_readFactor r (F 1 2) (F 1 3) (F 1 4) (F 52 2) (F 53 1) (A 2) (A 58) (A 59)).2.2.1) 53 1 (kr_readFactor r (F 1 2) (F 1 3) (F 1 4) (F 52 2) (F 53 1) (A 2) (A 58) (A 59)).2.2.2.1) (uA (uA A 58 (kr_readFactor r (F 1 2) (F 1 3) (F 1 4) (F 52 2) (F 53 1) (A 2) (A 58) (A 59)).2.2.2.2.1) 59 (kr_readFactor r (F 1 2) (F 1 3) (F 1 4) (F 52 2) (F 53 1) (A 2) (A 58) (A 59)).2.2.2.2.2) L) _
  generalize hG347 : (kr_readFactor r (F 1 2) (F 1 3) (F 1 4) (F 52 2) (F 53 1) (A 2) (A 58) (A 59)) = G347 at hE ⊢
  replace hE := hE.trans (lt_e _ _)
  refine w_n 2 (pc1 := 6) (ls1 := [some (.ref 52), some (.int 0), none]) (st1 := []) (hp1 := (hz (uF (uF (uF (uF F 1 3 G347.1) 1 4 G347.2.1) 52 2 G347.2.2.1) 53 1 G347.2.2.2.1) (uA (uA A 58 G347.2.2.2.2.1) 59 G347.2.2.2.2.2) L)) rfl ?_
  refine t_kr_readProduct_6 hr (by omega) 240 (show (240 : Nat) = (240 - (0 : Int32).toInt).toNat by have e0 : (0 : Int32).toInt = 0 := rfl; first | rfl | omega) (by omega) ?_
  intro r1 r2
  show wl_E f _ _ mm28.2.2.2.2.2.2.2.2 82 [some (.ref 52), some (.int r1), r2] [] (hz (uF (uF (uF (uF (uF (uF (uF (uF F 1 3 G347.1) 1 4 G347.2.1) 52 2 G347.2.2.1) 53 1 G347.2.2.2.1) 1 3 (kr_readProduct_6 r (F 1 2) (A 2) 240 0 G347.1 G347.2.1 G347.2.2.1 G347.2.2.2.1 G347.2.2.2.2.1 G347.2.2.2.2.2).1) 1 4 (kr_readProduct_6 r (F 1 2) (A 2) 240 0 G347.1 G347.2.1 G347.2.2.1 G347.2.2.2.1 G347.2.2.2.2.1 G347.2.2.2.2.2).2.1) 52 2 (kr_readProduct_6 r (F 1 2) (A 2) 240 0 G347.1 G347.2.1 G347.2.2.1 G347.2.2.2.1 G347.2.2.2.2.1 G347.2.2.2.2.2).2.2.1) 53 1 (kr_readProduct_6 r (F 1 2) (A 2) 240 0 G347.1 G347.2.1 G347.2.2.1 G347.2.2.2.1 G347.2.2.2.2.1 G347.2.2.2.2.2).2.2.2.1) (uA (uA (uA (uA A 58 G347.2.2.2.2.1) 59 G347.2.2.2.2.2) 58 (kr_readProduct_6 r (F 1 2) (A 2) 240 0 G347.1 G347.2.1 G347.2.2.1 G347.2.2.2.1 G347.2.2.2.2.1 G347.2.2.2.2.2).2.2.2.2.1) 59 (kr_readProduct_6 r (F 1 2) (A 2) 240 0 G347.1 G347.2.1 G347.2.2.1 G347.2.2.2.1 G347.2.2.2.2.1 G347.2.2.2.2.2).2.2.2.2.2) L) _
  generalize hG356 : (kr_readProduct_6 r (F 1 2) (A 2) 240 0 G347.1 G347.2.1 G347.2.2.1 G347.2.2.2.1 G347.2.2.2.2.1 G347.2.2.2.2.2) = G356 at hE ⊢
  replace hE := hE.trans (lt_e _ _)
  subst T
  exact w_r rfl rfl (cvQ (funext fun q => funext fun z => if k0 : q = 1 ∧ z = 3 then by obtain ⟨w1, w2⟩ := k0; subst w1; subst w2; exact Eq.trans (b := G356.1) rfl rfl else if k1 : q = 1 ∧ z = 4 then by obtain ⟨w1, w2⟩ := k1; subst w1; subst w2; exact Eq.trans (b := G356.2.1) rfl rfl else if k2 : q = 52 ∧ z = 2 then by obtain ⟨w1, w2⟩ := k2; subst w1; subst w2; exact Eq.trans (b := G356.2.2.1) rfl rfl else if k3 : q = 53 ∧ z = 1 then by obtain ⟨w1, w2⟩ := k3; subst w1; subst w2; exact Eq.trans (b := G356.2.2.2.1) rfl rfl else by unfold uF; simp only [nb2 k0, nb2 k1, nb2 k2, nb2 k3, cond_false]) (funext fun q => if k0 : q = 58 then by subst k0; exact Eq.trans (b := G356.2.2.2.2.1) rfl rfl else if k1 : q = 59 then by subst k1; exact Eq.trans (b := G356.2.2.2.2.2) rfl rfl else by unfold uA; simp only [nb1 k0, nb1 k1, cond_false]) rfl K)
noncomputable def kr_readSum_6 (r : Int32 → Int32 → Int32 → Int32 → Int32 → List Int32 → List Int32 → List Int32 → (Int32 × Int32 × Int32 × Int32 × List Int32 × List Int32)) (f1_2 : Int32) (a2 : List Int32)  : Nat → Int32 → Int32 → Int32 → Int32 → Int32 → List Int32 → List Int32 → Int32 × Int32 × Int32 × Int32 × List Int32 × List Int32
  | 0, _, f1_3, f1_4, f52_2, f53_1, a58, a59 => (f1_3, f1_4, f52_2, f53_1, a58, a59)
  | m + 1, y1, f1_3, f1_4, f52_2, f53_1, a58, a59 => (lt (kx_stands f1_2 f1_3 f1_4 a2 43 45) (fun g358 => (if g358 = 0 then (f1_3, f1_4, f52_2, f53_1, a58, a59) else (lt (kx_sign f1_2 f1_3 a2) (fun g359 => (lt (kr_readProduct r f1_2 (f1_3 + 1) f1_4 f52_2 f53_1 a2 a58 a59) (fun g360 => (lt (kl_add_53 g360.2.2.2.1 g360.2.2.2.2.1 g360.2.2.2.2.2 g359 0) (fun g361 => (kr_readSum_6 r f1_2 a2 m (y1 + 1) g360.1 g360.2.1 g360.2.2.1 g361.2.1 g361.2.2.1 g361.2.2.2))))))))))
theorem t_kr_readSum_6 {f : Nat} {n : Nat} {r : Int32 → Int32 → Int32 → Int32 → Int32 → List Int32 → List Int32 → List Int32 → (Int32 × Int32 × Int32 × Int32 × List Int32 × List Int32)} (hr : ∀ (D : Nat) {F : Nat → Nat → Int32} {A : Nat → List Int32} {L : Nat → List Int64} {Q : Option Value → sm_H → Prop}, D ≤ n → (Q none (hz (uF (uF (uF (uF F 1 3 ((r (F 1 2) (F 1 3) (F 1 4) (F 52 2) (F 53 1) (A 2) (A 58) (A 59)).1)) 1 4 ((r (F 1 2) (F 1 3) (F 1 4) (F 52 2) (F 53 1) (A 2) (A 58) (A 59)).2.1)) 52 2 ((r (F 1 2) (F 1 3) (F 1 4) (F 52 2) (F 53 1) (A 2) (A 58) (A 59)).2.2.1)) 53 1 ((r (F 1 2) (F 1 3) (F 1 4) (F 52 2) (F 53 1) (A 2) (A 58) (A 59)).2.2.2.1)) (uA (uA A 58 ((r (F 1 2) (F 1 3) (F 1 4) (F 52 2) (F 53 1) (A 2) (A 58) (A 59)).2.2.2.2.1)) 59 ((r (F 1 2) (F 1 3) (F 1 4) (F 52 2) (F 53 1) (A 2) (A 58) (A 59)).2.2.2.2.2)) L)) → wl_M f D 27 [.ref 52] (hz F A L) Q) (hnf : n ≤ f) {Q : Option Value → sm_H → Prop} : ∀ (m : Nat) {B D : Nat} {F : Nat → Nat → Int32} {A : Nat → List Int32} {L : Nat → List Int64} {y1 : Int32} {o2 : Option Value}, m = (240 - y1.toInt).toNat → (_ : D ≤ n) → (∀ q1 : Int32, ∀ q2 : Option Value, wl_E f B D mm27.2.2.2.2.2.2.2.2 68 [some (.ref 52), some (.int q1), q2] [] (hz (uF (uF (uF (uF F 1 3 ((kr_readSum_6 r (F 1 2) (A 2) m y1 (F 1 3) (F 1 4) (F 52 2) (F 53 1) (A 58) (A 59)).1)) 1 4 ((kr_readSum_6 r (F 1 2) (A 2) m y1 (F 1 3) (F 1 4) (F 52 2) (F 53 1) (A 58) (A 59)).2.1)) 52 2 ((kr_readSum_6 r (F 1 2) (A 2) m y1 (F 1 3) (F 1 4) (F 52 2) (F 53 1) (A 58) (A 59)).2.2.1)) 53 1 ((kr_readSum_6 r (F 1 2) (A 2) m y1 (F 1 3) (F 1 4) (F 52 2) (F 53 1) (A 58) (A 59)).2.2.2.1)) (uA (uA A 58 ((kr_readSum_6 r (F 1 2) (A 2) m y1 (F 1 3) (F 1 4) (F 52 2) (F 53 1) (A 58) (A 59)).2.2.2.2.1)) 59 ((kr_readSum_6 r (F 1 2) (A 2) m y1 (F 1 3) (F 1 4) (F 52 2) (F 53 1) (A 58) (A 59)).2.2.2.2.2)) L) Q) → wl_E f B D mm27.2.2.2.2.2.2.2.2 6 [some (.ref 52), some (.int y1), o2] [] (hz F A L) Q := by
  intro m
  induction m with
  | zero =>
    intro B D F A L y1 o2 hm hn K
    generalize hT : (kr_readSum_6 r (F 1 2) (A 2) 0 y1 (F 1 3) (F 1 4) (F 52 2) (F 53 1) (A 58) (A 59)) = T at K
    have hE : T = ((F 1 3), (F 1 4), (F 52 2), (F 53 1), (A 58), (A 59)) := hT.symm
    clear hT
    refine w_n 2 (pc1 := 10) (ls1 := [some (.ref 52), some (.int y1), o2]) (st1 := [.int 240, .int y1]) (hp1 := (hz F A L)) rfl ?_
    refine w_ge (p3 := 13) rfl rfl (fun hb => ?_) (fun h => False.elim (by have h : y1.toInt < 240 := h; omega))
    subst T
    exact cvE (funext fun q => funext fun z => if k0 : q = 1 ∧ z = 3 then by obtain ⟨w1, w2⟩ := k0; subst w1; subst w2; exact Eq.trans (b := (F 1 3)) rfl rfl else if k1 : q = 1 ∧ z = 4 then by obtain ⟨w1, w2⟩ := k1; subst w1; subst w2; exact Eq.trans (b := (F 1 4)) rfl rfl else if k2 : q = 52 ∧ z = 2 then by obtain ⟨w1, w2⟩ := k2; subst w1; subst w2; exact Eq.trans (b := (F 52 2)) rfl rfl else if k3 : q = 53 ∧ z = 1 then by obtain ⟨w1, w2⟩ := k3; subst w1; subst w2; exact Eq.trans (b := (F 53 1)) rfl rfl else by unfold uF; simp only [nb2 k0, nb2 k1, nb2 k2, nb2 k3, cond_false]) (funext fun q => if k0 : q = 58 then by subst k0; exact Eq.trans (b := (A 58)) rfl rfl else if k1 : q = 59 then by subst k1; exact Eq.trans (b := (A 59)) rfl rfl else by unfold uA; simp only [nb1 k0, nb1 k1, cond_false]) rfl (K _ _)
  | succ m ih =>
    intro B D F A L y1 o2 hm hn K
    generalize hT : (kr_readSum_6 r (F 1 2) (A 2) (m + 1) y1 (F 1 3) (F 1 4) (F 52 2) (F 53 1) (A 58) (A 59)) = T at K
    have hE : T = (lt (kx_stands (F 1 2) (F 1 3) (F 1 4) (A 2) 43 45) (fun g358 => (if g358 = 0 then ((F 1 3), (F 1 4), (F 52 2), (F 53 1), (A 58), (A 59)) else (lt (kx_sign (F 1 2) (F 1 3) (A 2)) (fun g359 => (lt (kr_readProduct r (F 1 2) ((F 1 3) + 1) (F 1 4) (F 52 2) (F 53 1) (A 2) (A 58) (A 59)) (fun g360 => (lt (kl_add_53 g360.2.2.2.1 g360.2.2.2.2.1 g360.2.2.2.2.2 g359 0) (fun g361 => (kr_readSum_6 r (F 1 2) (A 2) m (y1 + 1) g360.1 g360.2.1 g360.2.2.1 g361.2.1 g361.2.2.1 g361.2.2.2)))))))))) := hT.symm
    clear hT
    refine w_n 2 (pc1 := 10) (ls1 := [some (.ref 52), some (.int y1), o2]) (st1 := [.int 240, .int y1]) (hp1 := (hz F A L)) rfl ?_
    refine w_ge (p3 := 13) rfl rfl (fun h => False.elim (by have h : 240 ≤ y1.toInt := h; omega)) (fun hb => ?_)
    refine w_n 4 (pc1 := 21) (ls1 := [some (.ref 52), some (.int y1), o2]) (st1 := [.int 45, .int 43, .ref 1]) (hp1 := (hz F A L)) rfl ?_
    refine w_c rfl rfl (t_kx_stands ?_)
    show wl_E f _ _ mm27.2.2.2.2.2.2.2.2 24 [some (.ref 52), some (.int y1), o2] [.int (kx_stands (F 1 2) (F 1 3) (F 1 4) (A 2) 43 45)] (hz F A L) _
    generalize hG358 : (kx_stands (F 1 2) (F 1 3) (F 1 4) (A 2) 43 45) = G358 at hE ⊢
    replace hE := hE.trans (lt_e _ _)
    refine w_zeq (p3 := 27) rfl rfl (fun h => ?_) (fun h => ?_)
    · have h1 : G358 = 0 := h
      rw [if_pos h1] at hE
      subst T
      exact cvE (funext fun q => funext fun z => if k0 : q = 1 ∧ z = 3 then by obtain ⟨w1, w2⟩ := k0; subst w1; subst w2; exact Eq.trans (b := (F 1 3)) rfl rfl else if k1 : q = 1 ∧ z = 4 then by obtain ⟨w1, w2⟩ := k1; subst w1; subst w2; exact Eq.trans (b := (F 1 4)) rfl rfl else if k2 : q = 52 ∧ z = 2 then by obtain ⟨w1, w2⟩ := k2; subst w1; subst w2; exact Eq.trans (b := (F 52 2)) rfl rfl else if k3 : q = 53 ∧ z = 1 then by obtain ⟨w1, w2⟩ := k3; subst w1; subst w2; exact Eq.trans (b := (F 53 1)) rfl rfl else by unfold uF; simp only [nb2 k0, nb2 k1, nb2 k2, nb2 k3, cond_false]) (funext fun q => if k0 : q = 58 then by subst k0; exact Eq.trans (b := (A 58)) rfl rfl else if k1 : q = 59 then by subst k1; exact Eq.trans (b := (A 59)) rfl rfl else by unfold uA; simp only [nb1 k0, nb1 k1, cond_false]) rfl (K _ _)
    · have h1 : ¬ G358 = 0 := h
      rw [if_neg h1] at hE
      refine w_n 2 (pc1 := 31) (ls1 := [some (.ref 52), some (.int y1), o2]) (st1 := [.ref 1]) (hp1 := (hz F A L)) rfl ?_
      refine w_c rfl rfl (t_kx_sign ?_)
      show wl_E f _ _ mm27.2.2.2.2.2.2.2.2 34 [some (.ref 52), some (.int y1), o2] [.int (kx_sign (F 1 2) (F 1 3) (A 2))] (hz F A L) _
      generalize hG359 : (kx_sign (F 1 2) (F 1 3) (A 2)) = G359 at hE ⊢
      replace hE := hE.trans (lt_e _ _)
      refine w_n 7 (pc1 := 45) (ls1 := [some (.ref 52), some (.int y1), some (.int G359)]) (st1 := [.int ((F 1 3) + 1), .ref 1]) (hp1 := (hz F A L)) rfl ?_
      refine w_pf (k := 1) (fs := hz_f1 F) (hp1 := (hz (uF F 1 3 ((F 1 3) + 1)) A L)) rfl rfl rfl (hz_p1_3 _) ?_
      refine w_n 1 (pc1 := 49) (ls1 := [some (.ref 52), some (.int y1), some (.int G359)]) (st1 := [.ref 52]) (hp1 := (hz (uF F 1 3 ((F 1 3) + 1)) A L)) rfl ?_
      refine w_c rfl rfl (t_kr_readProduct hr (by omega) (by omega) ?_)
      show wl_E f _ _ mm27.2.2.2.2.2.2.2.2 52 [some (.ref 52), some (.int y1), some (.int G359)] [] (hz (uF (uF (uF (uF (uF F 1 3 ((F 1 3) + 1)) 1 3 (kr_readProduct r (F 1 2) ((F 1 3) + 1) (F 1 4) (F 52 2) (F 53 1) (A 2) (A 58) (A 59)).1) 1 4 (kr_readProduct r (F 1 2) ((F 1 3) + 1) (F 1 4) (F 52 2) (F 53 1) (A 2) (A 58) (A 59)).2.1) 52 2 (kr_readProduct r (F 1 2) ((F 1 3) + 1) (F 1 4) (F 52 2) (F 53 1) (A 2) (A 58) (A 59)).2.2.1) 53 1 (kr_readProduct r (F 1 2) ((F 1 3) + 1) (F 1 4) (F 52 2) (F 53 1) (A 2) (A 58) (A 59)).2.2.2.1) (uA (uA A 58 (kr_readProduct r (F 1 2) ((F 1 3) + 1) (F 1 4) (F 52 2) (F 53 1) (A 2) (A 58) (A 59)).2.2.2.2.1) 59 (kr_readProduct r (F 1 2) ((F 1 3) + 1) (F 1 4) (F 52 2) (F 53 1) (A 2) (A 58) (A 59)).2.2.2.2.2) L) _
      generalize hG360 : (kr_readProduct r (F 1 2) ((F 1 3) + 1) (F 1 4) (F 52 2) (F 53 1) (A 2) (A 58) (A 59)) = G360 at hE ⊢
      replace hE := hE.trans (lt_e _ _)
      refine w_n 4 (pc1 := 58) (ls1 := [some (.ref 52), some (.int y1), some (.int G359)]) (st1 := [.int 0, .int G359, .ref 53]) (hp1 := (hz (uF (uF (uF (uF (uF F 1 3 ((F 1 3) + 1)) 1 3 G360.1) 1 4 G360.2.1) 52 2 G360.2.2.1) 53 1 G360.2.2.2.1) (uA (uA A 58 G360.2.2.2.2.1) 59 G360.2.2.2.2.2) L)) rfl ?_
      refine w_c rfl rfl (t_kl_add_53 ?_)
      show wl_E f _ _ mm27.2.2.2.2.2.2.2.2 61 [some (.ref 52), some (.int y1), some (.int G359)] [.int (kl_add_53 G360.2.2.2.1 G360.2.2.2.2.1 G360.2.2.2.2.2 G359 0).1] (hz (uF (uF (uF (uF (uF (uF F 1 3 ((F 1 3) + 1)) 1 3 G360.1) 1 4 G360.2.1) 52 2 G360.2.2.1) 53 1 G360.2.2.2.1) 53 1 (kl_add_53 G360.2.2.2.1 G360.2.2.2.2.1 G360.2.2.2.2.2 G359 0).2.1) (uA (uA (uA (uA A 58 G360.2.2.2.2.1) 59 G360.2.2.2.2.2) 58 (kl_add_53 G360.2.2.2.1 G360.2.2.2.2.1 G360.2.2.2.2.2 G359 0).2.2.1) 59 (kl_add_53 G360.2.2.2.1 G360.2.2.2.2.1 G360.2.2.2.2.2 G359 0).2.2.2) L) _
      generalize hG361 : (kl_add_53 G360.2.2.2.1 G360.2.2.2.2.1 G360.2.2.2.2.2 G359 0) = G361 at hE ⊢
      replace hE := hE.trans (lt_e _ _)
      refine w_n 3 (pc1 := 6) (ls1 := [some (.ref 52), some (.int (y1 + 1)), some (.int G359)]) (st1 := []) (hp1 := (hz (uF (uF (uF (uF (uF (uF F 1 3 ((F 1 3) + 1)) 1 3 G360.1) 1 4 G360.2.1) 52 2 G360.2.2.1) 53 1 G360.2.2.2.1) 53 1 G361.2.1) (uA (uA (uA (uA A 58 G360.2.2.2.2.1) 59 G360.2.2.2.2.2) 58 G361.2.2.1) 59 G361.2.2.2) L)) rfl ?_
      subst T
      have hb2 := i_up (B := (240 : Int32)) hb
      have hb3 : y1.toInt < 240 := hb
      exact ih (show m = (240 - (y1 + 1).toInt).toNat by rw [hb2]; omega) hn (fun q1 q2 => cvE (funext fun q => funext fun z => if k0 : q = 1 ∧ z = 3 then by obtain ⟨w1, w2⟩ := k0; subst w1; subst w2; exact Eq.trans (b := (kr_readSum_6 r (F 1 2) (A 2) m (y1 + 1) G360.1 G360.2.1 G360.2.2.1 G361.2.1 G361.2.2.1 G361.2.2.2).1) rfl rfl else if k1 : q = 1 ∧ z = 4 then by obtain ⟨w1, w2⟩ := k1; subst w1; subst w2; exact Eq.trans (b := (kr_readSum_6 r (F 1 2) (A 2) m (y1 + 1) G360.1 G360.2.1 G360.2.2.1 G361.2.1 G361.2.2.1 G361.2.2.2).2.1) rfl rfl else if k2 : q = 52 ∧ z = 2 then by obtain ⟨w1, w2⟩ := k2; subst w1; subst w2; exact Eq.trans (b := (kr_readSum_6 r (F 1 2) (A 2) m (y1 + 1) G360.1 G360.2.1 G360.2.2.1 G361.2.1 G361.2.2.1 G361.2.2.2).2.2.1) rfl rfl else if k3 : q = 53 ∧ z = 1 then by obtain ⟨w1, w2⟩ := k3; subst w1; subst w2; exact Eq.trans (b := (kr_readSum_6 r (F 1 2) (A 2) m (y1 + 1) G360.1 G360.2.1 G360.2.2.1 G361.2.1 G361.2.2.1 G361.2.2.2).2.2.2.1) rfl rfl else by unfold uF; simp only [nb2 k0, nb2 k1, nb2 k2, nb2 k3, cond_false]) (funext fun q => if k0 : q = 58 then by subst k0; exact Eq.trans (b := (kr_readSum_6 r (F 1 2) (A 2) m (y1 + 1) G360.1 G360.2.1 G360.2.2.1 G361.2.1 G361.2.2.1 G361.2.2.2).2.2.2.2.1) rfl rfl else if k1 : q = 59 then by subst k1; exact Eq.trans (b := (kr_readSum_6 r (F 1 2) (A 2) m (y1 + 1) G360.1 G360.2.1 G360.2.2.1 G361.2.1 G361.2.2.1 G361.2.2.2).2.2.2.2.2) rfl rfl else by unfold uA; simp only [nb1 k0, nb1 k1, cond_false]) rfl (K q1 q2))
