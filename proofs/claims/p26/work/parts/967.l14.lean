/-! lifts, printed by genlift.py: 14 -/
noncomputable def km_agenda (f : Nat) (f67_3 : Int32) (f67_8 : Int32) (f67_9 : Int32) (f67_10 : Int32) (f67_11 : Int32) (a68 : List Int32) (a71 : List Int32) (a91 : List Int32) (x1 : Int32) : Int32 × Int32 × Int32 × Int32 × Int32 × List Int32 := (if (km_in x1 1 60) = 0 then ((-1), f67_8, f67_9, f67_10, f67_11, a91) else (if f67_8.toInt < x1.toInt then ((-1), f67_8, f67_9, f67_10, f67_11, a91) else (km_agenda_37 f67_3 0 x1 f67_11 a68 a71 f 0 0 a91)))
theorem t_km_agenda {f D : Nat} {F : Nat → Nat → Int32} {A : Nat → List Int32} {L : Nat → List Int64} {Q : Option Value → sm_H → Prop} {x1 : Int32} (K : Q (some (.int ((km_agenda f (F 67 3) (F 67 8) (F 67 9) (F 67 10) (F 67 11) (A 68) (A 71) (A 91) x1).1))) (hz (uF (uF (uF (uF F 67 8 ((km_agenda f (F 67 3) (F 67 8) (F 67 9) (F 67 10) (F 67 11) (A 68) (A 71) (A 91) x1).2.1)) 67 9 ((km_agenda f (F 67 3) (F 67 8) (F 67 9) (F 67 10) (F 67 11) (A 68) (A 71) (A 91) x1).2.2.1)) 67 10 ((km_agenda f (F 67 3) (F 67 8) (F 67 9) (F 67 10) (F 67 11) (A 68) (A 71) (A 91) x1).2.2.2.1)) 67 11 ((km_agenda f (F 67 3) (F 67 8) (F 67 9) (F 67 10) (F 67 11) (A 68) (A 71) (A 91) x1).2.2.2.2.1)) (uA A 91 ((km_agenda f (F 67 3) (F 67 8) (F 67 9) (F 67 10) (F 67 11) (A 68) (A 71) (A 91) x1).2.2.2.2.2)) L)) : wl_M f D 221 [.ref 67, .int x1] (hz F A L) Q := by
  generalize hT : (km_agenda f (F 67 3) (F 67 8) (F 67 9) (F 67 10) (F 67 11) (A 68) (A 71) (A 91) x1) = T at K
  have hE : T = (if (km_in x1 1 60) = 0 then ((-1), (F 67 8), (F 67 9), (F 67 10), (F 67 11), (A 91)) else (if (F 67 8).toInt < x1.toInt then ((-1), (F 67 8), (F 67 9), (F 67 10), (F 67 11), (A 91)) else (km_agenda_37 (F 67 3) 0 x1 (F 67 11) (A 68) (A 71) f 0 0 (A 91)))) := hT.symm
  clear hT
  refine w_m (E := mm221) rfl ?_
  show wl_E f f (D - 1) mm221.2.2.2.2.2.2.2.2 0 [some (.ref 67), some (.int x1), none, none] [] (hz F A L) Q
  refine w_n 3 (pc1 := 4) (ls1 := [some (.ref 67), some (.int x1), none, none]) (st1 := [.int 60, .int 1, .int x1]) (hp1 := (hz F A L)) rfl ?_
  refine w_c rfl rfl (t_km_in ?_)
  show wl_E f _ _ mm221.2.2.2.2.2.2.2.2 7 [some (.ref 67), some (.int x1), none, none] [.int (km_in x1 1 60)] (hz F A L) _
  generalize hG349 : (km_in x1 1 60) = G349 at hE ⊢
  refine w_zeq (p3 := 10) rfl rfl (fun h => ?_) (fun h => ?_)
  · have h1 : G349 = 0 := h
    rw [if_pos h1] at hE
    refine w_n 1 (pc1 := 19) (ls1 := [some (.ref 67), some (.int x1), none, none]) (st1 := [.int (-1)]) (hp1 := (hz F A L)) rfl ?_
    subst T
    exact w_ri rfl (cvQ (funext fun q => funext fun z => if k0 : q = 67 ∧ z = 8 then by obtain ⟨w1, w2⟩ := k0; subst w1; subst w2; exact Eq.trans (b := (F 67 8)) rfl rfl else if k1 : q = 67 ∧ z = 9 then by obtain ⟨w1, w2⟩ := k1; subst w1; subst w2; exact Eq.trans (b := (F 67 9)) rfl rfl else if k2 : q = 67 ∧ z = 10 then by obtain ⟨w1, w2⟩ := k2; subst w1; subst w2; exact Eq.trans (b := (F 67 10)) rfl rfl else if k3 : q = 67 ∧ z = 11 then by obtain ⟨w1, w2⟩ := k3; subst w1; subst w2; exact Eq.trans (b := (F 67 11)) rfl rfl else by unfold uF; simp only [nb2 k0, nb2 k1, nb2 k2, nb2 k3, cond_false]) (funext fun q => if k0 : q = 91 then by subst k0; exact Eq.trans (b := (A 91)) rfl rfl else by unfold uA; simp only [nb1 k0, cond_false]) rfl K)
  · have h1 : ¬ G349 = 0 := h
    rw [if_neg h1] at hE
    refine w_n 3 (pc1 := 15) (ls1 := [some (.ref 67), some (.int x1), none, none]) (st1 := [.int (F 67 8), .int x1]) (hp1 := (hz F A L)) rfl ?_
    refine w_le (p3 := 18) rfl rfl (fun h => ?_) (fun h => ?_)
    · have h2 : x1.toInt ≤ (F 67 8).toInt := h
      rw [if_neg (Int.not_lt.mpr h2)] at hE
      refine w_n 2 (pc1 := 22) (ls1 := [some (.ref 67), some (.int x1), none, none]) (st1 := [.int 0, .ref 67]) (hp1 := (hz F A L)) rfl ?_
      refine w_pf (k := 67) (fs := hz_f67 F) (hp1 := (hz (uF F 67 9 0) A L)) rfl rfl rfl (hz_p67_9 _) ?_
      refine w_n 2 (pc1 := 27) (ls1 := [some (.ref 67), some (.int x1), none, none]) (st1 := [.int x1, .ref 67]) (hp1 := (hz (uF F 67 9 0) A L)) rfl ?_
      refine w_pf (k := 67) (fs := hz_f67 (uF F 67 9 0)) (hp1 := (hz (uF (uF F 67 9 0) 67 10 x1) A L)) rfl rfl rfl (hz_p67_10 _) ?_
      refine w_n 2 (pc1 := 32) (ls1 := [some (.ref 67), some (.int x1), none, none]) (st1 := [.int 0, .ref 67]) (hp1 := (hz (uF (uF F 67 9 0) 67 10 x1) A L)) rfl ?_
      refine w_pf (k := 67) (fs := hz_f67 (uF (uF F 67 9 0) 67 10 x1)) (hp1 := (hz (uF (uF (uF F 67 9 0) 67 10 x1) 67 8 0) A L)) rfl rfl rfl (hz_p67_8 _) ?_
      refine w_n 2 (pc1 := 37) (ls1 := [some (.ref 67), some (.int x1), some (.int 0), none]) (st1 := []) (hp1 := (hz (uF (uF (uF F 67 9 0) 67 10 x1) 67 8 0) A L)) rfl ?_
      subst T
      exact t_km_agenda_37 _ _ (Nat.le_refl _) (cvQ (funext fun q => funext fun z => if k0 : q = 67 ∧ z = 8 then by obtain ⟨w1, w2⟩ := k0; subst w1; subst w2; exact Eq.trans (b := (km_agenda_37 (F 67 3) 0 x1 (F 67 11) (A 68) (A 71) f 0 0 (A 91)).2.1) rfl rfl else if k1 : q = 67 ∧ z = 9 then by obtain ⟨w1, w2⟩ := k1; subst w1; subst w2; exact Eq.trans (b := (km_agenda_37 (F 67 3) 0 x1 (F 67 11) (A 68) (A 71) f 0 0 (A 91)).2.2.1) rfl rfl else if k2 : q = 67 ∧ z = 10 then by obtain ⟨w1, w2⟩ := k2; subst w1; subst w2; exact Eq.trans (b := (km_agenda_37 (F 67 3) 0 x1 (F 67 11) (A 68) (A 71) f 0 0 (A 91)).2.2.2.1) rfl rfl else if k3 : q = 67 ∧ z = 11 then by obtain ⟨w1, w2⟩ := k3; subst w1; subst w2; exact Eq.trans (b := (km_agenda_37 (F 67 3) 0 x1 (F 67 11) (A 68) (A 71) f 0 0 (A 91)).2.2.2.2.1) rfl rfl else by unfold uF; simp only [nb2 k0, nb2 k1, nb2 k2, nb2 k3, cond_false]) (funext fun q => if k0 : q = 91 then by subst k0; exact Eq.trans (b := (km_agenda_37 (F 67 3) 0 x1 (F 67 11) (A 68) (A 71) f 0 0 (A 91)).2.2.2.2.2) rfl rfl else by unfold uA; simp only [nb1 k0, cond_false]) rfl K)
    · have h2 : (F 67 8).toInt < x1.toInt := h
      rw [if_pos h2] at hE
      refine w_n 1 (pc1 := 19) (ls1 := [some (.ref 67), some (.int x1), none, none]) (st1 := [.int (-1)]) (hp1 := (hz F A L)) rfl ?_
      subst T
      exact w_ri rfl (cvQ (funext fun q => funext fun z => if k0 : q = 67 ∧ z = 8 then by obtain ⟨w1, w2⟩ := k0; subst w1; subst w2; exact Eq.trans (b := (F 67 8)) rfl rfl else if k1 : q = 67 ∧ z = 9 then by obtain ⟨w1, w2⟩ := k1; subst w1; subst w2; exact Eq.trans (b := (F 67 9)) rfl rfl else if k2 : q = 67 ∧ z = 10 then by obtain ⟨w1, w2⟩ := k2; subst w1; subst w2; exact Eq.trans (b := (F 67 10)) rfl rfl else if k3 : q = 67 ∧ z = 11 then by obtain ⟨w1, w2⟩ := k3; subst w1; subst w2; exact Eq.trans (b := (F 67 11)) rfl rfl else by unfold uF; simp only [nb2 k0, nb2 k1, nb2 k2, nb2 k3, cond_false]) (funext fun q => if k0 : q = 91 then by subst k0; exact Eq.trans (b := (A 91)) rfl rfl else by unfold uA; simp only [nb1 k0, cond_false]) rfl K)
noncomputable def kx_stands (f1_2 : Int32) (f1_3 : Int32) (f1_4 : Int32) (a2 : List Int32) (x1 : Int32) (x2 : Int32) : Int32 := (if f1_4 = 0 then (if (kx_sign f1_2 f1_3 a2) = x1 then 1 else (if (kx_sign f1_2 f1_3 a2) = x2 then 1 else 0)) else 0)
theorem t_kx_stands {f D : Nat} {F : Nat → Nat → Int32} {A : Nat → List Int32} {L : Nat → List Int64} {Q : Option Value → sm_H → Prop} {x1 : Int32} {x2 : Int32} (K : Q (some (.int (kx_stands (F 1 2) (F 1 3) (F 1 4) (A 2) x1 x2))) (hz F A L)) : wl_M f D 35 [.ref 1, .int x1, .int x2] (hz F A L) Q := by
  generalize hT : (kx_stands (F 1 2) (F 1 3) (F 1 4) (A 2) x1 x2) = T at K
  have hE : T = (if (F 1 4) = 0 then (if (kx_sign (F 1 2) (F 1 3) (A 2)) = x1 then 1 else (if (kx_sign (F 1 2) (F 1 3) (A 2)) = x2 then 1 else 0)) else 0) := hT.symm
  clear hT
  refine w_m (E := mm35) rfl ?_
  show wl_E f f (D - 1) mm35.2.2.2.2.2.2.2.2 0 [some (.ref 1), some (.int x1), some (.int x2), none] [] (hz F A L) Q
  refine w_n 1 (pc1 := 1) (ls1 := [some (.ref 1), some (.int x1), some (.int x2), none]) (st1 := [.ref 1]) (hp1 := (hz F A L)) rfl ?_
  refine w_c rfl rfl (t_kx_sign ?_)
  show wl_E f _ _ mm35.2.2.2.2.2.2.2.2 4 [some (.ref 1), some (.int x1), some (.int x2), none] [.int (kx_sign (F 1 2) (F 1 3) (A 2))] (hz F A L) _
  generalize hG364 : (kx_sign (F 1 2) (F 1 3) (A 2)) = G364 at hE ⊢
  refine w_n 3 (pc1 := 9) (ls1 := [some (.ref 1), some (.int x1), some (.int x2), some (.int G364)]) (st1 := [.int (F 1 4)]) (hp1 := (hz F A L)) rfl ?_
  refine w_zne (p3 := 12) rfl rfl (fun h => ?_) (fun h => ?_)
  · have h1 : ¬ (F 1 4) = 0 := h
    rw [if_neg h1] at hE
    refine w_n 1 (pc1 := 27) (ls1 := [some (.ref 1), some (.int x1), some (.int x2), some (.int G364)]) (st1 := [.int 0]) (hp1 := (hz F A L)) rfl ?_
    subst T
    exact w_ri rfl (cvQ rfl rfl rfl K)
  · have h1 : (F 1 4) = 0 := h
    rw [if_pos h1] at hE
    refine w_n 2 (pc1 := 14) (ls1 := [some (.ref 1), some (.int x1), some (.int x2), some (.int G364)]) (st1 := [.int x1, .int G364]) (hp1 := (hz F A L)) rfl ?_
    refine w_eq (p3 := 17) rfl rfl (fun h => ?_) (fun h => ?_)
    · have h2 : G364 = x1 := h
      rw [if_pos h2] at hE
      refine w_n 2 (pc1 := 27) (ls1 := [some (.ref 1), some (.int x1), some (.int x2), some (.int G364)]) (st1 := [.int 1]) (hp1 := (hz F A L)) rfl ?_
      subst T
      exact w_ri rfl (cvQ rfl rfl rfl K)
    · have h2 : ¬ G364 = x1 := h
      rw [if_neg h2] at hE
      refine w_n 2 (pc1 := 19) (ls1 := [some (.ref 1), some (.int x1), some (.int x2), some (.int G364)]) (st1 := [.int x2, .int G364]) (hp1 := (hz F A L)) rfl ?_
      refine w_ne (p3 := 22) rfl rfl (fun h => ?_) (fun h => ?_)
      · have h3 : ¬ G364 = x2 := h
        rw [if_neg h3] at hE
        refine w_n 1 (pc1 := 27) (ls1 := [some (.ref 1), some (.int x1), some (.int x2), some (.int G364)]) (st1 := [.int 0]) (hp1 := (hz F A L)) rfl ?_
        subst T
        exact w_ri rfl (cvQ rfl rfl rfl K)
      · have h3 : G364 = x2 := h
        rw [if_pos h3] at hE
        refine w_n 2 (pc1 := 27) (ls1 := [some (.ref 1), some (.int x1), some (.int x2), some (.int G364)]) (st1 := [.int 1]) (hp1 := (hz F A L)) rfl ?_
        subst T
        exact w_ri rfl (cvQ rfl rfl rfl K)
noncomputable def kl_add_53 (f53_1 : Int32) (a58 : List Int32) (a59 : List Int32) (x1 : Int32) (x2 : Int32) : Int32 × Int32 × List Int32 × List Int32 := (if f53_1.toInt < 240 then (((f53_1 + 1) - 1), (f53_1 + 1), (a58.set f53_1.toInt.toNat x1), (a59.set f53_1.toInt.toNat x2)) else ((-1), f53_1, a58, a59))
theorem t_kl_add_53 {f D : Nat} {F : Nat → Nat → Int32} {A : Nat → List Int32} {L : Nat → List Int64} {Q : Option Value → sm_H → Prop} {x1 : Int32} {x2 : Int32} (K : Q (some (.int ((kl_add_53 (F 53 1) (A 58) (A 59) x1 x2).1))) (hz (uF F 53 1 ((kl_add_53 (F 53 1) (A 58) (A 59) x1 x2).2.1)) (uA (uA A 58 ((kl_add_53 (F 53 1) (A 58) (A 59) x1 x2).2.2.1)) 59 ((kl_add_53 (F 53 1) (A 58) (A 59) x1 x2).2.2.2)) L)) : wl_M f D 32 [.ref 53, .int x1, .int x2] (hz F A L) Q := by
  generalize hT : (kl_add_53 (F 53 1) (A 58) (A 59) x1 x2) = T at K
  have hE : T = (if (F 53 1).toInt < 240 then ((((F 53 1) + 1) - 1), ((F 53 1) + 1), ((A 58).set (F 53 1).toInt.toNat x1), ((A 59).set (F 53 1).toInt.toNat x2)) else ((-1), (F 53 1), (A 58), (A 59))) := hT.symm
  clear hT
  refine w_m (E := mm32) rfl ?_
  show wl_E f f (D - 1) mm32.2.2.2.2.2.2.2.2 0 [some (.ref 53), some (.int x1), some (.int x2)] [] (hz F A L) Q
  refine w_n 3 (pc1 := 7) (ls1 := [some (.ref 53), some (.int x1), some (.int x2)]) (st1 := [.int 240, .int (F 53 1)]) (hp1 := (hz F A L)) rfl ?_
  refine w_lt (p3 := 10) rfl rfl (fun h => ?_) (fun h => ?_)
  · have h1 : (F 53 1).toInt < 240 := h
    rw [if_pos h1] at hE
    refine w_n 5 (pc1 := 21) (ls1 := [some (.ref 53), some (.int x1), some (.int x2)]) (st1 := [.int x1, .int (F 53 1), .ref 58]) (hp1 := (hz F A L)) rfl ?_
    refine w_as (k := 58) (l := (A 58)) (hp1 := (hz F (uA A 58 ((A 58).set (F 53 1).toInt.toNat x1)) L)) rfl rfl rfl (hz_s58 _) (fun _ => ?_)
    refine w_n 5 (pc1 := 31) (ls1 := [some (.ref 53), some (.int x1), some (.int x2)]) (st1 := [.int x2, .int (F 53 1), .ref 59]) (hp1 := (hz F (uA A 58 ((A 58).set (F 53 1).toInt.toNat x1)) L)) rfl ?_
    refine w_as (k := 59) (l := (A 59)) (hp1 := (hz F (uA (uA A 58 ((A 58).set (F 53 1).toInt.toNat x1)) 59 ((A 59).set (F 53 1).toInt.toNat x2)) L)) rfl rfl rfl (hz_s59 _) (fun _ => ?_)
    refine w_n 5 (pc1 := 39) (ls1 := [some (.ref 53), some (.int x1), some (.int x2)]) (st1 := [.int ((F 53 1) + 1), .ref 53]) (hp1 := (hz F (uA (uA A 58 ((A 58).set (F 53 1).toInt.toNat x1)) 59 ((A 59).set (F 53 1).toInt.toNat x2)) L)) rfl ?_
    refine w_pf (k := 53) (fs := hz_f53 F) (hp1 := (hz (uF F 53 1 ((F 53 1) + 1)) (uA (uA A 58 ((A 58).set (F 53 1).toInt.toNat x1)) 59 ((A 59).set (F 53 1).toInt.toNat x2)) L)) rfl rfl rfl (hz_p53_1 _) ?_
    refine w_n 4 (pc1 := 48) (ls1 := [some (.ref 53), some (.int x1), some (.int x2)]) (st1 := [.int (((F 53 1) + 1) - 1)]) (hp1 := (hz (uF F 53 1 ((F 53 1) + 1)) (uA (uA A 58 ((A 58).set (F 53 1).toInt.toNat x1)) 59 ((A 59).set (F 53 1).toInt.toNat x2)) L)) rfl ?_
    subst T
    exact w_ri rfl (cvQ rfl rfl rfl K)
  · have h1 : 240 ≤ (F 53 1).toInt := h
    rw [if_neg (Int.not_lt.mpr h1)] at hE
    refine w_n 1 (pc1 := 11) (ls1 := [some (.ref 53), some (.int x1), some (.int x2)]) (st1 := [.int (-1)]) (hp1 := (hz F A L)) rfl ?_
    subst T
    exact w_ri rfl (cvQ (funext fun q => funext fun z => if k0 : q = 53 ∧ z = 1 then by obtain ⟨w1, w2⟩ := k0; subst w1; subst w2; exact Eq.trans (b := (F 53 1)) rfl rfl else by unfold uF; simp only [nb2 k0, cond_false]) (funext fun q => if k0 : q = 58 then by subst k0; exact Eq.trans (b := (A 58)) rfl rfl else if k1 : q = 59 then by subst k1; exact Eq.trans (b := (A 59)) rfl rfl else by unfold uA; simp only [nb1 k0, nb1 k1, cond_false]) rfl K)
noncomputable def kr_readNumber_4 (f1_2 : Int32) (f1_4 : Int32) (f53_1 : Int32) (a2 : List Int32) (a58 : List Int32) (a59 : List Int32)  : Nat → Int32 → Int32 → Int32 → Int32 × Int32 × Int32 × List Int32 × List Int32
  | 0, y1, _, f1_3 => (lt (kl_add_53 f53_1 a58 a59 48 y1) (fun g372 => (f1_3, f1_4, g372.2.1, g372.2.2.1, g372.2.2.2)))
  | m + 1, y1, y2, f1_3 => (lt (kx_sign f1_2 f1_3 a2) (fun g373 => (lt (kc_within g373 48 57) (fun g374 => (if g374 = 0 then (lt (kl_add_53 f53_1 a58 a59 48 y1) (fun g375 => (f1_3, f1_4, g375.2.1, g375.2.2.1, g375.2.2.2))) else (if y2 = 5 then (lt (kx_fail f1_3 f1_4 2) (fun g376 => (f1_3, g376.2, f53_1, a58, a59))) else (kr_readNumber_4 f1_2 f1_4 f53_1 a2 a58 a59 m (((y1 * 10) + g373) - 48) (y2 + 1) (f1_3 + 1))))))))
theorem t_kr_readNumber_4 {f : Nat} {Q : Option Value → sm_H → Prop} : ∀ (m : Nat) {B D : Nat} {F : Nat → Nat → Int32} {A : Nat → List Int32} {L : Nat → List Int64} {y1 : Int32} {y2 : Int32}, m = (5 + 1 - y2.toInt).toNat → (Q none (hz (uF (uF (uF F 1 3 ((kr_readNumber_4 (F 1 2) (F 1 4) (F 53 1) (A 2) (A 58) (A 59) m y1 y2 (F 1 3)).1)) 1 4 ((kr_readNumber_4 (F 1 2) (F 1 4) (F 53 1) (A 2) (A 58) (A 59) m y1 y2 (F 1 3)).2.1)) 53 1 ((kr_readNumber_4 (F 1 2) (F 1 4) (F 53 1) (A 2) (A 58) (A 59) m y1 y2 (F 1 3)).2.2.1)) (uA (uA A 58 ((kr_readNumber_4 (F 1 2) (F 1 4) (F 53 1) (A 2) (A 58) (A 59) m y1 y2 (F 1 3)).2.2.2.1)) 59 ((kr_readNumber_4 (F 1 2) (F 1 4) (F 53 1) (A 2) (A 58) (A 59) m y1 y2 (F 1 3)).2.2.2.2)) L)) → wl_E f B D mm31.2.2.2.2.2.2.2.2 4 [some (.ref 52), some (.int y1), some (.int y2)] [] (hz F A L) Q := by
  intro m
  induction m with
  | zero =>
    intro B D F A L y1 y2 hm K
    generalize hT : (kr_readNumber_4 (F 1 2) (F 1 4) (F 53 1) (A 2) (A 58) (A 59) 0 y1 y2 (F 1 3)) = T at K
    have hE : T = (lt (kl_add_53 (F 53 1) (A 58) (A 59) 48 y1) (fun g372 => ((F 1 3), (F 1 4), g372.2.1, g372.2.2.1, g372.2.2.2))) := hT.symm
    clear hT
    refine w_n 2 (pc1 := 6) (ls1 := [some (.ref 52), some (.int y1), some (.int y2)]) (st1 := [.int 5, .int y2]) (hp1 := (hz F A L)) rfl ?_
    refine w_gt (p3 := 9) rfl rfl (fun hb => ?_) (fun h => False.elim (by have h : y2.toInt ≤ 5 := h; omega))
    refine w_n 4 (pc1 := 83) (ls1 := [some (.ref 52), some (.int y1), some (.int y2)]) (st1 := [.int y1, .int 48, .ref 53]) (hp1 := (hz F A L)) rfl ?_
    refine w_c rfl rfl (t_kl_add_53 ?_)
    show wl_E f _ _ mm31.2.2.2.2.2.2.2.2 86 [some (.ref 52), some (.int y1), some (.int y2)] [.int (kl_add_53 (F 53 1) (A 58) (A 59) 48 y1).1] (hz (uF F 53 1 (kl_add_53 (F 53 1) (A 58) (A 59) 48 y1).2.1) (uA (uA A 58 (kl_add_53 (F 53 1) (A 58) (A 59) 48 y1).2.2.1) 59 (kl_add_53 (F 53 1) (A 58) (A 59) 48 y1).2.2.2) L) _
    generalize hG372 : (kl_add_53 (F 53 1) (A 58) (A 59) 48 y1) = G372 at hE ⊢
    replace hE := hE.trans (lt_e _ _)
    refine w_n 1 (pc1 := 87) (ls1 := [some (.ref 52), some (.int y1), some (.int y2)]) (st1 := []) (hp1 := (hz (uF F 53 1 G372.2.1) (uA (uA A 58 G372.2.2.1) 59 G372.2.2.2) L)) rfl ?_
    subst T
    exact w_r rfl rfl (cvQ (funext fun q => funext fun z => if k0 : q = 1 ∧ z = 3 then by obtain ⟨w1, w2⟩ := k0; subst w1; subst w2; exact Eq.trans (b := (F 1 3)) rfl rfl else if k1 : q = 1 ∧ z = 4 then by obtain ⟨w1, w2⟩ := k1; subst w1; subst w2; exact Eq.trans (b := (F 1 4)) rfl rfl else if k2 : q = 53 ∧ z = 1 then by obtain ⟨w1, w2⟩ := k2; subst w1; subst w2; exact Eq.trans (b := G372.2.1) rfl rfl else by unfold uF; simp only [nb2 k0, nb2 k1, nb2 k2, cond_false]) rfl rfl K)
  | succ m ih =>
    intro B D F A L y1 y2 hm K
    generalize hT : (kr_readNumber_4 (F 1 2) (F 1 4) (F 53 1) (A 2) (A 58) (A 59) (m + 1) y1 y2 (F 1 3)) = T at K
    have hE : T = (lt (kx_sign (F 1 2) (F 1 3) (A 2)) (fun g373 => (lt (kc_within g373 48 57) (fun g374 => (if g374 = 0 then (lt (kl_add_53 (F 53 1) (A 58) (A 59) 48 y1) (fun g375 => ((F 1 3), (F 1 4), g375.2.1, g375.2.2.1, g375.2.2.2))) else (if y2 = 5 then (lt (kx_fail (F 1 3) (F 1 4) 2) (fun g376 => ((F 1 3), g376.2, (F 53 1), (A 58), (A 59)))) else (kr_readNumber_4 (F 1 2) (F 1 4) (F 53 1) (A 2) (A 58) (A 59) m (((y1 * 10) + g373) - 48) (y2 + 1) ((F 1 3) + 1)))))))) := hT.symm
    clear hT
    refine w_n 2 (pc1 := 6) (ls1 := [some (.ref 52), some (.int y1), some (.int y2)]) (st1 := [.int 5, .int y2]) (hp1 := (hz F A L)) rfl ?_
    refine w_gt (p3 := 9) rfl rfl (fun h => False.elim (by have h : 5 < y2.toInt := h; omega)) (fun hb => ?_)
    refine w_n 2 (pc1 := 13) (ls1 := [some (.ref 52), some (.int y1), some (.int y2)]) (st1 := [.ref 1]) (hp1 := (hz F A L)) rfl ?_
    refine w_c rfl rfl (t_kx_sign ?_)
    show wl_E f _ _ mm31.2.2.2.2.2.2.2.2 16 [some (.ref 52), some (.int y1), some (.int y2)] [.int (kx_sign (F 1 2) (F 1 3) (A 2))] (hz F A L) _
    generalize hG373 : (kx_sign (F 1 2) (F 1 3) (A 2)) = G373 at hE ⊢
    replace hE := hE.trans (lt_e _ _)
    refine w_n 2 (pc1 := 20) (ls1 := [some (.ref 52), some (.int y1), some (.int y2)]) (st1 := [.int 57, .int 48, .int G373]) (hp1 := (hz F A L)) rfl ?_
    refine w_c rfl rfl (t_kc_within ?_)
    show wl_E f _ _ mm31.2.2.2.2.2.2.2.2 23 [some (.ref 52), some (.int y1), some (.int y2)] [.int (kc_within G373 48 57)] (hz F A L) _
    generalize hG374 : (kc_within G373 48 57) = G374 at hE ⊢
    replace hE := hE.trans (lt_e _ _)
    refine w_zeq (p3 := 26) rfl rfl (fun h => ?_) (fun h => ?_)
    · have h1 : G374 = 0 := h
      rw [if_pos h1] at hE
      refine w_n 4 (pc1 := 83) (ls1 := [some (.ref 52), some (.int y1), some (.int y2)]) (st1 := [.int y1, .int 48, .ref 53]) (hp1 := (hz F A L)) rfl ?_
      refine w_c rfl rfl (t_kl_add_53 ?_)
      show wl_E f _ _ mm31.2.2.2.2.2.2.2.2 86 [some (.ref 52), some (.int y1), some (.int y2)] [.int (kl_add_53 (F 53 1) (A 58) (A 59) 48 y1).1] (hz (uF F 53 1 (kl_add_53 (F 53 1) (A 58) (A 59) 48 y1).2.1) (uA (uA A 58 (kl_add_53 (F 53 1) (A 58) (A 59) 48 y1).2.2.1) 59 (kl_add_53 (F 53 1) (A 58) (A 59) 48 y1).2.2.2) L) _
      generalize hG375 : (kl_add_53 (F 53 1) (A 58) (A 59) 48 y1) = G375 at hE ⊢
      replace hE := hE.trans (lt_e _ _)
      refine w_n 1 (pc1 := 87) (ls1 := [some (.ref 52), some (.int y1), some (.int y2)]) (st1 := []) (hp1 := (hz (uF F 53 1 G375.2.1) (uA (uA A 58 G375.2.2.1) 59 G375.2.2.2) L)) rfl ?_
      subst T
      exact w_r rfl rfl (cvQ (funext fun q => funext fun z => if k0 : q = 1 ∧ z = 3 then by obtain ⟨w1, w2⟩ := k0; subst w1; subst w2; exact Eq.trans (b := (F 1 3)) rfl rfl else if k1 : q = 1 ∧ z = 4 then by obtain ⟨w1, w2⟩ := k1; subst w1; subst w2; exact Eq.trans (b := (F 1 4)) rfl rfl else if k2 : q = 53 ∧ z = 1 then by obtain ⟨w1, w2⟩ := k2; subst w1; subst w2; exact Eq.trans (b := G375.2.1) rfl rfl else by unfold uF; simp only [nb2 k0, nb2 k1, nb2 k2, cond_false]) rfl rfl K)
    · have h1 : ¬ G374 = 0 := h
      rw [if_neg h1] at hE
      refine w_n 2 (pc1 := 28) (ls1 := [some (.ref 52), some (.int y1), some (.int y2)]) (st1 := [.int 5, .int y2]) (hp1 := (hz F A L)) rfl ?_
      refine w_ne (p3 := 31) rfl rfl (fun h => ?_) (fun h => ?_)
      · have h2 : ¬ y2 = 5 := h
        rw [if_neg h2] at hE
        refine w_n 5 (pc1 := 49) (ls1 := [some (.ref 52), some (.int y1), some (.int y2)]) (st1 := [.ref 1, .int (y1 * 10)]) (hp1 := (hz F A L)) rfl ?_
        refine w_c rfl rfl (t_kx_sign ?_)
        show wl_E f _ _ mm31.2.2.2.2.2.2.2.2 52 [some (.ref 52), some (.int y1), some (.int y2)] [.int (kx_sign (F 1 2) (F 1 3) (A 2)), .int (y1 * 10)] (hz F A L) _
        rw [hG373]
        refine w_n 10 (pc1 := 67) (ls1 := [some (.ref 52), some (.int (((y1 * 10) + G373) - 48)), some (.int y2)]) (st1 := [.int ((F 1 3) + 1), .ref 1]) (hp1 := (hz F A L)) rfl ?_
        refine w_pf (k := 1) (fs := hz_f1 F) (hp1 := (hz (uF F 1 3 ((F 1 3) + 1)) A L)) rfl rfl rfl (hz_p1_3 _) ?_
        refine w_n 2 (pc1 := 4) (ls1 := [some (.ref 52), some (.int (((y1 * 10) + G373) - 48)), some (.int (y2 + 1))]) (st1 := []) (hp1 := (hz (uF F 1 3 ((F 1 3) + 1)) A L)) rfl ?_
        subst T
        have hb2 := i_up2 (B := (5 : Int32)) hb (by first | decide | exact hB | assumption)
        have hb3 : y2.toInt ≤ 5 := hb
        exact ih (show m = (5 + 1 - (y2 + 1).toInt).toNat by rw [hb2]; omega) (cvQ (funext fun q => funext fun z => if k0 : q = 1 ∧ z = 3 then by obtain ⟨w1, w2⟩ := k0; subst w1; subst w2; exact Eq.trans (b := (kr_readNumber_4 (F 1 2) (F 1 4) (F 53 1) (A 2) (A 58) (A 59) m (((y1 * 10) + G373) - 48) (y2 + 1) ((F 1 3) + 1)).1) rfl rfl else if k1 : q = 1 ∧ z = 4 then by obtain ⟨w1, w2⟩ := k1; subst w1; subst w2; exact Eq.trans (b := (kr_readNumber_4 (F 1 2) (F 1 4) (F 53 1) (A 2) (A 58) (A 59) m (((y1 * 10) + G373) - 48) (y2 + 1) ((F 1 3) + 1)).2.1) rfl rfl else if k2 : q = 53 ∧ z = 1 then by obtain ⟨w1, w2⟩ := k2; subst w1; subst w2; exact Eq.trans (b := (kr_readNumber_4 (F 1 2) (F 1 4) (F 53 1) (A 2) (A 58) (A 59) m (((y1 * 10) + G373) - 48) (y2 + 1) ((F 1 3) + 1)).2.2.1) rfl rfl else by unfold uF; simp only [nb2 k0, nb2 k1, nb2 k2, cond_false]) (funext fun q => if k0 : q = 58 then by subst k0; exact Eq.trans (b := (kr_readNumber_4 (F 1 2) (F 1 4) (F 53 1) (A 2) (A 58) (A 59) m (((y1 * 10) + G373) - 48) (y2 + 1) ((F 1 3) + 1)).2.2.2.1) rfl rfl else if k1 : q = 59 then by subst k1; exact Eq.trans (b := (kr_readNumber_4 (F 1 2) (F 1 4) (F 53 1) (A 2) (A 58) (A 59) m (((y1 * 10) + G373) - 48) (y2 + 1) ((F 1 3) + 1)).2.2.2.2) rfl rfl else by unfold uA; simp only [nb1 k0, nb1 k1, cond_false]) rfl K)
      · have h2 : y2 = 5 := h
        rw [if_pos h2] at hE
        refine w_n 3 (pc1 := 36) (ls1 := [some (.ref 52), some (.int y1), some (.int y2)]) (st1 := [.int 2, .ref 1]) (hp1 := (hz F A L)) rfl ?_
        refine w_c rfl rfl (t_kx_fail ?_)
        show wl_E f _ _ mm31.2.2.2.2.2.2.2.2 39 [some (.ref 52), some (.int y1), some (.int y2)] [.int (kx_fail (F 1 3) (F 1 4) 2).1] (hz (uF F 1 4 (kx_fail (F 1 3) (F 1 4) 2).2) A L) _
        generalize hG376 : (kx_fail (F 1 3) (F 1 4) 2) = G376 at hE ⊢
        replace hE := hE.trans (lt_e _ _)
        refine w_n 1 (pc1 := 40) (ls1 := [some (.ref 52), some (.int y1), some (.int y2)]) (st1 := []) (hp1 := (hz (uF F 1 4 G376.2) A L)) rfl ?_
        subst T
        exact w_r rfl rfl (cvQ (funext fun q => funext fun z => if k0 : q = 1 ∧ z = 3 then by obtain ⟨w1, w2⟩ := k0; subst w1; subst w2; exact Eq.trans (b := (F 1 3)) rfl rfl else if k1 : q = 1 ∧ z = 4 then by obtain ⟨w1, w2⟩ := k1; subst w1; subst w2; exact Eq.trans (b := G376.2) rfl rfl else if k2 : q = 53 ∧ z = 1 then by obtain ⟨w1, w2⟩ := k2; subst w1; subst w2; exact Eq.trans (b := (F 53 1)) rfl rfl else by unfold uF; simp only [nb2 k0, nb2 k1, nb2 k2, cond_false]) (funext fun q => if k0 : q = 58 then by subst k0; exact Eq.trans (b := (A 58)) rfl rfl else if k1 : q = 59 then by subst k1; exact Eq.trans (b := (A 59)) rfl rfl else by unfold uA; simp only [nb1 k0, nb1 k1, cond_false]) rfl K)
noncomputable def kr_readNumber (f1_2 : Int32) (f1_3 : Int32) (f1_4 : Int32) (f53_1 : Int32) (a2 : List Int32) (a58 : List Int32) (a59 : List Int32) : Int32 × Int32 × Int32 × List Int32 × List Int32 := (kr_readNumber_4 f1_2 f1_4 f53_1 a2 a58 a59 6 0 0 f1_3)
theorem t_kr_readNumber {f D : Nat} {F : Nat → Nat → Int32} {A : Nat → List Int32} {L : Nat → List Int64} {Q : Option Value → sm_H → Prop} (K : Q none (hz (uF (uF (uF F 1 3 ((kr_readNumber (F 1 2) (F 1 3) (F 1 4) (F 53 1) (A 2) (A 58) (A 59)).1)) 1 4 ((kr_readNumber (F 1 2) (F 1 3) (F 1 4) (F 53 1) (A 2) (A 58) (A 59)).2.1)) 53 1 ((kr_readNumber (F 1 2) (F 1 3) (F 1 4) (F 53 1) (A 2) (A 58) (A 59)).2.2.1)) (uA (uA A 58 ((kr_readNumber (F 1 2) (F 1 3) (F 1 4) (F 53 1) (A 2) (A 58) (A 59)).2.2.2.1)) 59 ((kr_readNumber (F 1 2) (F 1 3) (F 1 4) (F 53 1) (A 2) (A 58) (A 59)).2.2.2.2)) L)) : wl_M f D 31 [.ref 52] (hz F A L) Q := by
  generalize hT : (kr_readNumber (F 1 2) (F 1 3) (F 1 4) (F 53 1) (A 2) (A 58) (A 59)) = T at K
  have hE : T = (kr_readNumber_4 (F 1 2) (F 1 4) (F 53 1) (A 2) (A 58) (A 59) 6 0 0 (F 1 3)) := hT.symm
  clear hT
  refine w_m (E := mm31) rfl ?_
  show wl_E f f (D - 1) mm31.2.2.2.2.2.2.2.2 0 [some (.ref 52), none, none] [] (hz F A L) Q
  refine w_n 4 (pc1 := 4) (ls1 := [some (.ref 52), some (.int 0), some (.int 0)]) (st1 := []) (hp1 := (hz F A L)) rfl ?_
  subst T
  exact t_kr_readNumber_4 _ (show (6 : Nat) = (5 + 1 - (0 : Int32).toInt).toNat by have e0 : (0 : Int32).toInt = 0 := rfl; first | rfl | omega) (cvQ (funext fun q => funext fun z => if k0 : q = 1 ∧ z = 3 then by obtain ⟨w1, w2⟩ := k0; subst w1; subst w2; exact Eq.trans (b := (kr_readNumber_4 (F 1 2) (F 1 4) (F 53 1) (A 2) (A 58) (A 59) 6 0 0 (F 1 3)).1) rfl rfl else if k1 : q = 1 ∧ z = 4 then by obtain ⟨w1, w2⟩ := k1; subst w1; subst w2; exact Eq.trans (b := (kr_readNumber_4 (F 1 2) (F 1 4) (F 53 1) (A 2) (A 58) (A 59) 6 0 0 (F 1 3)).2.1) rfl rfl else if k2 : q = 53 ∧ z = 1 then by obtain ⟨w1, w2⟩ := k2; subst w1; subst w2; exact Eq.trans (b := (kr_readNumber_4 (F 1 2) (F 1 4) (F 53 1) (A 2) (A 58) (A 59) 6 0 0 (F 1 3)).2.2.1) rfl rfl else by unfold uF; simp only [nb2 k0, nb2 k1, nb2 k2, cond_false]) (funext fun q => if k0 : q = 58 then by subst k0; exact Eq.trans (b := (kr_readNumber_4 (F 1 2) (F 1 4) (F 53 1) (A 2) (A 58) (A 59) 6 0 0 (F 1 3)).2.2.2.1) rfl rfl else if k1 : q = 59 then by subst k1; exact Eq.trans (b := (kr_readNumber_4 (F 1 2) (F 1 4) (F 53 1) (A 2) (A 58) (A 59) 6 0 0 (F 1 3)).2.2.2.2) rfl rfl else by unfold uA; simp only [nb1 k0, nb1 k1, cond_false]) rfl K)
noncomputable def kr_opens (f1_2 : Int32) (f1_3 : Int32) (f1_4 : Int32) (f52_2 : Int32) (a2 : List Int32) (x1 : Int32) : Int32 × Int32 × Int32 × Int32 := (if f1_4 = 0 then (lt (kx_sign f1_2 f1_3 a2) (fun g379 => (if g379 = x1 then (if f52_2.toInt < 6 then (lt (kx_pass f1_2 f1_3 f1_4 a2 x1) (fun g381 => (if g381.2 = 0 then (1, g381.1, g381.2, (f52_2 + 1)) else (0, g381.1, g381.2, f52_2)))) else (lt (kx_fail f1_3 f1_4 5) (fun g382 => (lt (kx_pass f1_2 f1_3 g382.2 a2 x1) (fun g383 => (if g383.2 = 0 then (1, g383.1, g383.2, (f52_2 + 1)) else (0, g383.1, g383.2, f52_2))))))) else (lt (kx_pass f1_2 f1_3 f1_4 a2 x1) (fun g380 => (if g380.2 = 0 then (1, g380.1, g380.2, (f52_2 + 1)) else (0, g380.1, g380.2, f52_2))))))) else (lt (kx_pass f1_2 f1_3 f1_4 a2 x1) (fun g378 => (if g378.2 = 0 then (1, g378.1, g378.2, (f52_2 + 1)) else (0, g378.1, g378.2, f52_2)))))
theorem t_kr_opens {f D : Nat} {F : Nat → Nat → Int32} {A : Nat → List Int32} {L : Nat → List Int64} {Q : Option Value → sm_H → Prop} {x1 : Int32} (K : Q (some (.int ((kr_opens (F 1 2) (F 1 3) (F 1 4) (F 52 2) (A 2) x1).1))) (hz (uF (uF (uF F 1 3 ((kr_opens (F 1 2) (F 1 3) (F 1 4) (F 52 2) (A 2) x1).2.1)) 1 4 ((kr_opens (F 1 2) (F 1 3) (F 1 4) (F 52 2) (A 2) x1).2.2.1)) 52 2 ((kr_opens (F 1 2) (F 1 3) (F 1 4) (F 52 2) (A 2) x1).2.2.2)) A L)) : wl_M f D 30 [.ref 52, .int x1] (hz F A L) Q := by
  generalize hT : (kr_opens (F 1 2) (F 1 3) (F 1 4) (F 52 2) (A 2) x1) = T at K
  have hE : T = (if (F 1 4) = 0 then (lt (kx_sign (F 1 2) (F 1 3) (A 2)) (fun g379 => (if g379 = x1 then (if (F 52 2).toInt < 6 then (lt (kx_pass (F 1 2) (F 1 3) (F 1 4) (A 2) x1) (fun g381 => (if g381.2 = 0 then (1, g381.1, g381.2, ((F 52 2) + 1)) else (0, g381.1, g381.2, (F 52 2))))) else (lt (kx_fail (F 1 3) (F 1 4) 5) (fun g382 => (lt (kx_pass (F 1 2) (F 1 3) g382.2 (A 2) x1) (fun g383 => (if g383.2 = 0 then (1, g383.1, g383.2, ((F 52 2) + 1)) else (0, g383.1, g383.2, (F 52 2)))))))) else (lt (kx_pass (F 1 2) (F 1 3) (F 1 4) (A 2) x1) (fun g380 => (if g380.2 = 0 then (1, g380.1, g380.2, ((F 52 2) + 1)) else (0, g380.1, g380.2, (F 52 2)))))))) else (lt (kx_pass (F 1 2) (F 1 3) (F 1 4) (A 2) x1) (fun g378 => (if g378.2 = 0 then (1, g378.1, g378.2, ((F 52 2) + 1)) else (0, g378.1, g378.2, (F 52 2)))))) := hT.symm
  clear hT
  refine w_m (E := mm30) rfl ?_
  show wl_E f f (D - 1) mm30.2.2.2.2.2.2.2.2 0 [some (.ref 52), some (.int x1)] [] (hz F A L) Q
  refine w_n 3 (pc1 := 7) (ls1 := [some (.ref 52), some (.int x1)]) (st1 := [.int (F 1 4)]) (hp1 := (hz F A L)) rfl ?_
  refine w_zne (p3 := 10) rfl rfl (fun h => ?_) (fun h => ?_)
  · have h1 : ¬ (F 1 4) = 0 := h
    rw [if_neg h1] at hE
    refine w_n 3 (pc1 := 44) (ls1 := [some (.ref 52), some (.int x1)]) (st1 := [.int x1, .ref 1]) (hp1 := (hz F A L)) rfl ?_
    refine w_c rfl rfl (t_kx_pass ?_)
    show wl_E f _ _ mm30.2.2.2.2.2.2.2.2 47 [some (.ref 52), some (.int x1)] [] (hz (uF (uF F 1 3 (kx_pass (F 1 2) (F 1 3) (F 1 4) (A 2) x1).1) 1 4 (kx_pass (F 1 2) (F 1 3) (F 1 4) (A 2) x1).2) A L) _
    generalize hG378 : (kx_pass (F 1 2) (F 1 3) (F 1 4) (A 2) x1) = G378 at hE ⊢
    replace hE := hE.trans (lt_e _ _)
    refine w_n 3 (pc1 := 54) (ls1 := [some (.ref 52), some (.int x1)]) (st1 := [.int G378.2]) (hp1 := (hz (uF (uF F 1 3 G378.1) 1 4 G378.2) A L)) rfl ?_
    refine w_zeq (p3 := 57) rfl rfl (fun h => ?_) (fun h => ?_)
    · have h2 : G378.2 = 0 := h
      rw [if_pos h2] at hE
      refine w_n 5 (pc1 := 66) (ls1 := [some (.ref 52), some (.int x1)]) (st1 := [.int ((F 52 2) + 1), .ref 52]) (hp1 := (hz (uF (uF F 1 3 G378.1) 1 4 G378.2) A L)) rfl ?_
      refine w_pf (k := 52) (fs := hz_f52 (uF (uF F 1 3 G378.1) 1 4 G378.2)) (hp1 := (hz (uF (uF (uF F 1 3 G378.1) 1 4 G378.2) 52 2 ((F 52 2) + 1)) A L)) rfl rfl rfl (hz_p52_2 _) ?_
      refine w_n 1 (pc1 := 70) (ls1 := [some (.ref 52), some (.int x1)]) (st1 := [.int 1]) (hp1 := (hz (uF (uF (uF F 1 3 G378.1) 1 4 G378.2) 52 2 ((F 52 2) + 1)) A L)) rfl ?_
      subst T
      exact w_ri rfl (cvQ rfl rfl rfl K)
    · have h2 : ¬ G378.2 = 0 := h
      rw [if_neg h2] at hE
      refine w_n 1 (pc1 := 58) (ls1 := [some (.ref 52), some (.int x1)]) (st1 := [.int 0]) (hp1 := (hz (uF (uF F 1 3 G378.1) 1 4 G378.2) A L)) rfl ?_
      subst T
      exact w_ri rfl (cvQ (funext fun q => funext fun z => if k0 : q = 1 ∧ z = 3 then by obtain ⟨w1, w2⟩ := k0; subst w1; subst w2; exact Eq.trans (b := G378.1) rfl rfl else if k1 : q = 1 ∧ z = 4 then by obtain ⟨w1, w2⟩ := k1; subst w1; subst w2; exact Eq.trans (b := G378.2) rfl rfl else if k2 : q = 52 ∧ z = 2 then by obtain ⟨w1, w2⟩ := k2; subst w1; subst w2; exact Eq.trans (b := (F 52 2)) rfl rfl else by unfold uF; simp only [nb2 k0, nb2 k1, nb2 k2, cond_false]) rfl rfl K)
  · have h1 : (F 1 4) = 0 := h
    rw [if_pos h1] at hE
    refine w_n 2 (pc1 := 14) (ls1 := [some (.ref 52), some (.int x1)]) (st1 := [.ref 1]) (hp1 := (hz F A L)) rfl ?_
    refine w_c rfl rfl (t_kx_sign ?_)
    show wl_E f _ _ mm30.2.2.2.2.2.2.2.2 17 [some (.ref 52), some (.int x1)] [.int (kx_sign (F 1 2) (F 1 3) (A 2))] (hz F A L) _
    generalize hG379 : (kx_sign (F 1 2) (F 1 3) (A 2)) = G379 at hE ⊢
    replace hE := hE.trans (lt_e _ _)
    refine w_n 1 (pc1 := 18) (ls1 := [some (.ref 52), some (.int x1)]) (st1 := [.int x1, .int G379]) (hp1 := (hz F A L)) rfl ?_
    refine w_ne (p3 := 21) rfl rfl (fun h => ?_) (fun h => ?_)
    · have h3 : ¬ G379 = x1 := h
      rw [if_neg h3] at hE
      refine w_n 3 (pc1 := 44) (ls1 := [some (.ref 52), some (.int x1)]) (st1 := [.int x1, .ref 1]) (hp1 := (hz F A L)) rfl ?_
      refine w_c rfl rfl (t_kx_pass ?_)
      show wl_E f _ _ mm30.2.2.2.2.2.2.2.2 47 [some (.ref 52), some (.int x1)] [] (hz (uF (uF F 1 3 (kx_pass (F 1 2) (F 1 3) (F 1 4) (A 2) x1).1) 1 4 (kx_pass (F 1 2) (F 1 3) (F 1 4) (A 2) x1).2) A L) _
      generalize hG380 : (kx_pass (F 1 2) (F 1 3) (F 1 4) (A 2) x1) = G380 at hE ⊢
      replace hE := hE.trans (lt_e _ _)
      refine w_n 3 (pc1 := 54) (ls1 := [some (.ref 52), some (.int x1)]) (st1 := [.int G380.2]) (hp1 := (hz (uF (uF F 1 3 G380.1) 1 4 G380.2) A L)) rfl ?_
      refine w_zeq (p3 := 57) rfl rfl (fun h => ?_) (fun h => ?_)
      · have h4 : G380.2 = 0 := h
        rw [if_pos h4] at hE
        refine w_n 5 (pc1 := 66) (ls1 := [some (.ref 52), some (.int x1)]) (st1 := [.int ((F 52 2) + 1), .ref 52]) (hp1 := (hz (uF (uF F 1 3 G380.1) 1 4 G380.2) A L)) rfl ?_
        refine w_pf (k := 52) (fs := hz_f52 (uF (uF F 1 3 G380.1) 1 4 G380.2)) (hp1 := (hz (uF (uF (uF F 1 3 G380.1) 1 4 G380.2) 52 2 ((F 52 2) + 1)) A L)) rfl rfl rfl (hz_p52_2 _) ?_
        refine w_n 1 (pc1 := 70) (ls1 := [some (.ref 52), some (.int x1)]) (st1 := [.int 1]) (hp1 := (hz (uF (uF (uF F 1 3 G380.1) 1 4 G380.2) 52 2 ((F 52 2) + 1)) A L)) rfl ?_
        subst T
        exact w_ri rfl (cvQ rfl rfl rfl K)
      · have h4 : ¬ G380.2 = 0 := h
        rw [if_neg h4] at hE
        refine w_n 1 (pc1 := 58) (ls1 := [some (.ref 52), some (.int x1)]) (st1 := [.int 0]) (hp1 := (hz (uF (uF F 1 3 G380.1) 1 4 G380.2) A L)) rfl ?_
        subst T
        exact w_ri rfl (cvQ (funext fun q => funext fun z => if k0 : q = 1 ∧ z = 3 then by obtain ⟨w1, w2⟩ := k0; subst w1; subst w2; exact Eq.trans (b := G380.1) rfl rfl else if k1 : q = 1 ∧ z = 4 then by obtain ⟨w1, w2⟩ := k1; subst w1; subst w2; exact Eq.trans (b := G380.2) rfl rfl else if k2 : q = 52 ∧ z = 2 then by obtain ⟨w1, w2⟩ := k2; subst w1; subst w2; exact Eq.trans (b := (F 52 2)) rfl rfl else by unfold uF; simp only [nb2 k0, nb2 k1, nb2 k2, cond_false]) rfl rfl K)
    · have h3 : G379 = x1 := h
      rw [if_pos h3] at hE
      refine w_n 3 (pc1 := 27) (ls1 := [some (.ref 52), some (.int x1)]) (st1 := [.int 6, .int (F 52 2)]) (hp1 := (hz F A L)) rfl ?_
      refine w_lt (p3 := 30) rfl rfl (fun h => ?_) (fun h => ?_)
      · have h5 : (F 52 2).toInt < 6 := h
        rw [if_pos h5] at hE
        refine w_n 3 (pc1 := 44) (ls1 := [some (.ref 52), some (.int x1)]) (st1 := [.int x1, .ref 1]) (hp1 := (hz F A L)) rfl ?_
        refine w_c rfl rfl (t_kx_pass ?_)
        show wl_E f _ _ mm30.2.2.2.2.2.2.2.2 47 [some (.ref 52), some (.int x1)] [] (hz (uF (uF F 1 3 (kx_pass (F 1 2) (F 1 3) (F 1 4) (A 2) x1).1) 1 4 (kx_pass (F 1 2) (F 1 3) (F 1 4) (A 2) x1).2) A L) _
        generalize hG381 : (kx_pass (F 1 2) (F 1 3) (F 1 4) (A 2) x1) = G381 at hE ⊢
        replace hE := hE.trans (lt_e _ _)
        refine w_n 3 (pc1 := 54) (ls1 := [some (.ref 52), some (.int x1)]) (st1 := [.int G381.2]) (hp1 := (hz (uF (uF F 1 3 G381.1) 1 4 G381.2) A L)) rfl ?_
        refine w_zeq (p3 := 57) rfl rfl (fun h => ?_) (fun h => ?_)
        · have h6 : G381.2 = 0 := h
          rw [if_pos h6] at hE
          refine w_n 5 (pc1 := 66) (ls1 := [some (.ref 52), some (.int x1)]) (st1 := [.int ((F 52 2) + 1), .ref 52]) (hp1 := (hz (uF (uF F 1 3 G381.1) 1 4 G381.2) A L)) rfl ?_
          refine w_pf (k := 52) (fs := hz_f52 (uF (uF F 1 3 G381.1) 1 4 G381.2)) (hp1 := (hz (uF (uF (uF F 1 3 G381.1) 1 4 G381.2) 52 2 ((F 52 2) + 1)) A L)) rfl rfl rfl (hz_p52_2 _) ?_
          refine w_n 1 (pc1 := 70) (ls1 := [some (.ref 52), some (.int x1)]) (st1 := [.int 1]) (hp1 := (hz (uF (uF (uF F 1 3 G381.1) 1 4 G381.2) 52 2 ((F 52 2) + 1)) A L)) rfl ?_
          subst T
          exact w_ri rfl (cvQ rfl rfl rfl K)
        · have h6 : ¬ G381.2 = 0 := h
          rw [if_neg h6] at hE
          refine w_n 1 (pc1 := 58) (ls1 := [some (.ref 52), some (.int x1)]) (st1 := [.int 0]) (hp1 := (hz (uF (uF F 1 3 G381.1) 1 4 G381.2) A L)) rfl ?_
          subst T
          exact w_ri rfl (cvQ (funext fun q => funext fun z => if k0 : q = 1 ∧ z = 3 then by obtain ⟨w1, w2⟩ := k0; subst w1; subst w2; exact Eq.trans (b := G381.1) rfl rfl else if k1 : q = 1 ∧ z = 4 then by obtain ⟨w1, w2⟩ := k1; subst w1; subst w2; exact Eq.trans (b := G381.2) rfl rfl else if k2 : q = 52 ∧ z = 2 then by obtain ⟨w1, w2⟩ := k2; subst w1; subst w2; exact Eq.trans (b := (F 52 2)) rfl rfl else by unfold uF; simp only [nb2 k0, nb2 k1, nb2 k2, cond_false]) rfl rfl K)
      · have h5 : 6 ≤ (F 52 2).toInt := h
        rw [if_neg (Int.not_lt.mpr h5)] at hE
        refine w_n 3 (pc1 := 35) (ls1 := [some (.ref 52), some (.int x1)]) (st1 := [.int 5, .ref 1]) (hp1 := (hz F A L)) rfl ?_
        refine w_c rfl rfl (t_kx_fail ?_)
        show wl_E f _ _ mm30.2.2.2.2.2.2.2.2 38 [some (.ref 52), some (.int x1)] [.int (kx_fail (F 1 3) (F 1 4) 5).1] (hz (uF F 1 4 (kx_fail (F 1 3) (F 1 4) 5).2) A L) _
        generalize hG382 : (kx_fail (F 1 3) (F 1 4) 5) = G382 at hE ⊢
        replace hE := hE.trans (lt_e _ _)
        refine w_n 4 (pc1 := 44) (ls1 := [some (.ref 52), some (.int x1)]) (st1 := [.int x1, .ref 1]) (hp1 := (hz (uF F 1 4 G382.2) A L)) rfl ?_
        refine w_c rfl rfl (t_kx_pass ?_)
        show wl_E f _ _ mm30.2.2.2.2.2.2.2.2 47 [some (.ref 52), some (.int x1)] [] (hz (uF (uF (uF F 1 4 G382.2) 1 3 (kx_pass (F 1 2) (F 1 3) G382.2 (A 2) x1).1) 1 4 (kx_pass (F 1 2) (F 1 3) G382.2 (A 2) x1).2) A L) _
        generalize hG383 : (kx_pass (F 1 2) (F 1 3) G382.2 (A 2) x1) = G383 at hE ⊢
        replace hE := hE.trans (lt_e _ _)
        refine w_n 3 (pc1 := 54) (ls1 := [some (.ref 52), some (.int x1)]) (st1 := [.int G383.2]) (hp1 := (hz (uF (uF (uF F 1 4 G382.2) 1 3 G383.1) 1 4 G383.2) A L)) rfl ?_
        refine w_zeq (p3 := 57) rfl rfl (fun h => ?_) (fun h => ?_)
        · have h7 : G383.2 = 0 := h
          rw [if_pos h7] at hE
          refine w_n 5 (pc1 := 66) (ls1 := [some (.ref 52), some (.int x1)]) (st1 := [.int ((F 52 2) + 1), .ref 52]) (hp1 := (hz (uF (uF (uF F 1 4 G382.2) 1 3 G383.1) 1 4 G383.2) A L)) rfl ?_
          refine w_pf (k := 52) (fs := hz_f52 (uF (uF (uF F 1 4 G382.2) 1 3 G383.1) 1 4 G383.2)) (hp1 := (hz (uF (uF (uF (uF F 1 4 G382.2) 1 3 G383.1) 1 4 G383.2) 52 2 ((F 52 2) + 1)) A L)) rfl rfl rfl (hz_p52_2 _) ?_
          refine w_n 1 (pc1 := 70) (ls1 := [some (.ref 52), some (.int x1)]) (st1 := [.int 1]) (hp1 := (hz (uF (uF (uF (uF F 1 4 G382.2) 1 3 G383.1) 1 4 G383.2) 52 2 ((F 52 2) + 1)) A L)) rfl ?_
          subst T
          exact w_ri rfl (cvQ (funext fun q => funext fun z => if k0 : q = 1 ∧ z = 3 then by obtain ⟨w1, w2⟩ := k0; subst w1; subst w2; exact Eq.trans (b := G383.1) rfl rfl else if k1 : q = 1 ∧ z = 4 then by obtain ⟨w1, w2⟩ := k1; subst w1; subst w2; exact Eq.trans (b := G383.2) rfl rfl else if k2 : q = 52 ∧ z = 2 then by obtain ⟨w1, w2⟩ := k2; subst w1; subst w2; exact Eq.trans (b := ((F 52 2) + 1)) rfl rfl else by unfold uF; simp only [nb2 k0, nb2 k1, nb2 k2, cond_false]) rfl rfl K)
        · have h7 : ¬ G383.2 = 0 := h
          rw [if_neg h7] at hE
          refine w_n 1 (pc1 := 58) (ls1 := [some (.ref 52), some (.int x1)]) (st1 := [.int 0]) (hp1 := (hz (uF (uF (uF F 1 4 G382.2) 1 3 G383.1) 1 4 G383.2) A L)) rfl ?_
          subst T
          exact w_ri rfl (cvQ (funext fun q => funext fun z => if k0 : q = 1 ∧ z = 3 then by obtain ⟨w1, w2⟩ := k0; subst w1; subst w2; exact Eq.trans (b := G383.1) rfl rfl else if k1 : q = 1 ∧ z = 4 then by obtain ⟨w1, w2⟩ := k1; subst w1; subst w2; exact Eq.trans (b := G383.2) rfl rfl else if k2 : q = 52 ∧ z = 2 then by obtain ⟨w1, w2⟩ := k2; subst w1; subst w2; exact Eq.trans (b := (F 52 2)) rfl rfl else by unfold uF; simp only [nb2 k0, nb2 k1, nb2 k2, cond_false]) rfl rfl K)
noncomputable def kr_readFactor (r : Int32 → Int32 → Int32 → Int32 → Int32 → List Int32 → List Int32 → List Int32 → (Int32 × Int32 × Int32 × Int32 × List Int32 × List Int32)) (f1_2 : Int32) (f1_3 : Int32) (f1_4 : Int32) (f52_2 : Int32) (f53_1 : Int32) (a2 : List Int32) (a58 : List Int32) (a59 : List Int32) : Int32 × Int32 × Int32 × Int32 × List Int32 × List Int32 := (if f1_4 = 0 then (lt (kx_sign f1_2 f1_3 a2) (fun g367 => (if g367 = 91 then (lt (kr_opens f1_2 f1_3 f1_4 f52_2 a2 91) (fun g384 => (if g384.1 = 0 then (g384.2.1, g384.2.2.1, g384.2.2.2, f53_1, a58, a59) else (lt (r f1_2 g384.2.1 g384.2.2.1 g384.2.2.2 f53_1 a2 a58 a59) (fun g385 => (lt (kx_pass f1_2 g385.1 g385.2.1 a2 93) (fun g386 => (g386.1, g386.2, (g385.2.2.1 - 1), g385.2.2.2.1, g385.2.2.2.2.1, g385.2.2.2.2.2)))))))) else (lt (kc_within g367 48 57) (fun g368 => (if g368 = 0 then (if g367 = (-1) then (lt (kx_fail f1_3 f1_4 1) (fun g371 => (f1_3, g371.2, f52_2, f53_1, a58, a59))) else (if (sx_ixF (g367.toUInt32 % 65536).toInt32 sx_b 0).toInt < 0 then (lt (kx_fail f1_3 f1_4 1) (fun g370 => (f1_3, g370.2, f52_2, f53_1, a58, a59))) else (lt (kl_add_53 f53_1 a58 a59 103 (sx_ixF (g367.toUInt32 % 65536).toInt32 sx_b 0)) (fun g369 => ((f1_3 + 1), f1_4, f52_2, g369.2.1, g369.2.2.1, g369.2.2.2))))) else (lt (kr_readNumber f1_2 f1_3 f1_4 f53_1 a2 a58 a59) (fun g377 => (g377.1, g377.2.1, f52_2, g377.2.2.1, g377.2.2.2.1, g377.2.2.2.2))))))))) else (f1_3, f1_4, f52_2, f53_1, a58, a59))
theorem t_kr_readFactor {f D : Nat} {n : Nat} {r : Int32 → Int32 → Int32 → Int32 → Int32 → List Int32 → List Int32 → List Int32 → (Int32 × Int32 × Int32 × Int32 × List Int32 × List Int32)} (hr : ∀ (D : Nat) {F : Nat → Nat → Int32} {A : Nat → List Int32} {L : Nat → List Int64} {Q : Option Value → sm_H → Prop}, D ≤ n → (Q none (hz (uF (uF (uF (uF F 1 3 ((r (F 1 2) (F 1 3) (F 1 4) (F 52 2) (F 53 1) (A 2) (A 58) (A 59)).1)) 1 4 ((r (F 1 2) (F 1 3) (F 1 4) (F 52 2) (F 53 1) (A 2) (A 58) (A 59)).2.1)) 52 2 ((r (F 1 2) (F 1 3) (F 1 4) (F 52 2) (F 53 1) (A 2) (A 58) (A 59)).2.2.1)) 53 1 ((r (F 1 2) (F 1 3) (F 1 4) (F 52 2) (F 53 1) (A 2) (A 58) (A 59)).2.2.2.1)) (uA (uA A 58 ((r (F 1 2) (F 1 3) (F 1 4) (F 52 2) (F 53 1) (A 2) (A 58) (A 59)).2.2.2.2.1)) 59 ((r (F 1 2) (F 1 3) (F 1 4) (F 52 2) (F 53 1) (A 2) (A 58) (A 59)).2.2.2.2.2)) L)) → wl_M f D 27 [.ref 52] (hz F A L) Q) (hnf : n ≤ f) {F : Nat → Nat → Int32} {A : Nat → List Int32} {L : Nat → List Int64} {Q : Option Value → sm_H → Prop} (hn : D ≤ n) (K : Q none (hz (uF (uF (uF (uF F 1 3 ((kr_readFactor r (F 1 2) (F 1 3) (F 1 4) (F 52 2) (F 53 1) (A 2) (A 58) (A 59)).1)) 1 4 ((kr_readFactor r (F 1 2) (F 1 3) (F 1 4) (F 52 2) (F 53 1) (A 2) (A 58) (A 59)).2.1)) 52 2 ((kr_readFactor r (F 1 2) (F 1 3) (F 1 4) (F 52 2) (F 53 1) (A 2) (A 58) (A 59)).2.2.1)) 53 1 ((kr_readFactor r (F 1 2) (F 1 3) (F 1 4) (F 52 2) (F 53 1) (A 2) (A 58) (A 59)).2.2.2.1)) (uA (uA A 58 ((kr_readFactor r (F 1 2) (F 1 3) (F 1 4) (F 52 2) (F 53 1) (A 2) (A 58) (A 59)).2.2.2.2.1)) 59 ((kr_readFactor r (F 1 2) (F 1 3) (F 1 4) (F 52 2) (F 53 1) (A 2) (A 58) (A 59)).2.2.2.2.2)) L)) : wl_M f D 29 [.ref 52] (hz F A L) Q := by
  generalize hT : (kr_readFactor r (F 1 2) (F 1 3) (F 1 4) (F 52 2) (F 53 1) (A 2) (A 58) (A 59)) = T at K
  have hE : T = (if (F 1 4) = 0 then (lt (kx_sign (F 1 2) (F 1 3) (A 2)) (fun g367 => (if g367 = 91 then (lt (kr_opens (F 1 2) (F 1 3) (F 1 4) (F 52 2) (A 2) 91) (fun g384 => (if g384.1 = 0 then (g384.2.1, g384.2.2.1, g384.2.2.2, (F 53 1), (A 58), (A 59)) else (lt (r (F 1 2) g384.2.1 g384.2.2.1 g384.2.2.2 (F 53 1) (A 2) (A 58) (A 59)) (fun g385 => (lt (kx_pass (F 1 2) g385.1 g385.2.1 (A 2) 93) (fun g386 => (g386.1, g386.2, (g385.2.2.1 - 1), g385.2.2.2.1, g385.2.2.2.2.1, g385.2.2.2.2.2)))))))) else (lt (kc_within g367 48 57) (fun g368 => (if g368 = 0 then (if g367 = (-1) then (lt (kx_fail (F 1 3) (F 1 4) 1) (fun g371 => ((F 1 3), g371.2, (F 52 2), (F 53 1), (A 58), (A 59)))) else (if (sx_ixF (g367.toUInt32 % 65536).toInt32 sx_b 0).toInt < 0 then (lt (kx_fail (F 1 3) (F 1 4) 1) (fun g370 => ((F 1 3), g370.2, (F 52 2), (F 53 1), (A 58), (A 59)))) else (lt (kl_add_53 (F 53 1) (A 58) (A 59) 103 (sx_ixF (g367.toUInt32 % 65536).toInt32 sx_b 0)) (fun g369 => (((F 1 3) + 1), (F 1 4), (F 52 2), g369.2.1, g369.2.2.1, g369.2.2.2))))) else (lt (kr_readNumber (F 1 2) (F 1 3) (F 1 4) (F 53 1) (A 2) (A 58) (A 59)) (fun g377 => (g377.1, g377.2.1, (F 52 2), g377.2.2.1, g377.2.2.2.1, g377.2.2.2.2))))))))) else ((F 1 3), (F 1 4), (F 52 2), (F 53 1), (A 58), (A 59))) := hT.symm
  clear hT
  refine w_m (E := mm29) rfl ?_
  show wl_E f f (D - 1) mm29.2.2.2.2.2.2.2.2 0 [some (.ref 52), none, none] [] (hz F A L) Q
  refine w_n 3 (pc1 := 7) (ls1 := [some (.ref 52), none, none]) (st1 := [.int (F 1 4)]) (hp1 := (hz F A L)) rfl ?_
  refine w_zeq (p3 := 10) rfl rfl (fun h => ?_) (fun h => ?_)
  · have h1 : (F 1 4) = 0 := h
    rw [if_pos h1] at hE
    refine w_n 2 (pc1 := 15) (ls1 := [some (.ref 52), none, none]) (st1 := [.ref 1]) (hp1 := (hz F A L)) rfl ?_
    refine w_c rfl rfl (t_kx_sign ?_)
    show wl_E f _ _ mm29.2.2.2.2.2.2.2.2 18 [some (.ref 52), none, none] [.int (kx_sign (F 1 2) (F 1 3) (A 2))] (hz F A L) _
    generalize hG367 : (kx_sign (F 1 2) (F 1 3) (A 2)) = G367 at hE ⊢
    replace hE := hE.trans (lt_e _ _)
    refine w_n 3 (pc1 := 22) (ls1 := [some (.ref 52), some (.int G367), none]) (st1 := [.int 91, .int G367]) (hp1 := (hz F A L)) rfl ?_
    refine w_ne (p3 := 25) rfl rfl (fun h => ?_) (fun h => ?_)
    · have h2 : ¬ G367 = 91 := h
      rw [if_neg h2] at hE
      refine w_n 3 (pc1 := 66) (ls1 := [some (.ref 52), some (.int G367), none]) (st1 := [.int 57, .int 48, .int G367]) (hp1 := (hz F A L)) rfl ?_
      refine w_c rfl rfl (t_kc_within ?_)
      show wl_E f _ _ mm29.2.2.2.2.2.2.2.2 69 [some (.ref 52), some (.int G367), none] [.int (kc_within G367 48 57)] (hz F A L) _
      generalize hG368 : (kc_within G367 48 57) = G368 at hE ⊢
      replace hE := hE.trans (lt_e _ _)
      refine w_zeq (p3 := 72) rfl rfl (fun h => ?_) (fun h => ?_)
      · have h3 : G368 = 0 := h
        rw [if_pos h3] at hE
        refine w_n 2 (pc1 := 81) (ls1 := [some (.ref 52), some (.int G367), none]) (st1 := [.int (-1), .int G367]) (hp1 := (hz F A L)) rfl ?_
        refine w_ne (p3 := 84) rfl rfl (fun h => ?_) (fun h => ?_)
        · have h4 : ¬ G367 = (-1) := h
          rw [if_neg h4] at hE
          refine w_io (x := G367) rfl rfl rfl ?_
          refine w_n 2 (pc1 := 97) (ls1 := [some (.ref 52), some (.int G367), some (.int (sx_ixF (G367.toUInt32 % 65536).toInt32 sx_b 0))]) (st1 := [.int (sx_ixF (G367.toUInt32 % 65536).toInt32 sx_b 0)]) (hp1 := (hz F A L)) rfl ?_
          refine w_zge (p3 := 100) rfl rfl (fun h => ?_) (fun h => ?_)
          · have h5 : 0 ≤ (sx_ixF (G367.toUInt32 % 65536).toInt32 sx_b 0).toInt := h
            rw [if_neg (Int.not_lt.mpr h5)] at hE
            refine w_n 6 (pc1 := 120) (ls1 := [some (.ref 52), some (.int G367), some (.int (sx_ixF (G367.toUInt32 % 65536).toInt32 sx_b 0))]) (st1 := [.int ((F 1 3) + 1), .ref 1]) (hp1 := (hz F A L)) rfl ?_
            refine w_pf (k := 1) (fs := hz_f1 F) (hp1 := (hz (uF F 1 3 ((F 1 3) + 1)) A L)) rfl rfl rfl (hz_p1_3 _) ?_
            refine w_n 4 (pc1 := 130) (ls1 := [some (.ref 52), some (.int G367), some (.int (sx_ixF (G367.toUInt32 % 65536).toInt32 sx_b 0))]) (st1 := [.int (sx_ixF (G367.toUInt32 % 65536).toInt32 sx_b 0), .int 103, .ref 53]) (hp1 := (hz (uF F 1 3 ((F 1 3) + 1)) A L)) rfl ?_
            refine w_c rfl rfl (t_kl_add_53 ?_)
            show wl_E f _ _ mm29.2.2.2.2.2.2.2.2 133 [some (.ref 52), some (.int G367), some (.int (sx_ixF (G367.toUInt32 % 65536).toInt32 sx_b 0))] [.int (kl_add_53 (F 53 1) (A 58) (A 59) 103 (sx_ixF (G367.toUInt32 % 65536).toInt32 sx_b 0)).1] (hz (uF (uF F 1 3 ((F 1 3) + 1)) 53 1 (kl_add_53 (F 53 1) (A 58) (A 59) 103 (sx_ixF (G367.toUInt32 % 65536).toInt32 sx_b 0)).2.1) (uA (uA A 58 (kl_add_53 (F 53 1) (A 58) (A 59) 103 (sx_ixF (G367.toUInt32 % 65536).toInt32 sx_b 0)).2.2.1) 59 (kl_add_53 (F 53 1) (A 58) (A 59) 103 (sx_ixF (G367.toUInt32 % 65536).toInt32 sx_b 0)).2.2.2) L) _
            generalize hG369 : (kl_add_53 (F 53 1) (A 58) (A 59) 103 (sx_ixF (G367.toUInt32 % 65536).toInt32 sx_b 0)) = G369 at hE ⊢
            replace hE := hE.trans (lt_e _ _)
            refine w_n 1 (pc1 := 134) (ls1 := [some (.ref 52), some (.int G367), some (.int (sx_ixF (G367.toUInt32 % 65536).toInt32 sx_b 0))]) (st1 := []) (hp1 := (hz (uF (uF F 1 3 ((F 1 3) + 1)) 53 1 G369.2.1) (uA (uA A 58 G369.2.2.1) 59 G369.2.2.2) L)) rfl ?_
            subst T
            exact w_r rfl rfl (cvQ (funext fun q => funext fun z => if k0 : q = 1 ∧ z = 3 then by obtain ⟨w1, w2⟩ := k0; subst w1; subst w2; exact Eq.trans (b := ((F 1 3) + 1)) rfl rfl else if k1 : q = 1 ∧ z = 4 then by obtain ⟨w1, w2⟩ := k1; subst w1; subst w2; exact Eq.trans (b := (F 1 4)) rfl rfl else if k2 : q = 52 ∧ z = 2 then by obtain ⟨w1, w2⟩ := k2; subst w1; subst w2; exact Eq.trans (b := (F 52 2)) rfl rfl else if k3 : q = 53 ∧ z = 1 then by obtain ⟨w1, w2⟩ := k3; subst w1; subst w2; exact Eq.trans (b := G369.2.1) rfl rfl else by unfold uF; simp only [nb2 k0, nb2 k1, nb2 k2, nb2 k3, cond_false]) rfl rfl K)
          · have h5 : (sx_ixF (G367.toUInt32 % 65536).toInt32 sx_b 0).toInt < 0 := h
            rw [if_pos h5] at hE
            refine w_n 3 (pc1 := 105) (ls1 := [some (.ref 52), some (.int G367), some (.int (sx_ixF (G367.toUInt32 % 65536).toInt32 sx_b 0))]) (st1 := [.int 1, .ref 1]) (hp1 := (hz F A L)) rfl ?_
            refine w_c rfl rfl (t_kx_fail ?_)
            show wl_E f _ _ mm29.2.2.2.2.2.2.2.2 108 [some (.ref 52), some (.int G367), some (.int (sx_ixF (G367.toUInt32 % 65536).toInt32 sx_b 0))] [.int (kx_fail (F 1 3) (F 1 4) 1).1] (hz (uF F 1 4 (kx_fail (F 1 3) (F 1 4) 1).2) A L) _
            generalize hG370 : (kx_fail (F 1 3) (F 1 4) 1) = G370 at hE ⊢
            replace hE := hE.trans (lt_e _ _)
            refine w_n 1 (pc1 := 109) (ls1 := [some (.ref 52), some (.int G367), some (.int (sx_ixF (G367.toUInt32 % 65536).toInt32 sx_b 0))]) (st1 := []) (hp1 := (hz (uF F 1 4 G370.2) A L)) rfl ?_
            subst T
            exact w_r rfl rfl (cvQ (funext fun q => funext fun z => if k0 : q = 1 ∧ z = 3 then by obtain ⟨w1, w2⟩ := k0; subst w1; subst w2; exact Eq.trans (b := (F 1 3)) rfl rfl else if k1 : q = 1 ∧ z = 4 then by obtain ⟨w1, w2⟩ := k1; subst w1; subst w2; exact Eq.trans (b := G370.2) rfl rfl else if k2 : q = 52 ∧ z = 2 then by obtain ⟨w1, w2⟩ := k2; subst w1; subst w2; exact Eq.trans (b := (F 52 2)) rfl rfl else if k3 : q = 53 ∧ z = 1 then by obtain ⟨w1, w2⟩ := k3; subst w1; subst w2; exact Eq.trans (b := (F 53 1)) rfl rfl else by unfold uF; simp only [nb2 k0, nb2 k1, nb2 k2, nb2 k3, cond_false]) (funext fun q => if k0 : q = 58 then by subst k0; exact Eq.trans (b := (A 58)) rfl rfl else if k1 : q = 59 then by subst k1; exact Eq.trans (b := (A 59)) rfl rfl else by unfold uA; simp only [nb1 k0, nb1 k1, cond_false]) rfl K)
        · have h4 : G367 = (-1) := h
          rw [if_pos h4] at hE
          refine w_n 4 (pc1 := 97) (ls1 := [some (.ref 52), some (.int G367), some (.int (-1))]) (st1 := [.int (-1)]) (hp1 := (hz F A L)) rfl ?_
          refine w_zge (p3 := 100) rfl rfl (fun h => absurd h (by decide)) (fun _ => ?_)
          refine w_n 3 (pc1 := 105) (ls1 := [some (.ref 52), some (.int G367), some (.int (-1))]) (st1 := [.int 1, .ref 1]) (hp1 := (hz F A L)) rfl ?_
          refine w_c rfl rfl (t_kx_fail ?_)
          show wl_E f _ _ mm29.2.2.2.2.2.2.2.2 108 [some (.ref 52), some (.int G367), some (.int (-1))] [.int (kx_fail (F 1 3) (F 1 4) 1).1] (hz (uF F 1 4 (kx_fail (F 1 3) (F 1 4) 1).2) A L) _
          generalize hG371 : (kx_fail (F 1 3) (F 1 4) 1) = G371 at hE ⊢
          replace hE := hE.trans (lt_e _ _)
          refine w_n 1 (pc1 := 109) (ls1 := [some (.ref 52), some (.int G367), some (.int (-1))]) (st1 := []) (hp1 := (hz (uF F 1 4 G371.2) A L)) rfl ?_
          subst T
          exact w_r rfl rfl (cvQ (funext fun q => funext fun z => if k0 : q = 1 ∧ z = 3 then by obtain ⟨w1, w2⟩ := k0; subst w1; subst w2; exact Eq.trans (b := (F 1 3)) rfl rfl else if k1 : q = 1 ∧ z = 4 then by obtain ⟨w1, w2⟩ := k1; subst w1; subst w2; exact Eq.trans (b := G371.2) rfl rfl else if k2 : q = 52 ∧ z = 2 then by obtain ⟨w1, w2⟩ := k2; subst w1; subst w2; exact Eq.trans (b := (F 52 2)) rfl rfl else if k3 : q = 53 ∧ z = 1 then by obtain ⟨w1, w2⟩ := k3; subst w1; subst w2; exact Eq.trans (b := (F 53 1)) rfl rfl else by unfold uF; simp only [nb2 k0, nb2 k1, nb2 k2, nb2 k3, cond_false]) (funext fun q => if k0 : q = 58 then by subst k0; exact Eq.trans (b := (A 58)) rfl rfl else if k1 : q = 59 then by subst k1; exact Eq.trans (b := (A 59)) rfl rfl else by unfold uA; simp only [nb1 k0, nb1 k1, cond_false]) rfl K)
      · have h3 : ¬ G368 = 0 := h
        rw [if_neg h3] at hE
        refine w_n 1 (pc1 := 73) (ls1 := [some (.ref 52), some (.int G367), none]) (st1 := [.ref 52]) (hp1 := (hz F A L)) rfl ?_
        refine w_c rfl rfl (t_kr_readNumber ?_)
        show wl_E f _ _ mm29.2.2.2.2.2.2.2.2 76 [some (.ref 52), some (.int G367), none] [] (hz (uF (uF (uF F 1 3 (kr_readNumber (F 1 2) (F 1 3) (F 1 4) (F 53 1) (A 2) (A 58) (A 59)).1) 1 4 (kr_readNumber (F 1 2) (F 1 3) (F 1 4) (F 53 1) (A 2) (A 58) (A 59)).2.1) 53 1 (kr_readNumber (F 1 2) (F 1 3) (F 1 4) (F 53 1) (A 2) (A 58) (A 59)).2.2.1) (uA (uA A 58 (kr_readNumber (F 1 2) (F 1 3) (F 1 4) (F 53 1) (A 2) (A 58) (A 59)).2.2.2.1) 59 (kr_readNumber (F 1 2) (F 1 3) (F 1 4) (F 53 1) (A 2) (A 58) (A 59)).2.2.2.2) L) _
        generalize hG377 : (kr_readNumber (F 1 2) (F 1 3) (F 1 4) (F 53 1) (A 2) (A 58) (A 59)) = G377 at hE ⊢
        replace hE := hE.trans (lt_e _ _)
        refine w_n 1 (pc1 := 134) (ls1 := [some (.ref 52), some (.int G367), none]) (st1 := []) (hp1 := (hz (uF (uF (uF F 1 3 G377.1) 1 4 G377.2.1) 53 1 G377.2.2.1) (uA (uA A 58 G377.2.2.2.1) 59 G377.2.2.2.2) L)) rfl ?_
        subst T
        exact w_r rfl rfl (cvQ (funext fun q => funext fun z => if k0 : q = 1 ∧ z = 3 then by obtain ⟨w1, w2⟩ := k0; subst w1; subst w2; exact Eq.trans (b := G377.1) rfl rfl else if k1 : q = 1 ∧ z = 4 then by obtain ⟨w1, w2⟩ := k1; subst w1; subst w2; exact Eq.trans (b := G377.2.1) rfl rfl else if k2 : q = 52 ∧ z = 2 then by obtain ⟨w1, w2⟩ := k2; subst w1; subst w2; exact Eq.trans (b := (F 52 2)) rfl rfl else if k3 : q = 53 ∧ z = 1 then by obtain ⟨w1, w2⟩ := k3; subst w1; subst w2; exact Eq.trans (b := G377.2.2.1) rfl rfl else by unfold uF; simp only [nb2 k0, nb2 k1, nb2 k2, nb2 k3, cond_false]) rfl rfl K)
    · have h2 : G367 = 91 := h
      rw [if_pos h2] at hE
      refine w_n 2 (pc1 := 28) (ls1 := [some (.ref 52), some (.int G367), none]) (st1 := [.int 91, .ref 52]) (hp1 := (hz F A L)) rfl ?_
      refine w_c rfl rfl (t_kr_opens ?_)
      show wl_E f _ _ mm29.2.2.2.2.2.2.2.2 31 [some (.ref 52), some (.int G367), none] [.int (kr_opens (F 1 2) (F 1 3) (F 1 4) (F 52 2) (A 2) 91).1] (hz (uF (uF (uF F 1 3 (kr_opens (F 1 2) (F 1 3) (F 1 4) (F 52 2) (A 2) 91).2.1) 1 4 (kr_opens (F 1 2) (F 1 3) (F 1 4) (F 52 2) (A 2) 91).2.2.1) 52 2 (kr_opens (F 1 2) (F 1 3) (F 1 4) (F 52 2) (A 2) 91).2.2.2) A L) _
      generalize hG384 : (kr_opens (F 1 2) (F 1 3) (F 1 4) (F 52 2) (A 2) 91) = G384 at hE ⊢
      replace hE := hE.trans (lt_e _ _)
      refine w_zne (p3 := 34) rfl rfl (fun h => ?_) (fun h => ?_)
      · have h6 : ¬ G384.1 = 0 := h
        rw [if_neg h6] at hE
        refine w_n 1 (pc1 := 36) (ls1 := [some (.ref 52), some (.int G367), none]) (st1 := [.ref 52]) (hp1 := (hz (uF (uF (uF F 1 3 G384.2.1) 1 4 G384.2.2.1) 52 2 G384.2.2.2) A L)) rfl ?_
        refine w_c rfl rfl (hr _ (by omega) ?_)
        show wl_E f _ _ mm29.2.2.2.2.2.2.2.2 39 [some (.ref 52), some (.int G367), none] [] (hz (uF (uF (uF (uF (uF (uF (uF F 1 3 G384.2.1) 1 4 G384.2.2.1) 52 2 G384.2.2.2) 1 3 (r (F 1 2) G384.2.1 G384.2.2.1 G384.2.2.2 (F 53 1) (A 2) (A 58) (A 59)).1) 1 4 (r (F 1 2) G384.2.1 G384.2.2.1 G384.2.2.2 (F 53 1) (A 2) (A 58) (A 59)).2.1) 52 2 (r (F 1 2) G384.2.1 G384.2.2.1 G384.2.2.2 (F 53 1) (A 2) (A 58) (A 59)).2.2.1) 53 1 (r (F 1 2) G384.2.1 G384.2.2.1 G384.2.2.2 (F 53 1) (A 2) (A 58) (A 59)).2.2.2.1) (uA (uA A 58 (r (F 1 2) G384.2.1 G384.2.2.1 G384.2.2.2 (F 53 1) (A 2) (A 58) (A 59)).2.2.2.2.1) 59 (r (F 1 2) G384.2.1 G384.2.2.1 G384.2.2.2 (F 53 1) (A 2) (A 58) (A 59)).2.2.2.2.2) L) _
        generalize hG385 : (r (F 1 2) G384.2.1 G384.2.2.1 G384.2.2.2 (F 53 1) (A 2) (A 58) (A 59)) = G385 at hE ⊢
        replace hE := hE.trans (lt_e _ _)
        refine w_n 3 (pc1 := 45) (ls1 := [some (.ref 52), some (.int G367), none]) (st1 := [.int 93, .ref 1]) (hp1 := (hz (uF (uF (uF (uF (uF (uF (uF F 1 3 G384.2.1) 1 4 G384.2.2.1) 52 2 G384.2.2.2) 1 3 G385.1) 1 4 G385.2.1) 52 2 G385.2.2.1) 53 1 G385.2.2.2.1) (uA (uA A 58 G385.2.2.2.2.1) 59 G385.2.2.2.2.2) L)) rfl ?_
        refine w_c rfl rfl (t_kx_pass ?_)
        show wl_E f _ _ mm29.2.2.2.2.2.2.2.2 48 [some (.ref 52), some (.int G367), none] [] (hz (uF (uF (uF (uF (uF (uF (uF (uF (uF F 1 3 G384.2.1) 1 4 G384.2.2.1) 52 2 G384.2.2.2) 1 3 G385.1) 1 4 G385.2.1) 52 2 G385.2.2.1) 53 1 G385.2.2.2.1) 1 3 (kx_pass (F 1 2) G385.1 G385.2.1 (A 2) 93).1) 1 4 (kx_pass (F 1 2) G385.1 G385.2.1 (A 2) 93).2) (uA (uA A 58 G385.2.2.2.2.1) 59 G385.2.2.2.2.2) L) _
        generalize hG386 : (kx_pass (F 1 2) G385.1 G385.2.1 (A 2) 93) = G386 at hE ⊢
        replace hE := hE.trans (lt_e _ _)
        refine w_n 5 (pc1 := 55) (ls1 := [some (.ref 52), some (.int G367), none]) (st1 := [.int (G385.2.2.1 - 1), .ref 52]) (hp1 := (hz (uF (uF (uF (uF (uF (uF (uF (uF (uF F 1 3 G384.2.1) 1 4 G384.2.2.1) 52 2 G384.2.2.2) 1 3 G385.1) 1 4 G385.2.1) 52 2 G385.2.2.1) 53 1 G385.2.2.2.1) 1 3 G386.1) 1 4 G386.2) (uA (uA A 58 G385.2.2.2.2.1) 59 G385.2.2.2.2.2) L)) rfl ?_
        refine w_pf (k := 52) (fs := hz_f52 (uF (uF (uF (uF (uF (uF (uF (uF (uF F 1 3 G384.2.1) 1 4 G384.2.2.1) 52 2 G384.2.2.2) 1 3 G385.1) 1 4 G385.2.1) 52 2 G385.2.2.1) 53 1 G385.2.2.2.1) 1 3 G386.1) 1 4 G386.2)) (hp1 := (hz (uF (uF (uF (uF (uF (uF (uF (uF (uF (uF F 1 3 G384.2.1) 1 4 G384.2.2.1) 52 2 G384.2.2.2) 1 3 G385.1) 1 4 G385.2.1) 52 2 G385.2.2.1) 53 1 G385.2.2.2.1) 1 3 G386.1) 1 4 G386.2) 52 2 (G385.2.2.1 - 1)) (uA (uA A 58 G385.2.2.2.2.1) 59 G385.2.2.2.2.2) L)) rfl rfl rfl (hz_p52_2 _) ?_
        refine w_n 1 (pc1 := 134) (ls1 := [some (.ref 52), some (.int G367), none]) (st1 := []) (hp1 := (hz (uF (uF (uF (uF (uF (uF (uF (uF (uF (uF F 1 3 G384.2.1) 1 4 G384.2.2.1) 52 2 G384.2.2.2) 1 3 G385.1) 1 4 G385.2.1) 52 2 G385.2.2.1) 53 1 G385.2.2.2.1) 1 3 G386.1) 1 4 G386.2) 52 2 (G385.2.2.1 - 1)) (uA (uA A 58 G385.2.2.2.2.1) 59 G385.2.2.2.2.2) L)) rfl ?_
        subst T
        exact w_r rfl rfl (cvQ (funext fun q => funext fun z => if k0 : q = 1 ∧ z = 3 then by obtain ⟨w1, w2⟩ := k0; subst w1; subst w2; exact Eq.trans (b := G386.1) rfl rfl else if k1 : q = 1 ∧ z = 4 then by obtain ⟨w1, w2⟩ := k1; subst w1; subst w2; exact Eq.trans (b := G386.2) rfl rfl else if k2 : q = 52 ∧ z = 2 then by obtain ⟨w1, w2⟩ := k2; subst w1; subst w2; exact Eq.trans (b := (G385.2.2.1 - 1)) rfl rfl else if k3 : q = 53 ∧ z = 1 then by obtain ⟨w1, w2⟩ := k3; subst w1; subst w2; exact Eq.trans (b := G385.2.2.2.1) rfl rfl else by unfold uF; simp only [nb2 k0, nb2 k1, nb2 k2, nb2 k3, cond_false]) rfl rfl K)
      · have h6 : G384.1 = 0 := h
        rw [if_pos h6] at hE
        subst T
        exact w_r rfl rfl (cvQ (funext fun q => funext fun z => if k0 : q = 1 ∧ z = 3 then by obtain ⟨w1, w2⟩ := k0; subst w1; subst w2; exact Eq.trans (b := G384.2.1) rfl rfl else if k1 : q = 1 ∧ z = 4 then by obtain ⟨w1, w2⟩ := k1; subst w1; subst w2; exact Eq.trans (b := G384.2.2.1) rfl rfl else if k2 : q = 52 ∧ z = 2 then by obtain ⟨w1, w2⟩ := k2; subst w1; subst w2; exact Eq.trans (b := G384.2.2.2) rfl rfl else if k3 : q = 53 ∧ z = 1 then by obtain ⟨w1, w2⟩ := k3; subst w1; subst w2; exact Eq.trans (b := (F 53 1)) rfl rfl else by unfold uF; simp only [nb2 k0, nb2 k1, nb2 k2, nb2 k3, cond_false]) (funext fun q => if k0 : q = 58 then by subst k0; exact Eq.trans (b := (A 58)) rfl rfl else if k1 : q = 59 then by subst k1; exact Eq.trans (b := (A 59)) rfl rfl else by unfold uA; simp only [nb1 k0, nb1 k1, cond_false]) rfl K)
  · have h1 : ¬ (F 1 4) = 0 := h
    rw [if_neg h1] at hE
    subst T
    exact w_r rfl rfl (cvQ (funext fun q => funext fun z => if k0 : q = 1 ∧ z = 3 then by obtain ⟨w1, w2⟩ := k0; subst w1; subst w2; exact Eq.trans (b := (F 1 3)) rfl rfl else if k1 : q = 1 ∧ z = 4 then by obtain ⟨w1, w2⟩ := k1; subst w1; subst w2; exact Eq.trans (b := (F 1 4)) rfl rfl else if k2 : q = 52 ∧ z = 2 then by obtain ⟨w1, w2⟩ := k2; subst w1; subst w2; exact Eq.trans (b := (F 52 2)) rfl rfl else if k3 : q = 53 ∧ z = 1 then by obtain ⟨w1, w2⟩ := k3; subst w1; subst w2; exact Eq.trans (b := (F 53 1)) rfl rfl else by unfold uF; simp only [nb2 k0, nb2 k1, nb2 k2, nb2 k3, cond_false]) (funext fun q => if k0 : q = 58 then by subst k0; exact Eq.trans (b := (A 58)) rfl rfl else if k1 : q = 59 then by subst k1; exact Eq.trans (b := (A 59)) rfl rfl else by unfold uA; simp only [nb1 k0, nb1 k1, cond_false]) rfl K)
noncomputable def kr_readProduct_6 (r : Int32 → Int32 → Int32 → Int32 → Int32 → List Int32 → List Int32 → List Int32 → (Int32 × Int32 × Int32 × Int32 × List Int32 × List Int32)) (f1_2 : Int32) (a2 : List Int32)  : Nat → Int32 → Int32 → Int32 → Int32 → Int32 → List Int32 → List Int32 → Int32 × Int32 × Int32 × Int32 × List Int32 × List Int32
  | 0, _, f1_3, f1_4, f52_2, f53_1, a58, a59 => (f1_3, f1_4, f52_2, f53_1, a58, a59)
  | m + 1, y1, f1_3, f1_4, f52_2, f53_1, a58, a59 => (lt (kx_stands f1_2 f1_3 f1_4 a2 42 47) (fun g388 => (if g388 = 0 then (lt (kx_stands f1_2 f1_3 f1_4 a2 37 37) (fun g392 => (if g392 = 0 then (f1_3, f1_4, f52_2, f53_1, a58, a59) else (lt (kx_sign f1_2 f1_3 a2) (fun g393 => (lt (kr_readFactor r f1_2 (f1_3 + 1) f1_4 f52_2 f53_1 a2 a58 a59) (fun g394 => (lt (kl_add_53 g394.2.2.2.1 g394.2.2.2.2.1 g394.2.2.2.2.2 g393 0) (fun g395 => (kr_readProduct_6 r f1_2 a2 m (y1 + 1) g394.1 g394.2.1 g394.2.2.1 g395.2.1 g395.2.2.1 g395.2.2.2)))))))))) else (lt (kx_sign f1_2 f1_3 a2) (fun g389 => (lt (kr_readFactor r f1_2 (f1_3 + 1) f1_4 f52_2 f53_1 a2 a58 a59) (fun g390 => (lt (kl_add_53 g390.2.2.2.1 g390.2.2.2.2.1 g390.2.2.2.2.2 g389 0) (fun g391 => (kr_readProduct_6 r f1_2 a2 m (y1 + 1) g390.1 g390.2.1 g390.2.2.1 g391.2.1 g391.2.2.1 g391.2.2.2))))))))))
theorem t_kr_readProduct_6 {f : Nat} {n : Nat} {r : Int32 → Int32 → Int32 → Int32 → Int32 → List Int32 → List Int32 → List Int32 → (Int32 × Int32 × Int32 × Int32 × List Int32 × List Int32)} (hr : ∀ (D : Nat) {F : Nat → Nat → Int32} {A : Nat → List Int32} {L : Nat → List Int64} {Q : Option Value → sm_H → Prop}, D ≤ n → (Q none (hz (uF (uF (uF (uF F 1 3 ((r (F 1 2) (F 1 3) (F 1 4) (F 52 2) (F 53 1) (A 2) (A 58) (A 59)).1)) 1 4 ((r (F 1 2) (F 1 3) (F 1 4) (F 52 2) (F 53 1) (A 2) (A 58) (A 59)).2.1)) 52 2 ((r (F 1 2) (F 1 3) (F 1 4) (F 52 2) (F 53 1) (A 2) (A 58) (A 59)).2.2.1)) 53 1 ((r (F 1 2) (F 1 3) (F 1 4) (F 52 2) (F 53 1) (A 2) (A 58) (A 59)).2.2.2.1)) (uA (uA A 58 ((r (F 1 2) (F 1 3) (F 1 4) (F 52 2) (F 53 1) (A 2) (A 58) (A 59)).2.2.2.2.1)) 59 ((r (F 1 2) (F 1 3) (F 1 4) (F 52 2) (F 53 1) (A 2) (A 58) (A 59)).2.2.2.2.2)) L)) → wl_M f D 27 [.ref 52] (hz F A L) Q) (hnf : n ≤ f) {Q : Option Value → sm_H → Prop} : ∀ (m : Nat) {B D : Nat} {F : Nat → Nat → Int32} {A : Nat → List Int32} {L : Nat → List Int64} {y1 : Int32} {o2 : Option Value}, m = (240 - y1.toInt).toNat → (_ : D ≤ n) → (∀ q1 : Int32, ∀ q2 : Option Value, wl_E f B D mm28.2.2.2.2.2.2.2.2 82 [some (.ref 52), some (.int q1), q2] [] (hz (uF (uF (uF (uF F 1 3 ((kr_readProduct_6 r (F 1 2) (A 2) m y1 (F 1 3) (F 1 4) (F 52 2) (F 53 1) (A 58) (A 59)).1)) 1 4 ((kr_readProduct_6 r (F 1 2) (A 2) m y1 (F 1 3) (F 1 4) (F 52 2) (F 53 1) (A 58) (A 59)).2.1)) 52 2 ((kr_readProduct_6 r (F 1 2) (A 2) m y1 (F 1 3) (F 1 4) (F 52 2) (F 53 1) (A 58) (A 59)).2.2.1)) 53 1 ((kr_readProduct_6 r (F 1 2) (A 2) m y1 (F 1 3) (F 1 4) (F 52 2) (F 53 1) (A 58) (A 59)).2.2.2.1)) (uA (uA A 58 ((kr_readProduct_6 r (F 1 2) (A 2) m y1 (F 1 3) (F 1 4) (F 52 2) (F 53 1) (A 58) (A 59)).2.2.2.2.1)) 59 ((kr_readProduct_6 r (F 1 2) (A 2) m y1 (F 1 3) (F 1 4) (F 52 2) (F 53 1) (A 58) (A 59)).2.2.2.2.2)) L) Q) → wl_E f B D mm28.2.2.2.2.2.2.2.2 6 [some (.ref 52), some (.int y1), o2] [] (hz F A L) Q := by
  intro m
  induction m with
  | zero =>
    intro B D F A L y1 o2 hm hn K
    generalize hT : (kr_readProduct_6 r (F 1 2) (A 2) 0 y1 (F 1 3) (F 1 4) (F 52 2) (F 53 1) (A 58) (A 59)) = T at K
    have hE : T = ((F 1 3), (F 1 4), (F 52 2), (F 53 1), (A 58), (A 59)) := hT.symm
    clear hT
    refine w_n 2 (pc1 := 10) (ls1 := [some (.ref 52), some (.int y1), o2]) (st1 := [.int 240, .int y1]) (hp1 := (hz F A L)) rfl ?_
    refine w_ge (p3 := 13) rfl rfl (fun hb => ?_) (fun h => False.elim (by have h : y1.toInt < 240 := h; omega))
    subst T
    exact cvE (funext fun q => funext fun z => if k0 : q = 1 ∧ z = 3 then by obtain ⟨w1, w2⟩ := k0; subst w1; subst w2; exact Eq.trans (b := (F 1 3)) rfl rfl else if k1 : q = 1 ∧ z = 4 then by obtain ⟨w1, w2⟩ := k1; subst w1; subst w2; exact Eq.trans (b := (F 1 4)) rfl rfl else if k2 : q = 52 ∧ z = 2 then by obtain ⟨w1, w2⟩ := k2; subst w1; subst w2; exact Eq.trans (b := (F 52 2)) rfl rfl else if k3 : q = 53 ∧ z = 1 then by obtain ⟨w1, w2⟩ := k3; subst w1; subst w2; exact Eq.trans (b := (F 53 1)) rfl rfl else by unfold uF; simp only [nb2 k0, nb2 k1, nb2 k2, nb2 k3, cond_false]) (funext fun q => if k0 : q = 58 then by subst k0; exact Eq.trans (b := (A 58)) rfl rfl else if k1 : q = 59 then by subst k1; exact Eq.trans (b := (A 59)) rfl rfl else by unfold uA; simp only [nb1 k0, nb1 k1, cond_false]) rfl (K _ _)
  | succ m ih =>
    intro B D F A L y1 o2 hm hn K
    generalize hT : (kr_readProduct_6 r (F 1 2) (A 2) (m + 1) y1 (F 1 3) (F 1 4) (F 52 2) (F 53 1) (A 58) (A 59)) = T at K
    have hE : T = (lt (kx_stands (F 1 2) (F 1 3) (F 1 4) (A 2) 42 47) (fun g388 => (if g388 = 0 then (lt (kx_stands (F 1 2) (F 1 3) (F 1 4) (A 2) 37 37) (fun g392 => (if g392 = 0 then ((F 1 3), (F 1 4), (F 52 2), (F 53 1), (A 58), (A 59)) else (lt (kx_sign (F 1 2) (F 1 3) (A 2)) (fun g393 => (lt (kr_readFactor r (F 1 2) ((F 1 3) + 1) (F 1 4) (F 52 2) (F 53 1) (A 2) (A 58) (A 59)) (fun g394 => (lt (kl_add_53 g394.2.2.2.1 g394.2.2.2.2.1 g394.2.2.2.2.2 g393 0) (fun g395 => (kr_readProduct_6 r (F 1 2) (A 2) m (y1 + 1) g394.1 g394.2.1 g394.2.2.1 g395.2.1 g395.2.2.1 g395.2.2.2)))))))))) else (lt (kx_sign (F 1 2) (F 1 3) (A 2)) (fun g389 => (lt (kr_readFactor r (F 1 2) ((F 1 3) + 1) (F 1 4) (F 52 2) (F 53 1) (A 2) (A 58) (A 59)) (fun g390 => (lt (kl_add_53 g390.2.2.2.1 g390.2.2.2.2.1 g390.2.2.2.2.2 g389 0) (fun g391 => (kr_readProduct_6 r (F 1 2) (A 2) m (y1 + 1) g390.1 g390.2.1 g390.2.2.1 g391.2.1 g391.2.2.1 g391.2.2.2)))))))))) := hT.symm
    clear hT
    refine w_n 2 (pc1 := 10) (ls1 := [some (.ref 52), some (.int y1), o2]) (st1 := [.int 240, .int y1]) (hp1 := (hz F A L)) rfl ?_
    refine w_ge (p3 := 13) rfl rfl (fun h => False.elim (by have h : 240 ≤ y1.toInt := h; omega)) (fun hb => ?_)
    refine w_n 4 (pc1 := 21) (ls1 := [some (.ref 52), some (.int y1), o2]) (st1 := [.int 47, .int 42, .ref 1]) (hp1 := (hz F A L)) rfl ?_
    refine w_c rfl rfl (t_kx_stands ?_)
    show wl_E f _ _ mm28.2.2.2.2.2.2.2.2 24 [some (.ref 52), some (.int y1), o2] [.int (kx_stands (F 1 2) (F 1 3) (F 1 4) (A 2) 42 47)] (hz F A L) _
    generalize hG388 : (kx_stands (F 1 2) (F 1 3) (F 1 4) (A 2) 42 47) = G388 at hE ⊢
    replace hE := hE.trans (lt_e _ _)
    refine w_zne (p3 := 27) rfl rfl (fun h => ?_) (fun h => ?_)
    · have h1 : ¬ G388 = 0 := h
      rw [if_neg h1] at hE
      refine w_n 2 (pc1 := 45) (ls1 := [some (.ref 52), some (.int y1), o2]) (st1 := [.ref 1]) (hp1 := (hz F A L)) rfl ?_
      refine w_c rfl rfl (t_kx_sign ?_)
      show wl_E f _ _ mm28.2.2.2.2.2.2.2.2 48 [some (.ref 52), some (.int y1), o2] [.int (kx_sign (F 1 2) (F 1 3) (A 2))] (hz F A L) _
      generalize hG389 : (kx_sign (F 1 2) (F 1 3) (A 2)) = G389 at hE ⊢
      replace hE := hE.trans (lt_e _ _)
      refine w_n 7 (pc1 := 59) (ls1 := [some (.ref 52), some (.int y1), some (.int G389)]) (st1 := [.int ((F 1 3) + 1), .ref 1]) (hp1 := (hz F A L)) rfl ?_
      refine w_pf (k := 1) (fs := hz_f1 F) (hp1 := (hz (uF F 1 3 ((F 1 3) + 1)) A L)) rfl rfl rfl (hz_p1_3 _) ?_
      refine w_n 1 (pc1 := 63) (ls1 := [some (.ref 52), some (.int y1), some (.int G389)]) (st1 := [.ref 52]) (hp1 := (hz (uF F 1 3 ((F 1 3) + 1)) A L)) rfl ?_
      refine w_c rfl rfl (t_kr_readFactor hr (by omega) (by omega) ?_)
      show wl_E f _ _ mm28.2.2.2.2.2.2.2.2 66 [some (.ref 52), some (.int y1), some (.int G389)] [] (hz (uF (uF (uF (uF (uF F 1 3 ((F 1 3) + 1)) 1 3 (kr_readFactor r (F 1 2) ((F 1 3) + 1) (F 1 4) (F 52 2) (F 53 1) (A 2) (A 58) (A 59)).1) 1 4 (kr_readFactor r (F 1 2) ((F 1 3) + 1) (F 1 4) (F 52 2) (F 53 1) (A 2) (A 58) (A 59)).2.1) 52 2 (kr_readFactor r (F 1 2) ((F 1 3) + 1) (F 1 4) (F 52 2) (F 53 1) (A 2) (A 58) (A 59)).2.2.1) 53 1 (kr_readFactor r (F 1 2) ((F 1 3) + 1) (F 1 4) (F 52 2) (F 53 1) (A 2) (A 58) (A 59)).2.2.2.1) (uA (uA A 58 (kr_readFactor r (F 1 2) ((F 1 3) + 1) (F 1 4) (F 52 2) (F 53 1) (A 2) (A 58) (A 59)).2.2.2.2.1) 59 (kr_readFactor r (F 1 2) ((F 1 3) + 1) (F 1 4) (F 52 2) (F 53 1) (A 2) (A 58) (A 59)).2.2.2.2.2) L) _
      generalize hG390 : (kr_readFactor r (F 1 2) ((F 1 3) + 1) (F 1 4) (F 52 2) (F 53 1) (A 2) (A 58) (A 59)) = G390 at hE ⊢
      replace hE := hE.trans (lt_e _ _)
      refine w_n 4 (pc1 := 72) (ls1 := [some (.ref 52), some (.int y1), some (.int G389)]) (st1 := [.int 0, .int G389, .ref 53]) (hp1 := (hz (uF (uF (uF (uF (uF F 1 3 ((F 1 3) + 1)) 1 3 G390.1) 1 4 G390.2.1) 52 2 G390.2.2.1) 53 1 G390.2.2.2.1) (uA (uA A 58 G390.2.2.2.2.1) 59 G390.2.2.2.2.2) L)) rfl ?_
      refine w_c rfl rfl (t_kl_add_53 ?_)
      show wl_E f _ _ mm28.2.2.2.2.2.2.2.2 75 [some (.ref 52), some (.int y1), some (.int G389)] [.int (kl_add_53 G390.2.2.2.1 G390.2.2.2.2.1 G390.2.2.2.2.2 G389 0).1] (hz (uF (uF (uF (uF (uF (uF F 1 3 ((F 1 3) + 1)) 1 3 G390.1) 1 4 G390.2.1) 52 2 G390.2.2.1) 53 1 G390.2.2.2.1) 53 1 (kl_add_53 G390.2.2.2.1 G390.2.2.2.2.1 G390.2.2.2.2.2 G389 0).2.1) (uA (uA (uA (uA A 58 G390.2.2.2.2.1) 59 G390.2.2.2.2.2) 58 (kl_add_53 G390.2.2.2.1 G390.2.2.2.2.1 G390.2.2.2.2.2 G389 0).2.2.1) 59 (kl_add_53 G390.2.2.2.1 G390.2.2.2.2.1 G390.2.2.2.2.2 G389 0).2.2.2) L) _
      generalize hG391 : (kl_add_53 G390.2.2.2.1 G390.2.2.2.2.1 G390.2.2.2.2.2 G389 0) = G391 at hE ⊢
      replace hE := hE.trans (lt_e _ _)
      refine w_n 3 (pc1 := 6) (ls1 := [some (.ref 52), some (.int (y1 + 1)), some (.int G389)]) (st1 := []) (hp1 := (hz (uF (uF (uF (uF (uF (uF F 1 3 ((F 1 3) + 1)) 1 3 G390.1) 1 4 G390.2.1) 52 2 G390.2.2.1) 53 1 G390.2.2.2.1) 53 1 G391.2.1) (uA (uA (uA (uA A 58 G390.2.2.2.2.1) 59 G390.2.2.2.2.2) 58 G391.2.2.1) 59 G391.2.2.2) L)) rfl ?_
      subst T
      have hb2 := i_up (B := (240 : Int32)) hb
      have hb3 : y1.toInt < 240 := hb
      exact ih (show m = (240 - (y1 + 1).toInt).toNat by rw [hb2]; omega) hn (fun q1 q2 => cvE (funext fun q => funext fun z => if k0 : q = 1 ∧ z = 3 then by obtain ⟨w1, w2⟩ := k0; subst w1; subst w2; exact Eq.trans (b := (kr_readProduct_6 r (F 1 2) (A 2) m (y1 + 1) G390.1 G390.2.1 G390.2.2.1 G391.2.1 G391.2.2.1 G391.2.2.2).1) rfl rfl else if k1 : q = 1 ∧ z = 4 then by obtain ⟨w1, w2⟩ := k1; subst w1; subst w2; exact Eq.trans (b := (kr_readProduct_6 r (F 1 2) (A 2) m (y1 + 1) G390.1 G390.2.1 G390.2.2.1 G391.2.1 G391.2.2.1 G391.2.2.2).2.1) rfl rfl else if k2 : q = 52 ∧ z = 2 then by obtain ⟨w1, w2⟩ := k2; subst w1; subst w2; exact Eq.trans (b := (kr_readProduct_6 r (F 1 2) (A 2) m (y1 + 1) G390.1 G390.2.1 G390.2.2.1 G391.2.1 G391.2.2.1 G391.2.2.2).2.2.1) rfl rfl else if k3 : q = 53 ∧ z = 1 then by obtain ⟨w1, w2⟩ := k3; subst w1; subst w2; exact Eq.trans (b := (kr_readProduct_6 r (F 1 2) (A 2) m (y1 + 1) G390.1 G390.2.1 G390.2.2.1 G391.2.1 G391.2.2.1 G391.2.2.2).2.2.2.1) rfl rfl else by unfold uF; simp only [nb2 k0, nb2 k1, nb2 k2, nb2 k3, cond_false]) (funext fun q => if k0 : q = 58 then by subst k0; exact Eq.trans (b := (kr_readProduct_6 r (F 1 2) (A 2) m (y1 + 1) G390.1 G390.2.1 G390.2.2.1 G391.2.1 G391.2.2.1 G391.2.2.2).2.2.2.2.1) rfl rfl else if k1 : q = 59 then by subst k1; exact Eq.trans (b := (kr_readProduct_6 r (F 1 2) (A 2) m (y1 + 1) G390.1 G390.2.1 G390.2.2.1 G391.2.1 G391.2.2.1 G391.2.2.2).2.2.2.2.2) rfl rfl else by unfold uA; simp only [nb1 k0, nb1 k1, cond_false]) rfl (K q1 q2))
    · have h1 : G388 = 0 := h
      rw [if_pos h1] at hE
      refine w_n 4 (pc1 := 35) (ls1 := [some (.ref 52), some (.int y1), o2]) (st1 := [.int 37, .int 37, .ref 1]) (hp1 := (hz F A L)) rfl ?_
      refine w_c rfl rfl (t_kx_stands ?_)
      show wl_E f _ _ mm28.2.2.2.2.2.2.2.2 38 [some (.ref 52), some (.int y1), o2] [.int (kx_stands (F 1 2) (F 1 3) (F 1 4) (A 2) 37 37)] (hz F A L) _
      generalize hG392 : (kx_stands (F 1 2) (F 1 3) (F 1 4) (A 2) 37 37) = G392 at hE ⊢
      replace hE := hE.trans (lt_e _ _)
      refine w_zeq (p3 := 41) rfl rfl (fun h => ?_) (fun h => ?_)
      · have h2 : G392 = 0 := h
        rw [if_pos h2] at hE
        subst T
        exact cvE (funext fun q => funext fun z => if k0 : q = 1 ∧ z = 3 then by obtain ⟨w1, w2⟩ := k0; subst w1; subst w2; exact Eq.trans (b := (F 1 3)) rfl rfl else if k1 : q = 1 ∧ z = 4 then by obtain ⟨w1, w2⟩ := k1; subst w1; subst w2; exact Eq.trans (b := (F 1 4)) rfl rfl else if k2 : q = 52 ∧ z = 2 then by obtain ⟨w1, w2⟩ := k2; subst w1; subst w2; exact Eq.trans (b := (F 52 2)) rfl rfl else if k3 : q = 53 ∧ z = 1 then by obtain ⟨w1, w2⟩ := k3; subst w1; subst w2; exact Eq.trans (b := (F 53 1)) rfl rfl else by unfold uF; simp only [nb2 k0, nb2 k1, nb2 k2, nb2 k3, cond_false]) (funext fun q => if k0 : q = 58 then by subst k0; exact Eq.trans (b := (A 58)) rfl rfl else if k1 : q = 59 then by subst k1; exact Eq.trans (b := (A 59)) rfl rfl else by unfold uA; simp only [nb1 k0, nb1 k1, cond_false]) rfl (K _ _)
      · have h2 : ¬ G392 = 0 := h
        rw [if_neg h2] at hE
        refine w_n 2 (pc1 := 45) (ls1 := [some (.ref 52), some (.int y1), o2]) (st1 := [.ref 1]) (hp1 := (hz F A L)) rfl ?_
        refine w_c rfl rfl (t_kx_sign ?_)
        show wl_E f _ _ mm28.2.2.2.2.2.2.2.2 48 [some (.ref 52), some (.int y1), o2] [.int (kx_sign (F 1 2) (F 1 3) (A 2))] (hz F A L) _
        generalize hG393 : (kx_sign (F 1 2) (F 1 3) (A 2)) = G393 at hE ⊢
        replace hE := hE.trans (lt_e _ _)
        refine w_n 7 (pc1 := 59) (ls1 := [some (.ref 52), some (.int y1), some (.int G393)]) (st1 := [.int ((F 1 3) + 1), .ref 1]) (hp1 := (hz F A L)) rfl ?_
        refine w_pf (k := 1) (fs := hz_f1 F) (hp1 := (hz (uF F 1 3 ((F 1 3) + 1)) A L)) rfl rfl rfl (hz_p1_3 _) ?_
        refine w_n 1 (pc1 := 63) (ls1 := [some (.ref 52), some (.int y1), some (.int G393)]) (st1 := [.ref 52]) (hp1 := (hz (uF F 1 3 ((F 1 3) + 1)) A L)) rfl ?_
        refine w_c rfl rfl (t_kr_readFactor hr (by omega) (by omega) ?_)
        show wl_E f _ _ mm28.2.2.2.2.2.2.2.2 66 [some (.ref 52), some (.int y1), some (.int G393)] [] (hz (uF (uF (uF (uF (uF F 1 3 ((F 1 3) + 1)) 1 3 (kr_readFactor r (F 1 2) ((F 1 3) + 1) (F 1 4) (F 52 2) (F 53 1) (A 2) (A 58) (A 59)).1) 1 4 (kr_readFactor r (F 1 2) ((F 1 3) + 1) (F 1 4) (F 52 2) (F 53 1) (A 2) (A 58) (A 59)).2.1) 52 2 (kr_readFactor r (F 1 2) ((F 1 3) + 1) (F 1 4) (F 52 2) (F 53 1) (A 2) (A 58) (A 59)).2.2.1) 53 1 (kr_readFactor r (F 1 2) ((F 1 3) + 1) (F 1 4) (F 52 2) (F 53 1) (A 2) (A 58) (A 59)).2.2.2.1) (uA (uA A 58 (kr_readFactor r (F 1 2) ((F 1 3) + 1) (F 1 4) (F 52 2) (F 53 1) (A 2) (A 58) (A 59)).2.2.2.2.1) 59 (kr_readFactor r (F 1 2) ((F 1 3) + 1) (F 1 4) (F 52 2) (F 53 1) (A 2) (A 58) (A 59)).2.2.2.2.2) L) _
        generalize hG394 : (kr_readFactor r (F 1 2) ((F 1 3) + 1) (F 1 4) (F 52 2) (F 53 1) (A 2) (A 58) (A 59)) = G394 at hE ⊢
        replace hE := hE.trans (lt_e _ _)
        refine w_n 4 (pc1 := 72) (ls1 := [some (.ref 52), some (.int y1), some (.int G393)]) (st1 := [.int 0, .int G393, .ref 53]) (hp1 := (hz (uF (uF (uF (uF (uF F 1 3 ((F 1 3) + 1)) 1 3 G394.1) 1 4 G394.2.1) 52 2 G394.2.2.1) 53 1 G394.2.2.2.1) (uA (uA A 58 G394.2.2.2.2.1) 59 G394.2.2.2.2.2) L)) rfl ?_
        refine w_c rfl rfl (t_kl_add_53 ?_)
        show wl_E f _ _ mm28.2.2.2.2.2.2.2.2 75 [some (.ref 52), some (.int y1), some (.int G393)] [.int (kl_add_53 G394.2.2.2.1 G394.2.2.2.2.1 G394.2.2.2.2.2 G393 0).1] (hz (uF (uF (uF (uF (uF (uF F 1 3 ((F 1 3) + 1)) 1 3 G394.1) 1 4 G394.2.1) 52 2 G394.2.2.1) 53 1 G394.2.2.2.1) 53 1 (kl_add_53 G394.2.2.2.1 G394.2.2.2.2.1 G394.2.2.2.2.2 G393 0).2.1) (uA (uA (uA (uA A 58 G394.2.2.2.2.1) 59 G394.2.2.2.2.2) 58 (kl_add_53 G394.2.2.2.1 G394.2.2.2.2.1 G394.2.2.2.2.2 G393 0).2.2.1) 59 (kl_add_53 G394.2.2.2.1 G394.2.2.2.2.1 G394.2.2.2.2.2 G393 0).2.2.2) L) _
        generalize hG395 : (kl_add_53 G394.2.2.2.1 G394.2.2.2.2.1 G394.2.2.2.2.2 G393 0) = G395 at hE ⊢
        replace hE := hE.trans (lt_e _ _)
        refine w_n 3 (pc1 := 6) (ls1 := [some (.ref 52), some (.int (y1 + 1)), some (.int G393)]) (st1 := []) (hp1 := (hz (uF (uF (uF (uF (uF (uF F 1 3 ((F 1 3) + 1)) 1 3 G394.1) 1 4 G394.2.1) 52 2 G394.2.2.1) 53 1 G394.2.2.2.1) 53 1 G395.2.1) (uA (uA (uA (uA A 58 G394.2.2.2.2.1) 59 G394.2.2.2.2.2) 58 G395.2.2.1) 59 G395.2.2.2) L)) rfl ?_
        subst T
        have hb2 := i_up (B := (240 : Int32)) hb
        have hb3 : y1.toInt < 240 := hb
        exact ih (show m = (240 - (y1 + 1).toInt).toNat by rw [hb2]; omega) hn (fun q1 q2 => cvE (funext fun q => funext fun z => if k0 : q = 1 ∧ z = 3 then by obtain ⟨w1, w2⟩ := k0; subst w1; subst w2; exact Eq.trans (b := (kr_readProduct_6 r (F 1 2) (A 2) m (y1 + 1) G394.1 G394.2.1 G394.2.2.1 G395.2.1 G395.2.2.1 G395.2.2.2).1) rfl rfl else if k1 : q = 1 ∧ z = 4 then by obtain ⟨w1, w2⟩ := k1; subst w1; subst w2; exact Eq.trans (b := (kr_readProduct_6 r (F 1 2) (A 2) m (y1 + 1) G394.1 G394.2.1 G394.2.2.1 G395.2.1 G395.2.2.1 G395.2.2.2).2.1) rfl rfl else if k2 : q = 52 ∧ z = 2 then by obtain ⟨w1, w2⟩ := k2; subst w1; subst w2; exact Eq.trans (b := (kr_readProduct_6 r (F 1 2) (A 2) m (y1 + 1) G394.1 G394.2.1 G394.2.2.1 G395.2.1 G395.2.2.1 G395.2.2.2).2.2.1) rfl rfl else if k3 : q = 53 ∧ z = 1 then by obtain ⟨w1, w2⟩ := k3; subst w1; subst w2; exact Eq.trans (b := (kr_readProduct_6 r (F 1 2) (A 2) m (y1 + 1) G394.1 G394.2.1 G394.2.2.1 G395.2.1 G395.2.2.1 G395.2.2.2).2.2.2.1) rfl rfl else by unfold uF; simp only [nb2 k0, nb2 k1, nb2 k2, nb2 k3, cond_false]) (funext fun q => if k0 : q = 58 then by subst k0; exact Eq.trans (b := (kr_readProduct_6 r (F 1 2) (A 2) m (y1 + 1) G394.1 G394.2.1 G394.2.2.1 G395.2.1 G395.2.2.1 G395.2.2.2).2.2.2.2.1) rfl rfl else if k1 : q = 59 then by subst k1; exact Eq.trans (b := (kr_readProduct_6 r (F 1 2) (A 2) m (y1 + 1) G394.1 G394.2.1 G394.2.2.1 G395.2.1 G395.2.2.1 G395.2.2.2).2.2.2.2.2) rfl rfl else by unfold uA; simp only [nb1 k0, nb1 k1, cond_false]) rfl (K q1 q2))
noncomputable def kr_readProduct (r : Int32 → Int32 → Int32 → Int32 → Int32 → List Int32 → List Int32 → List Int32 → (Int32 × Int32 × Int32 × Int32 × List Int32 × List Int32)) (f1_2 : Int32) (f1_3 : Int32) (f1_4 : Int32) (f52_2 : Int32) (f53_1 : Int32) (a2 : List Int32) (a58 : List Int32) (a59 : List Int32) : Int32 × Int32 × Int32 × Int32 × List Int32 × List Int32 := (lt (kr_readFactor r f1_2 f1_3 f1_4 f52_2 f53_1 a2 a58 a59) (fun g387 => (lt (kr_readProduct_6 r f1_2 a2 240 0 g387.1 g387.2.1 g387.2.2.1 g387.2.2.2.1 g387.2.2.2.2.1 g387.2.2.2.2.2) (fun g396 => (g396.1, g396.2.1, g396.2.2.1, g396.2.2.2.1, g396.2.2.2.2.1, g396.2.2.2.2.2)))))
theorem t_kr_readProduct {f D : Nat} {n : Nat} {r : Int32 → Int32 → Int32 → Int32 → Int32 → List Int32 → List Int32 → List Int32 → (Int32 × Int32 × Int32 × Int32 × List Int32 × List Int32)} (hr : ∀ (D : Nat) {F : Nat → Nat → Int32} {A : Nat → List Int32} {L : Nat → List Int64} {Q : Option Value → sm_H → Prop}, D ≤ n → (Q none (hz (uF (uF (uF (uF F 1 3 ((r (F 1 2) (F 1 3) (F 1 4) (F 52 2) (F 53 1) (A 2) (A 58) (A 59)).1)) 1 4 ((r (F 1 2) (F 1 3) (F 1 4) (F 52 2) (F 53 1) (A 2) (A 58) (A 59)).2.1)) 52 2 ((r (F 1 2) (F 1 3) (F 1 4) (F 52 2) (F 53 1) (A 2) (A 58) (A 59)).2.2.1)) 53 1 ((r (F 1 2) (F 1 3) (F 1 4) (F 52 2) (F 53 1) (A 2) (A 58) (A 59)).2.2.2.1)) (uA (uA A 58 ((r (F 1 2) (F 1 3) (F 1 4) (F 52 2) (F 53 1) (A 2) (A 58) (A 59)).2.2.2.2.1)) 59 ((r (F 1 2) (F 1 3) (F 1 4) (F 52 2) (F 53 1) (A 2) (A 58) (A 59)).2.2.2.2.2)) L)) → wl_M f D 27 [.ref 52] (hz F A L) Q) (hnf : n ≤ f) {F : Nat → Nat → Int32} {A : Nat → List Int32} {L : Nat → List Int64} {Q : Option Value → sm_H → Prop} (hn : D ≤ n) (K : Q none (hz (uF (uF (uF (uF F 1 3 ((kr_readProduct r (F 1 2) (F 1 3) (F 1 4) (F 52 2) (F 53 1) (A 2) (A 58) (A 59)).1)) 1 4 ((kr_readProduct r (F 1 2) (F 1 3) (F 1 4) (F 52 2) (F 53 1) (A 2) (A 58) (A 59)).2.1)) 52 2 ((kr_readProduct r (F 1 2) (F 1 3) (F 1 4) (F 52 2) (F 53 1) (A 2) (A 58) (A 59)).2.2.1)) 53 1 ((kr_readProduct r (F 1 2) (F 1 3) (F 1 4) (F 52 2) (F 53 1) (A 2) (A 58) (A 59)).2.2.2.1)) (uA (uA A 58 ((kr_readProduct r (F 1 2) (F 1 3) (F 1 4) (F 52 2) (F 53 1) (A 2) (A 58) (A 59)).2.2.2.2.1)) 59 ((kr_readProduct r (F 1 2) (F 1 3) (F 1 4) (F 52 2) (F 53 1) (A 2) (A 58) (A 59)).2.2.2.2.2)) L)) : wl_M f D 28 [.ref 52] (hz F A L) Q := by
  generalize hT : (kr_readProduct r (F 1 2) (F 1 3) (F 1 4) (F 52 2) (F 53 1) (A 2) (A 58) (A 59)) = T at K
  have hE : T = (lt (kr_readFactor r (F 1 2) (F 1 3) (F 1 4) (F 52 2) (F 53 1) (A 2) (A 58) (A 59)) (fun g387 => (lt (kr_readProduct_6 r (F 1 2) (A 2) 240 0 g387.1 g387.2.1 g387.2.2.1 g387.2.2.2.1 g387.2.2.2.2.1 g387.2.2.2.2.2) (fun g396 => (g396.1, g396.2.1, g396.2.2.1, g396.2.2.2.1, g396.2.2.2.2.1, g396.2.2.2.2.2))))) := hT.symm
  clear hT
  refine w_m (E := mm28) rfl ?_
  show wl_E f f (D - 1) mm28.2.2.2.2.2.2.2.2 0 [some (.ref 52), none, none] [] (hz F A L) Q
  refine w_n 1 (pc1 := 1) (ls1 := [some (.ref 52), none, none]) (st1 := [.ref 52]) (hp1 := (hz F A L)) rfl ?_
  refine w_c rfl rfl (t_kr_readFactor hr (by omega) (by omega) ?_)
  show wl_E f _ _ mm28.2.2.2.2.2.2.2.2 4 [some (.ref 52), none, none] [] (hz (uF (uF (uF (uF F 1 3 (kr_readFactor r (F 1 2) (F 1 3) (F 1 4) (F 52 2) (F 53 1) (A 2) (A 58) (A 59)).1) 1 4 (kr_readFactor r (F 1 2) (F 1 3) (F 1 4) (F 52 2) (F 53 1) (A 2) (A 58) (A 59)).2.1) 52 2 (kr_readFactor r (F 1 2) (F 1 3) (F 1 4) (F 52 2) (F 53 1) (A 2) (A 58) (A 59)).2.2.1) 53 1 (kr_readFactor r (F 1 2) (F 1 3) (F 1 4) (F 52 2) (F 53 1) (A 2) (A 58) (A 59)).2.2.2.1) (uA (uA A 58 (kr_readFactor r (F 1 2) (F 1 3) (F 1 4) (F 52 2) (F 53 1) (A 2) (A 58) (A 59)).2.2.2.2.1) 59 (kr_readFactor r (F 1 2) (F 1 3) (F 1 4) (F 52 2) (F 53 1) (A 2) (A 58) (A 59)).2.2.2.2.2) L) _
  generalize hG387 : (kr_readFactor r (F 1 2) (F 1 3) (F 1 4) (F 52 2) (F 53 1) (A 2) (A 58) (A 59)) = G387 at hE ⊢
  replace hE := hE.trans (lt_e _ _)
  refine w_n 2 (pc1 := 6) (ls1 := [some (.ref 52), some (.int 0), none]) (st1 := []) (hp1 := (hz (uF (uF (uF (uF F 1 3 G387.1) 1 4 G387.2.1) 52 2 G387.2.2.1) 53 1 G387.2.2.2.1) (uA (uA A 58 G387.2.2.2.2.1) 59 G387.2.2.2.2.2) L)) rfl ?_
  refine t_kr_readProduct_6 hr (by omega) 240 (show (240 : Nat) = (240 - (0 : Int32).toInt).toNat by have e0 : (0 : Int32).toInt = 0 := rfl; first | rfl | omega) (by omega) ?_
  intro r1 r2
  show wl_E f _ _ mm28.2.2.2.2.2.2.2.2 82 [some (.ref 52), some (.int r1), r2] [] (hz (uF (uF (uF (uF (uF (uF (uF (uF F 1 3 G387.1) 1 4 G387.2.1) 52 2 G387.2.2.1) 53 1 G387.2.2.2.1) 1 3 (kr_readProduct_6 r (F 1 2) (A 2) 240 0 G387.1 G387.2.1 G387.2.2.1 G387.2.2.2.1 G387.2.2.2.2.1 G387.2.2.2.2.2).1) 1 4 (kr_readProduct_6 r (F 1 2) (A 2) 240 0 G387.1 G387.2.1 G387.2.2.1 G387.2.2.2.1 G387.2.2.2.2.1 G387.2.2.2.2.2).2.1) 52 2 (kr_readProduct_6 r (F 1 2) (A 2) 240 0 G387.1 G387.2.1 G387.2.2.1 G387.2.2.2.1 G387.2.2.2.2.1 G387.2.2.2.2.2).2.2.1) 53 1 (kr_readProduct_6 r (F 1 2) (A 2) 240 0 G387.1 G387.2.1 G387.2.2.1 G387.2.2.2.1 G387.2.2.2.2.1 G387.2.2.2.2.2).2.2.2.1) (uA (uA (uA (uA A 58 G387.2.2.2.2.1) 59 G387.2.2.2.2.2) 58 (kr_readProduct_6 r (F 1 2) (A 2) 240 0 G387.1 G387.2.1 G387.2.2.1 G387.2.2.2.1 G387.2.2.2.2.1 G387.2.2.2.2.2).2.2.2.2.1) 59 (kr_readProduct_6 r (F 1 2) (A 2) 240 0 G387.1 G387.2.1 G387.2.2.1 G387.2.2.2.1 G387.2.2.2.2.1 G387.2.2.2.2.2).2.2.2.2.2) L) _
  generalize hG396 : (kr_readProduct_6 r (F 1 2) (A 2) 240 0 G387.1 G387.2.1 G387.2.2.1 G387.2.2.2.1 G387.2.2.2.2.1 G387.2.2.2.2.2) = G396 at hE ⊢
  replace hE := hE.trans (lt_e _ _)
  subst T
  exact w_r rfl rfl (cvQ (funext fun q => funext fun z => if k0 : q = 1 ∧ z = 3 then by obtain ⟨w1, w2⟩ := k0; subst w1; subst w2; exact Eq.trans (b := G396.1) rfl rfl else if k1 : q = 1 ∧ z = 4 then by obtain ⟨w1, w2⟩ := k1; subst w1; subst w2; exact Eq.trans (b := G396.2.1) rfl rfl else if k2 : q = 52 ∧ z = 2 then by obtain ⟨w1, w2⟩ := k2; subst w1; subst w2; exact Eq.trans (b := G396.2.2.1) rfl rfl else if k3 : q = 53 ∧ z = 1 then by obtain ⟨w1, w2⟩ := k3; subst w1; subst w2; exact Eq.trans (b := G396.2.2.2.1) rfl rfl else by unfold uF; simp only [nb2 k0, nb2 k1, nb2 k2, nb2 k3, cond_false]) (funext fun q => if k0 : q = 58 then by subst k0; exact Eq.trans (b := G396.2.2.2.2.1) rfl rfl else if k1 : q = 59 then by subst k1; exact Eq.trans (b := G396.2.2.2.2.2) rfl rfl else by unfold uA; simp only [nb1 k0, nb1 k1, cond_false]) rfl K)
noncomputable def kr_readSum_6 (r : Int32 → Int32 → Int32 → Int32 → Int32 → List Int32 → List Int32 → List Int32 → (Int32 × Int32 × Int32 × Int32 × List Int32 × List Int32)) (f1_2 : Int32) (a2 : List Int32)  : Nat → Int32 → Int32 → Int32 → Int32 → Int32 → List Int32 → List Int32 → Int32 × Int32 × Int32 × Int32 × List Int32 × List Int32
  | 0, _, f1_3, f1_4, f52_2, f53_1, a58, a59 => (f1_3, f1_4, f52_2, f53_1, a58, a59)
  | m + 1, y1, f1_3, f1_4, f52_2, f53_1, a58, a59 => (lt (kx_stands f1_2 f1_3 f1_4 a2 43 45) (fun g398 => (if g398 = 0 then (f1_3, f1_4, f52_2, f53_1, a58, a59) else (lt (kx_sign f1_2 f1_3 a2) (fun g399 => (lt (kr_readProduct r f1_2 (f1_3 + 1) f1_4 f52_2 f53_1 a2 a58 a59) (fun g400 => (lt (kl_add_53 g400.2.2.2.1 g400.2.2.2.2.1 g400.2.2.2.2.2 g399 0) (fun g401 => (kr_readSum_6 r f1_2 a2 m (y1 + 1) g400.1 g400.2.1 g400.2.2.1 g401.2.1 g401.2.2.1 g401.2.2.2))))))))))
theorem t_kr_readSum_6 {f : Nat} {n : Nat} {r : Int32 → Int32 → Int32 → Int32 → Int32 → List Int32 → List Int32 → List Int32 → (Int32 × Int32 × Int32 × Int32 × List Int32 × List Int32)} (hr : ∀ (D : Nat) {F : Nat → Nat → Int32} {A : Nat → List Int32} {L : Nat → List Int64} {Q : Option Value → sm_H → Prop}, D ≤ n → (Q none (hz (uF (uF (uF (uF F 1 3 ((r (F 1 2) (F 1 3) (F 1 4) (F 52 2) (F 53 1) (A 2) (A 58) (A 59)).1)) 1 4 ((r (F 1 2) (F 1 3) (F 1 4) (F 52 2) (F 53 1) (A 2) (A 58) (A 59)).2.1)) 52 2 ((r (F 1 2) (F 1 3) (F 1 4) (F 52 2) (F 53 1) (A 2) (A 58) (A 59)).2.2.1)) 53 1 ((r (F 1 2) (F 1 3) (F 1 4) (F 52 2) (F 53 1) (A 2) (A 58) (A 59)).2.2.2.1)) (uA (uA A 58 ((r (F 1 2) (F 1 3) (F 1 4) (F 52 2) (F 53 1) (A 2) (A 58) (A 59)).2.2.2.2.1)) 59 ((r (F 1 2) (F 1 3) (F 1 4) (F 52 2) (F 53 1) (A 2) (A 58) (A 59)).2.2.2.2.2)) L)) → wl_M f D 27 [.ref 52] (hz F A L) Q) (hnf : n ≤ f) {Q : Option Value → sm_H → Prop} : ∀ (m : Nat) {B D : Nat} {F : Nat → Nat → Int32} {A : Nat → List Int32} {L : Nat → List Int64} {y1 : Int32} {o2 : Option Value}, m = (240 - y1.toInt).toNat → (_ : D ≤ n) → (∀ q1 : Int32, ∀ q2 : Option Value, wl_E f B D mm27.2.2.2.2.2.2.2.2 68 [some (.ref 52), some (.int q1), q2] [] (hz (uF (uF (uF (uF F 1 3 ((kr_readSum_6 r (F 1 2) (A 2) m y1 (F 1 3) (F 1 4) (F 52 2) (F 53 1) (A 58) (A 59)).1)) 1 4 ((kr_readSum_6 r (F 1 2) (A 2) m y1 (F 1 3) (F 1 4) (F 52 2) (F 53 1) (A 58) (A 59)).2.1)) 52 2 ((kr_readSum_6 r (F 1 2) (A 2) m y1 (F 1 3) (F 1 4) (F 52 2) (F 53 1) (A 58) (A 59)).2.2.1)) 53 1 ((kr_readSum_6 r (F 1 2) (A 2) m y1 (F 1 3) (F 1 4) (F 52 2) (F 53 1) (A 58) (A 59)).2.2.2.1)) (uA (uA A 58 ((kr_readSum_6 r (F 1 2) (A 2) m y1 (F 1 3) (F 1 4) (F 52 2) (F 53 1) (A 58) (A 59)).2.2.2.2.1)) 59 ((kr_readSum_6 r (F 1 2) (A 2) m y1 (F 1 3) (F 1 4) (F 52 2) (F 53 1) (A 58) (A 59)).2.2.2.2.2)) L) Q) → wl_E f B D mm27.2.2.2.2.2.2.2.2 6 [some (.ref 52), some (.int y1), o2] [] (hz F A L) Q := by
  intro m
  induction m with
  | zero =>
    intro B D F A L y1 o2 hm hn K
    generalize hT : (kr_readSum_6 r (F 1 2) (A 2) 0 y1 (F 1 3) (F 1 4) (F 52 2) (F 53 1) (A 58) (A 59)) = T at K
    have hE : T = ((F 1 3), (F 1 4), (F 52 2), (F 53 1), (A 58), (A 59)) := hT.symm
    clear hT
    refine w_n 2 (pc1 := 10) (ls1 := [some (.ref 52), some (.int y1), o2]) (st1 := [.int 240, .int y1]) (hp1 := (hz F A L)) rfl ?_
    refine w_ge (p3 := 13) rfl rfl (fun hb => ?_) (fun h => False.elim (by have h : y1.toInt < 240 := h; omega))
    subst T
    exact cvE (funext fun q => funext fun z => if k0 : q = 1 ∧ z = 3 then by obtain ⟨w1, w2⟩ := k0; subst w1; subst w2; exact Eq.trans (b := (F 1 3)) rfl rfl else if k1 : q = 1 ∧ z = 4 then by obtain ⟨w1, w2⟩ := k1; subst w1; subst w2; exact Eq.trans (b := (F 1 4)) rfl rfl else if k2 : q = 52 ∧ z = 2 then by obtain ⟨w1, w2⟩ := k2; subst w1; subst w2; exact Eq.trans (b := (F 52 2)) rfl rfl else if k3 : q = 53 ∧ z = 1 then by obtain ⟨w1, w2⟩ := k3; subst w1; subst w2; exact Eq.trans (b := (F 53 1)) rfl rfl else by unfold uF; simp only [nb2 k0, nb2 k1, nb2 k2, nb2 k3, cond_false]) (funext fun q => if k0 : q = 58 then by subst k0; exact Eq.trans (b := (A 58)) rfl rfl else if k1 : q = 59 then by subst k1; exact Eq.trans (b := (A 59)) rfl rfl else by unfold uA; simp only [nb1 k0, nb1 k1, cond_false]) rfl (K _ _)
  | succ m ih =>
    intro B D F A L y1 o2 hm hn K
    generalize hT : (kr_readSum_6 r (F 1 2) (A 2) (m + 1) y1 (F 1 3) (F 1 4) (F 52 2) (F 53 1) (A 58) (A 59)) = T at K
    have hE : T = (lt (kx_stands (F 1 2) (F 1 3) (F 1 4) (A 2) 43 45) (fun g398 => (if g398 = 0 then ((F 1 3), (F 1 4), (F 52 2), (F 53 1), (A 58), (A 59)) else (lt (kx_sign (F 1 2) (F 1 3) (A 2)) (fun g399 => (lt (kr_readProduct r (F 1 2) ((F 1 3) + 1) (F 1 4) (F 52 2) (F 53 1) (A 2) (A 58) (A 59)) (fun g400 => (lt (kl_add_53 g400.2.2.2.1 g400.2.2.2.2.1 g400.2.2.2.2.2 g399 0) (fun g401 => (kr_readSum_6 r (F 1 2) (A 2) m (y1 + 1) g400.1 g400.2.1 g400.2.2.1 g401.2.1 g401.2.2.1 g401.2.2.2)))))))))) := hT.symm
    clear hT
    refine w_n 2 (pc1 := 10) (ls1 := [some (.ref 52), some (.int y1), o2]) (st1 := [.int 240, .int y1]) (hp1 := (hz F A L)) rfl ?_
    refine w_ge (p3 := 13) rfl rfl (fun h => False.elim (by have h : 240 ≤ y1.toInt := h; omega)) (fun hb => ?_)
    refine w_n 4 (pc1 := 21) (ls1 := [some (.ref 52), some (.int y1), o2]) (st1 := [.int 45, .int 43, .ref 1]) (hp1 := (hz F A L)) rfl ?_
    refine w_c rfl rfl (t_kx_stands ?_)
    show wl_E f _ _ mm27.2.2.2.2.2.2.2.2 24 [some (.ref 52), some (.int y1), o2] [.int (kx_stands (F 1 2) (F 1 3) (F 1 4) (A 2) 43 45)] (hz F A L) _
    generalize hG398 : (kx_stands (F 1 2) (F 1 3) (F 1 4) (A 2) 43 45) = G398 at hE ⊢
    replace hE := hE.trans (lt_e _ _)
    refine w_zeq (p3 := 27) rfl rfl (fun h => ?_) (fun h => ?_)
    · have h1 : G398 = 0 := h
      rw [if_pos h1] at hE
      subst T
      exact cvE (funext fun q => funext fun z => if k0 : q = 1 ∧ z = 3 then by obtain ⟨w1, w2⟩ := k0; subst w1; subst w2; exact Eq.trans (b := (F 1 3)) rfl rfl else if k1 : q = 1 ∧ z = 4 then by obtain ⟨w1, w2⟩ := k1; subst w1; subst w2; exact Eq.trans (b := (F 1 4)) rfl rfl else if k2 : q = 52 ∧ z = 2 then by obtain ⟨w1, w2⟩ := k2; subst w1; subst w2; exact Eq.trans (b := (F 52 2)) rfl rfl else if k3 : q = 53 ∧ z = 1 then by obtain ⟨w1, w2⟩ := k3; subst w1; subst w2; exact Eq.trans (b := (F 53 1)) rfl rfl else by unfold uF; simp only [nb2 k0, nb2 k1, nb2 k2, nb2 k3, cond_false]) (funext fun q => if k0 : q = 58 then by subst k0; exact Eq.trans (b := (A 58)) rfl rfl else if k1 : q = 59 then by subst k1; exact Eq.trans (b := (A 59)) rfl rfl else by unfold uA; simp only [nb1 k0, nb1 k1, cond_false]) rfl (K _ _)
    · have h1 : ¬ G398 = 0 := h
      rw [if_neg h1] at hE
      refine w_n 2 (pc1 := 31) (ls1 := [some (.ref 52), some (.int y1), o2]) (st1 := [.ref 1]) (hp1 := (hz F A L)) rfl ?_
      refine w_c rfl rfl (t_kx_sign ?_)
      show wl_E f _ _ mm27.2.2.2.2.2.2.2.2 34 [some (.ref 52), some (.int y1), o2] [.int (kx_sign (F 1 2) (F 1 3) (A 2))] (hz F A L) _
      generalize hG399 : (kx_sign (F 1 2) (F 1 3) (A 2)) = G399 at hE ⊢
      replace hE := hE.trans (lt_e _ _)
      refine w_n 7 (pc1 := 45) (ls1 := [some (.ref 52), some (.int y1), some (.int G399)]) (st1 := [.int ((F 1 3) + 1), .ref 1]) (hp1 := (hz F A L)) rfl ?_
      refine w_pf (k := 1) (fs := hz_f1 F) (hp1 := (hz (uF F 1 3 ((F 1 3) + 1)) A L)) rfl rfl rfl (hz_p1_3 _) ?_
      refine w_n 1 (pc1 := 49) (ls1 := [some (.ref 52), some (.int y1), some (.int G399)]) (st1 := [.ref 52]) (hp1 := (hz (uF F 1 3 ((F 1 3) + 1)) A L)) rfl ?_
      refine w_c rfl rfl (t_kr_readProduct hr (by omega) (by omega) ?_)
      show wl_E f _ _ mm27.2.2.2.2.2.2.2.2 52 [some (.ref 52), some (.int y1), some (.int G399)] [] (hz (uF (uF (uF (uF (uF F 1 3 ((F 1 3) + 1)) 1 3 (kr_readProduct r (F 1 2) ((F 1 3) + 1) (F 1 4) (F 52 2) (F 53 1) (A 2) (A 58) (A 59)).1) 1 4 (kr_readProduct r (F 1 2) ((F 1 3) + 1) (F 1 4) (F 52 2) (F 53 1) (A 2) (A 58) (A 59)).2.1) 52 2 (kr_readProduct r (F 1 2) ((F 1 3) + 1) (F 1 4) (F 52 2) (F 53 1) (A 2) (A 58) (A 59)).2.2.1) 53 1 (kr_readProduct r (F 1 2) ((F 1 3) + 1) (F 1 4) (F 52 2) (F 53 1) (A 2) (A 58) (A 59)).2.2.2.1) (uA (uA A 58 (kr_readProduct r (F 1 2) ((F 1 3) + 1) (F 1 4) (F 52 2) (F 53 1) (A 2) (A 58) (A 59)).2.2.2.2.1) 59 (kr_readProduct r (F 1 2) ((F 1 3) + 1) (F 1 4) (F 52 2) (F 53 1) (A 2) (A 58) (A 59)).2.2.2.2.2) L) _
      generalize hG400 : (kr_readProduct r (F 1 2) ((F 1 3) + 1) (F 1 4) (F 52 2) (F 53 1) (A 2) (A 58) (A 59)) = G400 at hE ⊢
      replace hE := hE.trans (lt_e _ _)
      refine w_n 4 (pc1 := 58) (ls1 := [some (.ref 52), some (.int y1), some (.int G399)]) (st1 := [.int 0, .int G399, .ref 53]) (hp1 := (hz (uF (uF (uF (uF (uF F 1 3 ((F 1 3) + 1)) 1 3 G400.1) 1 4 G400.2.1) 52 2 G400.2.2.1) 53 1 G400.2.2.2.1) (uA (uA A 58 G400.2.2.2.2.1) 59 G400.2.2.2.2.2) L)) rfl ?_
      refine w_c rfl rfl (t_kl_add_53 ?_)
      show wl_E f _ _ mm27.2.2.2.2.2.2.2.2 61 [some (.ref 52), some (.int y1), some (.int G399)] [.int (kl_add_53 G400.2.2.2.1 G400.2.2.2.2.1 G400.2.2.2.2.2 G399 0).1] (hz (uF (uF (uF (uF (uF (uF F 1 3 ((F 1 3) + 1)) 1 3 G400.1) 1 4 G400.2.1) 52 2 G400.2.2.1) 53 1 G400.2.2.2.1) 53 1 (kl_add_53 G400.2.2.2.1 G400.2.2.2.2.1 G400.2.2.2.2.2 G399 0).2.1) (uA (uA (uA (uA A 58 G400.2.2.2.2.1) 59 G400.2.2.2.2.2) 58 (kl_add_53 G400.2.2.2.1 G400.2.2.2.2.1 G400.2.2.2.2.2 G399 0).2.2.1) 59 (kl_add_53 G400.2.2.2.1 G400.2.2.2.2.1 G400.2.2.2.2.2 G399 0).2.2.2) L) _
      generalize hG401 : (kl_add_53 G400.2.2.2.1 G400.2.2.2.2.1 G400.2.2.2.2.2 G399 0) = G401 at hE ⊢
      replace hE := hE.trans (lt_e _ _)
      refine w_n 3 (pc1 := 6) (ls1 := [some (.ref 52), some (.int (y1 + 1)), some (.int G399)]) (st1 := []) (hp1 := (hz (uF (uF (uF (uF (uF (uF F 1 3 ((F 1 3) + 1)) 1 3 G400.1) 1 4 G400.2.1) 52 2 G400.2.2.1) 53 1 G400.2.2.2.1) 53 1 G401.2.1) (uA (uA (uA (uA A 58 G400.2.2.2.2.1) 59 G400.2.2.2.2.2) 58 G401.2.2.1) 59 G401.2.2.2) L)) rfl ?_
      subst T
      have hb2 := i_up (B := (240 : Int32)) hb
      have hb3 : y1.toInt < 240 := hb
      exact ih (show m = (240 - (y1 + 1).toInt).toNat by rw [hb2]; omega) hn (fun q1 q2 => cvE (funext fun q => funext fun z => if k0 : q = 1 ∧ z = 3 then by obtain ⟨w1, w2⟩ := k0; subst w1; subst w2; exact Eq.trans (b := (kr_readSum_6 r (F 1 2) (A 2) m (y1 + 1) G400.1 G400.2.1 G400.2.2.1 G401.2.1 G401.2.2.1 G401.2.2.2).1) rfl rfl else if k1 : q = 1 ∧ z = 4 then by obtain ⟨w1, w2⟩ := k1; subst w1; subst w2; exact Eq.trans (b := (kr_readSum_6 r (F 1 2) (A 2) m (y1 + 1) G400.1 G400.2.1 G400.2.2.1 G401.2.1 G401.2.2.1 G401.2.2.2).2.1) rfl rfl else if k2 : q = 52 ∧ z = 2 then by obtain ⟨w1, w2⟩ := k2; subst w1; subst w2; exact Eq.trans (b := (kr_readSum_6 r (F 1 2) (A 2) m (y1 + 1) G400.1 G400.2.1 G400.2.2.1 G401.2.1 G401.2.2.1 G401.2.2.2).2.2.1) rfl rfl else if k3 : q = 53 ∧ z = 1 then by obtain ⟨w1, w2⟩ := k3; subst w1; subst w2; exact Eq.trans (b := (kr_readSum_6 r (F 1 2) (A 2) m (y1 + 1) G400.1 G400.2.1 G400.2.2.1 G401.2.1 G401.2.2.1 G401.2.2.2).2.2.2.1) rfl rfl else by unfold uF; simp only [nb2 k0, nb2 k1, nb2 k2, nb2 k3, cond_false]) (funext fun q => if k0 : q = 58 then by subst k0; exact Eq.trans (b := (kr_readSum_6 r (F 1 2) (A 2) m (y1 + 1) G400.1 G400.2.1 G400.2.2.1 G401.2.1 G401.2.2.1 G401.2.2.2).2.2.2.2.1) rfl rfl else if k1 : q = 59 then by subst k1; exact Eq.trans (b := (kr_readSum_6 r (F 1 2) (A 2) m (y1 + 1) G400.1 G400.2.1 G400.2.2.1 G401.2.1 G401.2.2.1 G401.2.2.2).2.2.2.2.2) rfl rfl else by unfold uA; simp only [nb1 k0, nb1 k1, cond_false]) rfl (K q1 q2))
